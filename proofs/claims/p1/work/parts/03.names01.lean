theorem dX3_whatOf_9 : decode cX3_whatOf 9 = .ok (.l2i, 1) := by decide +kernel
theorem dX3_whatOf_10 : decode cX3_whatOf 10 = .ok (.iconst 3, 1) := by decide +kernel
theorem dX3_whatOf_11 : decode cX3_whatOf 11 = .ok (.iand, 1) := by decide +kernel
theorem dX3_whatOf_12 : decode cX3_whatOf 12 = .ok (.ireturn, 1) := by decide +kernel
theorem dX3_oldValueOf_0 : decode cX3_oldValueOf 0 = .ok (.aload_n 0, 1) := by decide +kernel
theorem dX3_oldValueOf_1 : decode cX3_oldValueOf 1 = .ok (.getfield 9, 3) := by decide +kernel
theorem dX3_oldValueOf_4 : decode cX3_oldValueOf 4 = .ok (.iload_n 1, 1) := by decide +kernel
theorem dX3_oldValueOf_5 : decode cX3_oldValueOf 5 = .ok (.laload, 1) := by decide +kernel
theorem dX3_oldValueOf_6 : decode cX3_oldValueOf 6 = .ok (.bipush 32, 2) := by decide +kernel
theorem dX3_oldValueOf_8 : decode cX3_oldValueOf 8 = .ok (.lshr, 1) := by decide +kernel
theorem dX3_oldValueOf_9 : decode cX3_oldValueOf 9 = .ok (.l2i, 1) := by decide +kernel
theorem dX3_oldValueOf_10 : decode cX3_oldValueOf 10 = .ok (.ldc 19, 2) := by decide +kernel
theorem dX3_oldValueOf_12 : decode cX3_oldValueOf 12 = .ok (.iand, 1) := by decide +kernel
theorem dX3_oldValueOf_13 : decode cX3_oldValueOf 13 = .ok (.ireturn, 1) := by decide +kernel
theorem dX3_keyOf_0 : decode cX3_keyOf 0 = .ok (.aload_n 0, 1) := by decide +kernel
theorem dX3_keyOf_1 : decode cX3_keyOf 1 = .ok (.getfield 9, 3) := by decide +kernel
theorem dX3_keyOf_4 : decode cX3_keyOf 4 = .ok (.iload_n 1, 1) := by decide +kernel
theorem dX3_keyOf_5 : decode cX3_keyOf 5 = .ok (.laload, 1) := by decide +kernel
theorem dX3_keyOf_6 : decode cX3_keyOf 6 = .ok (.l2i, 1) := by decide +kernel
theorem dX3_keyOf_7 : decode cX3_keyOf 7 = .ok (.ireturn, 1) := by decide +kernel
set_option maxRecDepth 20000 in
theorem ggX3_changesBy_X3_handOf : GoodIn wsX3_changesBy wsX3_handOf := goodIn_r _ [6, 7, 8, 9] (by decide +kernel) (by decide +kernel)
set_option maxRecDepth 20000 in
theorem gX3_changesBy_X3_handOf : GoodIn wsX3_changesBy (wsV RX3 20 RX3 yX3_handOf wsX3_handOf) := goodIn_app (goodIn_of _ (by decide +kernel)) ggX3_changesBy_X3_handOf
theorem dX3_changesBy_0 : decode cX3_changesBy 0 = .ok (.iconst 0, 1) := by decide +kernel
theorem dX3_changesBy_1 : decode cX3_changesBy 1 = .ok (.istore_n 2, 1) := by decide +kernel
theorem dX3_changesBy_2 : decode cX3_changesBy 2 = .ok (.iconst 0, 1) := by decide +kernel
theorem dX3_changesBy_3 : decode cX3_changesBy 3 = .ok (.istore_n 3, 1) := by decide +kernel
theorem dX3_changesBy_4 : decode cX3_changesBy 4 = .ok (.iload_n 3, 1) := by decide +kernel
theorem dX3_changesBy_5 : decode cX3_changesBy 5 = .ok (.aload_n 0, 1) := by decide +kernel
theorem dX3_changesBy_6 : decode cX3_changesBy 6 = .ok (.getfield 15, 3) := by decide +kernel
theorem dX3_changesBy_9 : decode cX3_changesBy 9 = .ok (.if_icmp .ge 26, 3) := by decide +kernel
theorem dX3_changesBy_12 : decode cX3_changesBy 12 = .ok (.iload_n 2, 1) := by decide +kernel
theorem dX3_changesBy_13 : decode cX3_changesBy 13 = .ok (.aload_n 0, 1) := by decide +kernel
theorem dX3_changesBy_14 : decode cX3_changesBy 14 = .ok (.iload_n 3, 1) := by decide +kernel
theorem dX3_changesBy_15 : decode cX3_changesBy 15 = .ok (.invokevirtual 20, 3) := by decide +kernel
theorem dX3_changesBy_18 : decode cX3_changesBy 18 = .ok (.iload_n 1, 1) := by decide +kernel
theorem dX3_changesBy_19 : decode cX3_changesBy 19 = .ok (.if_icmp .ne 7, 3) := by decide +kernel
theorem dX3_changesBy_22 : decode cX3_changesBy 22 = .ok (.iconst 1, 1) := by decide +kernel
theorem dX3_changesBy_23 : decode cX3_changesBy 23 = .ok (.goto 4, 3) := by decide +kernel
theorem dX3_changesBy_26 : decode cX3_changesBy 26 = .ok (.iconst 0, 1) := by decide +kernel
theorem dX3_changesBy_27 : decode cX3_changesBy 27 = .ok (.iadd, 1) := by decide +kernel
theorem dX3_changesBy_28 : decode cX3_changesBy 28 = .ok (.istore_n 2, 1) := by decide +kernel
theorem dX3_changesBy_29 : decode cX3_changesBy 29 = .ok (.iinc 3 1, 3) := by decide +kernel
theorem dX3_changesBy_32 : decode cX3_changesBy 32 = .ok (.goto (-28), 3) := by decide +kernel
theorem dX3_changesBy_35 : decode cX3_changesBy 35 = .ok (.iload_n 2, 1) := by decide +kernel
theorem dX3_changesBy_36 : decode cX3_changesBy 36 = .ok (.ireturn, 1) := by decide +kernel
theorem dX3_forget_0 : decode cX3_forget 0 = .ok (.iconst 0, 1) := by decide +kernel
theorem dX3_forget_1 : decode cX3_forget 1 = .ok (.istore_n 2, 1) := by decide +kernel
theorem dX3_forget_2 : decode cX3_forget 2 = .ok (.iconst 0, 1) := by decide +kernel
theorem dX3_forget_3 : decode cX3_forget 3 = .ok (.istore_n 3, 1) := by decide +kernel
theorem dX3_forget_4 : decode cX3_forget 4 = .ok (.iload_n 3, 1) := by decide +kernel
theorem dX3_forget_5 : decode cX3_forget 5 = .ok (.aload_n 0, 1) := by decide +kernel
theorem dX3_forget_6 : decode cX3_forget 6 = .ok (.getfield 15, 3) := by decide +kernel
theorem dX3_forget_9 : decode cX3_forget 9 = .ok (.if_icmp .ge 38, 3) := by decide +kernel
theorem dX3_forget_12 : decode cX3_forget 12 = .ok (.aload_n 0, 1) := by decide +kernel
theorem dX3_forget_13 : decode cX3_forget 13 = .ok (.getfield 9, 3) := by decide +kernel
theorem dX3_forget_16 : decode cX3_forget 16 = .ok (.iload_n 3, 1) := by decide +kernel
theorem dX3_forget_17 : decode cX3_forget 17 = .ok (.laload, 1) := by decide +kernel
theorem dX3_forget_18 : decode cX3_forget 18 = .ok (.bipush 50, 2) := by decide +kernel
theorem dX3_forget_20 : decode cX3_forget 20 = .ok (.lshr, 1) := by decide +kernel
theorem dX3_forget_21 : decode cX3_forget 21 = .ok (.l2i, 1) := by decide +kernel
theorem dX3_forget_22 : decode cX3_forget 22 = .ok (.iload_n 1, 1) := by decide +kernel
theorem dX3_forget_23 : decode cX3_forget 23 = .ok (.if_icmp .eq 18, 3) := by decide +kernel
theorem dX3_forget_26 : decode cX3_forget 26 = .ok (.aload_n 0, 1) := by decide +kernel
theorem dX3_forget_27 : decode cX3_forget 27 = .ok (.getfield 9, 3) := by decide +kernel
theorem dX3_forget_30 : decode cX3_forget 30 = .ok (.iload_n 2, 1) := by decide +kernel
theorem dX3_forget_31 : decode cX3_forget 31 = .ok (.aload_n 0, 1) := by decide +kernel
theorem dX3_forget_32 : decode cX3_forget 32 = .ok (.getfield 9, 3) := by decide +kernel
theorem dX3_forget_35 : decode cX3_forget 35 = .ok (.iload_n 3, 1) := by decide +kernel
theorem dX3_forget_36 : decode cX3_forget 36 = .ok (.laload, 1) := by decide +kernel
theorem dX3_forget_37 : decode cX3_forget 37 = .ok (.lastore, 1) := by decide +kernel
theorem dX3_forget_38 : decode cX3_forget 38 = .ok (.iinc 2 1, 3) := by decide +kernel
theorem dX3_forget_41 : decode cX3_forget 41 = .ok (.iinc 3 1, 3) := by decide +kernel
theorem dX3_forget_44 : decode cX3_forget 44 = .ok (.goto (-40), 3) := by decide +kernel
theorem dX3_forget_47 : decode cX3_forget 47 = .ok (.aload_n 0, 1) := by decide +kernel
theorem dX3_forget_48 : decode cX3_forget 48 = .ok (.iload_n 2, 1) := by decide +kernel
theorem dX3_forget_49 : decode cX3_forget 49 = .ok (.putfield 15, 3) := by decide +kernel
theorem dX3_forget_52 : decode cX3_forget 52 = .ok (.return_, 1) := by decide +kernel
theorem dX3_copyFrom_0 : decode cX3_copyFrom 0 = .ok (.aload_n 0, 1) := by decide +kernel
theorem dX3_copyFrom_1 : decode cX3_copyFrom 1 = .ok (.aload_n 1, 1) := by decide +kernel
theorem dX3_copyFrom_2 : decode cX3_copyFrom 2 = .ok (.getfield 15, 3) := by decide +kernel
theorem dX3_copyFrom_5 : decode cX3_copyFrom 5 = .ok (.putfield 15, 3) := by decide +kernel
theorem dX3_copyFrom_8 : decode cX3_copyFrom 8 = .ok (.aload_n 1, 1) := by decide +kernel
theorem dX3_copyFrom_9 : decode cX3_copyFrom 9 = .ok (.getfield 9, 3) := by decide +kernel
theorem dX3_copyFrom_12 : decode cX3_copyFrom 12 = .ok (.iconst 0, 1) := by decide +kernel
theorem dX3_copyFrom_13 : decode cX3_copyFrom 13 = .ok (.aload_n 0, 1) := by decide +kernel
theorem dX3_copyFrom_14 : decode cX3_copyFrom 14 = .ok (.getfield 9, 3) := by decide +kernel
theorem dX3_copyFrom_17 : decode cX3_copyFrom 17 = .ok (.iconst 0, 1) := by decide +kernel
theorem dX3_copyFrom_18 : decode cX3_copyFrom 18 = .ok (.aload_n 0, 1) := by decide +kernel
theorem dX3_copyFrom_19 : decode cX3_copyFrom 19 = .ok (.getfield 15, 3) := by decide +kernel
theorem dX3_copyFrom_22 : decode cX3_copyFrom 22 = .ok (.invokestatic 24, 3) := by decide +kernel
theorem dX3_copyFrom_25 : decode cX3_copyFrom 25 = .ok (.return_, 1) := by decide +kernel
set_option maxRecDepth 20000 in
theorem ggX4_keyBits_X4_bitsOf : GoodIn wsX4_keyBits wsX4_bitsOf := goodIn_r _ [5, 6, 7, 8] (by decide +kernel) (by decide +kernel)
set_option maxRecDepth 20000 in
theorem gX4_keyBits_X4_bitsOf : GoodIn wsX4_keyBits (va_wsS RX4 10 yX4_bitsOf wsX4_bitsOf) := goodIn_app (goodIn_of _ (by decide +kernel)) ggX4_keyBits_X4_bitsOf
theorem dX4_keyBits_0 : decode cX4_keyBits 0 = .ok (.iload_n 0, 1) := by decide +kernel
theorem dX4_keyBits_1 : decode cX4_keyBits 1 = .ok (.ifCond .lt 21, 3) := by decide +kernel
theorem dX4_keyBits_4 : decode cX4_keyBits 4 = .ok (.iload_n 0, 1) := by decide +kernel
theorem dX4_keyBits_5 : decode cX4_keyBits 5 = .ok (.ldc 9, 2) := by decide +kernel
theorem dX4_keyBits_7 : decode cX4_keyBits 7 = .ok (.if_icmp .gt 15, 3) := by decide +kernel
theorem dX4_keyBits_10 : decode cX4_keyBits 10 = .ok (.iload_n 1, 1) := by decide +kernel
theorem dX4_keyBits_11 : decode cX4_keyBits 11 = .ok (.iconst 1, 1) := by decide +kernel
theorem dX4_keyBits_12 : decode cX4_keyBits 12 = .ok (.if_icmp .lt 10, 3) := by decide +kernel
theorem dX4_keyBits_15 : decode cX4_keyBits 15 = .ok (.iload_n 1, 1) := by decide +kernel
theorem dX4_keyBits_16 : decode cX4_keyBits 16 = .ok (.sipush 9999, 3) := by decide +kernel
theorem dX4_keyBits_19 : decode cX4_keyBits 19 = .ok (.if_icmp .le 5, 3) := by decide +kernel
theorem dX4_keyBits_22 : decode cX4_keyBits 22 = .ok (.iconst (-1), 1) := by decide +kernel
theorem dX4_keyBits_23 : decode cX4_keyBits 23 = .ok (.ireturn, 1) := by decide +kernel
theorem dX4_keyBits_24 : decode cX4_keyBits 24 = .ok (.iload_n 0, 1) := by decide +kernel
theorem dX4_keyBits_25 : decode cX4_keyBits 25 = .ok (.i2f, 1) := by decide +kernel
theorem dX4_keyBits_26 : decode cX4_keyBits 26 = .ok (.iload_n 1, 1) := by decide +kernel
theorem dX4_keyBits_27 : decode cX4_keyBits 27 = .ok (.i2f, 1) := by decide +kernel
theorem dX4_keyBits_28 : decode cX4_keyBits 28 = .ok (.fdiv, 1) := by decide +kernel
theorem dX4_keyBits_29 : decode cX4_keyBits 29 = .ok (.invokestatic 10, 3) := by decide +kernel
theorem dX4_keyBits_32 : decode cX4_keyBits 32 = .ok (.ireturn, 1) := by decide +kernel
set_option maxRecDepth 20000 in
theorem ggX4_packedKey_X4_keyBits : GoodIn wsX4_packedKey wsX4_keyBits := goodIn_r _ [5, 6, 7, 8, 4, 9, 10, 11, 12] (by decide +kernel) (by decide +kernel)
set_option maxRecDepth 20000 in
theorem gX4_packedKey_X4_keyBits : GoodIn wsX4_packedKey (va_wsS RX4 17 yX4_keyBits wsX4_keyBits) := goodIn_app (goodIn_of _ (by decide +kernel)) ggX4_packedKey_X4_keyBits
theorem dX4_packedKey_0 : decode cX4_packedKey 0 = .ok (.iload_n 0, 1) := by decide +kernel
theorem dX4_packedKey_1 : decode cX4_packedKey 1 = .ok (.ifCond .lt 13, 3) := by decide +kernel
theorem dX4_packedKey_4 : decode cX4_packedKey 4 = .ok (.iload_n 0, 1) := by decide +kernel
theorem dX4_packedKey_5 : decode cX4_packedKey 5 = .ok (.sipush 10000, 3) := by decide +kernel
theorem dX4_packedKey_8 : decode cX4_packedKey 8 = .ok (.idiv, 1) := by decide +kernel
theorem dX4_packedKey_9 : decode cX4_packedKey 9 = .ok (.ldc 16, 2) := by decide +kernel
theorem dX4_packedKey_11 : decode cX4_packedKey 11 = .ok (.if_icmp .le 5, 3) := by decide +kernel
theorem dX4_packedKey_14 : decode cX4_packedKey 14 = .ok (.iconst (-1), 1) := by decide +kernel
theorem dX4_packedKey_15 : decode cX4_packedKey 15 = .ok (.ireturn, 1) := by decide +kernel
theorem dX4_packedKey_16 : decode cX4_packedKey 16 = .ok (.iload_n 0, 1) := by decide +kernel
theorem dX4_packedKey_17 : decode cX4_packedKey 17 = .ok (.sipush 10000, 3) := by decide +kernel
theorem dX4_packedKey_20 : decode cX4_packedKey 20 = .ok (.idiv, 1) := by decide +kernel
theorem dX4_packedKey_21 : decode cX4_packedKey 21 = .ok (.iload_n 0, 1) := by decide +kernel
theorem dX4_packedKey_22 : decode cX4_packedKey 22 = .ok (.sipush 10000, 3) := by decide +kernel
theorem dX4_packedKey_25 : decode cX4_packedKey 25 = .ok (.irem, 1) := by decide +kernel
theorem dX4_packedKey_26 : decode cX4_packedKey 26 = .ok (.invokestatic 17, 3) := by decide +kernel
theorem dX4_packedKey_29 : decode cX4_packedKey 29 = .ok (.ireturn, 1) := by decide +kernel
theorem dX4_bitsOf_0 : decode cX4_bitsOf 0 = .ok (.fload_n 0, 1) := by decide +kernel
theorem dX4_bitsOf_1 : decode cX4_bitsOf 1 = .ok (.fconst 0, 1) := by decide +kernel
theorem dX4_bitsOf_2 : decode cX4_bitsOf 2 = .ok (.fcmp .l, 1) := by decide +kernel
theorem dX4_bitsOf_3 : decode cX4_bitsOf 3 = .ok (.ifCond .gt 5, 3) := by decide +kernel
theorem dX4_bitsOf_6 : decode cX4_bitsOf 6 = .ok (.iconst 0, 1) := by decide +kernel
theorem dX4_bitsOf_7 : decode cX4_bitsOf 7 = .ok (.ireturn, 1) := by decide +kernel
theorem dX4_bitsOf_8 : decode cX4_bitsOf 8 = .ok (.fload_n 0, 1) := by decide +kernel
theorem dX4_bitsOf_9 : decode cX4_bitsOf 9 = .ok (.f2d, 1) := by decide +kernel
theorem dX4_bitsOf_10 : decode cX4_bitsOf 10 = .ok (.dstore_n 1, 1) := by decide +kernel
theorem dX4_bitsOf_11 : decode cX4_bitsOf 11 = .ok (.iconst 0, 1) := by decide +kernel
theorem dX4_bitsOf_12 : decode cX4_bitsOf 12 = .ok (.istore_n 3, 1) := by decide +kernel
theorem dX4_bitsOf_13 : decode cX4_bitsOf 13 = .ok (.iconst 0, 1) := by decide +kernel
theorem dX4_bitsOf_14 : decode cX4_bitsOf 14 = .ok (.istore 4, 2) := by decide +kernel
theorem dX4_bitsOf_16 : decode cX4_bitsOf 16 = .ok (.iload 4, 2) := by decide +kernel
theorem dX4_bitsOf_18 : decode cX4_bitsOf 18 = .ok (.sipush 128, 3) := by decide +kernel
theorem dX4_bitsOf_21 : decode cX4_bitsOf 21 = .ok (.if_icmp .ge 26, 3) := by decide +kernel
theorem dX4_bitsOf_24 : decode cX4_bitsOf 24 = .ok (.dload_n 1, 1) := by decide +kernel
theorem dX4_bitsOf_25 : decode cX4_bitsOf 25 = .ok (.ldc2_w 21, 3) := by decide +kernel
theorem dX4_bitsOf_28 : decode cX4_bitsOf 28 = .ok (.dcmp .l, 1) := by decide +kernel
theorem dX4_bitsOf_29 : decode cX4_bitsOf 29 = .ok (.ifCond .lt 18, 3) := by decide +kernel
theorem dX4_bitsOf_32 : decode cX4_bitsOf 32 = .ok (.dload_n 1, 1) := by decide +kernel
theorem dX4_bitsOf_33 : decode cX4_bitsOf 33 = .ok (.ldc2_w 21, 3) := by decide +kernel
theorem dX4_bitsOf_36 : decode cX4_bitsOf 36 = .ok (.ddiv, 1) := by decide +kernel
theorem dX4_bitsOf_37 : decode cX4_bitsOf 37 = .ok (.dstore_n 1, 1) := by decide +kernel
theorem dX4_bitsOf_38 : decode cX4_bitsOf 38 = .ok (.iinc 3 1, 3) := by decide +kernel
theorem dX4_bitsOf_41 : decode cX4_bitsOf 41 = .ok (.iinc 4 1, 3) := by decide +kernel
theorem dX4_bitsOf_44 : decode cX4_bitsOf 44 = .ok (.goto (-28), 3) := by decide +kernel
theorem dX4_bitsOf_47 : decode cX4_bitsOf 47 = .ok (.iconst 0, 1) := by decide +kernel
theorem dX4_bitsOf_48 : decode cX4_bitsOf 48 = .ok (.istore 4, 2) := by decide +kernel
theorem dX4_bitsOf_50 : decode cX4_bitsOf 50 = .ok (.iload 4, 2) := by decide +kernel
theorem dX4_bitsOf_52 : decode cX4_bitsOf 52 = .ok (.sipush 149, 3) := by decide +kernel
theorem dX4_bitsOf_55 : decode cX4_bitsOf 55 = .ok (.if_icmp .ge 24, 3) := by decide +kernel
theorem dX4_bitsOf_58 : decode cX4_bitsOf 58 = .ok (.dload_n 1, 1) := by decide +kernel
theorem dX4_bitsOf_59 : decode cX4_bitsOf 59 = .ok (.dconst 1, 1) := by decide +kernel
theorem dX4_bitsOf_60 : decode cX4_bitsOf 60 = .ok (.dcmp .g, 1) := by decide +kernel
theorem dX4_bitsOf_61 : decode cX4_bitsOf 61 = .ok (.ifCond .ge 18, 3) := by decide +kernel
theorem dX4_bitsOf_64 : decode cX4_bitsOf 64 = .ok (.dload_n 1, 1) := by decide +kernel
theorem dX4_bitsOf_65 : decode cX4_bitsOf 65 = .ok (.ldc2_w 21, 3) := by decide +kernel
theorem dX4_bitsOf_68 : decode cX4_bitsOf 68 = .ok (.dmul, 1) := by decide +kernel
theorem dX4_bitsOf_69 : decode cX4_bitsOf 69 = .ok (.dstore_n 1, 1) := by decide +kernel
theorem dX4_bitsOf_70 : decode cX4_bitsOf 70 = .ok (.iinc 3 (-1), 3) := by decide +kernel
theorem dX4_bitsOf_73 : decode cX4_bitsOf 73 = .ok (.iinc 4 1, 3) := by decide +kernel
theorem dX4_bitsOf_76 : decode cX4_bitsOf 76 = .ok (.goto (-26), 3) := by decide +kernel
theorem dX4_bitsOf_79 : decode cX4_bitsOf 79 = .ok (.iload_n 3, 1) := by decide +kernel
theorem dX4_bitsOf_80 : decode cX4_bitsOf 80 = .ok (.bipush 127, 2) := by decide +kernel
theorem dX4_bitsOf_82 : decode cX4_bitsOf 82 = .ok (.if_icmp .le 6, 3) := by decide +kernel
theorem dX4_bitsOf_85 : decode cX4_bitsOf 85 = .ok (.ldc 23, 2) := by decide +kernel
theorem dX4_bitsOf_87 : decode cX4_bitsOf 87 = .ok (.ireturn, 1) := by decide +kernel
theorem dX4_bitsOf_88 : decode cX4_bitsOf 88 = .ok (.iload_n 3, 1) := by decide +kernel
theorem dX4_bitsOf_89 : decode cX4_bitsOf 89 = .ok (.bipush (-126), 2) := by decide +kernel
theorem dX4_bitsOf_91 : decode cX4_bitsOf 91 = .ok (.if_icmp .lt 20, 3) := by decide +kernel
theorem dX4_bitsOf_94 : decode cX4_bitsOf 94 = .ok (.iload_n 3, 1) := by decide +kernel
theorem dX4_bitsOf_95 : decode cX4_bitsOf 95 = .ok (.bipush 127, 2) := by decide +kernel
theorem dX4_bitsOf_97 : decode cX4_bitsOf 97 = .ok (.iadd, 1) := by decide +kernel
theorem dX4_bitsOf_98 : decode cX4_bitsOf 98 = .ok (.bipush 23, 2) := by decide +kernel
theorem dX4_bitsOf_100 : decode cX4_bitsOf 100 = .ok (.ishl, 1) := by decide +kernel
theorem dX4_bitsOf_101 : decode cX4_bitsOf 101 = .ok (.dload_n 1, 1) := by decide +kernel
theorem dX4_bitsOf_102 : decode cX4_bitsOf 102 = .ok (.dconst 1, 1) := by decide +kernel
theorem dX4_bitsOf_103 : decode cX4_bitsOf 103 = .ok (.dsub, 1) := by decide +kernel
theorem dX4_bitsOf_104 : decode cX4_bitsOf 104 = .ok (.ldc2_w 24, 3) := by decide +kernel
theorem dX4_bitsOf_107 : decode cX4_bitsOf 107 = .ok (.dmul, 1) := by decide +kernel
theorem dX4_bitsOf_108 : decode cX4_bitsOf 108 = .ok (.d2i, 1) := by decide +kernel
theorem dX4_bitsOf_109 : decode cX4_bitsOf 109 = .ok (.ior, 1) := by decide +kernel
theorem dX4_bitsOf_110 : decode cX4_bitsOf 110 = .ok (.ireturn, 1) := by decide +kernel
theorem dX4_bitsOf_111 : decode cX4_bitsOf 111 = .ok (.sipush (-149), 3) := by decide +kernel
theorem dX4_bitsOf_114 : decode cX4_bitsOf 114 = .ok (.istore 4, 2) := by decide +kernel
theorem dX4_bitsOf_116 : decode cX4_bitsOf 116 = .ok (.iload 4, 2) := by decide +kernel
theorem dX4_bitsOf_118 : decode cX4_bitsOf 118 = .ok (.iload_n 3, 1) := by decide +kernel
theorem dX4_bitsOf_119 : decode cX4_bitsOf 119 = .ok (.if_icmp .ge 15, 3) := by decide +kernel
theorem dX4_bitsOf_122 : decode cX4_bitsOf 122 = .ok (.dload_n 1, 1) := by decide +kernel
theorem dX4_bitsOf_123 : decode cX4_bitsOf 123 = .ok (.ldc2_w 21, 3) := by decide +kernel
theorem dX4_bitsOf_126 : decode cX4_bitsOf 126 = .ok (.dmul, 1) := by decide +kernel
theorem dX4_bitsOf_127 : decode cX4_bitsOf 127 = .ok (.dstore_n 1, 1) := by decide +kernel
theorem dX4_bitsOf_128 : decode cX4_bitsOf 128 = .ok (.iinc 4 1, 3) := by decide +kernel
theorem dX4_bitsOf_131 : decode cX4_bitsOf 131 = .ok (.goto (-15), 3) := by decide +kernel
theorem dX4_bitsOf_134 : decode cX4_bitsOf 134 = .ok (.dload_n 1, 1) := by decide +kernel
theorem dX4_bitsOf_135 : decode cX4_bitsOf 135 = .ok (.d2i, 1) := by decide +kernel
theorem dX4_bitsOf_136 : decode cX4_bitsOf 136 = .ok (.ireturn, 1) := by decide +kernel
theorem dX4_floatOf_0 : decode cX4_floatOf 0 = .ok (.iload_n 0, 1) := by decide +kernel
theorem dX4_floatOf_1 : decode cX4_floatOf 1 = .ok (.bipush 23, 2) := by decide +kernel
theorem dX4_floatOf_3 : decode cX4_floatOf 3 = .ok (.iushr, 1) := by decide +kernel
theorem dX4_floatOf_4 : decode cX4_floatOf 4 = .ok (.sipush 150, 3) := by decide +kernel
theorem dX4_floatOf_7 : decode cX4_floatOf 7 = .ok (.isub, 1) := by decide +kernel
theorem dX4_floatOf_8 : decode cX4_floatOf 8 = .ok (.istore_n 1, 1) := by decide +kernel
theorem dX4_floatOf_9 : decode cX4_floatOf 9 = .ok (.iload_n 0, 1) := by decide +kernel
theorem dX4_floatOf_10 : decode cX4_floatOf 10 = .ok (.ldc 26, 2) := by decide +kernel
theorem dX4_floatOf_12 : decode cX4_floatOf 12 = .ok (.iand, 1) := by decide +kernel
theorem dX4_floatOf_13 : decode cX4_floatOf 13 = .ok (.ldc 27, 2) := by decide +kernel
theorem dX4_floatOf_15 : decode cX4_floatOf 15 = .ok (.iadd, 1) := by decide +kernel
theorem dX4_floatOf_16 : decode cX4_floatOf 16 = .ok (.i2d, 1) := by decide +kernel
theorem dX4_floatOf_17 : decode cX4_floatOf 17 = .ok (.dstore_n 2, 1) := by decide +kernel
theorem dX4_floatOf_18 : decode cX4_floatOf 18 = .ok (.iload_n 1, 1) := by decide +kernel
theorem dX4_floatOf_19 : decode cX4_floatOf 19 = .ok (.sipush (-150), 3) := by decide +kernel
theorem dX4_floatOf_22 : decode cX4_floatOf 22 = .ok (.if_icmp .ne 13, 3) := by decide +kernel
theorem dX4_floatOf_25 : decode cX4_floatOf 25 = .ok (.sipush (-149), 3) := by decide +kernel
theorem dX4_floatOf_28 : decode cX4_floatOf 28 = .ok (.istore_n 1, 1) := by decide +kernel
theorem dX4_floatOf_29 : decode cX4_floatOf 29 = .ok (.dload_n 2, 1) := by decide +kernel
theorem dX4_floatOf_30 : decode cX4_floatOf 30 = .ok (.ldc2_w 24, 3) := by decide +kernel
theorem dX4_floatOf_33 : decode cX4_floatOf 33 = .ok (.dsub, 1) := by decide +kernel
theorem dX4_floatOf_34 : decode cX4_floatOf 34 = .ok (.dstore_n 2, 1) := by decide +kernel
theorem dX4_floatOf_35 : decode cX4_floatOf 35 = .ok (.iconst 0, 1) := by decide +kernel
theorem dX4_floatOf_36 : decode cX4_floatOf 36 = .ok (.istore 4, 2) := by decide +kernel
theorem dX4_floatOf_38 : decode cX4_floatOf 38 = .ok (.iload 4, 2) := by decide +kernel
theorem dX4_floatOf_40 : decode cX4_floatOf 40 = .ok (.iload_n 1, 1) := by decide +kernel
theorem dX4_floatOf_41 : decode cX4_floatOf 41 = .ok (.if_icmp .ge 15, 3) := by decide +kernel
theorem dX4_floatOf_44 : decode cX4_floatOf 44 = .ok (.dload_n 2, 1) := by decide +kernel
theorem dX4_floatOf_45 : decode cX4_floatOf 45 = .ok (.ldc2_w 21, 3) := by decide +kernel
theorem dX4_floatOf_48 : decode cX4_floatOf 48 = .ok (.dmul, 1) := by decide +kernel
theorem dX4_floatOf_49 : decode cX4_floatOf 49 = .ok (.dstore_n 2, 1) := by decide +kernel
theorem dX4_floatOf_50 : decode cX4_floatOf 50 = .ok (.iinc 4 1, 3) := by decide +kernel
theorem dX4_floatOf_53 : decode cX4_floatOf 53 = .ok (.goto (-15), 3) := by decide +kernel
theorem dX4_floatOf_56 : decode cX4_floatOf 56 = .ok (.iconst 0, 1) := by decide +kernel
theorem dX4_floatOf_57 : decode cX4_floatOf 57 = .ok (.istore 4, 2) := by decide +kernel
theorem dX4_floatOf_59 : decode cX4_floatOf 59 = .ok (.iload 4, 2) := by decide +kernel
theorem dX4_floatOf_61 : decode cX4_floatOf 61 = .ok (.iload_n 1, 1) := by decide +kernel
theorem dX4_floatOf_62 : decode cX4_floatOf 62 = .ok (.if_icmp .le 15, 3) := by decide +kernel
theorem dX4_floatOf_65 : decode cX4_floatOf 65 = .ok (.dload_n 2, 1) := by decide +kernel
theorem dX4_floatOf_66 : decode cX4_floatOf 66 = .ok (.ldc2_w 21, 3) := by decide +kernel
theorem dX4_floatOf_69 : decode cX4_floatOf 69 = .ok (.ddiv, 1) := by decide +kernel
theorem dX4_floatOf_70 : decode cX4_floatOf 70 = .ok (.dstore_n 2, 1) := by decide +kernel
theorem dX4_floatOf_71 : decode cX4_floatOf 71 = .ok (.iinc 4 (-1), 3) := by decide +kernel
theorem dX4_floatOf_74 : decode cX4_floatOf 74 = .ok (.goto (-15), 3) := by decide +kernel
theorem dX4_floatOf_77 : decode cX4_floatOf 77 = .ok (.dload_n 2, 1) := by decide +kernel
theorem dX4_floatOf_78 : decode cX4_floatOf 78 = .ok (.d2f, 1) := by decide +kernel
theorem dX4_floatOf_79 : decode cX4_floatOf 79 = .ok (.freturn, 1) := by decide +kernel
set_option maxRecDepth 20000 in
theorem ggX5_init_X6_init : GoodIn wsX5_init wsX6_init := goodIn_r _ [12, 13, 2, 3, 14, 15, 16, 17, 18, 19, 20, 21, 22, 23, 24, 25, 26, 27, 28, 29, 30, 31, 32, 33, 34, 54, 55, 56, 57, 58, 59, 60, 61, 44, 45, 46, 47, 48, 49, 50, 51, 52, 53] (by decide +kernel) (by decide +kernel)
set_option maxRecDepth 20000 in
theorem gX5_init_X6_init_n21 : GoodIn wsX5_init (wsX6_init) := ggX5_init_X6_init
theorem dX5_init_0 : decode cX5_init 0 = .ok (.aload_n 0, 1) := by decide +kernel
theorem dX5_init_1 : decode cX5_init 1 = .ok (.invokespecial 3, 3) := by decide +kernel
theorem dX5_init_4 : decode cX5_init 4 = .ok (.aload_n 0, 1) := by decide +kernel
theorem dX5_init_5 : decode cX5_init 5 = .ok (.iconst (-1), 1) := by decide +kernel
theorem dX5_init_6 : decode cX5_init 6 = .ok (.putfield 9, 3) := by decide +kernel
theorem dX5_init_9 : decode cX5_init 9 = .ok (.aload_n 0, 1) := by decide +kernel
theorem dX5_init_10 : decode cX5_init 10 = .ok (.iconst 0, 1) := by decide +kernel
theorem dX5_init_11 : decode cX5_init 11 = .ok (.newarray .byte, 2) := by decide +kernel
theorem dX5_init_13 : decode cX5_init 13 = .ok (.putfield 15, 3) := by decide +kernel
theorem dX5_init_16 : decode cX5_init 16 = .ok (.aload_n 0, 1) := by decide +kernel
theorem dX5_init_17 : decode cX5_init 17 = .ok (.new 19, 3) := by decide +kernel
theorem dX5_init_20 : decode cX5_init 20 = .ok (.dup, 1) := by decide +kernel
theorem dX5_init_21 : decode cX5_init 21 = .ok (.invokespecial 21, 3) := by decide +kernel
theorem dX5_init_24 : decode cX5_init 24 = .ok (.putfield 22, 3) := by decide +kernel
theorem dX5_init_27 : decode cX5_init 27 = .ok (.return_, 1) := by decide +kernel
set_option maxRecDepth 20000 in
theorem ggX5_readAll_X6_clear : GoodIn wsX5_readAll wsX6_clear := goodIn_r _ [17, 18, 19, 20, 21, 22, 149, 150, 151, 152, 153, 154, 155, 156, 157, 158, 159, 160, 161, 162, 163, 164, 165, 166] (by decide +kernel) (by decide +kernel)
set_option maxRecDepth 20000 in
theorem gX5_readAll_X6_clear : GoodIn wsX5_readAll (wsV RX5 26 RX6 yX6_clear wsX6_clear) := goodIn_app (goodIn_of _ (by decide +kernel)) ggX5_readAll_X6_clear
set_option maxRecDepth 20000 in
theorem ggX5_readAll_X5_step : GoodIn wsX5_readAll wsX5_step := goodIn_r _ [27, 8, 7, 2, 28, 29, 11, 30, 31, 32, 26, 33, 34, 35, 36, 37, 38, 39, 140, 141, 142, 143, 144, 145, 146, 147, 148] (by decide +kernel) (by decide +kernel)
set_option maxRecDepth 20000 in
theorem gX5_readAll_X5_step : GoodIn wsX5_readAll (wsV RX5 44 RX5 yX5_step wsX5_step) := goodIn_app (goodIn_of _ (by decide +kernel)) ggX5_readAll_X5_step
set_option maxRecDepth 20000 in
theorem ggX5_readAll_X5_readLine : GoodIn wsX5_readAll wsX5_readLine := goodIn_r _ [43, 28, 11, 44, 45, 46, 26, 47, 48, 29, 49, 50, 51, 52, 9, 10, 53, 54, 55, 56, 1, 57, 58, 59, 60, 61, 23, 24, 25, 27, 8, 7, 2, 30, 31, 32, 33, 34, 35, 36, 37, 38, 39, 62, 63, 64, 16, 65, 19, 66, 67, 68, 69, 70, 71, 72, 73, 74, 75, 76, 77, 78, 79, 80, 81, 82, 83, 84, 85, 86, 87, 88, 89, 90, 91, 92, 93, 94, 95, 96, 97, 98, 99, 100, 21, 101, 102, 103, 104, 105, 106, 107, 108, 109, 110, 111, 112, 113, 114, 115, 116, 117, 118, 119, 120, 121, 122, 123, 124, 125, 126, 127, 128, 129, 130, 131, 132, 133, 134, 20, 135, 136, 137, 138, 139, 140, 141, 142, 143, 144, 145, 146, 147, 148, 149, 150, 151, 152, 153, 154, 155, 156, 157, 158, 159, 160, 161, 162, 163, 164, 165, 166] (by decide +kernel) (by decide +kernel)
set_option maxRecDepth 20000 in
theorem gX5_readAll_X5_readLine : GoodIn wsX5_readAll (wsV RX5 50 RX5 yX5_readLine wsX5_readLine) := goodIn_app (goodIn_of _ (by decide +kernel)) ggX5_readAll_X5_readLine
theorem dX5_readAll_0 : decode cX5_readAll 0 = .ok (.aload_n 0, 1) := by decide +kernel
theorem dX5_readAll_1 : decode cX5_readAll 1 = .ok (.aload_n 1, 1) := by decide +kernel
theorem dX5_readAll_2 : decode cX5_readAll 2 = .ok (.putfield 22, 3) := by decide +kernel
theorem dX5_readAll_5 : decode cX5_readAll 5 = .ok (.aload_n 0, 1) := by decide +kernel
theorem dX5_readAll_6 : decode cX5_readAll 6 = .ok (.getfield 22, 3) := by decide +kernel
theorem dX5_readAll_9 : decode cX5_readAll 9 = .ok (.invokevirtual 26, 3) := by decide +kernel
theorem dX5_readAll_12 : decode cX5_readAll 12 = .ok (.aload_n 0, 1) := by decide +kernel
theorem dX5_readAll_13 : decode cX5_readAll 13 = .ok (.aload_n 2, 1) := by decide +kernel
theorem dX5_readAll_14 : decode cX5_readAll 14 = .ok (.putfield 15, 3) := by decide +kernel
theorem dX5_readAll_17 : decode cX5_readAll 17 = .ok (.aload_n 0, 1) := by decide +kernel
theorem dX5_readAll_18 : decode cX5_readAll 18 = .ok (.iload_n 3, 1) := by decide +kernel
theorem dX5_readAll_19 : decode cX5_readAll 19 = .ok (.aload_n 2, 1) := by decide +kernel
theorem dX5_readAll_20 : decode cX5_readAll 20 = .ok (.arraylength, 1) := by decide +kernel
theorem dX5_readAll_21 : decode cX5_readAll 21 = .ok (.invokestatic 29, 3) := by decide +kernel
theorem dX5_readAll_24 : decode cX5_readAll 24 = .ok (.putfield 35, 3) := by decide +kernel
theorem dX5_readAll_27 : decode cX5_readAll 27 = .ok (.aload_n 0, 1) := by decide +kernel
theorem dX5_readAll_28 : decode cX5_readAll 28 = .ok (.iconst 0, 1) := by decide +kernel
theorem dX5_readAll_29 : decode cX5_readAll 29 = .ok (.putfield 38, 3) := by decide +kernel
theorem dX5_readAll_32 : decode cX5_readAll 32 = .ok (.aload_n 0, 1) := by decide +kernel
theorem dX5_readAll_33 : decode cX5_readAll 33 = .ok (.iconst 0, 1) := by decide +kernel
theorem dX5_readAll_34 : decode cX5_readAll 34 = .ok (.putfield 41, 3) := by decide +kernel
theorem dX5_readAll_37 : decode cX5_readAll 37 = .ok (.aload_n 0, 1) := by decide +kernel
theorem dX5_readAll_38 : decode cX5_readAll 38 = .ok (.iconst (-1), 1) := by decide +kernel
theorem dX5_readAll_39 : decode cX5_readAll 39 = .ok (.putfield 9, 3) := by decide +kernel
theorem dX5_readAll_42 : decode cX5_readAll 42 = .ok (.iconst 0, 1) := by decide +kernel
theorem dX5_readAll_43 : decode cX5_readAll 43 = .ok (.istore 4, 2) := by decide +kernel
theorem dX5_readAll_45 : decode cX5_readAll 45 = .ok (.iload 4, 2) := by decide +kernel
theorem dX5_readAll_47 : decode cX5_readAll 47 = .ok (.aload_n 0, 1) := by decide +kernel
theorem dX5_readAll_48 : decode cX5_readAll 48 = .ok (.getfield 35, 3) := by decide +kernel
theorem dX5_readAll_51 : decode cX5_readAll 51 = .ok (.if_icmp .gt 44, 3) := by decide +kernel
theorem dX5_readAll_54 : decode cX5_readAll 54 = .ok (.aload_n 0, 1) := by decide +kernel
theorem dX5_readAll_55 : decode cX5_readAll 55 = .ok (.invokevirtual 44, 3) := by decide +kernel
theorem dX5_readAll_58 : decode cX5_readAll 58 = .ok (.aload_n 0, 1) := by decide +kernel
theorem dX5_readAll_59 : decode cX5_readAll 59 = .ok (.getfield 47, 3) := by decide +kernel
theorem dX5_readAll_62 : decode cX5_readAll 62 = .ok (.ifCond .ne 5, 3) := by decide +kernel
theorem dX5_readAll_65 : decode cX5_readAll 65 = .ok (.iconst 1, 1) := by decide +kernel
theorem dX5_readAll_66 : decode cX5_readAll 66 = .ok (.ireturn, 1) := by decide +kernel
theorem dX5_readAll_67 : decode cX5_readAll 67 = .ok (.aload_n 0, 1) := by decide +kernel
theorem dX5_readAll_68 : decode cX5_readAll 68 = .ok (.invokevirtual 50, 3) := by decide +kernel
theorem dX5_readAll_71 : decode cX5_readAll 71 = .ok (.ifCond .ne 5, 3) := by decide +kernel
theorem dX5_readAll_74 : decode cX5_readAll 74 = .ok (.iconst 0, 1) := by decide +kernel
theorem dX5_readAll_75 : decode cX5_readAll 75 = .ok (.ireturn, 1) := by decide +kernel
theorem dX5_readAll_76 : decode cX5_readAll 76 = .ok (.aload_n 0, 1) := by decide +kernel
theorem dX5_readAll_77 : decode cX5_readAll 77 = .ok (.getfield 22, 3) := by decide +kernel
theorem dX5_readAll_80 : decode cX5_readAll 80 = .ok (.dup, 1) := by decide +kernel
theorem dX5_readAll_81 : decode cX5_readAll 81 = .ok (.getfield 54, 3) := by decide +kernel
theorem dX5_readAll_84 : decode cX5_readAll 84 = .ok (.iconst 1, 1) := by decide +kernel
theorem dX5_readAll_85 : decode cX5_readAll 85 = .ok (.iadd, 1) := by decide +kernel
theorem dX5_readAll_86 : decode cX5_readAll 86 = .ok (.putfield 54, 3) := by decide +kernel
theorem dX5_readAll_89 : decode cX5_readAll 89 = .ok (.iinc 4 1, 3) := by decide +kernel
theorem dX5_readAll_92 : decode cX5_readAll 92 = .ok (.goto (-47), 3) := by decide +kernel
theorem dX5_readAll_95 : decode cX5_readAll 95 = .ok (.iconst 1, 1) := by decide +kernel
theorem dX5_readAll_96 : decode cX5_readAll 96 = .ok (.ireturn, 1) := by decide +kernel
theorem dX5_wrongAt_0 : decode cX5_wrongAt 0 = .ok (.aload_n 0, 1) := by decide +kernel
theorem dX5_wrongAt_1 : decode cX5_wrongAt 1 = .ok (.iload_n 1, 1) := by decide +kernel
theorem dX5_wrongAt_2 : decode cX5_wrongAt 2 = .ok (.putfield 41, 3) := by decide +kernel
theorem dX5_wrongAt_5 : decode cX5_wrongAt 5 = .ok (.aload_n 0, 1) := by decide +kernel
theorem dX5_wrongAt_6 : decode cX5_wrongAt 6 = .ok (.iload_n 2, 1) := by decide +kernel
theorem dX5_wrongAt_7 : decode cX5_wrongAt 7 = .ok (.putfield 9, 3) := by decide +kernel
theorem dX5_wrongAt_10 : decode cX5_wrongAt 10 = .ok (.iconst 0, 1) := by decide +kernel
theorem dX5_wrongAt_11 : decode cX5_wrongAt 11 = .ok (.ireturn, 1) := by decide +kernel
set_option maxRecDepth 20000 in
theorem ggX5_step_X5_takeWord : GoodIn wsX5_step wsX5_takeWord := goodIn_r _ [11, 6, 1, 2, 3, 5, 18, 19, 20, 21, 22, 23, 24, 25, 26] (by decide +kernel) (by decide +kernel)
set_option maxRecDepth 20000 in
theorem gX5_step_X5_takeWord : GoodIn wsX5_step (wsV RX5 63 RX5 yX5_takeWord wsX5_takeWord) := goodIn_app (goodIn_of _ (by decide +kernel)) ggX5_step_X5_takeWord
set_option maxRecDepth 20000 in
theorem ggX5_step_X5_takeNumber : GoodIn wsX5_step wsX5_takeNumber := goodIn_r _ [15, 6, 1, 2, 3, 5, 16, 17, 18, 19, 20, 21, 22, 23, 24, 25, 26] (by decide +kernel) (by decide +kernel)
set_option maxRecDepth 20000 in
theorem gX5_step_X5_takeNumber : GoodIn wsX5_step (wsV RX5 66 RX5 yX5_takeNumber wsX5_takeNumber) := goodIn_app (goodIn_of _ (by decide +kernel)) ggX5_step_X5_takeNumber
theorem dX5_step_0 : decode cX5_step 0 = .ok (.aload_n 0, 1) := by decide +kernel
theorem dX5_step_1 : decode cX5_step 1 = .ok (.getfield 38, 3) := by decide +kernel
theorem dX5_step_4 : decode cX5_step 4 = .ok (.aload_n 0, 1) := by decide +kernel
theorem dX5_step_5 : decode cX5_step 5 = .ok (.getfield 35, 3) := by decide +kernel
theorem dX5_step_8 : decode cX5_step 8 = .ok (.if_icmp .ge 44, 3) := by decide +kernel
theorem dX5_step_11 : decode cX5_step 11 = .ok (.aload_n 0, 1) := by decide +kernel
theorem dX5_step_12 : decode cX5_step 12 = .ok (.getfield 15, 3) := by decide +kernel
theorem dX5_step_15 : decode cX5_step 15 = .ok (.aload_n 0, 1) := by decide +kernel
theorem dX5_step_16 : decode cX5_step 16 = .ok (.getfield 38, 3) := by decide +kernel
theorem dX5_step_19 : decode cX5_step 19 = .ok (.baload, 1) := by decide +kernel
theorem dX5_step_20 : decode cX5_step 20 = .ok (.bipush 32, 2) := by decide +kernel
theorem dX5_step_22 : decode cX5_step 22 = .ok (.if_icmp .eq 17, 3) := by decide +kernel
theorem dX5_step_25 : decode cX5_step 25 = .ok (.aload_n 0, 1) := by decide +kernel
theorem dX5_step_26 : decode cX5_step 26 = .ok (.getfield 15, 3) := by decide +kernel
theorem dX5_step_29 : decode cX5_step 29 = .ok (.aload_n 0, 1) := by decide +kernel
theorem dX5_step_30 : decode cX5_step 30 = .ok (.getfield 38, 3) := by decide +kernel
theorem dX5_step_33 : decode cX5_step 33 = .ok (.baload, 1) := by decide +kernel
theorem dX5_step_34 : decode cX5_step 34 = .ok (.bipush 10, 2) := by decide +kernel
theorem dX5_step_36 : decode cX5_step 36 = .ok (.if_icmp .ne 16, 3) := by decide +kernel
theorem dX5_step_39 : decode cX5_step 39 = .ok (.aload_n 0, 1) := by decide +kernel
theorem dX5_step_40 : decode cX5_step 40 = .ok (.dup, 1) := by decide +kernel
theorem dX5_step_41 : decode cX5_step 41 = .ok (.getfield 38, 3) := by decide +kernel
theorem dX5_step_44 : decode cX5_step 44 = .ok (.iconst 1, 1) := by decide +kernel
theorem dX5_step_45 : decode cX5_step 45 = .ok (.iadd, 1) := by decide +kernel
theorem dX5_step_46 : decode cX5_step 46 = .ok (.putfield 38, 3) := by decide +kernel
theorem dX5_step_49 : decode cX5_step 49 = .ok (.goto (-49), 3) := by decide +kernel
theorem dX5_step_52 : decode cX5_step 52 = .ok (.aload_n 0, 1) := by decide +kernel
theorem dX5_step_53 : decode cX5_step 53 = .ok (.aload_n 0, 1) := by decide +kernel
theorem dX5_step_54 : decode cX5_step 54 = .ok (.getfield 38, 3) := by decide +kernel
theorem dX5_step_57 : decode cX5_step 57 = .ok (.putfield 57, 3) := by decide +kernel
theorem dX5_step_60 : decode cX5_step 60 = .ok (.aload_n 0, 1) := by decide +kernel
theorem dX5_step_61 : decode cX5_step 61 = .ok (.iconst 0, 1) := by decide +kernel
theorem dX5_step_62 : decode cX5_step 62 = .ok (.putfield 60, 3) := by decide +kernel
theorem dX5_step_65 : decode cX5_step 65 = .ok (.aload_n 0, 1) := by decide +kernel
theorem dX5_step_66 : decode cX5_step 66 = .ok (.getfield 38, 3) := by decide +kernel
theorem dX5_step_69 : decode cX5_step 69 = .ok (.aload_n 0, 1) := by decide +kernel
theorem dX5_step_70 : decode cX5_step 70 = .ok (.getfield 35, 3) := by decide +kernel
theorem dX5_step_73 : decode cX5_step 73 = .ok (.if_icmp .lt 11, 3) := by decide +kernel
theorem dX5_step_76 : decode cX5_step 76 = .ok (.aload_n 0, 1) := by decide +kernel
theorem dX5_step_77 : decode cX5_step 77 = .ok (.iconst 0, 1) := by decide +kernel
theorem dX5_step_78 : decode cX5_step 78 = .ok (.putfield 47, 3) := by decide +kernel
theorem dX5_step_81 : decode cX5_step 81 = .ok (.goto 106, 3) := by decide +kernel
theorem dX5_step_84 : decode cX5_step 84 = .ok (.aload_n 0, 1) := by decide +kernel
theorem dX5_step_85 : decode cX5_step 85 = .ok (.getfield 15, 3) := by decide +kernel
theorem dX5_step_88 : decode cX5_step 88 = .ok (.aload_n 0, 1) := by decide +kernel
theorem dX5_step_89 : decode cX5_step 89 = .ok (.getfield 38, 3) := by decide +kernel
theorem dX5_step_92 : decode cX5_step 92 = .ok (.baload, 1) := by decide +kernel
theorem dX5_step_93 : decode cX5_step 93 = .ok (.bipush 97, 2) := by decide +kernel
theorem dX5_step_95 : decode cX5_step 95 = .ok (.if_icmp .lt 24, 3) := by decide +kernel
theorem dX5_step_98 : decode cX5_step 98 = .ok (.aload_n 0, 1) := by decide +kernel
theorem dX5_step_99 : decode cX5_step 99 = .ok (.getfield 15, 3) := by decide +kernel
theorem dX5_step_102 : decode cX5_step 102 = .ok (.aload_n 0, 1) := by decide +kernel
theorem dX5_step_103 : decode cX5_step 103 = .ok (.getfield 38, 3) := by decide +kernel
theorem dX5_step_106 : decode cX5_step 106 = .ok (.baload, 1) := by decide +kernel
theorem dX5_step_107 : decode cX5_step 107 = .ok (.bipush 122, 2) := by decide +kernel
theorem dX5_step_109 : decode cX5_step 109 = .ok (.if_icmp .gt 10, 3) := by decide +kernel
theorem dX5_step_112 : decode cX5_step 112 = .ok (.aload_n 0, 1) := by decide +kernel
theorem dX5_step_113 : decode cX5_step 113 = .ok (.invokevirtual 63, 3) := by decide +kernel
theorem dX5_step_116 : decode cX5_step 116 = .ok (.goto 71, 3) := by decide +kernel
theorem dX5_step_119 : decode cX5_step 119 = .ok (.aload_n 0, 1) := by decide +kernel
theorem dX5_step_120 : decode cX5_step 120 = .ok (.getfield 15, 3) := by decide +kernel
theorem dX5_step_123 : decode cX5_step 123 = .ok (.aload_n 0, 1) := by decide +kernel
theorem dX5_step_124 : decode cX5_step 124 = .ok (.getfield 38, 3) := by decide +kernel
theorem dX5_step_127 : decode cX5_step 127 = .ok (.baload, 1) := by decide +kernel
theorem dX5_step_128 : decode cX5_step 128 = .ok (.bipush 48, 2) := by decide +kernel
theorem dX5_step_130 : decode cX5_step 130 = .ok (.if_icmp .lt 24, 3) := by decide +kernel
theorem dX5_step_133 : decode cX5_step 133 = .ok (.aload_n 0, 1) := by decide +kernel
theorem dX5_step_134 : decode cX5_step 134 = .ok (.getfield 15, 3) := by decide +kernel
theorem dX5_step_137 : decode cX5_step 137 = .ok (.aload_n 0, 1) := by decide +kernel
theorem dX5_step_138 : decode cX5_step 138 = .ok (.getfield 38, 3) := by decide +kernel
theorem dX5_step_141 : decode cX5_step 141 = .ok (.baload, 1) := by decide +kernel
theorem dX5_step_142 : decode cX5_step 142 = .ok (.bipush 57, 2) := by decide +kernel
theorem dX5_step_144 : decode cX5_step 144 = .ok (.if_icmp .gt 10, 3) := by decide +kernel
theorem dX5_step_147 : decode cX5_step 147 = .ok (.aload_n 0, 1) := by decide +kernel
theorem dX5_step_148 : decode cX5_step 148 = .ok (.invokevirtual 66, 3) := by decide +kernel
theorem dX5_step_151 : decode cX5_step 151 = .ok (.goto 36, 3) := by decide +kernel
theorem dX5_step_154 : decode cX5_step 154 = .ok (.aload_n 0, 1) := by decide +kernel
theorem dX5_step_155 : decode cX5_step 155 = .ok (.aload_n 0, 1) := by decide +kernel
theorem dX5_step_156 : decode cX5_step 156 = .ok (.getfield 15, 3) := by decide +kernel
theorem dX5_step_159 : decode cX5_step 159 = .ok (.aload_n 0, 1) := by decide +kernel
theorem dX5_step_160 : decode cX5_step 160 = .ok (.getfield 38, 3) := by decide +kernel
theorem dX5_step_163 : decode cX5_step 163 = .ok (.baload, 1) := by decide +kernel
theorem dX5_step_164 : decode cX5_step 164 = .ok (.bipush 59, 2) := by decide +kernel
theorem dX5_step_166 : decode cX5_step 166 = .ok (.if_icmp .ne 7, 3) := by decide +kernel
theorem dX5_step_169 : decode cX5_step 169 = .ok (.iconst 3, 1) := by decide +kernel
theorem dX5_step_170 : decode cX5_step 170 = .ok (.goto 4, 3) := by decide +kernel
theorem dX5_step_173 : decode cX5_step 173 = .ok (.iconst 4, 1) := by decide +kernel
theorem dX5_step_174 : decode cX5_step 174 = .ok (.putfield 47, 3) := by decide +kernel
theorem dX5_step_177 : decode cX5_step 177 = .ok (.aload_n 0, 1) := by decide +kernel
theorem dX5_step_178 : decode cX5_step 178 = .ok (.dup, 1) := by decide +kernel
theorem dX5_step_179 : decode cX5_step 179 = .ok (.getfield 38, 3) := by decide +kernel
theorem dX5_step_182 : decode cX5_step 182 = .ok (.iconst 1, 1) := by decide +kernel
theorem dX5_step_183 : decode cX5_step 183 = .ok (.iadd, 1) := by decide +kernel
theorem dX5_step_184 : decode cX5_step 184 = .ok (.putfield 38, 3) := by decide +kernel
theorem dX5_step_187 : decode cX5_step 187 = .ok (.return_, 1) := by decide +kernel
theorem dX5_takeWord_0 : decode cX5_takeWord 0 = .ok (.bipush 25, 2) := by decide +kernel
theorem dX5_takeWord_2 : decode cX5_takeWord 2 = .ok (.istore_n 1, 1) := by decide +kernel
theorem dX5_takeWord_3 : decode cX5_takeWord 3 = .ok (.aload_n 0, 1) := by decide +kernel
theorem dX5_takeWord_4 : decode cX5_takeWord 4 = .ok (.iconst 1, 1) := by decide +kernel
theorem dX5_takeWord_5 : decode cX5_takeWord 5 = .ok (.putfield 47, 3) := by decide +kernel
theorem dX5_takeWord_8 : decode cX5_takeWord 8 = .ok (.aload_n 0, 1) := by decide +kernel
theorem dX5_takeWord_9 : decode cX5_takeWord 9 = .ok (.getfield 38, 3) := by decide +kernel
theorem dX5_takeWord_12 : decode cX5_takeWord 12 = .ok (.aload_n 0, 1) := by decide +kernel
theorem dX5_takeWord_13 : decode cX5_takeWord 13 = .ok (.getfield 35, 3) := by decide +kernel
theorem dX5_takeWord_16 : decode cX5_takeWord 16 = .ok (.if_icmp .ge 84, 3) := by decide +kernel
theorem dX5_takeWord_19 : decode cX5_takeWord 19 = .ok (.aload_n 0, 1) := by decide +kernel
theorem dX5_takeWord_20 : decode cX5_takeWord 20 = .ok (.getfield 15, 3) := by decide +kernel
theorem dX5_takeWord_23 : decode cX5_takeWord 23 = .ok (.aload_n 0, 1) := by decide +kernel
theorem dX5_takeWord_24 : decode cX5_takeWord 24 = .ok (.getfield 38, 3) := by decide +kernel
theorem dX5_takeWord_27 : decode cX5_takeWord 27 = .ok (.baload, 1) := by decide +kernel
theorem dX5_takeWord_28 : decode cX5_takeWord 28 = .ok (.bipush 97, 2) := by decide +kernel
theorem dX5_takeWord_30 : decode cX5_takeWord 30 = .ok (.if_icmp .lt 70, 3) := by decide +kernel
theorem dX5_takeWord_33 : decode cX5_takeWord 33 = .ok (.aload_n 0, 1) := by decide +kernel
theorem dX5_takeWord_34 : decode cX5_takeWord 34 = .ok (.getfield 15, 3) := by decide +kernel
theorem dX5_takeWord_37 : decode cX5_takeWord 37 = .ok (.aload_n 0, 1) := by decide +kernel
theorem dX5_takeWord_38 : decode cX5_takeWord 38 = .ok (.getfield 38, 3) := by decide +kernel
theorem dX5_takeWord_41 : decode cX5_takeWord 41 = .ok (.baload, 1) := by decide +kernel
theorem dX5_takeWord_42 : decode cX5_takeWord 42 = .ok (.bipush 122, 2) := by decide +kernel
theorem dX5_takeWord_44 : decode cX5_takeWord 44 = .ok (.if_icmp .gt 56, 3) := by decide +kernel
theorem dX5_takeWord_47 : decode cX5_takeWord 47 = .ok (.iload_n 1, 1) := by decide +kernel
theorem dX5_takeWord_48 : decode cX5_takeWord 48 = .ok (.ifCond .ge 11, 3) := by decide +kernel
theorem dX5_takeWord_51 : decode cX5_takeWord 51 = .ok (.aload_n 0, 1) := by decide +kernel
theorem dX5_takeWord_52 : decode cX5_takeWord 52 = .ok (.iconst 4, 1) := by decide +kernel
theorem dX5_takeWord_53 : decode cX5_takeWord 53 = .ok (.putfield 47, 3) := by decide +kernel
theorem dX5_takeWord_56 : decode cX5_takeWord 56 = .ok (.goto 31, 3) := by decide +kernel
theorem dX5_takeWord_59 : decode cX5_takeWord 59 = .ok (.aload_n 0, 1) := by decide +kernel
theorem dX5_takeWord_60 : decode cX5_takeWord 60 = .ok (.dup, 1) := by decide +kernel
theorem dX5_takeWord_61 : decode cX5_takeWord 61 = .ok (.getfield 60, 3) := by decide +kernel
theorem dX5_takeWord_64 : decode cX5_takeWord 64 = .ok (.aload_n 0, 1) := by decide +kernel
theorem dX5_takeWord_65 : decode cX5_takeWord 65 = .ok (.getfield 15, 3) := by decide +kernel
theorem dX5_takeWord_68 : decode cX5_takeWord 68 = .ok (.aload_n 0, 1) := by decide +kernel
theorem dX5_takeWord_69 : decode cX5_takeWord 69 = .ok (.getfield 38, 3) := by decide +kernel
theorem dX5_takeWord_72 : decode cX5_takeWord 72 = .ok (.baload, 1) := by decide +kernel
theorem dX5_takeWord_73 : decode cX5_takeWord 73 = .ok (.bipush 97, 2) := by decide +kernel
theorem dX5_takeWord_75 : decode cX5_takeWord 75 = .ok (.isub, 1) := by decide +kernel
theorem dX5_takeWord_76 : decode cX5_takeWord 76 = .ok (.iconst 1, 1) := by decide +kernel
theorem dX5_takeWord_77 : decode cX5_takeWord 77 = .ok (.iadd, 1) := by decide +kernel
theorem dX5_takeWord_78 : decode cX5_takeWord 78 = .ok (.iload_n 1, 1) := by decide +kernel
theorem dX5_takeWord_79 : decode cX5_takeWord 79 = .ok (.ishl, 1) := by decide +kernel
theorem dX5_takeWord_80 : decode cX5_takeWord 80 = .ok (.ior, 1) := by decide +kernel
theorem dX5_takeWord_81 : decode cX5_takeWord 81 = .ok (.putfield 60, 3) := by decide +kernel
theorem dX5_takeWord_84 : decode cX5_takeWord 84 = .ok (.iinc 1 (-5), 3) := by decide +kernel
theorem dX5_takeWord_87 : decode cX5_takeWord 87 = .ok (.aload_n 0, 1) := by decide +kernel
theorem dX5_takeWord_88 : decode cX5_takeWord 88 = .ok (.dup, 1) := by decide +kernel
theorem dX5_takeWord_89 : decode cX5_takeWord 89 = .ok (.getfield 38, 3) := by decide +kernel
theorem dX5_takeWord_92 : decode cX5_takeWord 92 = .ok (.iconst 1, 1) := by decide +kernel
theorem dX5_takeWord_93 : decode cX5_takeWord 93 = .ok (.iadd, 1) := by decide +kernel
theorem dX5_takeWord_94 : decode cX5_takeWord 94 = .ok (.putfield 38, 3) := by decide +kernel
theorem dX5_takeWord_97 : decode cX5_takeWord 97 = .ok (.goto (-89), 3) := by decide +kernel
theorem dX5_takeWord_100 : decode cX5_takeWord 100 = .ok (.return_, 1) := by decide +kernel
theorem dX5_takeNumber_0 : decode cX5_takeNumber 0 = .ok (.aload_n 0, 1) := by decide +kernel
theorem dX5_takeNumber_1 : decode cX5_takeNumber 1 = .ok (.iconst 2, 1) := by decide +kernel
theorem dX5_takeNumber_2 : decode cX5_takeNumber 2 = .ok (.putfield 47, 3) := by decide +kernel
theorem dX5_takeNumber_5 : decode cX5_takeNumber 5 = .ok (.aload_n 0, 1) := by decide +kernel
theorem dX5_takeNumber_6 : decode cX5_takeNumber 6 = .ok (.getfield 38, 3) := by decide +kernel
theorem dX5_takeNumber_9 : decode cX5_takeNumber 9 = .ok (.aload_n 0, 1) := by decide +kernel
theorem dX5_takeNumber_10 : decode cX5_takeNumber 10 = .ok (.getfield 35, 3) := by decide +kernel
theorem dX5_takeNumber_13 : decode cX5_takeNumber 13 = .ok (.if_icmp .ge 82, 3) := by decide +kernel
theorem dX5_takeNumber_16 : decode cX5_takeNumber 16 = .ok (.aload_n 0, 1) := by decide +kernel
theorem dX5_takeNumber_17 : decode cX5_takeNumber 17 = .ok (.getfield 15, 3) := by decide +kernel
theorem dX5_takeNumber_20 : decode cX5_takeNumber 20 = .ok (.aload_n 0, 1) := by decide +kernel
theorem dX5_takeNumber_21 : decode cX5_takeNumber 21 = .ok (.getfield 38, 3) := by decide +kernel
theorem dX5_takeNumber_24 : decode cX5_takeNumber 24 = .ok (.baload, 1) := by decide +kernel
theorem dX5_takeNumber_25 : decode cX5_takeNumber 25 = .ok (.bipush 48, 2) := by decide +kernel
theorem dX5_takeNumber_27 : decode cX5_takeNumber 27 = .ok (.if_icmp .lt 68, 3) := by decide +kernel
theorem dX5_takeNumber_30 : decode cX5_takeNumber 30 = .ok (.aload_n 0, 1) := by decide +kernel
theorem dX5_takeNumber_31 : decode cX5_takeNumber 31 = .ok (.getfield 15, 3) := by decide +kernel
theorem dX5_takeNumber_34 : decode cX5_takeNumber 34 = .ok (.aload_n 0, 1) := by decide +kernel
theorem dX5_takeNumber_35 : decode cX5_takeNumber 35 = .ok (.getfield 38, 3) := by decide +kernel
theorem dX5_takeNumber_38 : decode cX5_takeNumber 38 = .ok (.baload, 1) := by decide +kernel
theorem dX5_takeNumber_39 : decode cX5_takeNumber 39 = .ok (.bipush 57, 2) := by decide +kernel
theorem dX5_takeNumber_41 : decode cX5_takeNumber 41 = .ok (.if_icmp .gt 54, 3) := by decide +kernel
theorem dX5_takeNumber_44 : decode cX5_takeNumber 44 = .ok (.aload_n 0, 1) := by decide +kernel
theorem dX5_takeNumber_45 : decode cX5_takeNumber 45 = .ok (.aload_n 0, 1) := by decide +kernel
theorem dX5_takeNumber_46 : decode cX5_takeNumber 46 = .ok (.getfield 60, 3) := by decide +kernel
theorem dX5_takeNumber_49 : decode cX5_takeNumber 49 = .ok (.ldc 69, 2) := by decide +kernel
theorem dX5_takeNumber_51 : decode cX5_takeNumber 51 = .ok (.if_icmp .lt 8, 3) := by decide +kernel
theorem dX5_takeNumber_54 : decode cX5_takeNumber 54 = .ok (.ldc 70, 2) := by decide +kernel
theorem dX5_takeNumber_56 : decode cX5_takeNumber 56 = .ok (.goto 23, 3) := by decide +kernel
theorem dX5_takeNumber_59 : decode cX5_takeNumber 59 = .ok (.aload_n 0, 1) := by decide +kernel
theorem dX5_takeNumber_60 : decode cX5_takeNumber 60 = .ok (.getfield 60, 3) := by decide +kernel
theorem dX5_takeNumber_63 : decode cX5_takeNumber 63 = .ok (.bipush 10, 2) := by decide +kernel
theorem dX5_takeNumber_65 : decode cX5_takeNumber 65 = .ok (.imul, 1) := by decide +kernel
theorem dX5_takeNumber_66 : decode cX5_takeNumber 66 = .ok (.aload_n 0, 1) := by decide +kernel
theorem dX5_takeNumber_67 : decode cX5_takeNumber 67 = .ok (.getfield 15, 3) := by decide +kernel
theorem dX5_takeNumber_70 : decode cX5_takeNumber 70 = .ok (.aload_n 0, 1) := by decide +kernel
theorem dX5_takeNumber_71 : decode cX5_takeNumber 71 = .ok (.getfield 38, 3) := by decide +kernel
theorem dX5_takeNumber_74 : decode cX5_takeNumber 74 = .ok (.baload, 1) := by decide +kernel
theorem dX5_takeNumber_75 : decode cX5_takeNumber 75 = .ok (.iadd, 1) := by decide +kernel
theorem dX5_takeNumber_76 : decode cX5_takeNumber 76 = .ok (.bipush 48, 2) := by decide +kernel
theorem dX5_takeNumber_78 : decode cX5_takeNumber 78 = .ok (.isub, 1) := by decide +kernel
theorem dX5_takeNumber_79 : decode cX5_takeNumber 79 = .ok (.putfield 60, 3) := by decide +kernel
theorem dX5_takeNumber_82 : decode cX5_takeNumber 82 = .ok (.aload_n 0, 1) := by decide +kernel
theorem dX5_takeNumber_83 : decode cX5_takeNumber 83 = .ok (.dup, 1) := by decide +kernel
theorem dX5_takeNumber_84 : decode cX5_takeNumber 84 = .ok (.getfield 38, 3) := by decide +kernel
theorem dX5_takeNumber_87 : decode cX5_takeNumber 87 = .ok (.iconst 1, 1) := by decide +kernel
theorem dX5_takeNumber_88 : decode cX5_takeNumber 88 = .ok (.iadd, 1) := by decide +kernel
theorem dX5_takeNumber_89 : decode cX5_takeNumber 89 = .ok (.putfield 38, 3) := by decide +kernel
theorem dX5_takeNumber_92 : decode cX5_takeNumber 92 = .ok (.goto (-87), 3) := by decide +kernel
theorem dX5_takeNumber_95 : decode cX5_takeNumber 95 = .ok (.return_, 1) := by decide +kernel
theorem dX5_wordNumber_0 : decode cX5_wordNumber 0 = .ok (.iconst 0, 1) := by decide +kernel
theorem dX5_wordNumber_1 : decode cX5_wordNumber 1 = .ok (.istore_n 1, 1) := by decide +kernel
theorem dX5_wordNumber_2 : decode cX5_wordNumber 2 = .ok (.iload_n 1, 1) := by decide +kernel
theorem dX5_wordNumber_3 : decode cX5_wordNumber 3 = .ok (.getstatic 71, 3) := by decide +kernel
theorem dX5_wordNumber_6 : decode cX5_wordNumber 6 = .ok (.arraylength, 1) := by decide +kernel
theorem dX5_wordNumber_7 : decode cX5_wordNumber 7 = .ok (.if_icmp .ge 31, 3) := by decide +kernel
theorem dX5_wordNumber_10 : decode cX5_wordNumber 10 = .ok (.aload_n 0, 1) := by decide +kernel
theorem dX5_wordNumber_11 : decode cX5_wordNumber 11 = .ok (.getfield 47, 3) := by decide +kernel
theorem dX5_wordNumber_14 : decode cX5_wordNumber 14 = .ok (.iconst 1, 1) := by decide +kernel
theorem dX5_wordNumber_15 : decode cX5_wordNumber 15 = .ok (.if_icmp .ne 23, 3) := by decide +kernel
theorem dX5_wordNumber_18 : decode cX5_wordNumber 18 = .ok (.getstatic 71, 3) := by decide +kernel
theorem dX5_wordNumber_21 : decode cX5_wordNumber 21 = .ok (.iload_n 1, 1) := by decide +kernel
theorem dX5_wordNumber_22 : decode cX5_wordNumber 22 = .ok (.iaload, 1) := by decide +kernel
theorem dX5_wordNumber_23 : decode cX5_wordNumber 23 = .ok (.aload_n 0, 1) := by decide +kernel
theorem dX5_wordNumber_24 : decode cX5_wordNumber 24 = .ok (.getfield 60, 3) := by decide +kernel
theorem dX5_wordNumber_27 : decode cX5_wordNumber 27 = .ok (.if_icmp .ne 5, 3) := by decide +kernel
theorem dX5_wordNumber_30 : decode cX5_wordNumber 30 = .ok (.iload_n 1, 1) := by decide +kernel
theorem dX5_wordNumber_31 : decode cX5_wordNumber 31 = .ok (.ireturn, 1) := by decide +kernel
theorem dX5_wordNumber_32 : decode cX5_wordNumber 32 = .ok (.iinc 1 1, 3) := by decide +kernel
theorem dX5_wordNumber_35 : decode cX5_wordNumber 35 = .ok (.goto (-33), 3) := by decide +kernel
theorem dX5_wordNumber_38 : decode cX5_wordNumber 38 = .ok (.iconst (-1), 1) := by decide +kernel
theorem dX5_wordNumber_39 : decode cX5_wordNumber 39 = .ok (.ireturn, 1) := by decide +kernel
set_option maxRecDepth 20000 in
theorem ggX5_readLine_X5_wordNumber : GoodIn wsX5_readLine wsX5_wordNumber := goodIn_r _ [7, 8, 2, 9, 125, 126, 127, 128, 129, 130, 131, 132, 133] (by decide +kernel) (by decide +kernel)
set_option maxRecDepth 20000 in
theorem gX5_readLine_X5_wordNumber : GoodIn wsX5_readLine (wsV RX5 75 RX5 yX5_wordNumber wsX5_wordNumber) := goodIn_app (goodIn_of _ (by decide +kernel)) ggX5_readLine_X5_wordNumber
set_option maxRecDepth 20000 in
theorem ggX5_readLine_X5_wrongAt : GoodIn wsX5_readLine wsX5_wrongAt := goodIn_r _ [13, 14, 15, 125, 126, 127, 128, 129, 130, 131, 132, 133] (by decide +kernel) (by decide +kernel)
set_option maxRecDepth 20000 in
theorem gX5_readLine_X5_wrongAt : GoodIn wsX5_readLine (wsV RX5 79 RX5 yX5_wrongAt wsX5_wrongAt) := goodIn_app (goodIn_of _ (by decide +kernel)) ggX5_readLine_X5_wrongAt
set_option maxRecDepth 20000 in
theorem ggX5_readLine_X5_readHand : GoodIn wsX5_readLine wsX5_readHand := goodIn_r _ [19, 20, 21, 1, 9, 10, 11, 12, 6, 13, 14, 15, 22, 23, 24, 25, 2, 26, 27, 28, 29, 30, 31, 32, 33, 34, 35, 36, 37, 38, 39, 40, 41, 42, 3, 4, 5, 7, 8, 43, 44, 45, 46, 47, 48, 49, 50, 51, 52, 53, 125, 126, 127, 128, 129, 130, 131, 132, 133, 134, 135, 136, 137, 138, 139, 140, 141, 142, 143] (by decide +kernel) (by decide +kernel)
set_option maxRecDepth 20000 in
theorem gX5_readLine_X5_readHand : GoodIn wsX5_readLine (wsV RX5 83 RX5 yX5_readHand wsX5_readHand) := goodIn_app (goodIn_of _ (by decide +kernel)) ggX5_readLine_X5_readHand
set_option maxRecDepth 20000 in
theorem ggX5_readLine_X5_readKey : GoodIn wsX5_readLine wsX5_readKey := goodIn_r _ [57, 20, 58, 59, 1, 9, 10, 11, 12, 6, 13, 14, 15, 60, 61, 62, 63, 64, 65, 66, 67, 68, 2, 26, 27, 28, 29, 30, 31, 32, 33, 34, 35, 36, 37, 38, 39, 40, 41, 42, 69, 70, 71, 72, 73, 74, 75, 76, 77, 78, 79, 80, 81, 82, 46, 83, 84, 85, 86, 87, 88, 89, 90, 91, 92, 93, 94, 95, 96, 97, 98, 99, 100, 101, 102, 103, 104, 105, 106, 107, 108, 109, 125, 126, 127, 128, 129, 130, 131, 132, 133, 134, 135, 136, 137, 138, 139, 140, 141, 142, 143, 144, 145, 146, 147, 148, 149, 150, 151] (by decide +kernel) (by decide +kernel)
set_option maxRecDepth 20000 in
theorem gX5_readLine_X5_readKey : GoodIn wsX5_readLine (wsV RX5 86 RX5 yX5_readKey wsX5_readKey) := goodIn_app (goodIn_of _ (by decide +kernel)) ggX5_readLine_X5_readKey
set_option maxRecDepth 20000 in
theorem ggX5_readLine_X5_readStep : GoodIn wsX5_readLine wsX5_readStep := goodIn_r _ [113, 20, 114, 1, 9, 10, 11, 12, 6, 13, 14, 15, 22, 23, 24, 25, 2, 26, 27, 28, 29, 30, 31, 32, 33, 34, 35, 36, 37, 38, 39, 40, 41, 42, 3, 4, 5, 7, 8, 43, 44, 45, 46, 47, 48, 49, 115, 116, 117, 118, 119, 120, 121, 122, 123, 124, 60, 61, 62, 63, 64, 65, 66, 67, 68, 69, 70, 71, 72, 73, 74, 75, 76, 77, 78, 79, 125, 126, 127, 128, 129, 130, 131, 132, 133, 134, 135, 136, 137, 138, 139, 140, 141, 142, 143] (by decide +kernel) (by decide +kernel)
set_option maxRecDepth 20000 in
theorem gX5_readLine_X5_readStep : GoodIn wsX5_readLine (wsV RX5 89 RX5 yX5_readStep wsX5_readStep) := goodIn_app (goodIn_of _ (by decide +kernel)) ggX5_readLine_X5_readStep
set_option maxRecDepth 20000 in
theorem ggX5_readLine_X5_step : GoodIn wsX5_readLine wsX5_step := goodIn_r _ [29, 30, 31, 32, 1, 9, 2, 33, 34, 35, 6, 36, 37, 38, 39, 40, 41, 42, 125, 126, 127, 128, 129, 130, 131, 132, 133] (by decide +kernel) (by decide +kernel)
set_option maxRecDepth 20000 in
theorem gX5_readLine_X5_step : GoodIn wsX5_readLine (wsV RX5 44 RX5 yX5_step wsX5_step) := goodIn_app (goodIn_of _ (by decide +kernel)) ggX5_readLine_X5_step
theorem dX5_readLine_0 : decode cX5_readLine 0 = .ok (.aload_n 0, 1) := by decide +kernel
theorem dX5_readLine_1 : decode cX5_readLine 1 = .ok (.invokevirtual 75, 3) := by decide +kernel
theorem dX5_readLine_4 : decode cX5_readLine 4 = .ok (.istore_n 1, 1) := by decide +kernel
theorem dX5_readLine_5 : decode cX5_readLine 5 = .ok (.iload_n 1, 1) := by decide +kernel
theorem dX5_readLine_6 : decode cX5_readLine 6 = .ok (.iconst (-1), 1) := by decide +kernel
theorem dX5_readLine_7 : decode cX5_readLine 7 = .ok (.if_icmp .ne 13, 3) := by decide +kernel
theorem dX5_readLine_10 : decode cX5_readLine 10 = .ok (.aload_n 0, 1) := by decide +kernel
theorem dX5_readLine_11 : decode cX5_readLine 11 = .ok (.iconst 1, 1) := by decide +kernel
theorem dX5_readLine_12 : decode cX5_readLine 12 = .ok (.aload_n 0, 1) := by decide +kernel
theorem dX5_readLine_13 : decode cX5_readLine 13 = .ok (.getfield 57, 3) := by decide +kernel
theorem dX5_readLine_16 : decode cX5_readLine 16 = .ok (.invokevirtual 79, 3) := by decide +kernel
theorem dX5_readLine_19 : decode cX5_readLine 19 = .ok (.ireturn, 1) := by decide +kernel
theorem dX5_readLine_20 : decode cX5_readLine 20 = .ok (.iload_n 1, 1) := by decide +kernel
theorem dX5_readLine_21 : decode cX5_readLine 21 = .ok (.ifCond .ne 11, 3) := by decide +kernel
theorem dX5_readLine_24 : decode cX5_readLine 24 = .ok (.aload_n 0, 1) := by decide +kernel
theorem dX5_readLine_25 : decode cX5_readLine 25 = .ok (.invokevirtual 83, 3) := by decide +kernel
theorem dX5_readLine_28 : decode cX5_readLine 28 = .ok (.istore_n 2, 1) := by decide +kernel
theorem dX5_readLine_29 : decode cX5_readLine 29 = .ok (.goto 24, 3) := by decide +kernel
theorem dX5_readLine_32 : decode cX5_readLine 32 = .ok (.iload_n 1, 1) := by decide +kernel
theorem dX5_readLine_33 : decode cX5_readLine 33 = .ok (.iconst 1, 1) := by decide +kernel
theorem dX5_readLine_34 : decode cX5_readLine 34 = .ok (.if_icmp .ne 11, 3) := by decide +kernel
theorem dX5_readLine_37 : decode cX5_readLine 37 = .ok (.aload_n 0, 1) := by decide +kernel
theorem dX5_readLine_38 : decode cX5_readLine 38 = .ok (.invokevirtual 86, 3) := by decide +kernel
theorem dX5_readLine_41 : decode cX5_readLine 41 = .ok (.istore_n 2, 1) := by decide +kernel
theorem dX5_readLine_42 : decode cX5_readLine 42 = .ok (.goto 11, 3) := by decide +kernel
theorem dX5_readLine_45 : decode cX5_readLine 45 = .ok (.aload_n 0, 1) := by decide +kernel
theorem dX5_readLine_46 : decode cX5_readLine 46 = .ok (.iload_n 1, 1) := by decide +kernel
theorem dX5_readLine_47 : decode cX5_readLine 47 = .ok (.iconst 2, 1) := by decide +kernel
theorem dX5_readLine_48 : decode cX5_readLine 48 = .ok (.isub, 1) := by decide +kernel
theorem dX5_readLine_49 : decode cX5_readLine 49 = .ok (.invokevirtual 89, 3) := by decide +kernel
theorem dX5_readLine_52 : decode cX5_readLine 52 = .ok (.istore_n 2, 1) := by decide +kernel
theorem dX5_readLine_53 : decode cX5_readLine 53 = .ok (.iload_n 2, 1) := by decide +kernel
theorem dX5_readLine_54 : decode cX5_readLine 54 = .ok (.ifCond .ne 5, 3) := by decide +kernel
theorem dX5_readLine_57 : decode cX5_readLine 57 = .ok (.iconst 0, 1) := by decide +kernel
theorem dX5_readLine_58 : decode cX5_readLine 58 = .ok (.ireturn, 1) := by decide +kernel
theorem dX5_readLine_59 : decode cX5_readLine 59 = .ok (.aload_n 0, 1) := by decide +kernel
theorem dX5_readLine_60 : decode cX5_readLine 60 = .ok (.invokevirtual 44, 3) := by decide +kernel
theorem dX5_readLine_63 : decode cX5_readLine 63 = .ok (.aload_n 0, 1) := by decide +kernel
theorem dX5_readLine_64 : decode cX5_readLine 64 = .ok (.getfield 47, 3) := by decide +kernel
theorem dX5_readLine_67 : decode cX5_readLine 67 = .ok (.iconst 3, 1) := by decide +kernel
theorem dX5_readLine_68 : decode cX5_readLine 68 = .ok (.if_icmp .eq 15, 3) := by decide +kernel
theorem dX5_readLine_71 : decode cX5_readLine 71 = .ok (.aload_n 0, 1) := by decide +kernel
theorem dX5_readLine_72 : decode cX5_readLine 72 = .ok (.iconst 1, 1) := by decide +kernel
theorem dX5_readLine_73 : decode cX5_readLine 73 = .ok (.aload_n 0, 1) := by decide +kernel
theorem dX5_readLine_74 : decode cX5_readLine 74 = .ok (.getfield 57, 3) := by decide +kernel
theorem dX5_readLine_77 : decode cX5_readLine 77 = .ok (.invokevirtual 79, 3) := by decide +kernel
theorem dX5_readLine_80 : decode cX5_readLine 80 = .ok (.ifCond .eq 7, 3) := by decide +kernel
theorem dX5_readLine_83 : decode cX5_readLine 83 = .ok (.iconst 1, 1) := by decide +kernel
theorem dX5_readLine_84 : decode cX5_readLine 84 = .ok (.goto 4, 3) := by decide +kernel
theorem dX5_readLine_87 : decode cX5_readLine 87 = .ok (.iconst 0, 1) := by decide +kernel
theorem dX5_readLine_88 : decode cX5_readLine 88 = .ok (.ireturn, 1) := by decide +kernel
set_option maxRecDepth 20000 in
theorem ggX5_readName_X5_step : GoodIn wsX5_readName wsX5_step := goodIn_r _ [7, 8, 9, 10, 2, 11, 1, 12, 13, 14, 6, 15, 16, 17, 18, 19, 20, 21, 33, 34, 35, 36, 37, 38, 39, 40, 41] (by decide +kernel) (by decide +kernel)
set_option maxRecDepth 20000 in
theorem gX5_readName_X5_step : GoodIn wsX5_readName (wsV RX5 44 RX5 yX5_step wsX5_step) := goodIn_app (goodIn_of _ (by decide +kernel)) ggX5_readName_X5_step
set_option maxRecDepth 20000 in
theorem ggX5_readName_X5_wordNumber : GoodIn wsX5_readName wsX5_wordNumber := goodIn_r _ [25, 26, 1, 11, 33, 34, 35, 36, 37, 38, 39, 40, 41] (by decide +kernel) (by decide +kernel)
set_option maxRecDepth 20000 in
theorem gX5_readName_X5_wordNumber : GoodIn wsX5_readName (wsV RX5 75 RX5 yX5_wordNumber wsX5_wordNumber) := goodIn_app (goodIn_of _ (by decide +kernel)) ggX5_readName_X5_wordNumber
set_option maxRecDepth 20000 in
theorem ggX5_readName_X5_wrongAt : GoodIn wsX5_readName wsX5_wrongAt := goodIn_r _ [30, 31, 32, 33, 34, 35, 36, 37, 38, 39, 40, 41] (by decide +kernel) (by decide +kernel)
set_option maxRecDepth 20000 in
theorem gX5_readName_X5_wrongAt : GoodIn wsX5_readName (wsV RX5 79 RX5 yX5_wrongAt wsX5_wrongAt) := goodIn_app (goodIn_of _ (by decide +kernel)) ggX5_readName_X5_wrongAt
theorem dX5_readName_0 : decode cX5_readName 0 = .ok (.aload_n 0, 1) := by decide +kernel
theorem dX5_readName_1 : decode cX5_readName 1 = .ok (.invokevirtual 44, 3) := by decide +kernel
theorem dX5_readName_4 : decode cX5_readName 4 = .ok (.aload_n 0, 1) := by decide +kernel
theorem dX5_readName_5 : decode cX5_readName 5 = .ok (.getfield 47, 3) := by decide +kernel
theorem dX5_readName_8 : decode cX5_readName 8 = .ok (.iconst 1, 1) := by decide +kernel
theorem dX5_readName_9 : decode cX5_readName 9 = .ok (.if_icmp .ne 11, 3) := by decide +kernel
theorem dX5_readName_12 : decode cX5_readName 12 = .ok (.aload_n 0, 1) := by decide +kernel
theorem dX5_readName_13 : decode cX5_readName 13 = .ok (.invokevirtual 75, 3) := by decide +kernel
theorem dX5_readName_16 : decode cX5_readName 16 = .ok (.iconst (-1), 1) := by decide +kernel
theorem dX5_readName_17 : decode cX5_readName 17 = .ok (.if_icmp .eq 15, 3) := by decide +kernel
theorem dX5_readName_20 : decode cX5_readName 20 = .ok (.aload_n 0, 1) := by decide +kernel
theorem dX5_readName_21 : decode cX5_readName 21 = .ok (.iconst 1, 1) := by decide +kernel
theorem dX5_readName_22 : decode cX5_readName 22 = .ok (.aload_n 0, 1) := by decide +kernel
theorem dX5_readName_23 : decode cX5_readName 23 = .ok (.getfield 57, 3) := by decide +kernel
theorem dX5_readName_26 : decode cX5_readName 26 = .ok (.invokevirtual 79, 3) := by decide +kernel
theorem dX5_readName_29 : decode cX5_readName 29 = .ok (.ifCond .eq 7, 3) := by decide +kernel
theorem dX5_readName_32 : decode cX5_readName 32 = .ok (.iconst 1, 1) := by decide +kernel
theorem dX5_readName_33 : decode cX5_readName 33 = .ok (.goto 4, 3) := by decide +kernel
theorem dX5_readName_36 : decode cX5_readName 36 = .ok (.iconst 0, 1) := by decide +kernel
theorem dX5_readName_37 : decode cX5_readName 37 = .ok (.ireturn, 1) := by decide +kernel
set_option maxRecDepth 20000 in
theorem ggX5_readNumber_X5_step : GoodIn wsX5_readNumber wsX5_step := goodIn_r _ [8, 9, 10, 11, 2, 3, 1, 12, 13, 14, 7, 15, 16, 17, 18, 19, 20, 21, 28, 29, 30, 31, 32, 33, 34, 35, 36] (by decide +kernel) (by decide +kernel)
set_option maxRecDepth 20000 in
theorem gX5_readNumber_X5_step : GoodIn wsX5_readNumber (wsV RX5 44 RX5 yX5_step wsX5_step) := goodIn_app (goodIn_of _ (by decide +kernel)) ggX5_readNumber_X5_step
set_option maxRecDepth 20000 in
theorem ggX5_readNumber_X5_wrongAt : GoodIn wsX5_readNumber wsX5_wrongAt := goodIn_r _ [25, 26, 27, 28, 29, 30, 31, 32, 33, 34, 35, 36] (by decide +kernel) (by decide +kernel)
set_option maxRecDepth 20000 in
theorem gX5_readNumber_X5_wrongAt : GoodIn wsX5_readNumber (wsV RX5 79 RX5 yX5_wrongAt wsX5_wrongAt) := goodIn_app (goodIn_of _ (by decide +kernel)) ggX5_readNumber_X5_wrongAt
theorem dX5_readNumber_0 : decode cX5_readNumber 0 = .ok (.aload_n 0, 1) := by decide +kernel
theorem dX5_readNumber_1 : decode cX5_readNumber 1 = .ok (.invokevirtual 44, 3) := by decide +kernel
theorem dX5_readNumber_4 : decode cX5_readNumber 4 = .ok (.aload_n 0, 1) := by decide +kernel
theorem dX5_readNumber_5 : decode cX5_readNumber 5 = .ok (.getfield 47, 3) := by decide +kernel
theorem dX5_readNumber_8 : decode cX5_readNumber 8 = .ok (.iconst 2, 1) := by decide +kernel
theorem dX5_readNumber_9 : decode cX5_readNumber 9 = .ok (.if_icmp .eq 13, 3) := by decide +kernel
theorem dX5_readNumber_12 : decode cX5_readNumber 12 = .ok (.aload_n 0, 1) := by decide +kernel
theorem dX5_readNumber_13 : decode cX5_readNumber 13 = .ok (.iconst 1, 1) := by decide +kernel
theorem dX5_readNumber_14 : decode cX5_readNumber 14 = .ok (.aload_n 0, 1) := by decide +kernel
theorem dX5_readNumber_15 : decode cX5_readNumber 15 = .ok (.getfield 57, 3) := by decide +kernel
theorem dX5_readNumber_18 : decode cX5_readNumber 18 = .ok (.invokevirtual 79, 3) := by decide +kernel
theorem dX5_readNumber_21 : decode cX5_readNumber 21 = .ok (.ireturn, 1) := by decide +kernel
theorem dX5_readNumber_22 : decode cX5_readNumber 22 = .ok (.aload_n 0, 1) := by decide +kernel
theorem dX5_readNumber_23 : decode cX5_readNumber 23 = .ok (.getfield 60, 3) := by decide +kernel
theorem dX5_readNumber_26 : decode cX5_readNumber 26 = .ok (.iload_n 1, 1) := by decide +kernel
theorem dX5_readNumber_27 : decode cX5_readNumber 27 = .ok (.if_icmp .lt 11, 3) := by decide +kernel
theorem dX5_readNumber_30 : decode cX5_readNumber 30 = .ok (.aload_n 0, 1) := by decide +kernel
theorem dX5_readNumber_31 : decode cX5_readNumber 31 = .ok (.getfield 60, 3) := by decide +kernel
theorem dX5_readNumber_34 : decode cX5_readNumber 34 = .ok (.iload_n 2, 1) := by decide +kernel
theorem dX5_readNumber_35 : decode cX5_readNumber 35 = .ok (.if_icmp .le 15, 3) := by decide +kernel
theorem dX5_readNumber_38 : decode cX5_readNumber 38 = .ok (.aload_n 0, 1) := by decide +kernel
theorem dX5_readNumber_39 : decode cX5_readNumber 39 = .ok (.iconst 2, 1) := by decide +kernel
theorem dX5_readNumber_40 : decode cX5_readNumber 40 = .ok (.aload_n 0, 1) := by decide +kernel
theorem dX5_readNumber_41 : decode cX5_readNumber 41 = .ok (.getfield 57, 3) := by decide +kernel
theorem dX5_readNumber_44 : decode cX5_readNumber 44 = .ok (.invokevirtual 79, 3) := by decide +kernel
theorem dX5_readNumber_47 : decode cX5_readNumber 47 = .ok (.ifCond .eq 7, 3) := by decide +kernel
theorem dX5_readNumber_50 : decode cX5_readNumber 50 = .ok (.iconst 1, 1) := by decide +kernel
theorem dX5_readNumber_51 : decode cX5_readNumber 51 = .ok (.goto 4, 3) := by decide +kernel
theorem dX5_readNumber_54 : decode cX5_readNumber 54 = .ok (.iconst 0, 1) := by decide +kernel
theorem dX5_readNumber_55 : decode cX5_readNumber 55 = .ok (.ireturn, 1) := by decide +kernel
set_option maxRecDepth 20000 in
theorem ggX5_readTwo_X5_readNumber : GoodIn wsX5_readTwo wsX5_readNumber := goodIn_r _ [8, 9, 3, 2, 10, 11, 12, 7, 13, 14, 15, 16, 17, 18, 19, 20, 21, 22, 23, 24, 25, 26, 27, 28, 29, 30, 31, 32, 44, 45, 46, 47, 48, 49, 50, 51, 52] (by decide +kernel) (by decide +kernel)
set_option maxRecDepth 20000 in
theorem gX5_readTwo_X5_readNumber : GoodIn wsX5_readTwo (wsV RX5 94 RX5 yX5_readNumber wsX5_readNumber) := goodIn_app (goodIn_of _ (by decide +kernel)) ggX5_readTwo_X5_readNumber
set_option maxRecDepth 20000 in
theorem ggX5_readTwo_X4_keyBits : GoodIn wsX5_readTwo wsX4_keyBits := goodIn_r _ [36, 37, 38, 39, 35, 40, 41, 42, 43] (by decide +kernel) (by decide +kernel)
set_option maxRecDepth 20000 in
theorem gX5_readTwo_X4_keyBits : GoodIn wsX5_readTwo (va_wsS RX5 97 yX4_keyBits wsX4_keyBits) := goodIn_app (goodIn_of _ (by decide +kernel)) ggX5_readTwo_X4_keyBits
theorem dX5_readTwo_0 : decode cX5_readTwo 0 = .ok (.aload_n 0, 1) := by decide +kernel
theorem dX5_readTwo_1 : decode cX5_readTwo 1 = .ok (.iconst 0, 1) := by decide +kernel
theorem dX5_readTwo_2 : decode cX5_readTwo 2 = .ok (.ldc 93, 2) := by decide +kernel
theorem dX5_readTwo_4 : decode cX5_readTwo 4 = .ok (.invokevirtual 94, 3) := by decide +kernel
theorem dX5_readTwo_7 : decode cX5_readTwo 7 = .ok (.ifCond .ne 5, 3) := by decide +kernel
theorem dX5_readTwo_10 : decode cX5_readTwo 10 = .ok (.iconst 0, 1) := by decide +kernel
theorem dX5_readTwo_11 : decode cX5_readTwo 11 = .ok (.ireturn, 1) := by decide +kernel
theorem dX5_readTwo_12 : decode cX5_readTwo 12 = .ok (.aload_n 0, 1) := by decide +kernel
theorem dX5_readTwo_13 : decode cX5_readTwo 13 = .ok (.getfield 60, 3) := by decide +kernel
theorem dX5_readTwo_16 : decode cX5_readTwo 16 = .ok (.istore_n 1, 1) := by decide +kernel
theorem dX5_readTwo_17 : decode cX5_readTwo 17 = .ok (.aload_n 0, 1) := by decide +kernel
theorem dX5_readTwo_18 : decode cX5_readTwo 18 = .ok (.getfield 57, 3) := by decide +kernel
theorem dX5_readTwo_21 : decode cX5_readTwo 21 = .ok (.istore_n 2, 1) := by decide +kernel
theorem dX5_readTwo_22 : decode cX5_readTwo 22 = .ok (.aload_n 0, 1) := by decide +kernel
theorem dX5_readTwo_23 : decode cX5_readTwo 23 = .ok (.iconst 1, 1) := by decide +kernel
theorem dX5_readTwo_24 : decode cX5_readTwo 24 = .ok (.sipush 9999, 3) := by decide +kernel
theorem dX5_readTwo_27 : decode cX5_readTwo 27 = .ok (.invokevirtual 94, 3) := by decide +kernel
theorem dX5_readTwo_30 : decode cX5_readTwo 30 = .ok (.ifCond .ne 5, 3) := by decide +kernel
theorem dX5_readTwo_33 : decode cX5_readTwo 33 = .ok (.iconst 0, 1) := by decide +kernel
theorem dX5_readTwo_34 : decode cX5_readTwo 34 = .ok (.ireturn, 1) := by decide +kernel
theorem dX5_readTwo_35 : decode cX5_readTwo 35 = .ok (.aload_n 0, 1) := by decide +kernel
theorem dX5_readTwo_36 : decode cX5_readTwo 36 = .ok (.iload_n 1, 1) := by decide +kernel
theorem dX5_readTwo_37 : decode cX5_readTwo 37 = .ok (.aload_n 0, 1) := by decide +kernel
theorem dX5_readTwo_38 : decode cX5_readTwo 38 = .ok (.getfield 60, 3) := by decide +kernel
theorem dX5_readTwo_41 : decode cX5_readTwo 41 = .ok (.invokestatic 97, 3) := by decide +kernel
theorem dX5_readTwo_44 : decode cX5_readTwo 44 = .ok (.putfield 60, 3) := by decide +kernel
theorem dX5_readTwo_47 : decode cX5_readTwo 47 = .ok (.aload_n 0, 1) := by decide +kernel
theorem dX5_readTwo_48 : decode cX5_readTwo 48 = .ok (.iload_n 2, 1) := by decide +kernel
theorem dX5_readTwo_49 : decode cX5_readTwo 49 = .ok (.putfield 57, 3) := by decide +kernel
theorem dX5_readTwo_52 : decode cX5_readTwo 52 = .ok (.iconst 1, 1) := by decide +kernel
theorem dX5_readTwo_53 : decode cX5_readTwo 53 = .ok (.ireturn, 1) := by decide +kernel
set_option maxRecDepth 20000 in
theorem ggX5_readHand_X5_wrongAt : GoodIn wsX5_readHand wsX5_wrongAt := goodIn_r _ [9, 10, 11, 50, 51, 52, 53, 54, 55, 56, 57, 58] (by decide +kernel) (by decide +kernel)
set_option maxRecDepth 20000 in
theorem gX5_readHand_X5_wrongAt : GoodIn wsX5_readHand (wsV RX5 79 RX5 yX5_wrongAt wsX5_wrongAt) := goodIn_app (goodIn_of _ (by decide +kernel)) ggX5_readHand_X5_wrongAt
set_option maxRecDepth 20000 in
theorem ggX5_readHand_X5_readName : GoodIn wsX5_readHand wsX5_readName := goodIn_r _ [15, 16, 3, 17, 18, 19, 8, 20, 21, 22, 23, 4, 24, 25, 26, 27, 28, 29, 30, 31, 32, 33, 34, 35, 36, 37, 38, 5, 6, 7, 9, 10, 11, 50, 51, 52, 53, 54, 55, 56, 57, 58] (by decide +kernel) (by decide +kernel)
set_option maxRecDepth 20000 in
theorem gX5_readHand_X5_readName : GoodIn wsX5_readHand (wsV RX5 105 RX5 yX5_readName wsX5_readName) := goodIn_app (goodIn_of _ (by decide +kernel)) ggX5_readHand_X5_readName
set_option maxRecDepth 20000 in
theorem ggX5_readHand_X6_handNamed : GoodIn wsX5_readHand wsX6_handNamed := goodIn_r _ [43, 44, 45, 59, 60, 61, 62, 63, 64, 65, 66, 67, 68] (by decide +kernel) (by decide +kernel)
set_option maxRecDepth 20000 in
theorem gX5_readHand_X6_handNamed : GoodIn wsX5_readHand (wsV RX5 108 RX6 yX6_handNamed wsX6_handNamed) := goodIn_app (goodIn_of _ (by decide +kernel)) ggX5_readHand_X6_handNamed
set_option maxRecDepth 20000 in
theorem ggX5_readHand_X6_addHand : GoodIn wsX5_readHand wsX6_addHand := goodIn_r _ [49, 44, 45, 59, 60, 61, 62, 63, 64, 65, 66, 67, 68] (by decide +kernel) (by decide +kernel)
set_option maxRecDepth 20000 in
theorem gX5_readHand_X6_addHand : GoodIn wsX5_readHand (wsV RX5 112 RX6 yX6_addHand wsX6_addHand) := goodIn_app (goodIn_of _ (by decide +kernel)) ggX5_readHand_X6_addHand
theorem dX5_readHand_0 : decode cX5_readHand 0 = .ok (.aload_n 0, 1) := by decide +kernel
theorem dX5_readHand_1 : decode cX5_readHand 1 = .ok (.getfield 22, 3) := by decide +kernel
theorem dX5_readHand_4 : decode cX5_readHand 4 = .ok (.getfield 102, 3) := by decide +kernel
theorem dX5_readHand_7 : decode cX5_readHand 7 = .ok (.iconst 5, 1) := by decide +kernel
theorem dX5_readHand_8 : decode cX5_readHand 8 = .ok (.if_icmp .lt 13, 3) := by decide +kernel
theorem dX5_readHand_11 : decode cX5_readHand 11 = .ok (.aload_n 0, 1) := by decide +kernel
theorem dX5_readHand_12 : decode cX5_readHand 12 = .ok (.iconst 2, 1) := by decide +kernel
theorem dX5_readHand_13 : decode cX5_readHand 13 = .ok (.aload_n 0, 1) := by decide +kernel
theorem dX5_readHand_14 : decode cX5_readHand 14 = .ok (.getfield 57, 3) := by decide +kernel
theorem dX5_readHand_17 : decode cX5_readHand 17 = .ok (.invokevirtual 79, 3) := by decide +kernel
theorem dX5_readHand_20 : decode cX5_readHand 20 = .ok (.ireturn, 1) := by decide +kernel
theorem dX5_readHand_21 : decode cX5_readHand 21 = .ok (.aload_n 0, 1) := by decide +kernel
theorem dX5_readHand_22 : decode cX5_readHand 22 = .ok (.invokevirtual 105, 3) := by decide +kernel
theorem dX5_readHand_25 : decode cX5_readHand 25 = .ok (.ifCond .ne 5, 3) := by decide +kernel
theorem dX5_readHand_28 : decode cX5_readHand 28 = .ok (.iconst 0, 1) := by decide +kernel
theorem dX5_readHand_29 : decode cX5_readHand 29 = .ok (.ireturn, 1) := by decide +kernel
theorem dX5_readHand_30 : decode cX5_readHand 30 = .ok (.aload_n 0, 1) := by decide +kernel
theorem dX5_readHand_31 : decode cX5_readHand 31 = .ok (.getfield 22, 3) := by decide +kernel
theorem dX5_readHand_34 : decode cX5_readHand 34 = .ok (.aload_n 0, 1) := by decide +kernel
theorem dX5_readHand_35 : decode cX5_readHand 35 = .ok (.getfield 60, 3) := by decide +kernel
theorem dX5_readHand_38 : decode cX5_readHand 38 = .ok (.invokevirtual 108, 3) := by decide +kernel
theorem dX5_readHand_41 : decode cX5_readHand 41 = .ok (.iconst (-1), 1) := by decide +kernel
theorem dX5_readHand_42 : decode cX5_readHand 42 = .ok (.if_icmp .eq 13, 3) := by decide +kernel
theorem dX5_readHand_45 : decode cX5_readHand 45 = .ok (.aload_n 0, 1) := by decide +kernel
theorem dX5_readHand_46 : decode cX5_readHand 46 = .ok (.iconst 3, 1) := by decide +kernel
theorem dX5_readHand_47 : decode cX5_readHand 47 = .ok (.aload_n 0, 1) := by decide +kernel
theorem dX5_readHand_48 : decode cX5_readHand 48 = .ok (.getfield 57, 3) := by decide +kernel
theorem dX5_readHand_51 : decode cX5_readHand 51 = .ok (.invokevirtual 79, 3) := by decide +kernel
theorem dX5_readHand_54 : decode cX5_readHand 54 = .ok (.ireturn, 1) := by decide +kernel
theorem dX5_readHand_55 : decode cX5_readHand 55 = .ok (.aload_n 0, 1) := by decide +kernel
theorem dX5_readHand_56 : decode cX5_readHand 56 = .ok (.getfield 22, 3) := by decide +kernel
theorem dX5_readHand_59 : decode cX5_readHand 59 = .ok (.aload_n 0, 1) := by decide +kernel
theorem dX5_readHand_60 : decode cX5_readHand 60 = .ok (.getfield 60, 3) := by decide +kernel
theorem dX5_readHand_63 : decode cX5_readHand 63 = .ok (.invokevirtual 112, 3) := by decide +kernel
theorem dX5_readHand_66 : decode cX5_readHand 66 = .ok (.iconst 1, 1) := by decide +kernel
theorem dX5_readHand_67 : decode cX5_readHand 67 = .ok (.ireturn, 1) := by decide +kernel
set_option maxRecDepth 20000 in
theorem ggX5_readKey_X5_wrongAt : GoodIn wsX5_readKey wsX5_wrongAt := goodIn_r _ [10, 11, 12, 82, 83, 84, 85, 86, 87, 88, 89, 90] (by decide +kernel) (by decide +kernel)
set_option maxRecDepth 20000 in
theorem gX5_readKey_X5_wrongAt : GoodIn wsX5_readKey (wsV RX5 79 RX5 yX5_wrongAt wsX5_wrongAt) := goodIn_app (goodIn_of _ (by decide +kernel)) ggX5_readKey_X5_wrongAt
set_option maxRecDepth 20000 in
theorem ggX5_readKey_X5_readTwo : GoodIn wsX5_readKey wsX5_readTwo := goodIn_r _ [16, 17, 5, 4, 18, 19, 20, 9, 21, 22, 23, 24, 25, 26, 27, 28, 29, 30, 31, 32, 33, 34, 35, 36, 37, 38, 39, 6, 7, 8, 10, 11, 12, 40, 41, 42, 43, 44, 45, 46, 47, 48, 49, 50, 82, 83, 84, 85, 86, 87, 88, 89, 90] (by decide +kernel) (by decide +kernel)
set_option maxRecDepth 20000 in
theorem gX5_readKey_X5_readTwo : GoodIn wsX5_readKey (wsV RX5 125 RX5 yX5_readTwo wsX5_readTwo) := goodIn_app (goodIn_of _ (by decide +kernel)) ggX5_readKey_X5_readTwo
set_option maxRecDepth 20000 in
theorem ggX5_readKey_X6_tellsKey : GoodIn wsX5_readKey wsX6_tellsKey := goodIn_r _ [55, 56, 57, 58, 59, 60, 61, 62, 63, 64, 65, 66, 67, 91, 92, 93, 94, 95, 96, 97, 98, 99, 100, 101, 102, 103, 104, 105, 106, 107, 108] (by decide +kernel) (by decide +kernel)
set_option maxRecDepth 20000 in
theorem gX5_readKey_X6_tellsKey : GoodIn wsX5_readKey (wsV RX5 128 RX6 yX6_tellsKey wsX6_tellsKey) := goodIn_app (goodIn_of _ (by decide +kernel)) ggX5_readKey_X6_tellsKey
set_option maxRecDepth 20000 in
theorem ggX5_readKey_X5_readNumber : GoodIn wsX5_readKey wsX5_readNumber := goodIn_r _ [21, 22, 4, 5, 23, 24, 25, 9, 26, 27, 28, 29, 30, 31, 32, 33, 34, 35, 36, 37, 38, 39, 6, 7, 8, 10, 11, 12, 82, 83, 84, 85, 86, 87, 88, 89, 90] (by decide +kernel) (by decide +kernel)
set_option maxRecDepth 20000 in
theorem gX5_readKey_X5_readNumber : GoodIn wsX5_readKey (wsV RX5 94 RX5 yX5_readNumber wsX5_readNumber) := goodIn_app (goodIn_of _ (by decide +kernel)) ggX5_readKey_X5_readNumber
set_option maxRecDepth 20000 in
theorem ggX5_readKey_X6_addKey : GoodIn wsX5_readKey wsX6_addKey := goodIn_r _ [71, 56, 57, 58, 59, 60, 61, 62, 63, 72, 73, 74, 75, 76, 77, 78, 79, 80, 81, 91, 92, 93, 94, 95, 96, 97, 98, 99, 100, 101, 102, 103, 104, 105, 106, 107, 108] (by decide +kernel) (by decide +kernel)
set_option maxRecDepth 20000 in
theorem gX5_readKey_X6_addKey : GoodIn wsX5_readKey (wsV RX5 131 RX6 yX6_addKey wsX6_addKey) := goodIn_app (goodIn_of _ (by decide +kernel)) ggX5_readKey_X6_addKey
theorem dX5_readKey_0 : decode cX5_readKey 0 = .ok (.aload_n 0, 1) := by decide +kernel
theorem dX5_readKey_1 : decode cX5_readKey 1 = .ok (.getfield 22, 3) := by decide +kernel
theorem dX5_readKey_4 : decode cX5_readKey 4 = .ok (.getfield 116, 3) := by decide +kernel
theorem dX5_readKey_7 : decode cX5_readKey 7 = .ok (.getfield 120, 3) := by decide +kernel
theorem dX5_readKey_10 : decode cX5_readKey 10 = .ok (.bipush 16, 2) := by decide +kernel
theorem dX5_readKey_12 : decode cX5_readKey 12 = .ok (.if_icmp .lt 13, 3) := by decide +kernel
theorem dX5_readKey_15 : decode cX5_readKey 15 = .ok (.aload_n 0, 1) := by decide +kernel
theorem dX5_readKey_16 : decode cX5_readKey 16 = .ok (.iconst 2, 1) := by decide +kernel
theorem dX5_readKey_17 : decode cX5_readKey 17 = .ok (.aload_n 0, 1) := by decide +kernel
theorem dX5_readKey_18 : decode cX5_readKey 18 = .ok (.getfield 57, 3) := by decide +kernel
theorem dX5_readKey_21 : decode cX5_readKey 21 = .ok (.invokevirtual 79, 3) := by decide +kernel
theorem dX5_readKey_24 : decode cX5_readKey 24 = .ok (.ireturn, 1) := by decide +kernel
theorem dX5_readKey_25 : decode cX5_readKey 25 = .ok (.aload_n 0, 1) := by decide +kernel
theorem dX5_readKey_26 : decode cX5_readKey 26 = .ok (.invokevirtual 125, 3) := by decide +kernel
theorem dX5_readKey_29 : decode cX5_readKey 29 = .ok (.ifCond .ne 5, 3) := by decide +kernel
theorem dX5_readKey_32 : decode cX5_readKey 32 = .ok (.iconst 0, 1) := by decide +kernel
theorem dX5_readKey_33 : decode cX5_readKey 33 = .ok (.ireturn, 1) := by decide +kernel
theorem dX5_readKey_34 : decode cX5_readKey 34 = .ok (.aload_n 0, 1) := by decide +kernel
theorem dX5_readKey_35 : decode cX5_readKey 35 = .ok (.getfield 60, 3) := by decide +kernel
theorem dX5_readKey_38 : decode cX5_readKey 38 = .ok (.istore_n 1, 1) := by decide +kernel
theorem dX5_readKey_39 : decode cX5_readKey 39 = .ok (.aload_n 0, 1) := by decide +kernel
theorem dX5_readKey_40 : decode cX5_readKey 40 = .ok (.getfield 22, 3) := by decide +kernel
theorem dX5_readKey_43 : decode cX5_readKey 43 = .ok (.iload_n 1, 1) := by decide +kernel
theorem dX5_readKey_44 : decode cX5_readKey 44 = .ok (.invokevirtual 128, 3) := by decide +kernel
theorem dX5_readKey_47 : decode cX5_readKey 47 = .ok (.ifCond .eq 13, 3) := by decide +kernel
theorem dX5_readKey_50 : decode cX5_readKey 50 = .ok (.aload_n 0, 1) := by decide +kernel
theorem dX5_readKey_51 : decode cX5_readKey 51 = .ok (.iconst 3, 1) := by decide +kernel
theorem dX5_readKey_52 : decode cX5_readKey 52 = .ok (.aload_n 0, 1) := by decide +kernel
theorem dX5_readKey_53 : decode cX5_readKey 53 = .ok (.getfield 57, 3) := by decide +kernel
theorem dX5_readKey_56 : decode cX5_readKey 56 = .ok (.invokevirtual 79, 3) := by decide +kernel
theorem dX5_readKey_59 : decode cX5_readKey 59 = .ok (.ireturn, 1) := by decide +kernel
theorem dX5_readKey_60 : decode cX5_readKey 60 = .ok (.aload_n 0, 1) := by decide +kernel
theorem dX5_readKey_61 : decode cX5_readKey 61 = .ok (.iconst 0, 1) := by decide +kernel
theorem dX5_readKey_62 : decode cX5_readKey 62 = .ok (.sipush 9999, 3) := by decide +kernel
theorem dX5_readKey_65 : decode cX5_readKey 65 = .ok (.invokevirtual 94, 3) := by decide +kernel
theorem dX5_readKey_68 : decode cX5_readKey 68 = .ok (.ifCond .ne 5, 3) := by decide +kernel
theorem dX5_readKey_71 : decode cX5_readKey 71 = .ok (.iconst 0, 1) := by decide +kernel
theorem dX5_readKey_72 : decode cX5_readKey 72 = .ok (.ireturn, 1) := by decide +kernel
theorem dX5_readKey_73 : decode cX5_readKey 73 = .ok (.aload_n 0, 1) := by decide +kernel
theorem dX5_readKey_74 : decode cX5_readKey 74 = .ok (.getfield 22, 3) := by decide +kernel
theorem dX5_readKey_77 : decode cX5_readKey 77 = .ok (.iload_n 1, 1) := by decide +kernel
theorem dX5_readKey_78 : decode cX5_readKey 78 = .ok (.aload_n 0, 1) := by decide +kernel
theorem dX5_readKey_79 : decode cX5_readKey 79 = .ok (.getfield 60, 3) := by decide +kernel
theorem dX5_readKey_82 : decode cX5_readKey 82 = .ok (.invokevirtual 131, 3) := by decide +kernel
theorem dX5_readKey_85 : decode cX5_readKey 85 = .ok (.iconst 1, 1) := by decide +kernel
theorem dX5_readKey_86 : decode cX5_readKey 86 = .ok (.ireturn, 1) := by decide +kernel
set_option maxRecDepth 20000 in
theorem ggX5_readStep_X5_wrongAt : GoodIn wsX5_readStep wsX5_wrongAt := goodIn_r _ [9, 10, 11, 76, 77, 78, 79, 80, 81, 82, 83, 84] (by decide +kernel) (by decide +kernel)
set_option maxRecDepth 20000 in
theorem gX5_readStep_X5_wrongAt : GoodIn wsX5_readStep (wsV RX5 79 RX5 yX5_wrongAt wsX5_wrongAt) := goodIn_app (goodIn_of _ (by decide +kernel)) ggX5_readStep_X5_wrongAt
set_option maxRecDepth 20000 in
theorem ggX5_readStep_X5_readName : GoodIn wsX5_readStep wsX5_readName := goodIn_r _ [15, 16, 3, 17, 18, 19, 8, 20, 21, 22, 23, 4, 24, 25, 26, 27, 28, 29, 30, 31, 32, 33, 34, 35, 36, 37, 38, 5, 6, 7, 9, 10, 11, 76, 77, 78, 79, 80, 81, 82, 83, 84] (by decide +kernel) (by decide +kernel)
set_option maxRecDepth 20000 in
theorem gX5_readStep_X5_readName : GoodIn wsX5_readStep (wsV RX5 105 RX5 yX5_readName wsX5_readName) := goodIn_app (goodIn_of _ (by decide +kernel)) ggX5_readStep_X5_readName
set_option maxRecDepth 20000 in
theorem ggX5_readStep_X6_handNamed : GoodIn wsX5_readStep wsX6_handNamed := goodIn_r _ [43, 44, 45, 85, 86, 87, 88, 89, 90, 91, 92, 93, 94] (by decide +kernel) (by decide +kernel)
set_option maxRecDepth 20000 in
theorem gX5_readStep_X6_handNamed : GoodIn wsX5_readStep (wsV RX5 108 RX6 yX6_handNamed wsX6_handNamed) := goodIn_app (goodIn_of _ (by decide +kernel)) ggX5_readStep_X6_handNamed
set_option maxRecDepth 20000 in
theorem ggX5_readStep_X6_addStep : GoodIn wsX5_readStep wsX6_addStep := goodIn_r _ [49, 50, 51, 52, 53, 54, 55, 85, 86, 87, 88, 89, 90, 91, 92, 93, 94] (by decide +kernel) (by decide +kernel)
set_option maxRecDepth 20000 in
theorem gX5_readStep_X6_addStep : GoodIn wsX5_readStep (wsV RX5 138 RX6 yX6_addStep wsX6_addStep) := goodIn_app (goodIn_of _ (by decide +kernel)) ggX5_readStep_X6_addStep
set_option maxRecDepth 20000 in
theorem ggX5_readStep_X5_readTwo : GoodIn wsX5_readStep wsX5_readTwo := goodIn_r _ [59, 60, 4, 3, 61, 62, 63, 8, 64, 16, 17, 18, 19, 20, 21, 22, 23, 24, 25, 26, 27, 28, 29, 30, 31, 32, 33, 5, 6, 7, 9, 10, 11, 65, 66, 67, 68, 69, 70, 71, 72, 73, 74, 75, 76, 77, 78, 79, 80, 81, 82, 83, 84] (by decide +kernel) (by decide +kernel)
set_option maxRecDepth 20000 in
theorem gX5_readStep_X5_readTwo : GoodIn wsX5_readStep (wsV RX5 125 RX5 yX5_readTwo wsX5_readTwo) := goodIn_app (goodIn_of _ (by decide +kernel)) ggX5_readStep_X5_readTwo
set_option maxRecDepth 20000 in
theorem ggX5_readStep_X5_readNumber : GoodIn wsX5_readStep wsX5_readNumber := goodIn_r _ [64, 16, 3, 4, 17, 18, 19, 8, 20, 21, 22, 23, 24, 25, 26, 27, 28, 29, 30, 31, 32, 33, 5, 6, 7, 9, 10, 11, 76, 77, 78, 79, 80, 81, 82, 83, 84] (by decide +kernel) (by decide +kernel)
set_option maxRecDepth 20000 in
theorem gX5_readStep_X5_readNumber : GoodIn wsX5_readStep (wsV RX5 94 RX5 yX5_readNumber wsX5_readNumber) := goodIn_app (goodIn_of _ (by decide +kernel)) ggX5_readStep_X5_readNumber
theorem dX5_readStep_0 : decode cX5_readStep 0 = .ok (.aload_n 0, 1) := by decide +kernel
theorem dX5_readStep_1 : decode cX5_readStep 1 = .ok (.getfield 22, 3) := by decide +kernel
theorem dX5_readStep_4 : decode cX5_readStep 4 = .ok (.getfield 135, 3) := by decide +kernel
theorem dX5_readStep_7 : decode cX5_readStep 7 = .ok (.bipush 24, 2) := by decide +kernel
theorem dX5_readStep_9 : decode cX5_readStep 9 = .ok (.if_icmp .lt 13, 3) := by decide +kernel
theorem dX5_readStep_12 : decode cX5_readStep 12 = .ok (.aload_n 0, 1) := by decide +kernel
theorem dX5_readStep_13 : decode cX5_readStep 13 = .ok (.iconst 2, 1) := by decide +kernel
theorem dX5_readStep_14 : decode cX5_readStep 14 = .ok (.aload_n 0, 1) := by decide +kernel
theorem dX5_readStep_15 : decode cX5_readStep 15 = .ok (.getfield 57, 3) := by decide +kernel
theorem dX5_readStep_18 : decode cX5_readStep 18 = .ok (.invokevirtual 79, 3) := by decide +kernel
theorem dX5_readStep_21 : decode cX5_readStep 21 = .ok (.ireturn, 1) := by decide +kernel
theorem dX5_readStep_22 : decode cX5_readStep 22 = .ok (.aload_n 0, 1) := by decide +kernel
theorem dX5_readStep_23 : decode cX5_readStep 23 = .ok (.invokevirtual 105, 3) := by decide +kernel
theorem dX5_readStep_26 : decode cX5_readStep 26 = .ok (.ifCond .ne 5, 3) := by decide +kernel
theorem dX5_readStep_29 : decode cX5_readStep 29 = .ok (.iconst 0, 1) := by decide +kernel
theorem dX5_readStep_30 : decode cX5_readStep 30 = .ok (.ireturn, 1) := by decide +kernel
theorem dX5_readStep_31 : decode cX5_readStep 31 = .ok (.aload_n 0, 1) := by decide +kernel
theorem dX5_readStep_32 : decode cX5_readStep 32 = .ok (.getfield 22, 3) := by decide +kernel
theorem dX5_readStep_35 : decode cX5_readStep 35 = .ok (.aload_n 0, 1) := by decide +kernel
theorem dX5_readStep_36 : decode cX5_readStep 36 = .ok (.getfield 60, 3) := by decide +kernel
theorem dX5_readStep_39 : decode cX5_readStep 39 = .ok (.invokevirtual 108, 3) := by decide +kernel
theorem dX5_readStep_42 : decode cX5_readStep 42 = .ok (.istore_n 2, 1) := by decide +kernel
theorem dX5_readStep_43 : decode cX5_readStep 43 = .ok (.iload_n 2, 1) := by decide +kernel
theorem dX5_readStep_44 : decode cX5_readStep 44 = .ok (.iconst (-1), 1) := by decide +kernel
theorem dX5_readStep_45 : decode cX5_readStep 45 = .ok (.if_icmp .ne 13, 3) := by decide +kernel
theorem dX5_readStep_48 : decode cX5_readStep 48 = .ok (.aload_n 0, 1) := by decide +kernel
theorem dX5_readStep_49 : decode cX5_readStep 49 = .ok (.iconst 4, 1) := by decide +kernel
theorem dX5_readStep_50 : decode cX5_readStep 50 = .ok (.aload_n 0, 1) := by decide +kernel
theorem dX5_readStep_51 : decode cX5_readStep 51 = .ok (.getfield 57, 3) := by decide +kernel
theorem dX5_readStep_54 : decode cX5_readStep 54 = .ok (.invokevirtual 79, 3) := by decide +kernel
theorem dX5_readStep_57 : decode cX5_readStep 57 = .ok (.ireturn, 1) := by decide +kernel
theorem dX5_readStep_58 : decode cX5_readStep 58 = .ok (.iload_n 1, 1) := by decide +kernel
theorem dX5_readStep_59 : decode cX5_readStep 59 = .ok (.ifCond .eq 15, 3) := by decide +kernel
theorem dX5_readStep_62 : decode cX5_readStep 62 = .ok (.iload_n 1, 1) := by decide +kernel
theorem dX5_readStep_63 : decode cX5_readStep 63 = .ok (.bipush 7, 2) := by decide +kernel
theorem dX5_readStep_65 : decode cX5_readStep 65 = .ok (.if_icmp .eq 9, 3) := by decide +kernel
theorem dX5_readStep_68 : decode cX5_readStep 68 = .ok (.iload_n 1, 1) := by decide +kernel
theorem dX5_readStep_69 : decode cX5_readStep 69 = .ok (.bipush 8, 2) := by decide +kernel
theorem dX5_readStep_71 : decode cX5_readStep 71 = .ok (.if_icmp .ne 17, 3) := by decide +kernel
theorem dX5_readStep_74 : decode cX5_readStep 74 = .ok (.aload_n 0, 1) := by decide +kernel
theorem dX5_readStep_75 : decode cX5_readStep 75 = .ok (.getfield 22, 3) := by decide +kernel
theorem dX5_readStep_78 : decode cX5_readStep 78 = .ok (.iload_n 1, 1) := by decide +kernel
theorem dX5_readStep_79 : decode cX5_readStep 79 = .ok (.iload_n 2, 1) := by decide +kernel
theorem dX5_readStep_80 : decode cX5_readStep 80 = .ok (.iconst 0, 1) := by decide +kernel
theorem dX5_readStep_81 : decode cX5_readStep 81 = .ok (.iconst 0, 1) := by decide +kernel
theorem dX5_readStep_82 : decode cX5_readStep 82 = .ok (.iconst 0, 1) := by decide +kernel
theorem dX5_readStep_83 : decode cX5_readStep 83 = .ok (.invokevirtual 138, 3) := by decide +kernel
theorem dX5_readStep_86 : decode cX5_readStep 86 = .ok (.iconst 1, 1) := by decide +kernel
theorem dX5_readStep_87 : decode cX5_readStep 87 = .ok (.ireturn, 1) := by decide +kernel
theorem dX5_readStep_88 : decode cX5_readStep 88 = .ok (.aload_n 0, 1) := by decide +kernel
theorem dX5_readStep_89 : decode cX5_readStep 89 = .ok (.invokevirtual 125, 3) := by decide +kernel
theorem dX5_readStep_92 : decode cX5_readStep 92 = .ok (.ifCond .ne 5, 3) := by decide +kernel
theorem dX5_readStep_95 : decode cX5_readStep 95 = .ok (.iconst 0, 1) := by decide +kernel
theorem dX5_readStep_96 : decode cX5_readStep 96 = .ok (.ireturn, 1) := by decide +kernel
theorem dX5_readStep_97 : decode cX5_readStep 97 = .ok (.aload_n 0, 1) := by decide +kernel
theorem dX5_readStep_98 : decode cX5_readStep 98 = .ok (.getfield 60, 3) := by decide +kernel
theorem dX5_readStep_101 : decode cX5_readStep 101 = .ok (.istore_n 3, 1) := by decide +kernel
theorem dX5_readStep_102 : decode cX5_readStep 102 = .ok (.iload_n 3, 1) := by decide +kernel
theorem dX5_readStep_103 : decode cX5_readStep 103 = .ok (.istore 4, 2) := by decide +kernel
theorem dX5_readStep_105 : decode cX5_readStep 105 = .ok (.iload_n 1, 1) := by decide +kernel
theorem dX5_readStep_106 : decode cX5_readStep 106 = .ok (.iconst 1, 1) := by decide +kernel
theorem dX5_readStep_107 : decode cX5_readStep 107 = .ok (.if_icmp .ne 34, 3) := by decide +kernel
theorem dX5_readStep_110 : decode cX5_readStep 110 = .ok (.aload_n 0, 1) := by decide +kernel
theorem dX5_readStep_111 : decode cX5_readStep 111 = .ok (.invokevirtual 125, 3) := by decide +kernel
theorem dX5_readStep_114 : decode cX5_readStep 114 = .ok (.ifCond .ne 5, 3) := by decide +kernel
theorem dX5_readStep_117 : decode cX5_readStep 117 = .ok (.iconst 0, 1) := by decide +kernel
theorem dX5_readStep_118 : decode cX5_readStep 118 = .ok (.ireturn, 1) := by decide +kernel
theorem dX5_readStep_119 : decode cX5_readStep 119 = .ok (.aload_n 0, 1) := by decide +kernel
theorem dX5_readStep_120 : decode cX5_readStep 120 = .ok (.getfield 60, 3) := by decide +kernel
theorem dX5_readStep_123 : decode cX5_readStep 123 = .ok (.istore 4, 2) := by decide +kernel
theorem dX5_readStep_125 : decode cX5_readStep 125 = .ok (.iload_n 3, 1) := by decide +kernel
theorem dX5_readStep_126 : decode cX5_readStep 126 = .ok (.iload 4, 2) := by decide +kernel
theorem dX5_readStep_128 : decode cX5_readStep 128 = .ok (.if_icmp .le 13, 3) := by decide +kernel
theorem dX5_readStep_131 : decode cX5_readStep 131 = .ok (.aload_n 0, 1) := by decide +kernel
theorem dX5_readStep_132 : decode cX5_readStep 132 = .ok (.iconst 5, 1) := by decide +kernel
theorem dX5_readStep_133 : decode cX5_readStep 133 = .ok (.aload_n 0, 1) := by decide +kernel
theorem dX5_readStep_134 : decode cX5_readStep 134 = .ok (.getfield 57, 3) := by decide +kernel
theorem dX5_readStep_137 : decode cX5_readStep 137 = .ok (.invokevirtual 79, 3) := by decide +kernel
theorem dX5_readStep_140 : decode cX5_readStep 140 = .ok (.ireturn, 1) := by decide +kernel
theorem dX5_readStep_141 : decode cX5_readStep 141 = .ok (.iload_n 1, 1) := by decide +kernel
theorem dX5_readStep_142 : decode cX5_readStep 142 = .ok (.iconst 4, 1) := by decide +kernel
theorem dX5_readStep_143 : decode cX5_readStep 143 = .ok (.if_icmp .eq 8, 3) := by decide +kernel
theorem dX5_readStep_146 : decode cX5_readStep 146 = .ok (.iload_n 1, 1) := by decide +kernel
theorem dX5_readStep_147 : decode cX5_readStep 147 = .ok (.iconst 5, 1) := by decide +kernel
theorem dX5_readStep_148 : decode cX5_readStep 148 = .ok (.if_icmp .ne 7, 3) := by decide +kernel
theorem dX5_readStep_151 : decode cX5_readStep 151 = .ok (.iconst 1, 1) := by decide +kernel
theorem dX5_readStep_152 : decode cX5_readStep 152 = .ok (.goto 4, 3) := by decide +kernel
theorem dX5_readStep_155 : decode cX5_readStep 155 = .ok (.iconst 0, 1) := by decide +kernel
theorem dX5_readStep_156 : decode cX5_readStep 156 = .ok (.istore 5, 2) := by decide +kernel
theorem dX5_readStep_158 : decode cX5_readStep 158 = .ok (.iload 5, 2) := by decide +kernel
theorem dX5_readStep_160 : decode cX5_readStep 160 = .ok (.ifCond .eq 16, 3) := by decide +kernel
theorem dX5_readStep_163 : decode cX5_readStep 163 = .ok (.aload_n 0, 1) := by decide +kernel
theorem dX5_readStep_164 : decode cX5_readStep 164 = .ok (.iconst 0, 1) := by decide +kernel
theorem dX5_readStep_165 : decode cX5_readStep 165 = .ok (.sipush 9999, 3) := by decide +kernel
theorem dX5_readStep_168 : decode cX5_readStep 168 = .ok (.invokevirtual 94, 3) := by decide +kernel
theorem dX5_readStep_171 : decode cX5_readStep 171 = .ok (.ifCond .ne 5, 3) := by decide +kernel
theorem dX5_readStep_174 : decode cX5_readStep 174 = .ok (.iconst 0, 1) := by decide +kernel
theorem dX5_readStep_175 : decode cX5_readStep 175 = .ok (.ireturn, 1) := by decide +kernel
theorem dX5_readStep_176 : decode cX5_readStep 176 = .ok (.aload_n 0, 1) := by decide +kernel
theorem dX5_readStep_177 : decode cX5_readStep 177 = .ok (.getfield 22, 3) := by decide +kernel
theorem dX5_readStep_180 : decode cX5_readStep 180 = .ok (.iload_n 1, 1) := by decide +kernel
theorem dX5_readStep_181 : decode cX5_readStep 181 = .ok (.iload_n 2, 1) := by decide +kernel
theorem dX5_readStep_182 : decode cX5_readStep 182 = .ok (.iload_n 3, 1) := by decide +kernel
theorem dX5_readStep_183 : decode cX5_readStep 183 = .ok (.iload 4, 2) := by decide +kernel
theorem dX5_readStep_185 : decode cX5_readStep 185 = .ok (.iload 5, 2) := by decide +kernel
theorem dX5_readStep_187 : decode cX5_readStep 187 = .ok (.ifCond .eq 10, 3) := by decide +kernel
theorem dX5_readStep_190 : decode cX5_readStep 190 = .ok (.aload_n 0, 1) := by decide +kernel
theorem dX5_readStep_191 : decode cX5_readStep 191 = .ok (.getfield 60, 3) := by decide +kernel
theorem dX5_readStep_194 : decode cX5_readStep 194 = .ok (.goto 4, 3) := by decide +kernel
theorem dX5_readStep_197 : decode cX5_readStep 197 = .ok (.iconst 0, 1) := by decide +kernel
theorem dX5_readStep_198 : decode cX5_readStep 198 = .ok (.invokevirtual 138, 3) := by decide +kernel
theorem dX5_readStep_201 : decode cX5_readStep 201 = .ok (.iconst 1, 1) := by decide +kernel
theorem dX5_readStep_202 : decode cX5_readStep 202 = .ok (.ireturn, 1) := by decide +kernel
set_option maxRecDepth 20000 in
theorem ggX6_init_X7_init : GoodIn wsX6_init wsX7_init := goodIn_r _ [16, 17, 2, 3, 8, 18, 19, 20, 21, 22, 23, 24, 25, 26, 27, 28, 29, 30, 31, 32] (by decide +kernel) (by decide +kernel)
set_option maxRecDepth 20000 in
theorem gX6_init_X7_init_n11 : GoodIn wsX6_init (wsX7_init) := ggX6_init_X7_init
theorem dX6_init_0 : decode cX6_init 0 = .ok (.aload_n 0, 1) := by decide +kernel
theorem dX6_init_1 : decode cX6_init 1 = .ok (.invokespecial 3, 3) := by decide +kernel
theorem dX6_init_4 : decode cX6_init 4 = .ok (.aload_n 0, 1) := by decide +kernel
theorem dX6_init_5 : decode cX6_init 5 = .ok (.new 9, 3) := by decide +kernel
theorem dX6_init_8 : decode cX6_init 8 = .ok (.dup, 1) := by decide +kernel
theorem dX6_init_9 : decode cX6_init 9 = .ok (.invokespecial 11, 3) := by decide +kernel
theorem dX6_init_12 : decode cX6_init 12 = .ok (.putfield 12, 3) := by decide +kernel
theorem dX6_init_15 : decode cX6_init 15 = .ok (.aload_n 0, 1) := by decide +kernel
theorem dX6_init_16 : decode cX6_init 16 = .ok (.iconst 5, 1) := by decide +kernel
theorem dX6_init_17 : decode cX6_init 17 = .ok (.newarray .int, 2) := by decide +kernel
theorem dX6_init_19 : decode cX6_init 19 = .ok (.putfield 18, 3) := by decide +kernel
theorem dX6_init_22 : decode cX6_init 22 = .ok (.aload_n 0, 1) := by decide +kernel
theorem dX6_init_23 : decode cX6_init 23 = .ok (.bipush 24, 2) := by decide +kernel
theorem dX6_init_25 : decode cX6_init 25 = .ok (.newarray .int, 2) := by decide +kernel
theorem dX6_init_27 : decode cX6_init 27 = .ok (.putfield 22, 3) := by decide +kernel
theorem dX6_init_30 : decode cX6_init 30 = .ok (.aload_n 0, 1) := by decide +kernel
theorem dX6_init_31 : decode cX6_init 31 = .ok (.bipush 24, 2) := by decide +kernel
theorem dX6_init_33 : decode cX6_init 33 = .ok (.newarray .int, 2) := by decide +kernel
theorem dX6_init_35 : decode cX6_init 35 = .ok (.putfield 25, 3) := by decide +kernel
theorem dX6_init_38 : decode cX6_init 38 = .ok (.aload_n 0, 1) := by decide +kernel
theorem dX6_init_39 : decode cX6_init 39 = .ok (.bipush 24, 2) := by decide +kernel
theorem dX6_init_41 : decode cX6_init 41 = .ok (.newarray .int, 2) := by decide +kernel
theorem dX6_init_43 : decode cX6_init 43 = .ok (.putfield 28, 3) := by decide +kernel
theorem dX6_init_46 : decode cX6_init 46 = .ok (.aload_n 0, 1) := by decide +kernel
theorem dX6_init_47 : decode cX6_init 47 = .ok (.bipush 24, 2) := by decide +kernel
theorem dX6_init_49 : decode cX6_init 49 = .ok (.newarray .int, 2) := by decide +kernel
theorem dX6_init_51 : decode cX6_init 51 = .ok (.putfield 31, 3) := by decide +kernel
theorem dX6_init_54 : decode cX6_init 54 = .ok (.aload_n 0, 1) := by decide +kernel
theorem dX6_init_55 : decode cX6_init 55 = .ok (.bipush 24, 2) := by decide +kernel
theorem dX6_init_57 : decode cX6_init 57 = .ok (.newarray .int, 2) := by decide +kernel
theorem dX6_init_59 : decode cX6_init 59 = .ok (.putfield 34, 3) := by decide +kernel
theorem dX6_init_62 : decode cX6_init 62 = .ok (.return_, 1) := by decide +kernel
theorem dX6_clear_0 : decode cX6_clear 0 = .ok (.aload_n 0, 1) := by decide +kernel
theorem dX6_clear_1 : decode cX6_clear 1 = .ok (.iconst 0, 1) := by decide +kernel
theorem dX6_clear_2 : decode cX6_clear 2 = .ok (.putfield 37, 3) := by decide +kernel
theorem dX6_clear_5 : decode cX6_clear 5 = .ok (.aload_n 0, 1) := by decide +kernel
theorem dX6_clear_6 : decode cX6_clear 6 = .ok (.iconst 0, 1) := by decide +kernel
theorem dX6_clear_7 : decode cX6_clear 7 = .ok (.putfield 41, 3) := by decide +kernel
theorem dX6_clear_10 : decode cX6_clear 10 = .ok (.aload_n 0, 1) := by decide +kernel
theorem dX6_clear_11 : decode cX6_clear 11 = .ok (.iconst 0, 1) := by decide +kernel
theorem dX6_clear_12 : decode cX6_clear 12 = .ok (.putfield 44, 3) := by decide +kernel
theorem dX6_clear_15 : decode cX6_clear 15 = .ok (.aload_n 0, 1) := by decide +kernel
theorem dX6_clear_16 : decode cX6_clear 16 = .ok (.getfield 12, 3) := by decide +kernel
theorem dX6_clear_19 : decode cX6_clear 19 = .ok (.iconst 0, 1) := by decide +kernel
theorem dX6_clear_20 : decode cX6_clear 20 = .ok (.putfield 47, 3) := by decide +kernel
theorem dX6_clear_23 : decode cX6_clear 23 = .ok (.return_, 1) := by decide +kernel
theorem dX6_handNamed_0 : decode cX6_handNamed 0 = .ok (.iconst 0, 1) := by decide +kernel
theorem dX6_handNamed_1 : decode cX6_handNamed 1 = .ok (.istore_n 2, 1) := by decide +kernel
theorem dX6_handNamed_2 : decode cX6_handNamed 2 = .ok (.iload_n 2, 1) := by decide +kernel
theorem dX6_handNamed_3 : decode cX6_handNamed 3 = .ok (.aload_n 0, 1) := by decide +kernel
theorem dX6_handNamed_4 : decode cX6_handNamed 4 = .ok (.getfield 41, 3) := by decide +kernel
theorem dX6_handNamed_7 : decode cX6_handNamed 7 = .ok (.if_icmp .ge 21, 3) := by decide +kernel
theorem dX6_handNamed_10 : decode cX6_handNamed 10 = .ok (.aload_n 0, 1) := by decide +kernel
theorem dX6_handNamed_11 : decode cX6_handNamed 11 = .ok (.getfield 18, 3) := by decide +kernel
theorem dX6_handNamed_14 : decode cX6_handNamed 14 = .ok (.iload_n 2, 1) := by decide +kernel
theorem dX6_handNamed_15 : decode cX6_handNamed 15 = .ok (.iaload, 1) := by decide +kernel
theorem dX6_handNamed_16 : decode cX6_handNamed 16 = .ok (.iload_n 1, 1) := by decide +kernel
theorem dX6_handNamed_17 : decode cX6_handNamed 17 = .ok (.if_icmp .ne 5, 3) := by decide +kernel
theorem dX6_handNamed_20 : decode cX6_handNamed 20 = .ok (.iload_n 2, 1) := by decide +kernel
theorem dX6_handNamed_21 : decode cX6_handNamed 21 = .ok (.ireturn, 1) := by decide +kernel
theorem dX6_handNamed_22 : decode cX6_handNamed 22 = .ok (.iinc 2 1, 3) := by decide +kernel
theorem dX6_handNamed_25 : decode cX6_handNamed 25 = .ok (.goto (-23), 3) := by decide +kernel
theorem dX6_handNamed_28 : decode cX6_handNamed 28 = .ok (.iconst (-1), 1) := by decide +kernel
theorem dX6_handNamed_29 : decode cX6_handNamed 29 = .ok (.ireturn, 1) := by decide +kernel
set_option maxRecDepth 20000 in
theorem ggX6_tellsKey_X7_placeFrom : GoodIn wsX6_tellsKey wsX7_placeFrom := goodIn_r _ [6, 7, 8, 23, 24, 25, 26, 27, 28, 29, 30] (by decide +kernel) (by decide +kernel)
set_option maxRecDepth 20000 in
theorem gX6_tellsKey_X7_placeFrom : GoodIn wsX6_tellsKey (wsV RX6 50 RX7 yX7_placeFrom wsX7_placeFrom) := goodIn_app (goodIn_of _ (by decide +kernel)) ggX6_tellsKey_X7_placeFrom
set_option maxRecDepth 20000 in
theorem ggX6_tellsKey_X7_hasAt : GoodIn wsX6_tellsKey wsX7_hasAt := goodIn_r _ [12, 7, 8, 23, 24, 25, 26, 27, 28, 29, 30] (by decide +kernel) (by decide +kernel)
set_option maxRecDepth 20000 in
theorem gX6_tellsKey_X7_hasAt : GoodIn wsX6_tellsKey (wsV RX6 54 RX7 yX7_hasAt wsX7_hasAt) := goodIn_app (goodIn_of _ (by decide +kernel)) ggX6_tellsKey_X7_hasAt
theorem dX6_tellsKey_0 : decode cX6_tellsKey 0 = .ok (.aload_n 0, 1) := by decide +kernel
theorem dX6_tellsKey_1 : decode cX6_tellsKey 1 = .ok (.getfield 12, 3) := by decide +kernel
theorem dX6_tellsKey_4 : decode cX6_tellsKey 4 = .ok (.aload_n 0, 1) := by decide +kernel
theorem dX6_tellsKey_5 : decode cX6_tellsKey 5 = .ok (.getfield 12, 3) := by decide +kernel
theorem dX6_tellsKey_8 : decode cX6_tellsKey 8 = .ok (.iload_n 1, 1) := by decide +kernel
theorem dX6_tellsKey_9 : decode cX6_tellsKey 9 = .ok (.invokevirtual 50, 3) := by decide +kernel
theorem dX6_tellsKey_12 : decode cX6_tellsKey 12 = .ok (.iload_n 1, 1) := by decide +kernel
theorem dX6_tellsKey_13 : decode cX6_tellsKey 13 = .ok (.invokevirtual 54, 3) := by decide +kernel
theorem dX6_tellsKey_16 : decode cX6_tellsKey 16 = .ok (.ireturn, 1) := by decide +kernel
theorem dX6_addHand_0 : decode cX6_addHand 0 = .ok (.aload_n 0, 1) := by decide +kernel
theorem dX6_addHand_1 : decode cX6_addHand 1 = .ok (.getfield 41, 3) := by decide +kernel
theorem dX6_addHand_4 : decode cX6_addHand 4 = .ok (.iconst 5, 1) := by decide +kernel
theorem dX6_addHand_5 : decode cX6_addHand 5 = .ok (.if_icmp .ge 23, 3) := by decide +kernel
theorem dX6_addHand_8 : decode cX6_addHand 8 = .ok (.aload_n 0, 1) := by decide +kernel
theorem dX6_addHand_9 : decode cX6_addHand 9 = .ok (.getfield 18, 3) := by decide +kernel
theorem dX6_addHand_12 : decode cX6_addHand 12 = .ok (.aload_n 0, 1) := by decide +kernel
theorem dX6_addHand_13 : decode cX6_addHand 13 = .ok (.getfield 41, 3) := by decide +kernel
theorem dX6_addHand_16 : decode cX6_addHand 16 = .ok (.iload_n 1, 1) := by decide +kernel
theorem dX6_addHand_17 : decode cX6_addHand 17 = .ok (.iastore, 1) := by decide +kernel
theorem dX6_addHand_18 : decode cX6_addHand 18 = .ok (.aload_n 0, 1) := by decide +kernel
theorem dX6_addHand_19 : decode cX6_addHand 19 = .ok (.dup, 1) := by decide +kernel
theorem dX6_addHand_20 : decode cX6_addHand 20 = .ok (.getfield 41, 3) := by decide +kernel
theorem dX6_addHand_23 : decode cX6_addHand 23 = .ok (.iconst 1, 1) := by decide +kernel
theorem dX6_addHand_24 : decode cX6_addHand 24 = .ok (.iadd, 1) := by decide +kernel
theorem dX6_addHand_25 : decode cX6_addHand 25 = .ok (.putfield 41, 3) := by decide +kernel
theorem dX6_addHand_28 : decode cX6_addHand 28 = .ok (.return_, 1) := by decide +kernel
set_option maxRecDepth 20000 in
theorem ggX6_addKey_X7_placeFrom : GoodIn wsX6_addKey wsX7_placeFrom := goodIn_r _ [6, 7, 8, 29, 30, 31, 32, 33, 34, 35, 36] (by decide +kernel) (by decide +kernel)
set_option maxRecDepth 20000 in
theorem gX6_addKey_X7_placeFrom : GoodIn wsX6_addKey (wsV RX6 50 RX7 yX7_placeFrom wsX7_placeFrom) := goodIn_app (goodIn_of _ (by decide +kernel)) ggX6_addKey_X7_placeFrom
set_option maxRecDepth 20000 in
theorem ggX6_addKey_X7_insert : GoodIn wsX6_addKey wsX7_insert := goodIn_r _ [12, 7, 13, 8, 14, 15, 16, 17, 18, 29, 30, 31, 32, 33, 34, 35, 36] (by decide +kernel) (by decide +kernel)
set_option maxRecDepth 20000 in
theorem gX6_addKey_X7_insert : GoodIn wsX6_addKey (wsV RX6 58 RX7 yX7_insert wsX7_insert) := goodIn_app (goodIn_of _ (by decide +kernel)) ggX6_addKey_X7_insert
theorem dX6_addKey_0 : decode cX6_addKey 0 = .ok (.aload_n 0, 1) := by decide +kernel
theorem dX6_addKey_1 : decode cX6_addKey 1 = .ok (.getfield 12, 3) := by decide +kernel
theorem dX6_addKey_4 : decode cX6_addKey 4 = .ok (.aload_n 0, 1) := by decide +kernel
theorem dX6_addKey_5 : decode cX6_addKey 5 = .ok (.getfield 12, 3) := by decide +kernel
theorem dX6_addKey_8 : decode cX6_addKey 8 = .ok (.iload_n 1, 1) := by decide +kernel
theorem dX6_addKey_9 : decode cX6_addKey 9 = .ok (.invokevirtual 50, 3) := by decide +kernel
theorem dX6_addKey_12 : decode cX6_addKey 12 = .ok (.iload_n 1, 1) := by decide +kernel
theorem dX6_addKey_13 : decode cX6_addKey 13 = .ok (.iload_n 2, 1) := by decide +kernel
theorem dX6_addKey_14 : decode cX6_addKey 14 = .ok (.invokevirtual 58, 3) := by decide +kernel
theorem dX6_addKey_17 : decode cX6_addKey 17 = .ok (.return_, 1) := by decide +kernel
theorem dX6_addStep_0 : decode cX6_addStep 0 = .ok (.aload_n 0, 1) := by decide +kernel
theorem dX6_addStep_1 : decode cX6_addStep 1 = .ok (.getfield 44, 3) := by decide +kernel
theorem dX6_addStep_4 : decode cX6_addStep 4 = .ok (.bipush 24, 2) := by decide +kernel
theorem dX6_addStep_6 : decode cX6_addStep 6 = .ok (.if_icmp .ge 65, 3) := by decide +kernel
theorem dX6_addStep_9 : decode cX6_addStep 9 = .ok (.aload_n 0, 1) := by decide +kernel
theorem dX6_addStep_10 : decode cX6_addStep 10 = .ok (.getfield 22, 3) := by decide +kernel
theorem dX6_addStep_13 : decode cX6_addStep 13 = .ok (.aload_n 0, 1) := by decide +kernel
theorem dX6_addStep_14 : decode cX6_addStep 14 = .ok (.getfield 44, 3) := by decide +kernel
theorem dX6_addStep_17 : decode cX6_addStep 17 = .ok (.iload_n 1, 1) := by decide +kernel
theorem dX6_addStep_18 : decode cX6_addStep 18 = .ok (.iastore, 1) := by decide +kernel
theorem dX6_addStep_19 : decode cX6_addStep 19 = .ok (.aload_n 0, 1) := by decide +kernel
theorem dX6_addStep_20 : decode cX6_addStep 20 = .ok (.getfield 25, 3) := by decide +kernel
theorem dX6_addStep_23 : decode cX6_addStep 23 = .ok (.aload_n 0, 1) := by decide +kernel
theorem dX6_addStep_24 : decode cX6_addStep 24 = .ok (.getfield 44, 3) := by decide +kernel
theorem dX6_addStep_27 : decode cX6_addStep 27 = .ok (.iload_n 2, 1) := by decide +kernel
theorem dX6_addStep_28 : decode cX6_addStep 28 = .ok (.iastore, 1) := by decide +kernel
theorem dX6_addStep_29 : decode cX6_addStep 29 = .ok (.aload_n 0, 1) := by decide +kernel
theorem dX6_addStep_30 : decode cX6_addStep 30 = .ok (.getfield 28, 3) := by decide +kernel
theorem dX6_addStep_33 : decode cX6_addStep 33 = .ok (.aload_n 0, 1) := by decide +kernel
theorem dX6_addStep_34 : decode cX6_addStep 34 = .ok (.getfield 44, 3) := by decide +kernel
theorem dX6_addStep_37 : decode cX6_addStep 37 = .ok (.iload_n 3, 1) := by decide +kernel
theorem dX6_addStep_38 : decode cX6_addStep 38 = .ok (.iastore, 1) := by decide +kernel
theorem dX6_addStep_39 : decode cX6_addStep 39 = .ok (.aload_n 0, 1) := by decide +kernel
theorem dX6_addStep_40 : decode cX6_addStep 40 = .ok (.getfield 31, 3) := by decide +kernel
theorem dX6_addStep_43 : decode cX6_addStep 43 = .ok (.aload_n 0, 1) := by decide +kernel
theorem dX6_addStep_44 : decode cX6_addStep 44 = .ok (.getfield 44, 3) := by decide +kernel
theorem dX6_addStep_47 : decode cX6_addStep 47 = .ok (.iload 4, 2) := by decide +kernel
theorem dX6_addStep_49 : decode cX6_addStep 49 = .ok (.iastore, 1) := by decide +kernel
theorem dX6_addStep_50 : decode cX6_addStep 50 = .ok (.aload_n 0, 1) := by decide +kernel
theorem dX6_addStep_51 : decode cX6_addStep 51 = .ok (.getfield 34, 3) := by decide +kernel
theorem dX6_addStep_54 : decode cX6_addStep 54 = .ok (.aload_n 0, 1) := by decide +kernel
theorem dX6_addStep_55 : decode cX6_addStep 55 = .ok (.getfield 44, 3) := by decide +kernel
theorem dX6_addStep_58 : decode cX6_addStep 58 = .ok (.iload 5, 2) := by decide +kernel
theorem dX6_addStep_60 : decode cX6_addStep 60 = .ok (.iastore, 1) := by decide +kernel
theorem dX6_addStep_61 : decode cX6_addStep 61 = .ok (.aload_n 0, 1) := by decide +kernel
theorem dX6_addStep_62 : decode cX6_addStep 62 = .ok (.dup, 1) := by decide +kernel
theorem dX6_addStep_63 : decode cX6_addStep 63 = .ok (.getfield 44, 3) := by decide +kernel
theorem dX6_addStep_66 : decode cX6_addStep 66 = .ok (.iconst 1, 1) := by decide +kernel
theorem dX6_addStep_67 : decode cX6_addStep 67 = .ok (.iadd, 1) := by decide +kernel
theorem dX6_addStep_68 : decode cX6_addStep 68 = .ok (.putfield 44, 3) := by decide +kernel
theorem dX6_addStep_71 : decode cX6_addStep 71 = .ok (.return_, 1) := by decide +kernel
theorem dX7_init_0 : decode cX7_init 0 = .ok (.aload_n 0, 1) := by decide +kernel
theorem dX7_init_1 : decode cX7_init 1 = .ok (.invokespecial 3, 3) := by decide +kernel
theorem dX7_init_4 : decode cX7_init 4 = .ok (.aload_n 0, 1) := by decide +kernel
theorem dX7_init_5 : decode cX7_init 5 = .ok (.bipush 24, 2) := by decide +kernel
theorem dX7_init_7 : decode cX7_init 7 = .ok (.newarray .int, 2) := by decide +kernel
theorem dX7_init_9 : decode cX7_init 9 = .ok (.putfield 9, 3) := by decide +kernel
theorem dX7_init_12 : decode cX7_init 12 = .ok (.aload_n 0, 1) := by decide +kernel
theorem dX7_init_13 : decode cX7_init 13 = .ok (.bipush 24, 2) := by decide +kernel
theorem dX7_init_15 : decode cX7_init 15 = .ok (.newarray .int, 2) := by decide +kernel
theorem dX7_init_17 : decode cX7_init 17 = .ok (.putfield 15, 3) := by decide +kernel
theorem dX7_init_20 : decode cX7_init 20 = .ok (.aload_n 0, 1) := by decide +kernel
theorem dX7_init_21 : decode cX7_init 21 = .ok (.bipush 24, 2) := by decide +kernel
theorem dX7_init_23 : decode cX7_init 23 = .ok (.newarray .int, 2) := by decide +kernel
theorem dX7_init_25 : decode cX7_init 25 = .ok (.putfield 18, 3) := by decide +kernel
theorem dX7_init_28 : decode cX7_init 28 = .ok (.aload_n 0, 1) := by decide +kernel
theorem dX7_init_29 : decode cX7_init 29 = .ok (.bipush 24, 2) := by decide +kernel
theorem dX7_init_31 : decode cX7_init 31 = .ok (.newarray .int, 2) := by decide +kernel
theorem dX7_init_33 : decode cX7_init 33 = .ok (.putfield 21, 3) := by decide +kernel
theorem dX7_init_36 : decode cX7_init 36 = .ok (.aload_n 0, 1) := by decide +kernel
theorem dX7_init_37 : decode cX7_init 37 = .ok (.bipush 25, 2) := by decide +kernel
theorem dX7_init_39 : decode cX7_init 39 = .ok (.newarray .int, 2) := by decide +kernel
theorem dX7_init_41 : decode cX7_init 41 = .ok (.putfield 24, 3) := by decide +kernel
theorem dX7_init_44 : decode cX7_init 44 = .ok (.aload_n 0, 1) := by decide +kernel
theorem dX7_init_45 : decode cX7_init 45 = .ok (.bipush 24, 2) := by decide +kernel
theorem dX7_init_47 : decode cX7_init 47 = .ok (.newarray .int, 2) := by decide +kernel
theorem dX7_init_49 : decode cX7_init 49 = .ok (.putfield 27, 3) := by decide +kernel
theorem dX7_init_52 : decode cX7_init 52 = .ok (.aload_n 0, 1) := by decide +kernel
theorem dX7_init_53 : decode cX7_init 53 = .ok (.bipush 24, 2) := by decide +kernel
theorem dX7_init_55 : decode cX7_init 55 = .ok (.newarray .int, 2) := by decide +kernel
theorem dX7_init_57 : decode cX7_init 57 = .ok (.putfield 30, 3) := by decide +kernel
theorem dX7_init_60 : decode cX7_init 60 = .ok (.return_, 1) := by decide +kernel
theorem dX7_copyFrom_0 : decode cX7_copyFrom 0 = .ok (.aload_n 0, 1) := by decide +kernel
theorem dX7_copyFrom_1 : decode cX7_copyFrom 1 = .ok (.aload_n 1, 1) := by decide +kernel
theorem dX7_copyFrom_2 : decode cX7_copyFrom 2 = .ok (.getfield 33, 3) := by decide +kernel
theorem dX7_copyFrom_5 : decode cX7_copyFrom 5 = .ok (.putfield 33, 3) := by decide +kernel
theorem dX7_copyFrom_8 : decode cX7_copyFrom 8 = .ok (.aload_n 1, 1) := by decide +kernel
theorem dX7_copyFrom_9 : decode cX7_copyFrom 9 = .ok (.getfield 9, 3) := by decide +kernel
theorem dX7_copyFrom_12 : decode cX7_copyFrom 12 = .ok (.iconst 0, 1) := by decide +kernel
theorem dX7_copyFrom_13 : decode cX7_copyFrom 13 = .ok (.aload_n 0, 1) := by decide +kernel
theorem dX7_copyFrom_14 : decode cX7_copyFrom 14 = .ok (.getfield 9, 3) := by decide +kernel
theorem dX7_copyFrom_17 : decode cX7_copyFrom 17 = .ok (.iconst 0, 1) := by decide +kernel
theorem dX7_copyFrom_18 : decode cX7_copyFrom 18 = .ok (.bipush 24, 2) := by decide +kernel
theorem dX7_copyFrom_20 : decode cX7_copyFrom 20 = .ok (.invokestatic 37, 3) := by decide +kernel
theorem dX7_copyFrom_23 : decode cX7_copyFrom 23 = .ok (.aload_n 1, 1) := by decide +kernel
theorem dX7_copyFrom_24 : decode cX7_copyFrom 24 = .ok (.getfield 15, 3) := by decide +kernel
theorem dX7_copyFrom_27 : decode cX7_copyFrom 27 = .ok (.iconst 0, 1) := by decide +kernel
theorem dX7_copyFrom_28 : decode cX7_copyFrom 28 = .ok (.aload_n 0, 1) := by decide +kernel
theorem dX7_copyFrom_29 : decode cX7_copyFrom 29 = .ok (.getfield 15, 3) := by decide +kernel
theorem dX7_copyFrom_32 : decode cX7_copyFrom 32 = .ok (.iconst 0, 1) := by decide +kernel
theorem dX7_copyFrom_33 : decode cX7_copyFrom 33 = .ok (.bipush 24, 2) := by decide +kernel
theorem dX7_copyFrom_35 : decode cX7_copyFrom 35 = .ok (.invokestatic 37, 3) := by decide +kernel
theorem dX7_copyFrom_38 : decode cX7_copyFrom 38 = .ok (.aload_n 1, 1) := by decide +kernel
theorem dX7_copyFrom_39 : decode cX7_copyFrom 39 = .ok (.getfield 18, 3) := by decide +kernel
theorem dX7_copyFrom_42 : decode cX7_copyFrom 42 = .ok (.iconst 0, 1) := by decide +kernel
theorem dX7_copyFrom_43 : decode cX7_copyFrom 43 = .ok (.aload_n 0, 1) := by decide +kernel
theorem dX7_copyFrom_44 : decode cX7_copyFrom 44 = .ok (.getfield 18, 3) := by decide +kernel
theorem dX7_copyFrom_47 : decode cX7_copyFrom 47 = .ok (.iconst 0, 1) := by decide +kernel
theorem dX7_copyFrom_48 : decode cX7_copyFrom 48 = .ok (.bipush 24, 2) := by decide +kernel
theorem dX7_copyFrom_50 : decode cX7_copyFrom 50 = .ok (.invokestatic 37, 3) := by decide +kernel
theorem dX7_copyFrom_53 : decode cX7_copyFrom 53 = .ok (.aload_n 1, 1) := by decide +kernel
theorem dX7_copyFrom_54 : decode cX7_copyFrom 54 = .ok (.getfield 21, 3) := by decide +kernel
theorem dX7_copyFrom_57 : decode cX7_copyFrom 57 = .ok (.iconst 0, 1) := by decide +kernel
theorem dX7_copyFrom_58 : decode cX7_copyFrom 58 = .ok (.aload_n 0, 1) := by decide +kernel
theorem dX7_copyFrom_59 : decode cX7_copyFrom 59 = .ok (.getfield 21, 3) := by decide +kernel
theorem dX7_copyFrom_62 : decode cX7_copyFrom 62 = .ok (.iconst 0, 1) := by decide +kernel
theorem dX7_copyFrom_63 : decode cX7_copyFrom 63 = .ok (.bipush 24, 2) := by decide +kernel
theorem dX7_copyFrom_65 : decode cX7_copyFrom 65 = .ok (.invokestatic 37, 3) := by decide +kernel
theorem dX7_copyFrom_68 : decode cX7_copyFrom 68 = .ok (.aload_n 1, 1) := by decide +kernel
theorem dX7_copyFrom_69 : decode cX7_copyFrom 69 = .ok (.getfield 24, 3) := by decide +kernel
theorem dX7_copyFrom_72 : decode cX7_copyFrom 72 = .ok (.iconst 0, 1) := by decide +kernel
theorem dX7_copyFrom_73 : decode cX7_copyFrom 73 = .ok (.aload_n 0, 1) := by decide +kernel
theorem dX7_copyFrom_74 : decode cX7_copyFrom 74 = .ok (.getfield 24, 3) := by decide +kernel
theorem dX7_copyFrom_77 : decode cX7_copyFrom 77 = .ok (.iconst 0, 1) := by decide +kernel
theorem dX7_copyFrom_78 : decode cX7_copyFrom 78 = .ok (.bipush 25, 2) := by decide +kernel
theorem dX7_copyFrom_80 : decode cX7_copyFrom 80 = .ok (.invokestatic 37, 3) := by decide +kernel
theorem dX7_copyFrom_83 : decode cX7_copyFrom 83 = .ok (.aload_n 1, 1) := by decide +kernel
theorem dX7_copyFrom_84 : decode cX7_copyFrom 84 = .ok (.getfield 27, 3) := by decide +kernel
theorem dX7_copyFrom_87 : decode cX7_copyFrom 87 = .ok (.iconst 0, 1) := by decide +kernel
theorem dX7_copyFrom_88 : decode cX7_copyFrom 88 = .ok (.aload_n 0, 1) := by decide +kernel
theorem dX7_copyFrom_89 : decode cX7_copyFrom 89 = .ok (.getfield 27, 3) := by decide +kernel
theorem dX7_copyFrom_92 : decode cX7_copyFrom 92 = .ok (.iconst 0, 1) := by decide +kernel
theorem dX7_copyFrom_93 : decode cX7_copyFrom 93 = .ok (.bipush 24, 2) := by decide +kernel
theorem dX7_copyFrom_95 : decode cX7_copyFrom 95 = .ok (.invokestatic 37, 3) := by decide +kernel
theorem dX7_copyFrom_98 : decode cX7_copyFrom 98 = .ok (.aload_n 1, 1) := by decide +kernel
theorem dX7_copyFrom_99 : decode cX7_copyFrom 99 = .ok (.getfield 30, 3) := by decide +kernel
theorem dX7_copyFrom_102 : decode cX7_copyFrom 102 = .ok (.iconst 0, 1) := by decide +kernel
theorem dX7_copyFrom_103 : decode cX7_copyFrom 103 = .ok (.aload_n 0, 1) := by decide +kernel
theorem dX7_copyFrom_104 : decode cX7_copyFrom 104 = .ok (.getfield 30, 3) := by decide +kernel
theorem dX7_copyFrom_107 : decode cX7_copyFrom 107 = .ok (.iconst 0, 1) := by decide +kernel
theorem dX7_copyFrom_108 : decode cX7_copyFrom 108 = .ok (.bipush 24, 2) := by decide +kernel
theorem dX7_copyFrom_110 : decode cX7_copyFrom 110 = .ok (.invokestatic 37, 3) := by decide +kernel
theorem dX7_copyFrom_113 : decode cX7_copyFrom 113 = .ok (.return_, 1) := by decide +kernel
theorem dX7_placeFrom_0 : decode cX7_placeFrom 0 = .ok (.iconst 0, 1) := by decide +kernel
theorem dX7_placeFrom_1 : decode cX7_placeFrom 1 = .ok (.istore_n 2, 1) := by decide +kernel
theorem dX7_placeFrom_2 : decode cX7_placeFrom 2 = .ok (.iload_n 2, 1) := by decide +kernel
theorem dX7_placeFrom_3 : decode cX7_placeFrom 3 = .ok (.aload_n 0, 1) := by decide +kernel
theorem dX7_placeFrom_4 : decode cX7_placeFrom 4 = .ok (.getfield 33, 3) := by decide +kernel
theorem dX7_placeFrom_7 : decode cX7_placeFrom 7 = .ok (.if_icmp .ge 19, 3) := by decide +kernel
theorem dX7_placeFrom_10 : decode cX7_placeFrom 10 = .ok (.aload_n 0, 1) := by decide +kernel
theorem dX7_placeFrom_11 : decode cX7_placeFrom 11 = .ok (.getfield 9, 3) := by decide +kernel
theorem dX7_placeFrom_14 : decode cX7_placeFrom 14 = .ok (.iload_n 2, 1) := by decide +kernel
theorem dX7_placeFrom_15 : decode cX7_placeFrom 15 = .ok (.iaload, 1) := by decide +kernel
theorem dX7_placeFrom_16 : decode cX7_placeFrom 16 = .ok (.iload_n 1, 1) := by decide +kernel
theorem dX7_placeFrom_17 : decode cX7_placeFrom 17 = .ok (.if_icmp .ge 9, 3) := by decide +kernel
theorem dX7_placeFrom_20 : decode cX7_placeFrom 20 = .ok (.iinc 2 1, 3) := by decide +kernel
theorem dX7_placeFrom_23 : decode cX7_placeFrom 23 = .ok (.goto (-21), 3) := by decide +kernel
theorem dX7_placeFrom_26 : decode cX7_placeFrom 26 = .ok (.iload_n 2, 1) := by decide +kernel
theorem dX7_placeFrom_27 : decode cX7_placeFrom 27 = .ok (.ireturn, 1) := by decide +kernel
theorem dX7_hasAt_0 : decode cX7_hasAt 0 = .ok (.iload_n 1, 1) := by decide +kernel
theorem dX7_hasAt_1 : decode cX7_hasAt 1 = .ok (.aload_n 0, 1) := by decide +kernel
theorem dX7_hasAt_2 : decode cX7_hasAt 2 = .ok (.getfield 33, 3) := by decide +kernel
theorem dX7_hasAt_5 : decode cX7_hasAt 5 = .ok (.if_icmp .ge 17, 3) := by decide +kernel
theorem dX7_hasAt_8 : decode cX7_hasAt 8 = .ok (.aload_n 0, 1) := by decide +kernel
theorem dX7_hasAt_9 : decode cX7_hasAt 9 = .ok (.getfield 9, 3) := by decide +kernel
theorem dX7_hasAt_12 : decode cX7_hasAt 12 = .ok (.iload_n 1, 1) := by decide +kernel
theorem dX7_hasAt_13 : decode cX7_hasAt 13 = .ok (.iaload, 1) := by decide +kernel
theorem dX7_hasAt_14 : decode cX7_hasAt 14 = .ok (.iload_n 2, 1) := by decide +kernel
theorem dX7_hasAt_15 : decode cX7_hasAt 15 = .ok (.if_icmp .ne 7, 3) := by decide +kernel
theorem dX7_hasAt_18 : decode cX7_hasAt 18 = .ok (.iconst 1, 1) := by decide +kernel
theorem dX7_hasAt_19 : decode cX7_hasAt 19 = .ok (.goto 4, 3) := by decide +kernel
theorem dX7_hasAt_22 : decode cX7_hasAt 22 = .ok (.iconst 0, 1) := by decide +kernel
theorem dX7_hasAt_23 : decode cX7_hasAt 23 = .ok (.ireturn, 1) := by decide +kernel
theorem dX7_insert_0 : decode cX7_insert 0 = .ok (.aload_n 0, 1) := by decide +kernel
theorem dX7_insert_1 : decode cX7_insert 1 = .ok (.getfield 33, 3) := by decide +kernel
theorem dX7_insert_4 : decode cX7_insert 4 = .ok (.bipush 24, 2) := by decide +kernel
theorem dX7_insert_6 : decode cX7_insert 6 = .ok (.if_icmp .ge 15, 3) := by decide +kernel
theorem dX7_insert_9 : decode cX7_insert 9 = .ok (.iload_n 1, 1) := by decide +kernel
theorem dX7_insert_10 : decode cX7_insert 10 = .ok (.ifCond .lt 11, 3) := by decide +kernel
theorem dX7_insert_13 : decode cX7_insert 13 = .ok (.iload_n 1, 1) := by decide +kernel
theorem dX7_insert_14 : decode cX7_insert 14 = .ok (.aload_n 0, 1) := by decide +kernel
theorem dX7_insert_15 : decode cX7_insert 15 = .ok (.getfield 33, 3) := by decide +kernel
theorem dX7_insert_18 : decode cX7_insert 18 = .ok (.if_icmp .le 4, 3) := by decide +kernel
theorem dX7_insert_21 : decode cX7_insert 21 = .ok (.return_, 1) := by decide +kernel
theorem dX7_insert_22 : decode cX7_insert 22 = .ok (.aload_n 0, 1) := by decide +kernel
theorem dX7_insert_23 : decode cX7_insert 23 = .ok (.getfield 24, 3) := by decide +kernel
theorem dX7_insert_26 : decode cX7_insert 26 = .ok (.aload_n 0, 1) := by decide +kernel
theorem dX7_insert_27 : decode cX7_insert 27 = .ok (.getfield 33, 3) := by decide +kernel
theorem dX7_insert_30 : decode cX7_insert 30 = .ok (.iconst 1, 1) := by decide +kernel
theorem dX7_insert_31 : decode cX7_insert 31 = .ok (.iadd, 1) := by decide +kernel
theorem dX7_insert_32 : decode cX7_insert 32 = .ok (.aload_n 0, 1) := by decide +kernel
theorem dX7_insert_33 : decode cX7_insert 33 = .ok (.getfield 24, 3) := by decide +kernel
theorem dX7_insert_36 : decode cX7_insert 36 = .ok (.aload_n 0, 1) := by decide +kernel
theorem dX7_insert_37 : decode cX7_insert 37 = .ok (.getfield 33, 3) := by decide +kernel
theorem dX7_insert_40 : decode cX7_insert 40 = .ok (.iaload, 1) := by decide +kernel
theorem dX7_insert_41 : decode cX7_insert 41 = .ok (.iastore, 1) := by decide +kernel
theorem dX7_insert_42 : decode cX7_insert 42 = .ok (.aload_n 0, 1) := by decide +kernel
theorem dX7_insert_43 : decode cX7_insert 43 = .ok (.getfield 33, 3) := by decide +kernel
theorem dX7_insert_46 : decode cX7_insert 46 = .ok (.istore 4, 2) := by decide +kernel
theorem dX7_insert_48 : decode cX7_insert 48 = .ok (.iload 4, 2) := by decide +kernel
theorem dX7_insert_50 : decode cX7_insert 50 = .ok (.iload_n 1, 1) := by decide +kernel
theorem dX7_insert_51 : decode cX7_insert 51 = .ok (.if_icmp .le 121, 3) := by decide +kernel
theorem dX7_insert_54 : decode cX7_insert 54 = .ok (.aload_n 0, 1) := by decide +kernel
theorem dX7_insert_55 : decode cX7_insert 55 = .ok (.getfield 9, 3) := by decide +kernel
theorem dX7_insert_58 : decode cX7_insert 58 = .ok (.iload 4, 2) := by decide +kernel
theorem dX7_insert_60 : decode cX7_insert 60 = .ok (.aload_n 0, 1) := by decide +kernel
theorem dX7_insert_61 : decode cX7_insert 61 = .ok (.getfield 9, 3) := by decide +kernel
theorem dX7_insert_64 : decode cX7_insert 64 = .ok (.iload 4, 2) := by decide +kernel
theorem dX7_insert_66 : decode cX7_insert 66 = .ok (.iconst 1, 1) := by decide +kernel
theorem dX7_insert_67 : decode cX7_insert 67 = .ok (.isub, 1) := by decide +kernel
theorem dX7_insert_68 : decode cX7_insert 68 = .ok (.iaload, 1) := by decide +kernel
theorem dX7_insert_69 : decode cX7_insert 69 = .ok (.iastore, 1) := by decide +kernel
theorem dX7_insert_70 : decode cX7_insert 70 = .ok (.aload_n 0, 1) := by decide +kernel
theorem dX7_insert_71 : decode cX7_insert 71 = .ok (.getfield 15, 3) := by decide +kernel
theorem dX7_insert_74 : decode cX7_insert 74 = .ok (.iload 4, 2) := by decide +kernel
theorem dX7_insert_76 : decode cX7_insert 76 = .ok (.aload_n 0, 1) := by decide +kernel
theorem dX7_insert_77 : decode cX7_insert 77 = .ok (.getfield 15, 3) := by decide +kernel
theorem dX7_insert_80 : decode cX7_insert 80 = .ok (.iload 4, 2) := by decide +kernel
theorem dX7_insert_82 : decode cX7_insert 82 = .ok (.iconst 1, 1) := by decide +kernel
theorem dX7_insert_83 : decode cX7_insert 83 = .ok (.isub, 1) := by decide +kernel
theorem dX7_insert_84 : decode cX7_insert 84 = .ok (.iaload, 1) := by decide +kernel
theorem dX7_insert_85 : decode cX7_insert 85 = .ok (.iastore, 1) := by decide +kernel
theorem dX7_insert_86 : decode cX7_insert 86 = .ok (.aload_n 0, 1) := by decide +kernel
theorem dX7_insert_87 : decode cX7_insert 87 = .ok (.getfield 18, 3) := by decide +kernel
theorem dX7_insert_90 : decode cX7_insert 90 = .ok (.iload 4, 2) := by decide +kernel
theorem dX7_insert_92 : decode cX7_insert 92 = .ok (.aload_n 0, 1) := by decide +kernel
theorem dX7_insert_93 : decode cX7_insert 93 = .ok (.getfield 18, 3) := by decide +kernel
theorem dX7_insert_96 : decode cX7_insert 96 = .ok (.iload 4, 2) := by decide +kernel
theorem dX7_insert_98 : decode cX7_insert 98 = .ok (.iconst 1, 1) := by decide +kernel
theorem dX7_insert_99 : decode cX7_insert 99 = .ok (.isub, 1) := by decide +kernel
theorem dX7_insert_100 : decode cX7_insert 100 = .ok (.iaload, 1) := by decide +kernel
theorem dX7_insert_101 : decode cX7_insert 101 = .ok (.iastore, 1) := by decide +kernel
theorem dX7_insert_102 : decode cX7_insert 102 = .ok (.aload_n 0, 1) := by decide +kernel
theorem dX7_insert_103 : decode cX7_insert 103 = .ok (.getfield 21, 3) := by decide +kernel
theorem dX7_insert_106 : decode cX7_insert 106 = .ok (.iload 4, 2) := by decide +kernel
theorem dX7_insert_108 : decode cX7_insert 108 = .ok (.aload_n 0, 1) := by decide +kernel
theorem dX7_insert_109 : decode cX7_insert 109 = .ok (.getfield 21, 3) := by decide +kernel
theorem dX7_insert_112 : decode cX7_insert 112 = .ok (.iload 4, 2) := by decide +kernel
theorem dX7_insert_114 : decode cX7_insert 114 = .ok (.iconst 1, 1) := by decide +kernel
theorem dX7_insert_115 : decode cX7_insert 115 = .ok (.isub, 1) := by decide +kernel
theorem dX7_insert_116 : decode cX7_insert 116 = .ok (.iaload, 1) := by decide +kernel
theorem dX7_insert_117 : decode cX7_insert 117 = .ok (.iastore, 1) := by decide +kernel
theorem dX7_insert_118 : decode cX7_insert 118 = .ok (.aload_n 0, 1) := by decide +kernel
theorem dX7_insert_119 : decode cX7_insert 119 = .ok (.getfield 24, 3) := by decide +kernel
theorem dX7_insert_122 : decode cX7_insert 122 = .ok (.iload 4, 2) := by decide +kernel
theorem dX7_insert_124 : decode cX7_insert 124 = .ok (.aload_n 0, 1) := by decide +kernel
theorem dX7_insert_125 : decode cX7_insert 125 = .ok (.getfield 24, 3) := by decide +kernel
theorem dX7_insert_128 : decode cX7_insert 128 = .ok (.iload 4, 2) := by decide +kernel
theorem dX7_insert_130 : decode cX7_insert 130 = .ok (.iconst 1, 1) := by decide +kernel
theorem dX7_insert_131 : decode cX7_insert 131 = .ok (.isub, 1) := by decide +kernel
theorem dX7_insert_132 : decode cX7_insert 132 = .ok (.iaload, 1) := by decide +kernel
theorem dX7_insert_133 : decode cX7_insert 133 = .ok (.iastore, 1) := by decide +kernel
theorem dX7_insert_134 : decode cX7_insert 134 = .ok (.aload_n 0, 1) := by decide +kernel
theorem dX7_insert_135 : decode cX7_insert 135 = .ok (.getfield 27, 3) := by decide +kernel
theorem dX7_insert_138 : decode cX7_insert 138 = .ok (.iload 4, 2) := by decide +kernel
theorem dX7_insert_140 : decode cX7_insert 140 = .ok (.aload_n 0, 1) := by decide +kernel
theorem dX7_insert_141 : decode cX7_insert 141 = .ok (.getfield 27, 3) := by decide +kernel
theorem dX7_insert_144 : decode cX7_insert 144 = .ok (.iload 4, 2) := by decide +kernel
theorem dX7_insert_146 : decode cX7_insert 146 = .ok (.iconst 1, 1) := by decide +kernel
theorem dX7_insert_147 : decode cX7_insert 147 = .ok (.isub, 1) := by decide +kernel
theorem dX7_insert_148 : decode cX7_insert 148 = .ok (.iaload, 1) := by decide +kernel
theorem dX7_insert_149 : decode cX7_insert 149 = .ok (.iastore, 1) := by decide +kernel
theorem dX7_insert_150 : decode cX7_insert 150 = .ok (.aload_n 0, 1) := by decide +kernel
theorem dX7_insert_151 : decode cX7_insert 151 = .ok (.getfield 30, 3) := by decide +kernel
theorem dX7_insert_154 : decode cX7_insert 154 = .ok (.iload 4, 2) := by decide +kernel
theorem dX7_insert_156 : decode cX7_insert 156 = .ok (.aload_n 0, 1) := by decide +kernel
theorem dX7_insert_157 : decode cX7_insert 157 = .ok (.getfield 30, 3) := by decide +kernel
theorem dX7_insert_160 : decode cX7_insert 160 = .ok (.iload 4, 2) := by decide +kernel
theorem dX7_insert_162 : decode cX7_insert 162 = .ok (.iconst 1, 1) := by decide +kernel
theorem dX7_insert_163 : decode cX7_insert 163 = .ok (.isub, 1) := by decide +kernel
theorem dX7_insert_164 : decode cX7_insert 164 = .ok (.iaload, 1) := by decide +kernel
theorem dX7_insert_165 : decode cX7_insert 165 = .ok (.iastore, 1) := by decide +kernel
theorem dX7_insert_166 : decode cX7_insert 166 = .ok (.iinc 4 (-1), 3) := by decide +kernel
theorem dX7_insert_169 : decode cX7_insert 169 = .ok (.goto (-121), 3) := by decide +kernel
theorem dX7_insert_172 : decode cX7_insert 172 = .ok (.aload_n 0, 1) := by decide +kernel
theorem dX7_insert_173 : decode cX7_insert 173 = .ok (.getfield 9, 3) := by decide +kernel
theorem dX7_insert_176 : decode cX7_insert 176 = .ok (.iload_n 1, 1) := by decide +kernel
theorem dX7_insert_177 : decode cX7_insert 177 = .ok (.iload_n 2, 1) := by decide +kernel
theorem dX7_insert_178 : decode cX7_insert 178 = .ok (.iastore, 1) := by decide +kernel
theorem dX7_insert_179 : decode cX7_insert 179 = .ok (.aload_n 0, 1) := by decide +kernel
theorem dX7_insert_180 : decode cX7_insert 180 = .ok (.getfield 15, 3) := by decide +kernel
theorem dX7_insert_183 : decode cX7_insert 183 = .ok (.iload_n 1, 1) := by decide +kernel
theorem dX7_insert_184 : decode cX7_insert 184 = .ok (.iload_n 3, 1) := by decide +kernel
theorem dX7_insert_185 : decode cX7_insert 185 = .ok (.iastore, 1) := by decide +kernel
theorem dX7_insert_186 : decode cX7_insert 186 = .ok (.aload_n 0, 1) := by decide +kernel
theorem dX7_insert_187 : decode cX7_insert 187 = .ok (.getfield 18, 3) := by decide +kernel
theorem dX7_insert_190 : decode cX7_insert 190 = .ok (.iload_n 1, 1) := by decide +kernel
theorem dX7_insert_191 : decode cX7_insert 191 = .ok (.bipush (-2), 2) := by decide +kernel
theorem dX7_insert_193 : decode cX7_insert 193 = .ok (.iastore, 1) := by decide +kernel
theorem dX7_insert_194 : decode cX7_insert 194 = .ok (.aload_n 0, 1) := by decide +kernel
theorem dX7_insert_195 : decode cX7_insert 195 = .ok (.getfield 21, 3) := by decide +kernel
theorem dX7_insert_198 : decode cX7_insert 198 = .ok (.iload_n 1, 1) := by decide +kernel
theorem dX7_insert_199 : decode cX7_insert 199 = .ok (.bipush (-2), 2) := by decide +kernel
theorem dX7_insert_201 : decode cX7_insert 201 = .ok (.iastore, 1) := by decide +kernel
theorem dX7_insert_202 : decode cX7_insert 202 = .ok (.aload_n 0, 1) := by decide +kernel
theorem dX7_insert_203 : decode cX7_insert 203 = .ok (.getfield 27, 3) := by decide +kernel
theorem dX7_insert_206 : decode cX7_insert 206 = .ok (.iload_n 1, 1) := by decide +kernel
theorem dX7_insert_207 : decode cX7_insert 207 = .ok (.iconst 0, 1) := by decide +kernel
theorem dX7_insert_208 : decode cX7_insert 208 = .ok (.iastore, 1) := by decide +kernel
theorem dX7_insert_209 : decode cX7_insert 209 = .ok (.aload_n 0, 1) := by decide +kernel
theorem dX7_insert_210 : decode cX7_insert 210 = .ok (.getfield 30, 3) := by decide +kernel
theorem dX7_insert_213 : decode cX7_insert 213 = .ok (.iload_n 1, 1) := by decide +kernel
theorem dX7_insert_214 : decode cX7_insert 214 = .ok (.iconst 0, 1) := by decide +kernel
theorem dX7_insert_215 : decode cX7_insert 215 = .ok (.iastore, 1) := by decide +kernel
theorem dX7_insert_216 : decode cX7_insert 216 = .ok (.aload_n 0, 1) := by decide +kernel
theorem dX7_insert_217 : decode cX7_insert 217 = .ok (.dup, 1) := by decide +kernel
theorem dX7_insert_218 : decode cX7_insert 218 = .ok (.getfield 33, 3) := by decide +kernel
theorem dX7_insert_221 : decode cX7_insert 221 = .ok (.iconst 1, 1) := by decide +kernel
theorem dX7_insert_222 : decode cX7_insert 222 = .ok (.iadd, 1) := by decide +kernel
theorem dX7_insert_223 : decode cX7_insert 223 = .ok (.putfield 33, 3) := by decide +kernel
theorem dX7_insert_226 : decode cX7_insert 226 = .ok (.return_, 1) := by decide +kernel
theorem dX7_vanish_0 : decode cX7_vanish 0 = .ok (.iload_n 1, 1) := by decide +kernel
theorem dX7_vanish_1 : decode cX7_vanish 1 = .ok (.ifCond .lt 11, 3) := by decide +kernel
theorem dX7_vanish_4 : decode cX7_vanish 4 = .ok (.iload_n 1, 1) := by decide +kernel
theorem dX7_vanish_5 : decode cX7_vanish 5 = .ok (.aload_n 0, 1) := by decide +kernel
theorem dX7_vanish_6 : decode cX7_vanish 6 = .ok (.getfield 33, 3) := by decide +kernel
theorem dX7_vanish_9 : decode cX7_vanish 9 = .ok (.if_icmp .lt 4, 3) := by decide +kernel
theorem dX7_vanish_12 : decode cX7_vanish 12 = .ok (.return_, 1) := by decide +kernel
theorem dX7_vanish_13 : decode cX7_vanish 13 = .ok (.aload_n 0, 1) := by decide +kernel
theorem dX7_vanish_14 : decode cX7_vanish 14 = .ok (.getfield 24, 3) := by decide +kernel
theorem dX7_vanish_17 : decode cX7_vanish 17 = .ok (.iload_n 1, 1) := by decide +kernel
theorem dX7_vanish_18 : decode cX7_vanish 18 = .ok (.iconst 1, 1) := by decide +kernel
theorem dX7_vanish_19 : decode cX7_vanish 19 = .ok (.iadd, 1) := by decide +kernel
theorem dX7_vanish_20 : decode cX7_vanish 20 = .ok (.dup2, 1) := by decide +kernel
theorem dX7_vanish_21 : decode cX7_vanish 21 = .ok (.iaload, 1) := by decide +kernel
theorem dX7_vanish_22 : decode cX7_vanish 22 = .ok (.aload_n 0, 1) := by decide +kernel
theorem dX7_vanish_23 : decode cX7_vanish 23 = .ok (.getfield 24, 3) := by decide +kernel
theorem dX7_vanish_26 : decode cX7_vanish 26 = .ok (.iload_n 1, 1) := by decide +kernel
theorem dX7_vanish_27 : decode cX7_vanish 27 = .ok (.iaload, 1) := by decide +kernel
theorem dX7_vanish_28 : decode cX7_vanish 28 = .ok (.aload_n 0, 1) := by decide +kernel
theorem dX7_vanish_29 : decode cX7_vanish 29 = .ok (.getfield 27, 3) := by decide +kernel
theorem dX7_vanish_32 : decode cX7_vanish 32 = .ok (.iload_n 1, 1) := by decide +kernel
theorem dX7_vanish_33 : decode cX7_vanish 33 = .ok (.iaload, 1) := by decide +kernel
theorem dX7_vanish_34 : decode cX7_vanish 34 = .ok (.ior, 1) := by decide +kernel
theorem dX7_vanish_35 : decode cX7_vanish 35 = .ok (.iconst 1, 1) := by decide +kernel
theorem dX7_vanish_36 : decode cX7_vanish 36 = .ok (.iload_n 2, 1) := by decide +kernel
theorem dX7_vanish_37 : decode cX7_vanish 37 = .ok (.ishl, 1) := by decide +kernel
theorem dX7_vanish_38 : decode cX7_vanish 38 = .ok (.iconst (-1), 1) := by decide +kernel
theorem dX7_vanish_39 : decode cX7_vanish 39 = .ok (.ixor, 1) := by decide +kernel
theorem dX7_vanish_40 : decode cX7_vanish 40 = .ok (.iand, 1) := by decide +kernel
theorem dX7_vanish_41 : decode cX7_vanish 41 = .ok (.ior, 1) := by decide +kernel
theorem dX7_vanish_42 : decode cX7_vanish 42 = .ok (.iastore, 1) := by decide +kernel
theorem dX7_vanish_43 : decode cX7_vanish 43 = .ok (.aload_n 0, 1) := by decide +kernel
theorem dX7_vanish_44 : decode cX7_vanish 44 = .ok (.dup, 1) := by decide +kernel
theorem dX7_vanish_45 : decode cX7_vanish 45 = .ok (.getfield 33, 3) := by decide +kernel
theorem dX7_vanish_48 : decode cX7_vanish 48 = .ok (.iconst 1, 1) := by decide +kernel
theorem dX7_vanish_49 : decode cX7_vanish 49 = .ok (.isub, 1) := by decide +kernel
theorem dX7_vanish_50 : decode cX7_vanish 50 = .ok (.putfield 33, 3) := by decide +kernel
theorem dX7_vanish_53 : decode cX7_vanish 53 = .ok (.iload_n 1, 1) := by decide +kernel
theorem dX7_vanish_54 : decode cX7_vanish 54 = .ok (.istore_n 3, 1) := by decide +kernel
theorem dX7_vanish_55 : decode cX7_vanish 55 = .ok (.iload_n 3, 1) := by decide +kernel
theorem dX7_vanish_56 : decode cX7_vanish 56 = .ok (.aload_n 0, 1) := by decide +kernel
theorem dX7_vanish_57 : decode cX7_vanish 57 = .ok (.getfield 33, 3) := by decide +kernel
theorem dX7_vanish_60 : decode cX7_vanish 60 = .ok (.if_icmp .ge 107, 3) := by decide +kernel
theorem dX7_vanish_63 : decode cX7_vanish 63 = .ok (.aload_n 0, 1) := by decide +kernel
theorem dX7_vanish_64 : decode cX7_vanish 64 = .ok (.getfield 9, 3) := by decide +kernel
theorem dX7_vanish_67 : decode cX7_vanish 67 = .ok (.iload_n 3, 1) := by decide +kernel
theorem dX7_vanish_68 : decode cX7_vanish 68 = .ok (.aload_n 0, 1) := by decide +kernel
theorem dX7_vanish_69 : decode cX7_vanish 69 = .ok (.getfield 9, 3) := by decide +kernel
theorem dX7_vanish_72 : decode cX7_vanish 72 = .ok (.iload_n 3, 1) := by decide +kernel
theorem dX7_vanish_73 : decode cX7_vanish 73 = .ok (.iconst 1, 1) := by decide +kernel
theorem dX7_vanish_74 : decode cX7_vanish 74 = .ok (.iadd, 1) := by decide +kernel
theorem dX7_vanish_75 : decode cX7_vanish 75 = .ok (.iaload, 1) := by decide +kernel
theorem dX7_vanish_76 : decode cX7_vanish 76 = .ok (.iastore, 1) := by decide +kernel
theorem dX7_vanish_77 : decode cX7_vanish 77 = .ok (.aload_n 0, 1) := by decide +kernel
theorem dX7_vanish_78 : decode cX7_vanish 78 = .ok (.getfield 15, 3) := by decide +kernel
theorem dX7_vanish_81 : decode cX7_vanish 81 = .ok (.iload_n 3, 1) := by decide +kernel
theorem dX7_vanish_82 : decode cX7_vanish 82 = .ok (.aload_n 0, 1) := by decide +kernel
theorem dX7_vanish_83 : decode cX7_vanish 83 = .ok (.getfield 15, 3) := by decide +kernel
theorem dX7_vanish_86 : decode cX7_vanish 86 = .ok (.iload_n 3, 1) := by decide +kernel
theorem dX7_vanish_87 : decode cX7_vanish 87 = .ok (.iconst 1, 1) := by decide +kernel
theorem dX7_vanish_88 : decode cX7_vanish 88 = .ok (.iadd, 1) := by decide +kernel
theorem dX7_vanish_89 : decode cX7_vanish 89 = .ok (.iaload, 1) := by decide +kernel
theorem dX7_vanish_90 : decode cX7_vanish 90 = .ok (.iastore, 1) := by decide +kernel
theorem dX7_vanish_91 : decode cX7_vanish 91 = .ok (.aload_n 0, 1) := by decide +kernel
theorem dX7_vanish_92 : decode cX7_vanish 92 = .ok (.getfield 18, 3) := by decide +kernel
theorem dX7_vanish_95 : decode cX7_vanish 95 = .ok (.iload_n 3, 1) := by decide +kernel
theorem dX7_vanish_96 : decode cX7_vanish 96 = .ok (.aload_n 0, 1) := by decide +kernel
theorem dX7_vanish_97 : decode cX7_vanish 97 = .ok (.getfield 18, 3) := by decide +kernel
theorem dX7_vanish_100 : decode cX7_vanish 100 = .ok (.iload_n 3, 1) := by decide +kernel
theorem dX7_vanish_101 : decode cX7_vanish 101 = .ok (.iconst 1, 1) := by decide +kernel
theorem dX7_vanish_102 : decode cX7_vanish 102 = .ok (.iadd, 1) := by decide +kernel
theorem dX7_vanish_103 : decode cX7_vanish 103 = .ok (.iaload, 1) := by decide +kernel
theorem dX7_vanish_104 : decode cX7_vanish 104 = .ok (.iastore, 1) := by decide +kernel
theorem dX7_vanish_105 : decode cX7_vanish 105 = .ok (.aload_n 0, 1) := by decide +kernel
theorem dX7_vanish_106 : decode cX7_vanish 106 = .ok (.getfield 21, 3) := by decide +kernel
theorem dX7_vanish_109 : decode cX7_vanish 109 = .ok (.iload_n 3, 1) := by decide +kernel
theorem dX7_vanish_110 : decode cX7_vanish 110 = .ok (.aload_n 0, 1) := by decide +kernel
theorem dX7_vanish_111 : decode cX7_vanish 111 = .ok (.getfield 21, 3) := by decide +kernel
theorem dX7_vanish_114 : decode cX7_vanish 114 = .ok (.iload_n 3, 1) := by decide +kernel
theorem dX7_vanish_115 : decode cX7_vanish 115 = .ok (.iconst 1, 1) := by decide +kernel
theorem dX7_vanish_116 : decode cX7_vanish 116 = .ok (.iadd, 1) := by decide +kernel
theorem dX7_vanish_117 : decode cX7_vanish 117 = .ok (.iaload, 1) := by decide +kernel
theorem dX7_vanish_118 : decode cX7_vanish 118 = .ok (.iastore, 1) := by decide +kernel
theorem dX7_vanish_119 : decode cX7_vanish 119 = .ok (.aload_n 0, 1) := by decide +kernel
theorem dX7_vanish_120 : decode cX7_vanish 120 = .ok (.getfield 24, 3) := by decide +kernel
theorem dX7_vanish_123 : decode cX7_vanish 123 = .ok (.iload_n 3, 1) := by decide +kernel
theorem dX7_vanish_124 : decode cX7_vanish 124 = .ok (.aload_n 0, 1) := by decide +kernel
theorem dX7_vanish_125 : decode cX7_vanish 125 = .ok (.getfield 24, 3) := by decide +kernel
theorem dX7_vanish_128 : decode cX7_vanish 128 = .ok (.iload_n 3, 1) := by decide +kernel
theorem dX7_vanish_129 : decode cX7_vanish 129 = .ok (.iconst 1, 1) := by decide +kernel
theorem dX7_vanish_130 : decode cX7_vanish 130 = .ok (.iadd, 1) := by decide +kernel
theorem dX7_vanish_131 : decode cX7_vanish 131 = .ok (.iaload, 1) := by decide +kernel
theorem dX7_vanish_132 : decode cX7_vanish 132 = .ok (.iastore, 1) := by decide +kernel
theorem dX7_vanish_133 : decode cX7_vanish 133 = .ok (.aload_n 0, 1) := by decide +kernel
theorem dX7_vanish_134 : decode cX7_vanish 134 = .ok (.getfield 27, 3) := by decide +kernel
theorem dX7_vanish_137 : decode cX7_vanish 137 = .ok (.iload_n 3, 1) := by decide +kernel
theorem dX7_vanish_138 : decode cX7_vanish 138 = .ok (.aload_n 0, 1) := by decide +kernel
theorem dX7_vanish_139 : decode cX7_vanish 139 = .ok (.getfield 27, 3) := by decide +kernel
theorem dX7_vanish_142 : decode cX7_vanish 142 = .ok (.iload_n 3, 1) := by decide +kernel
theorem dX7_vanish_143 : decode cX7_vanish 143 = .ok (.iconst 1, 1) := by decide +kernel
theorem dX7_vanish_144 : decode cX7_vanish 144 = .ok (.iadd, 1) := by decide +kernel
theorem dX7_vanish_145 : decode cX7_vanish 145 = .ok (.iaload, 1) := by decide +kernel
theorem dX7_vanish_146 : decode cX7_vanish 146 = .ok (.iastore, 1) := by decide +kernel
theorem dX7_vanish_147 : decode cX7_vanish 147 = .ok (.aload_n 0, 1) := by decide +kernel
theorem dX7_vanish_148 : decode cX7_vanish 148 = .ok (.getfield 30, 3) := by decide +kernel
theorem dX7_vanish_151 : decode cX7_vanish 151 = .ok (.iload_n 3, 1) := by decide +kernel
theorem dX7_vanish_152 : decode cX7_vanish 152 = .ok (.aload_n 0, 1) := by decide +kernel
theorem dX7_vanish_153 : decode cX7_vanish 153 = .ok (.getfield 30, 3) := by decide +kernel
theorem dX7_vanish_156 : decode cX7_vanish 156 = .ok (.iload_n 3, 1) := by decide +kernel
theorem dX7_vanish_157 : decode cX7_vanish 157 = .ok (.iconst 1, 1) := by decide +kernel
theorem dX7_vanish_158 : decode cX7_vanish 158 = .ok (.iadd, 1) := by decide +kernel
theorem dX7_vanish_159 : decode cX7_vanish 159 = .ok (.iaload, 1) := by decide +kernel
theorem dX7_vanish_160 : decode cX7_vanish 160 = .ok (.iastore, 1) := by decide +kernel
theorem dX7_vanish_161 : decode cX7_vanish 161 = .ok (.iinc 3 1, 3) := by decide +kernel
theorem dX7_vanish_164 : decode cX7_vanish 164 = .ok (.goto (-109), 3) := by decide +kernel
theorem dX7_vanish_167 : decode cX7_vanish 167 = .ok (.aload_n 0, 1) := by decide +kernel
theorem dX7_vanish_168 : decode cX7_vanish 168 = .ok (.getfield 24, 3) := by decide +kernel
theorem dX7_vanish_171 : decode cX7_vanish 171 = .ok (.aload_n 0, 1) := by decide +kernel
theorem dX7_vanish_172 : decode cX7_vanish 172 = .ok (.getfield 33, 3) := by decide +kernel
theorem dX7_vanish_175 : decode cX7_vanish 175 = .ok (.aload_n 0, 1) := by decide +kernel
theorem dX7_vanish_176 : decode cX7_vanish 176 = .ok (.getfield 24, 3) := by decide +kernel
theorem dX7_vanish_179 : decode cX7_vanish 179 = .ok (.aload_n 0, 1) := by decide +kernel
theorem dX7_vanish_180 : decode cX7_vanish 180 = .ok (.getfield 33, 3) := by decide +kernel
theorem dX7_vanish_183 : decode cX7_vanish 183 = .ok (.iconst 1, 1) := by decide +kernel
theorem dX7_vanish_184 : decode cX7_vanish 184 = .ok (.iadd, 1) := by decide +kernel
theorem dX7_vanish_185 : decode cX7_vanish 185 = .ok (.iaload, 1) := by decide +kernel
theorem dX7_vanish_186 : decode cX7_vanish 186 = .ok (.iastore, 1) := by decide +kernel
theorem dX7_vanish_187 : decode cX7_vanish 187 = .ok (.return_, 1) := by decide +kernel
theorem dX7_release_0 : decode cX7_release 0 = .ok (.iconst 1, 1) := by decide +kernel
theorem dX7_release_1 : decode cX7_release 1 = .ok (.iload_n 1, 1) := by decide +kernel
theorem dX7_release_2 : decode cX7_release 2 = .ok (.ishl, 1) := by decide +kernel
theorem dX7_release_3 : decode cX7_release 3 = .ok (.iconst (-1), 1) := by decide +kernel
theorem dX7_release_4 : decode cX7_release 4 = .ok (.ixor, 1) := by decide +kernel
theorem dX7_release_5 : decode cX7_release 5 = .ok (.istore_n 2, 1) := by decide +kernel
theorem dX7_release_6 : decode cX7_release 6 = .ok (.aload_n 0, 1) := by decide +kernel
theorem dX7_release_7 : decode cX7_release 7 = .ok (.getfield 24, 3) := by decide +kernel
theorem dX7_release_10 : decode cX7_release 10 = .ok (.aload_n 0, 1) := by decide +kernel
theorem dX7_release_11 : decode cX7_release 11 = .ok (.getfield 33, 3) := by decide +kernel
theorem dX7_release_14 : decode cX7_release 14 = .ok (.dup2, 1) := by decide +kernel
theorem dX7_release_15 : decode cX7_release 15 = .ok (.iaload, 1) := by decide +kernel
theorem dX7_release_16 : decode cX7_release 16 = .ok (.iload_n 2, 1) := by decide +kernel
theorem dX7_release_17 : decode cX7_release 17 = .ok (.iand, 1) := by decide +kernel
theorem dX7_release_18 : decode cX7_release 18 = .ok (.iastore, 1) := by decide +kernel
theorem dX7_release_19 : decode cX7_release 19 = .ok (.iconst 0, 1) := by decide +kernel
theorem dX7_release_20 : decode cX7_release 20 = .ok (.istore_n 3, 1) := by decide +kernel
theorem dX7_release_21 : decode cX7_release 21 = .ok (.iload_n 3, 1) := by decide +kernel
theorem dX7_release_22 : decode cX7_release 22 = .ok (.aload_n 0, 1) := by decide +kernel
theorem dX7_release_23 : decode cX7_release 23 = .ok (.getfield 33, 3) := by decide +kernel
theorem dX7_release_26 : decode cX7_release 26 = .ok (.if_icmp .ge 57, 3) := by decide +kernel
theorem dX7_release_29 : decode cX7_release 29 = .ok (.aload_n 0, 1) := by decide +kernel
theorem dX7_release_30 : decode cX7_release 30 = .ok (.getfield 24, 3) := by decide +kernel
theorem dX7_release_33 : decode cX7_release 33 = .ok (.iload_n 3, 1) := by decide +kernel
theorem dX7_release_34 : decode cX7_release 34 = .ok (.dup2, 1) := by decide +kernel
theorem dX7_release_35 : decode cX7_release 35 = .ok (.iaload, 1) := by decide +kernel
theorem dX7_release_36 : decode cX7_release 36 = .ok (.iload_n 2, 1) := by decide +kernel
theorem dX7_release_37 : decode cX7_release 37 = .ok (.iand, 1) := by decide +kernel
theorem dX7_release_38 : decode cX7_release 38 = .ok (.iastore, 1) := by decide +kernel
theorem dX7_release_39 : decode cX7_release 39 = .ok (.aload_n 0, 1) := by decide +kernel
theorem dX7_release_40 : decode cX7_release 40 = .ok (.getfield 27, 3) := by decide +kernel
theorem dX7_release_43 : decode cX7_release 43 = .ok (.iload_n 3, 1) := by decide +kernel
theorem dX7_release_44 : decode cX7_release 44 = .ok (.dup2, 1) := by decide +kernel
theorem dX7_release_45 : decode cX7_release 45 = .ok (.iaload, 1) := by decide +kernel
theorem dX7_release_46 : decode cX7_release 46 = .ok (.iload_n 2, 1) := by decide +kernel
theorem dX7_release_47 : decode cX7_release 47 = .ok (.iand, 1) := by decide +kernel
theorem dX7_release_48 : decode cX7_release 48 = .ok (.iastore, 1) := by decide +kernel
theorem dX7_release_49 : decode cX7_release 49 = .ok (.aload_n 0, 1) := by decide +kernel
theorem dX7_release_50 : decode cX7_release 50 = .ok (.getfield 30, 3) := by decide +kernel
theorem dX7_release_53 : decode cX7_release 53 = .ok (.iload_n 3, 1) := by decide +kernel
theorem dX7_release_54 : decode cX7_release 54 = .ok (.dup2, 1) := by decide +kernel
theorem dX7_release_55 : decode cX7_release 55 = .ok (.iaload, 1) := by decide +kernel
theorem dX7_release_56 : decode cX7_release 56 = .ok (.iload_n 2, 1) := by decide +kernel
theorem dX7_release_57 : decode cX7_release 57 = .ok (.iand, 1) := by decide +kernel
theorem dX7_release_58 : decode cX7_release 58 = .ok (.iastore, 1) := by decide +kernel
theorem dX7_release_59 : decode cX7_release 59 = .ok (.aload_n 0, 1) := by decide +kernel
theorem dX7_release_60 : decode cX7_release 60 = .ok (.getfield 21, 3) := by decide +kernel
theorem dX7_release_63 : decode cX7_release 63 = .ok (.iload_n 3, 1) := by decide +kernel
theorem dX7_release_64 : decode cX7_release 64 = .ok (.iaload, 1) := by decide +kernel
theorem dX7_release_65 : decode cX7_release 65 = .ok (.iload_n 1, 1) := by decide +kernel
theorem dX7_release_66 : decode cX7_release 66 = .ok (.if_icmp .ne 11, 3) := by decide +kernel
theorem dX7_release_69 : decode cX7_release 69 = .ok (.aload_n 0, 1) := by decide +kernel
theorem dX7_release_70 : decode cX7_release 70 = .ok (.getfield 21, 3) := by decide +kernel
theorem dX7_release_73 : decode cX7_release 73 = .ok (.iload_n 3, 1) := by decide +kernel
theorem dX7_release_74 : decode cX7_release 74 = .ok (.bipush (-2), 2) := by decide +kernel
theorem dX7_release_76 : decode cX7_release 76 = .ok (.iastore, 1) := by decide +kernel
theorem dX7_release_77 : decode cX7_release 77 = .ok (.iinc 3 1, 3) := by decide +kernel
theorem dX7_release_80 : decode cX7_release 80 = .ok (.goto (-59), 3) := by decide +kernel
theorem dX7_release_83 : decode cX7_release 83 = .ok (.return_, 1) := by decide +kernel
theorem dX7_blockers_0 : decode cX7_blockers 0 = .ok (.iconst 0, 1) := by decide +kernel
theorem dX7_blockers_1 : decode cX7_blockers 1 = .ok (.istore 4, 2) := by decide +kernel
theorem dX7_blockers_3 : decode cX7_blockers 3 = .ok (.iload 4, 2) := by decide +kernel
theorem dX7_blockers_5 : decode cX7_blockers 5 = .ok (.aload_n 0, 1) := by decide +kernel
theorem dX7_blockers_6 : decode cX7_blockers 6 = .ok (.getfield 33, 3) := by decide +kernel
theorem dX7_blockers_9 : decode cX7_blockers 9 = .ok (.if_icmp .ge 20, 3) := by decide +kernel
theorem dX7_blockers_12 : decode cX7_blockers 12 = .ok (.aload_n 0, 1) := by decide +kernel
theorem dX7_blockers_13 : decode cX7_blockers 13 = .ok (.getfield 9, 3) := by decide +kernel
theorem dX7_blockers_16 : decode cX7_blockers 16 = .ok (.iload 4, 2) := by decide +kernel
theorem dX7_blockers_18 : decode cX7_blockers 18 = .ok (.iaload, 1) := by decide +kernel
theorem dX7_blockers_19 : decode cX7_blockers 19 = .ok (.iload_n 3, 1) := by decide +kernel
theorem dX7_blockers_20 : decode cX7_blockers 20 = .ok (.if_icmp .ge 9, 3) := by decide +kernel
theorem dX7_blockers_23 : decode cX7_blockers 23 = .ok (.iinc 4 1, 3) := by decide +kernel
theorem dX7_blockers_26 : decode cX7_blockers 26 = .ok (.goto (-23), 3) := by decide +kernel
theorem dX7_blockers_29 : decode cX7_blockers 29 = .ok (.iconst 0, 1) := by decide +kernel
theorem dX7_blockers_30 : decode cX7_blockers 30 = .ok (.istore 5, 2) := by decide +kernel
theorem dX7_blockers_32 : decode cX7_blockers 32 = .ok (.iload_n 2, 1) := by decide +kernel
theorem dX7_blockers_33 : decode cX7_blockers 33 = .ok (.iconst 3, 1) := by decide +kernel
theorem dX7_blockers_34 : decode cX7_blockers 34 = .ok (.if_icmp .ne 15, 3) := by decide +kernel
theorem dX7_blockers_37 : decode cX7_blockers 37 = .ok (.aload_n 0, 1) := by decide +kernel
theorem dX7_blockers_38 : decode cX7_blockers 38 = .ok (.getfield 24, 3) := by decide +kernel
theorem dX7_blockers_41 : decode cX7_blockers 41 = .ok (.iload 4, 2) := by decide +kernel
theorem dX7_blockers_43 : decode cX7_blockers 43 = .ok (.iaload, 1) := by decide +kernel
theorem dX7_blockers_44 : decode cX7_blockers 44 = .ok (.istore 5, 2) := by decide +kernel
theorem dX7_blockers_46 : decode cX7_blockers 46 = .ok (.goto 47, 3) := by decide +kernel
theorem dX7_blockers_49 : decode cX7_blockers 49 = .ok (.iload 4, 2) := by decide +kernel
theorem dX7_blockers_51 : decode cX7_blockers 51 = .ok (.aload_n 0, 1) := by decide +kernel
theorem dX7_blockers_52 : decode cX7_blockers 52 = .ok (.getfield 33, 3) := by decide +kernel
theorem dX7_blockers_55 : decode cX7_blockers 55 = .ok (.if_icmp .ge 38, 3) := by decide +kernel
theorem dX7_blockers_58 : decode cX7_blockers 58 = .ok (.aload_n 0, 1) := by decide +kernel
theorem dX7_blockers_59 : decode cX7_blockers 59 = .ok (.getfield 9, 3) := by decide +kernel
theorem dX7_blockers_62 : decode cX7_blockers 62 = .ok (.iload 4, 2) := by decide +kernel
theorem dX7_blockers_64 : decode cX7_blockers 64 = .ok (.iaload, 1) := by decide +kernel
theorem dX7_blockers_65 : decode cX7_blockers 65 = .ok (.iload_n 3, 1) := by decide +kernel
theorem dX7_blockers_66 : decode cX7_blockers 66 = .ok (.if_icmp .ne 27, 3) := by decide +kernel
theorem dX7_blockers_69 : decode cX7_blockers 69 = .ok (.iload_n 2, 1) := by decide +kernel
theorem dX7_blockers_70 : decode cX7_blockers 70 = .ok (.iconst 2, 1) := by decide +kernel
theorem dX7_blockers_71 : decode cX7_blockers 71 = .ok (.if_icmp .ne 13, 3) := by decide +kernel
theorem dX7_blockers_74 : decode cX7_blockers 74 = .ok (.aload_n 0, 1) := by decide +kernel
theorem dX7_blockers_75 : decode cX7_blockers 75 = .ok (.getfield 27, 3) := by decide +kernel
theorem dX7_blockers_78 : decode cX7_blockers 78 = .ok (.iload 4, 2) := by decide +kernel
theorem dX7_blockers_80 : decode cX7_blockers 80 = .ok (.iaload, 1) := by decide +kernel
theorem dX7_blockers_81 : decode cX7_blockers 81 = .ok (.goto 10, 3) := by decide +kernel
theorem dX7_blockers_84 : decode cX7_blockers 84 = .ok (.aload_n 0, 1) := by decide +kernel
theorem dX7_blockers_85 : decode cX7_blockers 85 = .ok (.getfield 30, 3) := by decide +kernel
theorem dX7_blockers_88 : decode cX7_blockers 88 = .ok (.iload 4, 2) := by decide +kernel
theorem dX7_blockers_90 : decode cX7_blockers 90 = .ok (.iaload, 1) := by decide +kernel
theorem dX7_blockers_91 : decode cX7_blockers 91 = .ok (.istore 5, 2) := by decide +kernel
theorem dX7_blockers_93 : decode cX7_blockers 93 = .ok (.iload 5, 2) := by decide +kernel
theorem dX7_blockers_95 : decode cX7_blockers 95 = .ok (.iconst 1, 1) := by decide +kernel
theorem dX7_blockers_96 : decode cX7_blockers 96 = .ok (.iload_n 1, 1) := by decide +kernel
theorem dX7_blockers_97 : decode cX7_blockers 97 = .ok (.ishl, 1) := by decide +kernel
theorem dX7_blockers_98 : decode cX7_blockers 98 = .ok (.iconst (-1), 1) := by decide +kernel
theorem dX7_blockers_99 : decode cX7_blockers 99 = .ok (.ixor, 1) := by decide +kernel
theorem dX7_blockers_100 : decode cX7_blockers 100 = .ok (.iand, 1) := by decide +kernel
theorem dX7_blockers_101 : decode cX7_blockers 101 = .ok (.ireturn, 1) := by decide +kernel
theorem dX7_levelAt_0 : decode cX7_levelAt 0 = .ok (.iload_n 1, 1) := by decide +kernel
theorem dX7_levelAt_1 : decode cX7_levelAt 1 = .ok (.aload_n 0, 1) := by decide +kernel
theorem dX7_levelAt_2 : decode cX7_levelAt 2 = .ok (.getfield 33, 3) := by decide +kernel
theorem dX7_levelAt_5 : decode cX7_levelAt 5 = .ok (.if_icmp .ge 27, 3) := by decide +kernel
theorem dX7_levelAt_8 : decode cX7_levelAt 8 = .ok (.aload_n 0, 1) := by decide +kernel
theorem dX7_levelAt_9 : decode cX7_levelAt 9 = .ok (.getfield 27, 3) := by decide +kernel
theorem dX7_levelAt_12 : decode cX7_levelAt 12 = .ok (.iload_n 1, 1) := by decide +kernel
theorem dX7_levelAt_13 : decode cX7_levelAt 13 = .ok (.iaload, 1) := by decide +kernel
theorem dX7_levelAt_14 : decode cX7_levelAt 14 = .ok (.iload_n 2, 1) := by decide +kernel
theorem dX7_levelAt_15 : decode cX7_levelAt 15 = .ok (.ishr, 1) := by decide +kernel
theorem dX7_levelAt_16 : decode cX7_levelAt 16 = .ok (.iconst 1, 1) := by decide +kernel
theorem dX7_levelAt_17 : decode cX7_levelAt 17 = .ok (.iand, 1) := by decide +kernel
theorem dX7_levelAt_18 : decode cX7_levelAt 18 = .ok (.aload_n 0, 1) := by decide +kernel
theorem dX7_levelAt_19 : decode cX7_levelAt 19 = .ok (.getfield 30, 3) := by decide +kernel
theorem dX7_levelAt_22 : decode cX7_levelAt 22 = .ok (.iload_n 1, 1) := by decide +kernel
theorem dX7_levelAt_23 : decode cX7_levelAt 23 = .ok (.iaload, 1) := by decide +kernel
theorem dX7_levelAt_24 : decode cX7_levelAt 24 = .ok (.iload_n 2, 1) := by decide +kernel
theorem dX7_levelAt_25 : decode cX7_levelAt 25 = .ok (.ishr, 1) := by decide +kernel
theorem dX7_levelAt_26 : decode cX7_levelAt 26 = .ok (.iconst 1, 1) := by decide +kernel
theorem dX7_levelAt_27 : decode cX7_levelAt 27 = .ok (.iand, 1) := by decide +kernel
theorem dX7_levelAt_28 : decode cX7_levelAt 28 = .ok (.iadd, 1) := by decide +kernel
theorem dX7_levelAt_29 : decode cX7_levelAt 29 = .ok (.goto 4, 3) := by decide +kernel
theorem dX7_levelAt_32 : decode cX7_levelAt 32 = .ok (.iconst 0, 1) := by decide +kernel
theorem dX7_levelAt_33 : decode cX7_levelAt 33 = .ok (.ireturn, 1) := by decide +kernel
theorem dX7_locksOf_0 : decode cX7_locksOf 0 = .ok (.aload_n 0, 1) := by decide +kernel
theorem dX7_locksOf_1 : decode cX7_locksOf 1 = .ok (.getfield 24, 3) := by decide +kernel
theorem dX7_locksOf_4 : decode cX7_locksOf 4 = .ok (.aload_n 0, 1) := by decide +kernel
theorem dX7_locksOf_5 : decode cX7_locksOf 5 = .ok (.getfield 33, 3) := by decide +kernel
theorem dX7_locksOf_8 : decode cX7_locksOf 8 = .ok (.iaload, 1) := by decide +kernel
theorem dX7_locksOf_9 : decode cX7_locksOf 9 = .ok (.iload_n 1, 1) := by decide +kernel
theorem dX7_locksOf_10 : decode cX7_locksOf 10 = .ok (.ishr, 1) := by decide +kernel
theorem dX7_locksOf_11 : decode cX7_locksOf 11 = .ok (.iconst 1, 1) := by decide +kernel
theorem dX7_locksOf_12 : decode cX7_locksOf 12 = .ok (.iand, 1) := by decide +kernel
theorem dX7_locksOf_13 : decode cX7_locksOf 13 = .ok (.istore_n 2, 1) := by decide +kernel
theorem dX7_locksOf_14 : decode cX7_locksOf 14 = .ok (.iconst 0, 1) := by decide +kernel
theorem dX7_locksOf_15 : decode cX7_locksOf 15 = .ok (.istore_n 3, 1) := by decide +kernel
theorem dX7_locksOf_16 : decode cX7_locksOf 16 = .ok (.iload_n 3, 1) := by decide +kernel
theorem dX7_locksOf_17 : decode cX7_locksOf 17 = .ok (.aload_n 0, 1) := by decide +kernel
theorem dX7_locksOf_18 : decode cX7_locksOf 18 = .ok (.getfield 33, 3) := by decide +kernel
theorem dX7_locksOf_21 : decode cX7_locksOf 21 = .ok (.if_icmp .ge 33, 3) := by decide +kernel
theorem dX7_locksOf_24 : decode cX7_locksOf 24 = .ok (.iload_n 2, 1) := by decide +kernel
theorem dX7_locksOf_25 : decode cX7_locksOf 25 = .ok (.aload_n 0, 1) := by decide +kernel
theorem dX7_locksOf_26 : decode cX7_locksOf 26 = .ok (.getfield 24, 3) := by decide +kernel
theorem dX7_locksOf_29 : decode cX7_locksOf 29 = .ok (.iload_n 3, 1) := by decide +kernel
theorem dX7_locksOf_30 : decode cX7_locksOf 30 = .ok (.iaload, 1) := by decide +kernel
theorem dX7_locksOf_31 : decode cX7_locksOf 31 = .ok (.iload_n 1, 1) := by decide +kernel
theorem dX7_locksOf_32 : decode cX7_locksOf 32 = .ok (.ishr, 1) := by decide +kernel
theorem dX7_locksOf_33 : decode cX7_locksOf 33 = .ok (.iconst 1, 1) := by decide +kernel
theorem dX7_locksOf_34 : decode cX7_locksOf 34 = .ok (.iand, 1) := by decide +kernel
theorem dX7_locksOf_35 : decode cX7_locksOf 35 = .ok (.aload_n 0, 1) := by decide +kernel
theorem dX7_locksOf_36 : decode cX7_locksOf 36 = .ok (.getfield 27, 3) := by decide +kernel
theorem dX7_locksOf_39 : decode cX7_locksOf 39 = .ok (.iload_n 3, 1) := by decide +kernel
theorem dX7_locksOf_40 : decode cX7_locksOf 40 = .ok (.iaload, 1) := by decide +kernel
theorem dX7_locksOf_41 : decode cX7_locksOf 41 = .ok (.iload_n 1, 1) := by decide +kernel
theorem dX7_locksOf_42 : decode cX7_locksOf 42 = .ok (.ishr, 1) := by decide +kernel
theorem dX7_locksOf_43 : decode cX7_locksOf 43 = .ok (.iconst 1, 1) := by decide +kernel
theorem dX7_locksOf_44 : decode cX7_locksOf 44 = .ok (.iand, 1) := by decide +kernel
theorem dX7_locksOf_45 : decode cX7_locksOf 45 = .ok (.iadd, 1) := by decide +kernel
theorem dX7_locksOf_46 : decode cX7_locksOf 46 = .ok (.iadd, 1) := by decide +kernel
theorem dX7_locksOf_47 : decode cX7_locksOf 47 = .ok (.istore_n 2, 1) := by decide +kernel
theorem dX7_locksOf_48 : decode cX7_locksOf 48 = .ok (.iinc 3 1, 3) := by decide +kernel
theorem dX7_locksOf_51 : decode cX7_locksOf 51 = .ok (.goto (-35), 3) := by decide +kernel
theorem dX7_locksOf_54 : decode cX7_locksOf 54 = .ok (.iload_n 2, 1) := by decide +kernel
theorem dX7_locksOf_55 : decode cX7_locksOf 55 = .ok (.ireturn, 1) := by decide +kernel
set_option maxRecDepth 20000 in
theorem ggX7_lockByNumber_X7_levelAt : GoodIn wsX7_lockByNumber wsX7_levelAt := goodIn_r _ [7, 1, 8, 9, 10, 11, 12, 13, 14, 15, 16, 17] (by decide +kernel) (by decide +kernel)
set_option maxRecDepth 20000 in
theorem gX7_lockByNumber_X7_levelAt : GoodIn wsX7_lockByNumber (wsV RX7 43 RX7 yX7_levelAt wsX7_levelAt) := goodIn_app (goodIn_of _ (by decide +kernel)) ggX7_lockByNumber_X7_levelAt
theorem dX7_lockByNumber_0 : decode cX7_lockByNumber 0 = .ok (.iload_n 2, 1) := by decide +kernel
theorem dX7_lockByNumber_1 : decode cX7_lockByNumber 1 = .ok (.istore_n 3, 1) := by decide +kernel
theorem dX7_lockByNumber_2 : decode cX7_lockByNumber 2 = .ok (.iconst 0, 1) := by decide +kernel
theorem dX7_lockByNumber_3 : decode cX7_lockByNumber 3 = .ok (.istore 4, 2) := by decide +kernel
theorem dX7_lockByNumber_5 : decode cX7_lockByNumber 5 = .ok (.iload 4, 2) := by decide +kernel
theorem dX7_lockByNumber_7 : decode cX7_lockByNumber 7 = .ok (.aload_n 0, 1) := by decide +kernel
theorem dX7_lockByNumber_8 : decode cX7_lockByNumber 8 = .ok (.getfield 33, 3) := by decide +kernel
theorem dX7_lockByNumber_11 : decode cX7_lockByNumber 11 = .ok (.if_icmp .gt 66, 3) := by decide +kernel
theorem dX7_lockByNumber_14 : decode cX7_lockByNumber 14 = .ok (.aload_n 0, 1) := by decide +kernel
theorem dX7_lockByNumber_15 : decode cX7_lockByNumber 15 = .ok (.getfield 24, 3) := by decide +kernel
theorem dX7_lockByNumber_18 : decode cX7_lockByNumber 18 = .ok (.iload 4, 2) := by decide +kernel
theorem dX7_lockByNumber_20 : decode cX7_lockByNumber 20 = .ok (.iaload, 1) := by decide +kernel
theorem dX7_lockByNumber_21 : decode cX7_lockByNumber 21 = .ok (.iload_n 1, 1) := by decide +kernel
theorem dX7_lockByNumber_22 : decode cX7_lockByNumber 22 = .ok (.ishr, 1) := by decide +kernel
theorem dX7_lockByNumber_23 : decode cX7_lockByNumber 23 = .ok (.iconst 1, 1) := by decide +kernel
theorem dX7_lockByNumber_24 : decode cX7_lockByNumber 24 = .ok (.iand, 1) := by decide +kernel
theorem dX7_lockByNumber_25 : decode cX7_lockByNumber 25 = .ok (.ifCond .eq 16, 3) := by decide +kernel
theorem dX7_lockByNumber_28 : decode cX7_lockByNumber 28 = .ok (.iload_n 3, 1) := by decide +kernel
theorem dX7_lockByNumber_29 : decode cX7_lockByNumber 29 = .ok (.ifCond .ne 9, 3) := by decide +kernel
theorem dX7_lockByNumber_32 : decode cX7_lockByNumber 32 = .ok (.bipush 10, 2) := by decide +kernel
theorem dX7_lockByNumber_34 : decode cX7_lockByNumber 34 = .ok (.iload 4, 2) := by decide +kernel
theorem dX7_lockByNumber_36 : decode cX7_lockByNumber 36 = .ok (.imul, 1) := by decide +kernel
theorem dX7_lockByNumber_37 : decode cX7_lockByNumber 37 = .ok (.ireturn, 1) := by decide +kernel
theorem dX7_lockByNumber_38 : decode cX7_lockByNumber 38 = .ok (.iinc 3 (-1), 3) := by decide +kernel
theorem dX7_lockByNumber_41 : decode cX7_lockByNumber 41 = .ok (.aload_n 0, 1) := by decide +kernel
theorem dX7_lockByNumber_42 : decode cX7_lockByNumber 42 = .ok (.iload 4, 2) := by decide +kernel
theorem dX7_lockByNumber_44 : decode cX7_lockByNumber 44 = .ok (.iload_n 1, 1) := by decide +kernel
theorem dX7_lockByNumber_45 : decode cX7_lockByNumber 45 = .ok (.invokevirtual 43, 3) := by decide +kernel
theorem dX7_lockByNumber_48 : decode cX7_lockByNumber 48 = .ok (.istore 5, 2) := by decide +kernel
theorem dX7_lockByNumber_50 : decode cX7_lockByNumber 50 = .ok (.iload 5, 2) := by decide +kernel
theorem dX7_lockByNumber_52 : decode cX7_lockByNumber 52 = .ok (.ifCond .eq 19, 3) := by decide +kernel
theorem dX7_lockByNumber_55 : decode cX7_lockByNumber 55 = .ok (.iload_n 3, 1) := by decide +kernel
theorem dX7_lockByNumber_56 : decode cX7_lockByNumber 56 = .ok (.ifCond .ne 12, 3) := by decide +kernel
theorem dX7_lockByNumber_59 : decode cX7_lockByNumber 59 = .ok (.bipush 10, 2) := by decide +kernel
theorem dX7_lockByNumber_61 : decode cX7_lockByNumber 61 = .ok (.iload 4, 2) := by decide +kernel
theorem dX7_lockByNumber_63 : decode cX7_lockByNumber 63 = .ok (.imul, 1) := by decide +kernel
theorem dX7_lockByNumber_64 : decode cX7_lockByNumber 64 = .ok (.iload 5, 2) := by decide +kernel
theorem dX7_lockByNumber_66 : decode cX7_lockByNumber 66 = .ok (.iadd, 1) := by decide +kernel
theorem dX7_lockByNumber_67 : decode cX7_lockByNumber 67 = .ok (.ireturn, 1) := by decide +kernel
theorem dX7_lockByNumber_68 : decode cX7_lockByNumber 68 = .ok (.iinc 3 (-1), 3) := by decide +kernel
theorem dX7_lockByNumber_71 : decode cX7_lockByNumber 71 = .ok (.iinc 4 1, 3) := by decide +kernel
theorem dX7_lockByNumber_74 : decode cX7_lockByNumber 74 = .ok (.goto (-69), 3) := by decide +kernel
theorem dX7_lockByNumber_77 : decode cX7_lockByNumber 77 = .ok (.bipush (-2), 2) := by decide +kernel
theorem dX7_lockByNumber_79 : decode cX7_lockByNumber 79 = .ok (.ireturn, 1) := by decide +kernel
theorem dX7_leavesGap_0 : decode cX7_leavesGap 0 = .ok (.iload_n 2, 1) := by decide +kernel
theorem dX7_leavesGap_1 : decode cX7_leavesGap 1 = .ok (.istore 4, 2) := by decide +kernel
theorem dX7_leavesGap_3 : decode cX7_leavesGap 3 = .ok (.iload 4, 2) := by decide +kernel
theorem dX7_leavesGap_5 : decode cX7_leavesGap 5 = .ok (.aload_n 0, 1) := by decide +kernel
theorem dX7_leavesGap_6 : decode cX7_leavesGap 6 = .ok (.getfield 33, 3) := by decide +kernel
theorem dX7_leavesGap_9 : decode cX7_leavesGap 9 = .ok (.if_icmp .gt 49, 3) := by decide +kernel
theorem dX7_leavesGap_12 : decode cX7_leavesGap 12 = .ok (.aload_n 0, 1) := by decide +kernel
theorem dX7_leavesGap_13 : decode cX7_leavesGap 13 = .ok (.getfield 24, 3) := by decide +kernel
theorem dX7_leavesGap_16 : decode cX7_leavesGap 16 = .ok (.iload 4, 2) := by decide +kernel
theorem dX7_leavesGap_18 : decode cX7_leavesGap 18 = .ok (.iaload, 1) := by decide +kernel
theorem dX7_leavesGap_19 : decode cX7_leavesGap 19 = .ok (.iconst 1, 1) := by decide +kernel
theorem dX7_leavesGap_20 : decode cX7_leavesGap 20 = .ok (.iload_n 1, 1) := by decide +kernel
theorem dX7_leavesGap_21 : decode cX7_leavesGap 21 = .ok (.ishl, 1) := by decide +kernel
theorem dX7_leavesGap_22 : decode cX7_leavesGap 22 = .ok (.iconst (-1), 1) := by decide +kernel
theorem dX7_leavesGap_23 : decode cX7_leavesGap 23 = .ok (.ixor, 1) := by decide +kernel
theorem dX7_leavesGap_24 : decode cX7_leavesGap 24 = .ok (.iand, 1) := by decide +kernel
theorem dX7_leavesGap_25 : decode cX7_leavesGap 25 = .ok (.ifCond .ne 5, 3) := by decide +kernel
theorem dX7_leavesGap_28 : decode cX7_leavesGap 28 = .ok (.iconst 1, 1) := by decide +kernel
theorem dX7_leavesGap_29 : decode cX7_leavesGap 29 = .ok (.ireturn, 1) := by decide +kernel
theorem dX7_leavesGap_30 : decode cX7_leavesGap 30 = .ok (.iload 4, 2) := by decide +kernel
theorem dX7_leavesGap_32 : decode cX7_leavesGap 32 = .ok (.aload_n 0, 1) := by decide +kernel
theorem dX7_leavesGap_33 : decode cX7_leavesGap 33 = .ok (.getfield 33, 3) := by decide +kernel
theorem dX7_leavesGap_36 : decode cX7_leavesGap 36 = .ok (.if_icmp .ge 16, 3) := by decide +kernel
theorem dX7_leavesGap_39 : decode cX7_leavesGap 39 = .ok (.aload_n 0, 1) := by decide +kernel
theorem dX7_leavesGap_40 : decode cX7_leavesGap 40 = .ok (.getfield 9, 3) := by decide +kernel
theorem dX7_leavesGap_43 : decode cX7_leavesGap 43 = .ok (.iload 4, 2) := by decide +kernel
theorem dX7_leavesGap_45 : decode cX7_leavesGap 45 = .ok (.iaload, 1) := by decide +kernel
theorem dX7_leavesGap_46 : decode cX7_leavesGap 46 = .ok (.iload_n 3, 1) := by decide +kernel
theorem dX7_leavesGap_47 : decode cX7_leavesGap 47 = .ok (.if_icmp .le 5, 3) := by decide +kernel
theorem dX7_leavesGap_50 : decode cX7_leavesGap 50 = .ok (.iconst 0, 1) := by decide +kernel
theorem dX7_leavesGap_51 : decode cX7_leavesGap 51 = .ok (.ireturn, 1) := by decide +kernel
theorem dX7_leavesGap_52 : decode cX7_leavesGap 52 = .ok (.iinc 4 1, 3) := by decide +kernel
theorem dX7_leavesGap_55 : decode cX7_leavesGap 55 = .ok (.goto (-52), 3) := by decide +kernel
theorem dX7_leavesGap_58 : decode cX7_leavesGap 58 = .ok (.iconst 0, 1) := by decide +kernel
theorem dX7_leavesGap_59 : decode cX7_leavesGap 59 = .ok (.ireturn, 1) := by decide +kernel
set_option maxRecDepth 20000 in
theorem ggX7_widthAt_X4_floatOf : GoodIn wsX7_widthAt wsX4_floatOf := goodIn_r _ [5, 6, 7, 8, 9] (by decide +kernel) (by decide +kernel)
set_option maxRecDepth 20000 in
theorem gX7_widthAt_X4_floatOf : GoodIn wsX7_widthAt (va_wsS RX7 47 yX4_floatOf wsX4_floatOf) := goodIn_app (goodIn_of _ (by decide +kernel)) ggX7_widthAt_X4_floatOf
theorem dX7_widthAt_0 : decode cX7_widthAt 0 = .ok (.iload_n 1, 1) := by decide +kernel
theorem dX7_widthAt_1 : decode cX7_widthAt 1 = .ok (.ifCond .le 17, 3) := by decide +kernel
theorem dX7_widthAt_4 : decode cX7_widthAt 4 = .ok (.aload_n 0, 1) := by decide +kernel
theorem dX7_widthAt_5 : decode cX7_widthAt 5 = .ok (.getfield 9, 3) := by decide +kernel
theorem dX7_widthAt_8 : decode cX7_widthAt 8 = .ok (.iload_n 1, 1) := by decide +kernel
theorem dX7_widthAt_9 : decode cX7_widthAt 9 = .ok (.iconst 1, 1) := by decide +kernel
theorem dX7_widthAt_10 : decode cX7_widthAt 10 = .ok (.isub, 1) := by decide +kernel
theorem dX7_widthAt_11 : decode cX7_widthAt 11 = .ok (.iaload, 1) := by decide +kernel
theorem dX7_widthAt_12 : decode cX7_widthAt 12 = .ok (.invokestatic 47, 3) := by decide +kernel
theorem dX7_widthAt_15 : decode cX7_widthAt 15 = .ok (.goto 4, 3) := by decide +kernel
theorem dX7_widthAt_18 : decode cX7_widthAt 18 = .ok (.fconst 0, 1) := by decide +kernel
theorem dX7_widthAt_19 : decode cX7_widthAt 19 = .ok (.fstore_n 2, 1) := by decide +kernel
theorem dX7_widthAt_20 : decode cX7_widthAt 20 = .ok (.aload_n 0, 1) := by decide +kernel
theorem dX7_widthAt_21 : decode cX7_widthAt 21 = .ok (.getfield 9, 3) := by decide +kernel
theorem dX7_widthAt_24 : decode cX7_widthAt 24 = .ok (.iload_n 1, 1) := by decide +kernel
theorem dX7_widthAt_25 : decode cX7_widthAt 25 = .ok (.iaload, 1) := by decide +kernel
theorem dX7_widthAt_26 : decode cX7_widthAt 26 = .ok (.invokestatic 47, 3) := by decide +kernel
theorem dX7_widthAt_29 : decode cX7_widthAt 29 = .ok (.fload_n 2, 1) := by decide +kernel
theorem dX7_widthAt_30 : decode cX7_widthAt 30 = .ok (.fsub, 1) := by decide +kernel
theorem dX7_widthAt_31 : decode cX7_widthAt 31 = .ok (.freturn, 1) := by decide +kernel
set_option maxRecDepth 20000 in
theorem ggX7_middleAt_X4_floatOf : GoodIn wsX7_middleAt wsX4_floatOf := goodIn_r _ [5, 6, 7, 8, 9] (by decide +kernel) (by decide +kernel)
set_option maxRecDepth 20000 in
theorem gX7_middleAt_X4_floatOf : GoodIn wsX7_middleAt (va_wsS RX7 47 yX4_floatOf wsX4_floatOf) := goodIn_app (goodIn_of _ (by decide +kernel)) ggX7_middleAt_X4_floatOf
theorem dX7_middleAt_0 : decode cX7_middleAt 0 = .ok (.iload_n 1, 1) := by decide +kernel
theorem dX7_middleAt_1 : decode cX7_middleAt 1 = .ok (.ifCond .le 17, 3) := by decide +kernel
theorem dX7_middleAt_4 : decode cX7_middleAt 4 = .ok (.aload_n 0, 1) := by decide +kernel
theorem dX7_middleAt_5 : decode cX7_middleAt 5 = .ok (.getfield 9, 3) := by decide +kernel
theorem dX7_middleAt_8 : decode cX7_middleAt 8 = .ok (.iload_n 1, 1) := by decide +kernel
theorem dX7_middleAt_9 : decode cX7_middleAt 9 = .ok (.iconst 1, 1) := by decide +kernel
theorem dX7_middleAt_10 : decode cX7_middleAt 10 = .ok (.isub, 1) := by decide +kernel
theorem dX7_middleAt_11 : decode cX7_middleAt 11 = .ok (.iaload, 1) := by decide +kernel
theorem dX7_middleAt_12 : decode cX7_middleAt 12 = .ok (.invokestatic 47, 3) := by decide +kernel
theorem dX7_middleAt_15 : decode cX7_middleAt 15 = .ok (.goto 4, 3) := by decide +kernel
theorem dX7_middleAt_18 : decode cX7_middleAt 18 = .ok (.fconst 0, 1) := by decide +kernel
theorem dX7_middleAt_19 : decode cX7_middleAt 19 = .ok (.fstore_n 2, 1) := by decide +kernel
theorem dX7_middleAt_20 : decode cX7_middleAt 20 = .ok (.fload_n 2, 1) := by decide +kernel
theorem dX7_middleAt_21 : decode cX7_middleAt 21 = .ok (.aload_n 0, 1) := by decide +kernel
theorem dX7_middleAt_22 : decode cX7_middleAt 22 = .ok (.getfield 9, 3) := by decide +kernel
theorem dX7_middleAt_25 : decode cX7_middleAt 25 = .ok (.iload_n 1, 1) := by decide +kernel
theorem dX7_middleAt_26 : decode cX7_middleAt 26 = .ok (.iaload, 1) := by decide +kernel
theorem dX7_middleAt_27 : decode cX7_middleAt 27 = .ok (.invokestatic 47, 3) := by decide +kernel
theorem dX7_middleAt_30 : decode cX7_middleAt 30 = .ok (.fadd, 1) := by decide +kernel
theorem dX7_middleAt_31 : decode cX7_middleAt 31 = .ok (.fconst 2, 1) := by decide +kernel
theorem dX7_middleAt_32 : decode cX7_middleAt 32 = .ok (.fdiv, 1) := by decide +kernel
theorem dX7_middleAt_33 : decode cX7_middleAt 33 = .ok (.freturn, 1) := by decide +kernel
set_option maxRecDepth 20000 in
theorem ggX7_keySum_X4_floatOf : GoodIn wsX7_keySum wsX4_floatOf := goodIn_r _ [6, 7, 8, 9, 10] (by decide +kernel) (by decide +kernel)
set_option maxRecDepth 20000 in
theorem gX7_keySum_X4_floatOf : GoodIn wsX7_keySum (va_wsS RX7 47 yX4_floatOf wsX4_floatOf) := goodIn_app (goodIn_of _ (by decide +kernel)) ggX7_keySum_X4_floatOf
theorem dX7_keySum_0 : decode cX7_keySum 0 = .ok (.fconst 0, 1) := by decide +kernel
theorem dX7_keySum_1 : decode cX7_keySum 1 = .ok (.fstore_n 1, 1) := by decide +kernel
theorem dX7_keySum_2 : decode cX7_keySum 2 = .ok (.iconst 0, 1) := by decide +kernel
theorem dX7_keySum_3 : decode cX7_keySum 3 = .ok (.istore_n 2, 1) := by decide +kernel
theorem dX7_keySum_4 : decode cX7_keySum 4 = .ok (.iload_n 2, 1) := by decide +kernel
theorem dX7_keySum_5 : decode cX7_keySum 5 = .ok (.aload_n 0, 1) := by decide +kernel
theorem dX7_keySum_6 : decode cX7_keySum 6 = .ok (.getfield 33, 3) := by decide +kernel
theorem dX7_keySum_9 : decode cX7_keySum 9 = .ok (.if_icmp .ge 21, 3) := by decide +kernel
theorem dX7_keySum_12 : decode cX7_keySum 12 = .ok (.fload_n 1, 1) := by decide +kernel
theorem dX7_keySum_13 : decode cX7_keySum 13 = .ok (.aload_n 0, 1) := by decide +kernel
theorem dX7_keySum_14 : decode cX7_keySum 14 = .ok (.getfield 9, 3) := by decide +kernel
theorem dX7_keySum_17 : decode cX7_keySum 17 = .ok (.iload_n 2, 1) := by decide +kernel
theorem dX7_keySum_18 : decode cX7_keySum 18 = .ok (.iaload, 1) := by decide +kernel
theorem dX7_keySum_19 : decode cX7_keySum 19 = .ok (.invokestatic 47, 3) := by decide +kernel
theorem dX7_keySum_22 : decode cX7_keySum 22 = .ok (.fadd, 1) := by decide +kernel
theorem dX7_keySum_23 : decode cX7_keySum 23 = .ok (.fstore_n 1, 1) := by decide +kernel
theorem dX7_keySum_24 : decode cX7_keySum 24 = .ok (.iinc 2 1, 3) := by decide +kernel
theorem dX7_keySum_27 : decode cX7_keySum 27 = .ok (.goto (-23), 3) := by decide +kernel
theorem dX7_keySum_30 : decode cX7_keySum 30 = .ok (.fload_n 1, 1) := by decide +kernel
theorem dX7_keySum_31 : decode cX7_keySum 31 = .ok (.freturn, 1) := by decide +kernel
theorem dX7_valueSum_0 : decode cX7_valueSum 0 = .ok (.iconst 0, 1) := by decide +kernel
theorem dX7_valueSum_1 : decode cX7_valueSum 1 = .ok (.istore_n 1, 1) := by decide +kernel
theorem dX7_valueSum_2 : decode cX7_valueSum 2 = .ok (.iconst 0, 1) := by decide +kernel
theorem dX7_valueSum_3 : decode cX7_valueSum 3 = .ok (.istore_n 2, 1) := by decide +kernel
theorem dX7_valueSum_4 : decode cX7_valueSum 4 = .ok (.iload_n 2, 1) := by decide +kernel
theorem dX7_valueSum_5 : decode cX7_valueSum 5 = .ok (.aload_n 0, 1) := by decide +kernel
theorem dX7_valueSum_6 : decode cX7_valueSum 6 = .ok (.getfield 33, 3) := by decide +kernel
theorem dX7_valueSum_9 : decode cX7_valueSum 9 = .ok (.if_icmp .ge 18, 3) := by decide +kernel
theorem dX7_valueSum_12 : decode cX7_valueSum 12 = .ok (.iload_n 1, 1) := by decide +kernel
theorem dX7_valueSum_13 : decode cX7_valueSum 13 = .ok (.aload_n 0, 1) := by decide +kernel
theorem dX7_valueSum_14 : decode cX7_valueSum 14 = .ok (.getfield 15, 3) := by decide +kernel
theorem dX7_valueSum_17 : decode cX7_valueSum 17 = .ok (.iload_n 2, 1) := by decide +kernel
theorem dX7_valueSum_18 : decode cX7_valueSum 18 = .ok (.iaload, 1) := by decide +kernel
theorem dX7_valueSum_19 : decode cX7_valueSum 19 = .ok (.iadd, 1) := by decide +kernel
theorem dX7_valueSum_20 : decode cX7_valueSum 20 = .ok (.istore_n 1, 1) := by decide +kernel
theorem dX7_valueSum_21 : decode cX7_valueSum 21 = .ok (.iinc 2 1, 3) := by decide +kernel
theorem dX7_valueSum_24 : decode cX7_valueSum 24 = .ok (.goto (-20), 3) := by decide +kernel
theorem dX7_valueSum_27 : decode cX7_valueSum 27 = .ok (.iload_n 1, 1) := by decide +kernel
theorem dX7_valueSum_28 : decode cX7_valueSum 28 = .ok (.ireturn, 1) := by decide +kernel
theorem dX7_cutKeys_0 : decode cX7_cutKeys 0 = .ok (.iconst 0, 1) := by decide +kernel
theorem dX7_cutKeys_1 : decode cX7_cutKeys 1 = .ok (.istore_n 1, 1) := by decide +kernel
theorem dX7_cutKeys_2 : decode cX7_cutKeys 2 = .ok (.iconst 0, 1) := by decide +kernel
theorem dX7_cutKeys_3 : decode cX7_cutKeys 3 = .ok (.istore_n 2, 1) := by decide +kernel
theorem dX7_cutKeys_4 : decode cX7_cutKeys 4 = .ok (.iload_n 2, 1) := by decide +kernel
theorem dX7_cutKeys_5 : decode cX7_cutKeys 5 = .ok (.aload_n 0, 1) := by decide +kernel
theorem dX7_cutKeys_6 : decode cX7_cutKeys 6 = .ok (.getfield 33, 3) := by decide +kernel
theorem dX7_cutKeys_9 : decode cX7_cutKeys 9 = .ok (.if_icmp .ge 28, 3) := by decide +kernel
theorem dX7_cutKeys_12 : decode cX7_cutKeys 12 = .ok (.iload_n 1, 1) := by decide +kernel
theorem dX7_cutKeys_13 : decode cX7_cutKeys 13 = .ok (.aload_n 0, 1) := by decide +kernel
theorem dX7_cutKeys_14 : decode cX7_cutKeys 14 = .ok (.getfield 18, 3) := by decide +kernel
theorem dX7_cutKeys_17 : decode cX7_cutKeys 17 = .ok (.iload_n 2, 1) := by decide +kernel
theorem dX7_cutKeys_18 : decode cX7_cutKeys 18 = .ok (.iaload, 1) := by decide +kernel
theorem dX7_cutKeys_19 : decode cX7_cutKeys 19 = .ok (.bipush (-2), 2) := by decide +kernel
theorem dX7_cutKeys_21 : decode cX7_cutKeys 21 = .ok (.if_icmp .ne 7, 3) := by decide +kernel
theorem dX7_cutKeys_24 : decode cX7_cutKeys 24 = .ok (.iconst 0, 1) := by decide +kernel
theorem dX7_cutKeys_25 : decode cX7_cutKeys 25 = .ok (.goto 4, 3) := by decide +kernel
theorem dX7_cutKeys_28 : decode cX7_cutKeys 28 = .ok (.iconst 1, 1) := by decide +kernel
theorem dX7_cutKeys_29 : decode cX7_cutKeys 29 = .ok (.iadd, 1) := by decide +kernel
theorem dX7_cutKeys_30 : decode cX7_cutKeys 30 = .ok (.istore_n 1, 1) := by decide +kernel
theorem dX7_cutKeys_31 : decode cX7_cutKeys 31 = .ok (.iinc 2 1, 3) := by decide +kernel
theorem dX7_cutKeys_34 : decode cX7_cutKeys 34 = .ok (.goto (-30), 3) := by decide +kernel
theorem dX7_cutKeys_37 : decode cX7_cutKeys 37 = .ok (.iload_n 1, 1) := by decide +kernel
theorem dX7_cutKeys_38 : decode cX7_cutKeys 38 = .ok (.ireturn, 1) := by decide +kernel
set_option maxRecDepth 20000 in
theorem ggX8_init_X0_init : GoodIn wsX8_init wsX0_init := goodIn_r _ [16, 17, 2, 3, 18, 19, 20, 21, 8, 22, 23, 24, 25, 26, 27, 28, 12, 13, 29, 30, 31, 32, 33, 34, 35, 36, 37, 38, 39, 40, 41, 42, 43, 44, 45, 46, 47, 48, 49, 50, 51, 52, 53, 54, 55, 56, 57, 58, 59, 60, 61, 62, 63, 64, 65, 85, 86, 87, 88, 89, 90, 91, 92, 66, 67, 68, 69, 70, 77, 78, 79, 80, 81, 82, 83, 84, 93, 94, 95, 96, 97, 98, 99, 100, 101, 102, 103, 104, 105, 106] (by decide +kernel) (by decide +kernel)
set_option maxRecDepth 20000 in
theorem gX8_init_X0_init_n11 : GoodIn wsX8_init (wsX0_init) := ggX8_init_X0_init
set_option maxRecDepth 20000 in
theorem ggX8_init_X7_init : GoodIn wsX8_init wsX7_init := goodIn_r _ [39, 40, 2, 3, 8, 41, 42, 43, 44, 45, 46, 47, 77, 78, 79, 80, 81, 82, 83, 84] (by decide +kernel) (by decide +kernel)
set_option maxRecDepth 20000 in
theorem gX8_init_X7_init_n27 : GoodIn wsX8_init (wsX7_init) := ggX8_init_X7_init
theorem dX8_init_0 : decode cX8_init 0 = .ok (.aload_n 0, 1) := by decide +kernel
theorem dX8_init_1 : decode cX8_init 1 = .ok (.invokespecial 3, 3) := by decide +kernel
theorem dX8_init_4 : decode cX8_init 4 = .ok (.aload_n 0, 1) := by decide +kernel
theorem dX8_init_5 : decode cX8_init 5 = .ok (.new 9, 3) := by decide +kernel
theorem dX8_init_8 : decode cX8_init 8 = .ok (.dup, 1) := by decide +kernel
theorem dX8_init_9 : decode cX8_init 9 = .ok (.invokespecial 11, 3) := by decide +kernel
theorem dX8_init_12 : decode cX8_init 12 = .ok (.putfield 12, 3) := by decide +kernel
theorem dX8_init_15 : decode cX8_init 15 = .ok (.aload_n 0, 1) := by decide +kernel
theorem dX8_init_16 : decode cX8_init 16 = .ok (.iconst 5, 1) := by decide +kernel
theorem dX8_init_17 : decode cX8_init 17 = .ok (.newarray .int, 2) := by decide +kernel
theorem dX8_init_19 : decode cX8_init 19 = .ok (.putfield 18, 3) := by decide +kernel
theorem dX8_init_22 : decode cX8_init 22 = .ok (.aload_n 0, 1) := by decide +kernel
theorem dX8_init_23 : decode cX8_init 23 = .ok (.iconst 5, 1) := by decide +kernel
theorem dX8_init_24 : decode cX8_init 24 = .ok (.newarray .int, 2) := by decide +kernel
theorem dX8_init_26 : decode cX8_init 26 = .ok (.putfield 22, 3) := by decide +kernel
theorem dX8_init_29 : decode cX8_init 29 = .ok (.aload_n 0, 1) := by decide +kernel
theorem dX8_init_30 : decode cX8_init 30 = .ok (.new 25, 3) := by decide +kernel
theorem dX8_init_33 : decode cX8_init 33 = .ok (.dup, 1) := by decide +kernel
theorem dX8_init_34 : decode cX8_init 34 = .ok (.invokespecial 27, 3) := by decide +kernel
theorem dX8_init_37 : decode cX8_init 37 = .ok (.putfield 28, 3) := by decide +kernel
theorem dX8_init_40 : decode cX8_init 40 = .ok (.return_, 1) := by decide +kernel
set_option maxRecDepth 20000 in
theorem ggX8_hindered_X0_begin : GoodIn wsX8_hindered wsX0_begin := goodIn_r _ [13, 14, 15, 16, 17, 18, 19, 20, 21, 22, 23, 24, 25, 26, 27, 28, 29, 30, 31, 32, 33, 34, 35, 36, 37, 38, 39, 40, 41, 42, 43, 44, 45, 46, 47, 48, 49, 50, 51, 52, 53, 54, 55, 56, 57, 58, 59, 60, 61, 62, 63, 64, 250, 251, 252, 253, 254, 255, 256, 257, 258, 259, 260, 261, 262, 263, 264, 265, 266, 267, 268, 269, 270, 271, 272, 273, 274, 275, 276, 277, 278, 279, 280, 281, 282, 283, 284, 285, 286, 287, 288, 289, 290, 291, 292, 293, 294] (by decide +kernel) (by decide +kernel)
set_option maxRecDepth 20000 in
theorem gX8_hindered_X0_begin : GoodIn wsX8_hindered (wsV RX8 32 RX0 yX0_begin wsX0_begin) := goodIn_app (goodIn_of _ (by decide +kernel)) ggX8_hindered_X0_begin
set_option maxRecDepth 20000 in
theorem ggX8_hindered_X0_go : GoodIn wsX8_hindered wsX0_go := goodIn_r _ [68, 69, 17, 70, 15, 14, 71, 72, 73, 16, 74, 75, 76, 77, 78, 79, 80, 12, 81, 82, 83, 84, 85, 18, 86, 87, 88, 22, 89, 26, 90, 91, 92, 93, 94, 53, 95, 57, 96, 97, 98, 99, 55, 100, 101, 102, 103, 24, 104, 105, 106, 107, 108, 36, 109, 38, 47, 48, 39, 44, 45, 46, 49, 110, 111, 112, 113, 28, 114, 115, 116, 117, 56, 118, 119, 120, 121, 122, 123, 124, 125, 126, 127, 128, 129, 130, 131, 132, 133, 29, 134, 135, 136, 137, 138, 139, 140, 141, 142, 143, 144, 145, 146, 147, 148, 149, 150, 151, 152, 153, 154, 155, 156, 157, 158, 159, 160, 161, 162, 163, 164, 165, 166, 167, 168, 169, 170, 171, 172, 173, 174, 175, 176, 177, 178, 179, 31, 180, 181, 182, 183, 184, 185, 186, 187, 188, 189, 190, 191, 192, 193, 30, 194, 195, 196, 197, 198, 199, 200, 201, 202, 203, 204, 205, 206, 207, 208, 209, 210, 211, 212, 213, 214, 32, 215, 216, 217, 218, 219, 220, 221, 222, 223, 224, 225, 226, 227, 228, 229, 230, 231, 232, 233, 234, 235, 236, 237, 238, 239, 250, 251, 252, 253, 254, 263, 264, 265, 266, 267, 268, 269, 270, 271, 272, 255, 256, 257, 258, 259, 260, 261, 262, 283, 284, 285, 286, 287, 288, 289, 290, 291, 292, 293, 294, 275, 276, 277, 278, 279, 280, 281, 282, 273, 274] (by decide +kernel) (by decide +kernel)
set_option maxRecDepth 20000 in
theorem gX8_hindered_X0_go : GoodIn wsX8_hindered (wsV RX8 64 RX0 yX0_go wsX0_go) := goodIn_app (goodIn_of _ (by decide +kernel)) ggX8_hindered_X0_go
set_option maxRecDepth 20000 in
theorem ggX8_hindered_X0_hinderedSteps : GoodIn wsX8_hindered wsX0_hinderedSteps := goodIn_r _ [243, 70, 16, 263, 264, 265, 266, 267, 268, 269, 270, 271, 272, 250, 251, 252, 253, 254] (by decide +kernel) (by decide +kernel)
set_option maxRecDepth 20000 in
theorem gX8_hindered_X0_hinderedSteps : GoodIn wsX8_hindered (wsV RX8 68 RX0 yX0_hinderedSteps wsX0_hinderedSteps) := goodIn_app (goodIn_of _ (by decide +kernel)) ggX8_hindered_X0_hinderedSteps
theorem dX8_hindered_0 : decode cX8_hindered 0 = .ok (.aload_n 0, 1) := by decide +kernel
theorem dX8_hindered_1 : decode cX8_hindered 1 = .ok (.getfield 12, 3) := by decide +kernel
theorem dX8_hindered_4 : decode cX8_hindered 4 = .ok (.aload_n 1, 1) := by decide +kernel
theorem dX8_hindered_5 : decode cX8_hindered 5 = .ok (.invokevirtual 32, 3) := by decide +kernel
theorem dX8_hindered_8 : decode cX8_hindered 8 = .ok (.aload_n 0, 1) := by decide +kernel
theorem dX8_hindered_9 : decode cX8_hindered 9 = .ok (.getfield 12, 3) := by decide +kernel
theorem dX8_hindered_12 : decode cX8_hindered 12 = .ok (.getfield 36, 3) := by decide +kernel
theorem dX8_hindered_15 : decode cX8_hindered 15 = .ok (.iload_n 2, 1) := by decide +kernel
theorem dX8_hindered_16 : decode cX8_hindered 16 = .ok (.iconst 1, 1) := by decide +kernel
theorem dX8_hindered_17 : decode cX8_hindered 17 = .ok (.if_icmp .ne 7, 3) := by decide +kernel
theorem dX8_hindered_20 : decode cX8_hindered 20 = .ok (.iconst 1, 1) := by decide +kernel
theorem dX8_hindered_21 : decode cX8_hindered 21 = .ok (.goto 4, 3) := by decide +kernel
theorem dX8_hindered_24 : decode cX8_hindered 24 = .ok (.iconst 0, 1) := by decide +kernel
theorem dX8_hindered_25 : decode cX8_hindered 25 = .ok (.putfield 40, 3) := by decide +kernel
theorem dX8_hindered_28 : decode cX8_hindered 28 = .ok (.aload_n 0, 1) := by decide +kernel
theorem dX8_hindered_29 : decode cX8_hindered 29 = .ok (.getfield 12, 3) := by decide +kernel
theorem dX8_hindered_32 : decode cX8_hindered 32 = .ok (.getfield 36, 3) := by decide +kernel
theorem dX8_hindered_35 : decode cX8_hindered 35 = .ok (.iload_n 2, 1) := by decide +kernel
theorem dX8_hindered_36 : decode cX8_hindered 36 = .ok (.iconst 3, 1) := by decide +kernel
theorem dX8_hindered_37 : decode cX8_hindered 37 = .ok (.if_icmp .ne 7, 3) := by decide +kernel
theorem dX8_hindered_40 : decode cX8_hindered 40 = .ok (.iconst 1, 1) := by decide +kernel
theorem dX8_hindered_41 : decode cX8_hindered 41 = .ok (.goto 4, 3) := by decide +kernel
theorem dX8_hindered_44 : decode cX8_hindered 44 = .ok (.iconst 0, 1) := by decide +kernel
theorem dX8_hindered_45 : decode cX8_hindered 45 = .ok (.putfield 46, 3) := by decide +kernel
theorem dX8_hindered_48 : decode cX8_hindered 48 = .ok (.aload_n 0, 1) := by decide +kernel
theorem dX8_hindered_49 : decode cX8_hindered 49 = .ok (.getfield 12, 3) := by decide +kernel
theorem dX8_hindered_52 : decode cX8_hindered 52 = .ok (.getfield 36, 3) := by decide +kernel
theorem dX8_hindered_55 : decode cX8_hindered 55 = .ok (.iload_n 2, 1) := by decide +kernel
theorem dX8_hindered_56 : decode cX8_hindered 56 = .ok (.iconst 4, 1) := by decide +kernel
theorem dX8_hindered_57 : decode cX8_hindered 57 = .ok (.if_icmp .ne 7, 3) := by decide +kernel
theorem dX8_hindered_60 : decode cX8_hindered 60 = .ok (.iconst 1, 1) := by decide +kernel
theorem dX8_hindered_61 : decode cX8_hindered 61 = .ok (.goto 4, 3) := by decide +kernel
theorem dX8_hindered_64 : decode cX8_hindered 64 = .ok (.iconst 0, 1) := by decide +kernel
theorem dX8_hindered_65 : decode cX8_hindered 65 = .ok (.putfield 49, 3) := by decide +kernel
theorem dX8_hindered_68 : decode cX8_hindered 68 = .ok (.iconst 0, 1) := by decide +kernel
theorem dX8_hindered_69 : decode cX8_hindered 69 = .ok (.istore 4, 2) := by decide +kernel
theorem dX8_hindered_71 : decode cX8_hindered 71 = .ok (.iload 4, 2) := by decide +kernel
theorem dX8_hindered_73 : decode cX8_hindered 73 = .ok (.aload_n 1, 1) := by decide +kernel
theorem dX8_hindered_74 : decode cX8_hindered 74 = .ok (.getfield 52, 3) := by decide +kernel
theorem dX8_hindered_77 : decode cX8_hindered 77 = .ok (.if_icmp .ge 36, 3) := by decide +kernel
theorem dX8_hindered_80 : decode cX8_hindered 80 = .ok (.iload_n 2, 1) := by decide +kernel
theorem dX8_hindered_81 : decode cX8_hindered 81 = .ok (.iconst 2, 1) := by decide +kernel
theorem dX8_hindered_82 : decode cX8_hindered 82 = .ok (.if_icmp .ne 25, 3) := by decide +kernel
theorem dX8_hindered_85 : decode cX8_hindered 85 = .ok (.aload_n 1, 1) := by decide +kernel
theorem dX8_hindered_86 : decode cX8_hindered 86 = .ok (.getfield 58, 3) := by decide +kernel
theorem dX8_hindered_89 : decode cX8_hindered 89 = .ok (.iload 4, 2) := by decide +kernel
theorem dX8_hindered_91 : decode cX8_hindered 91 = .ok (.iaload, 1) := by decide +kernel
theorem dX8_hindered_92 : decode cX8_hindered 92 = .ok (.iload_n 3, 1) := by decide +kernel
theorem dX8_hindered_93 : decode cX8_hindered 93 = .ok (.if_icmp .ne 14, 3) := by decide +kernel
theorem dX8_hindered_96 : decode cX8_hindered 96 = .ok (.aload_n 0, 1) := by decide +kernel
theorem dX8_hindered_97 : decode cX8_hindered 97 = .ok (.getfield 12, 3) := by decide +kernel
theorem dX8_hindered_100 : decode cX8_hindered 100 = .ok (.getfield 61, 3) := by decide +kernel
theorem dX8_hindered_103 : decode cX8_hindered 103 = .ok (.iload 4, 2) := by decide +kernel
theorem dX8_hindered_105 : decode cX8_hindered 105 = .ok (.iconst 3, 1) := by decide +kernel
theorem dX8_hindered_106 : decode cX8_hindered 106 = .ok (.iastore, 1) := by decide +kernel
theorem dX8_hindered_107 : decode cX8_hindered 107 = .ok (.iinc 4 1, 3) := by decide +kernel
theorem dX8_hindered_110 : decode cX8_hindered 110 = .ok (.goto (-39), 3) := by decide +kernel
theorem dX8_hindered_113 : decode cX8_hindered 113 = .ok (.aload_n 0, 1) := by decide +kernel
theorem dX8_hindered_114 : decode cX8_hindered 114 = .ok (.getfield 12, 3) := by decide +kernel
theorem dX8_hindered_117 : decode cX8_hindered 117 = .ok (.aload_n 1, 1) := by decide +kernel
theorem dX8_hindered_118 : decode cX8_hindered 118 = .ok (.bipush 24, 2) := by decide +kernel
theorem dX8_hindered_120 : decode cX8_hindered 120 = .ok (.invokevirtual 64, 3) := by decide +kernel
theorem dX8_hindered_123 : decode cX8_hindered 123 = .ok (.aload_n 0, 1) := by decide +kernel
theorem dX8_hindered_124 : decode cX8_hindered 124 = .ok (.getfield 12, 3) := by decide +kernel
theorem dX8_hindered_127 : decode cX8_hindered 127 = .ok (.aload_n 1, 1) := by decide +kernel
theorem dX8_hindered_128 : decode cX8_hindered 128 = .ok (.invokevirtual 68, 3) := by decide +kernel
theorem dX8_hindered_131 : decode cX8_hindered 131 = .ok (.ireturn, 1) := by decide +kernel
set_option maxRecDepth 20000 in
theorem ggX8_hinderedSwapped_X0_begin : GoodIn wsX8_hinderedSwapped wsX0_begin := goodIn_r _ [7, 8, 9, 10, 11, 12, 13, 14, 15, 16, 17, 18, 19, 20, 21, 22, 23, 24, 25, 26, 27, 28, 29, 30, 31, 32, 33, 34, 35, 36, 37, 38, 39, 40, 41, 42, 43, 44, 45, 46, 47, 48, 49, 50, 51, 52, 53, 54, 55, 56, 57, 58, 244, 245, 246, 247, 248, 249, 250, 251, 252, 253, 254, 255, 256, 257, 258, 259, 260, 261, 262, 263, 264, 265, 266, 267, 268, 269, 270, 271, 272, 273, 274, 275, 276, 277, 278, 279, 280, 281, 282, 283, 284, 285, 286, 287, 288] (by decide +kernel) (by decide +kernel)
set_option maxRecDepth 20000 in
theorem gX8_hinderedSwapped_X0_begin : GoodIn wsX8_hinderedSwapped (wsV RX8 32 RX0 yX0_begin wsX0_begin) := goodIn_app (goodIn_of _ (by decide +kernel)) ggX8_hinderedSwapped_X0_begin
set_option maxRecDepth 20000 in
theorem ggX8_hinderedSwapped_X0_go : GoodIn wsX8_hinderedSwapped wsX0_go := goodIn_r _ [62, 63, 11, 64, 9, 8, 65, 66, 67, 10, 68, 69, 70, 71, 72, 73, 74, 6, 75, 76, 77, 78, 79, 12, 80, 81, 82, 16, 83, 20, 84, 85, 86, 87, 88, 47, 89, 51, 90, 91, 92, 93, 49, 94, 95, 96, 97, 18, 98, 99, 100, 101, 102, 30, 103, 32, 41, 42, 33, 38, 39, 40, 43, 104, 105, 106, 107, 22, 108, 109, 110, 111, 50, 112, 113, 114, 115, 116, 117, 118, 119, 120, 121, 122, 123, 124, 125, 126, 127, 23, 128, 129, 130, 131, 132, 133, 134, 135, 136, 137, 138, 139, 140, 141, 142, 143, 144, 145, 146, 147, 148, 149, 150, 151, 152, 153, 154, 155, 156, 157, 158, 159, 160, 161, 162, 163, 164, 165, 166, 167, 168, 169, 170, 171, 172, 173, 25, 174, 175, 176, 177, 178, 179, 180, 181, 182, 183, 184, 185, 186, 187, 24, 188, 189, 190, 191, 192, 193, 194, 195, 196, 197, 198, 199, 200, 201, 202, 203, 204, 205, 206, 207, 208, 26, 209, 210, 211, 212, 213, 214, 215, 216, 217, 218, 219, 220, 221, 222, 223, 224, 225, 226, 227, 228, 229, 230, 231, 232, 233, 244, 245, 246, 247, 248, 257, 258, 259, 260, 261, 262, 263, 264, 265, 266, 249, 250, 251, 252, 253, 254, 255, 256, 277, 278, 279, 280, 281, 282, 283, 284, 285, 286, 287, 288, 269, 270, 271, 272, 273, 274, 275, 276, 267, 268] (by decide +kernel) (by decide +kernel)
set_option maxRecDepth 20000 in
theorem gX8_hinderedSwapped_X0_go : GoodIn wsX8_hinderedSwapped (wsV RX8 64 RX0 yX0_go wsX0_go) := goodIn_app (goodIn_of _ (by decide +kernel)) ggX8_hinderedSwapped_X0_go
set_option maxRecDepth 20000 in
theorem ggX8_hinderedSwapped_X0_hinderedSteps : GoodIn wsX8_hinderedSwapped wsX0_hinderedSteps := goodIn_r _ [237, 64, 10, 257, 258, 259, 260, 261, 262, 263, 264, 265, 266, 244, 245, 246, 247, 248] (by decide +kernel) (by decide +kernel)
set_option maxRecDepth 20000 in
theorem gX8_hinderedSwapped_X0_hinderedSteps : GoodIn wsX8_hinderedSwapped (wsV RX8 68 RX0 yX0_hinderedSteps wsX0_hinderedSteps) := goodIn_app (goodIn_of _ (by decide +kernel)) ggX8_hinderedSwapped_X0_hinderedSteps
theorem dX8_hinderedSwapped_0 : decode cX8_hinderedSwapped 0 = .ok (.aload_n 0, 1) := by decide +kernel
theorem dX8_hinderedSwapped_1 : decode cX8_hinderedSwapped 1 = .ok (.getfield 12, 3) := by decide +kernel
theorem dX8_hinderedSwapped_4 : decode cX8_hinderedSwapped 4 = .ok (.aload_n 1, 1) := by decide +kernel
theorem dX8_hinderedSwapped_5 : decode cX8_hinderedSwapped 5 = .ok (.invokevirtual 32, 3) := by decide +kernel
theorem dX8_hinderedSwapped_8 : decode cX8_hinderedSwapped 8 = .ok (.aload_n 0, 1) := by decide +kernel
theorem dX8_hinderedSwapped_9 : decode cX8_hinderedSwapped 9 = .ok (.getfield 12, 3) := by decide +kernel
theorem dX8_hinderedSwapped_12 : decode cX8_hinderedSwapped 12 = .ok (.iload_n 2, 1) := by decide +kernel
theorem dX8_hinderedSwapped_13 : decode cX8_hinderedSwapped 13 = .ok (.putfield 72, 3) := by decide +kernel
theorem dX8_hinderedSwapped_16 : decode cX8_hinderedSwapped 16 = .ok (.aload_n 0, 1) := by decide +kernel
theorem dX8_hinderedSwapped_17 : decode cX8_hinderedSwapped 17 = .ok (.getfield 12, 3) := by decide +kernel
theorem dX8_hinderedSwapped_20 : decode cX8_hinderedSwapped 20 = .ok (.aload_n 1, 1) := by decide +kernel
theorem dX8_hinderedSwapped_21 : decode cX8_hinderedSwapped 21 = .ok (.bipush 24, 2) := by decide +kernel
theorem dX8_hinderedSwapped_23 : decode cX8_hinderedSwapped 23 = .ok (.invokevirtual 64, 3) := by decide +kernel
theorem dX8_hinderedSwapped_26 : decode cX8_hinderedSwapped 26 = .ok (.aload_n 0, 1) := by decide +kernel
theorem dX8_hinderedSwapped_27 : decode cX8_hinderedSwapped 27 = .ok (.getfield 12, 3) := by decide +kernel
theorem dX8_hinderedSwapped_30 : decode cX8_hinderedSwapped 30 = .ok (.aload_n 1, 1) := by decide +kernel
theorem dX8_hinderedSwapped_31 : decode cX8_hinderedSwapped 31 = .ok (.invokevirtual 68, 3) := by decide +kernel
theorem dX8_hinderedSwapped_34 : decode cX8_hinderedSwapped 34 = .ok (.ireturn, 1) := by decide +kernel
set_option maxRecDepth 20000 in
theorem ggX8_firstCulprit_X0_begin : GoodIn wsX8_firstCulprit wsX0_begin := goodIn_r _ [10, 11, 12, 13, 14, 15, 16, 17, 18, 19, 20, 21, 22, 23, 24, 25, 26, 27, 28, 29, 30, 31, 32, 33, 34, 35, 36, 37, 38, 39, 40, 41, 42, 43, 44, 45, 46, 47, 48, 49, 50, 51, 52, 53, 54, 55, 56, 57, 58, 59, 60, 61, 247, 248, 249, 250, 251, 252, 253, 254, 255, 256, 257, 258, 259, 260, 261, 262, 263, 264, 265, 266, 267, 268, 269, 270, 271, 272, 273, 274, 275, 276, 277, 278, 279, 280, 281, 282, 283, 284, 285, 286, 287, 288, 289, 290, 291] (by decide +kernel) (by decide +kernel)
set_option maxRecDepth 20000 in
theorem gX8_firstCulprit_X0_begin : GoodIn wsX8_firstCulprit (wsV RX8 32 RX0 yX0_begin wsX0_begin) := goodIn_app (goodIn_of _ (by decide +kernel)) ggX8_firstCulprit_X0_begin
set_option maxRecDepth 20000 in
theorem ggX8_firstCulprit_X0_go : GoodIn wsX8_firstCulprit wsX0_go := goodIn_r _ [65, 66, 14, 67, 12, 11, 68, 69, 70, 13, 71, 72, 73, 74, 75, 76, 77, 9, 78, 79, 80, 81, 82, 15, 83, 84, 85, 19, 86, 23, 87, 88, 89, 90, 91, 50, 92, 54, 93, 94, 95, 96, 52, 97, 98, 99, 100, 21, 101, 102, 103, 104, 105, 33, 106, 35, 44, 45, 36, 41, 42, 43, 46, 107, 108, 109, 110, 25, 111, 112, 113, 114, 53, 115, 116, 117, 118, 119, 120, 121, 122, 123, 124, 125, 126, 127, 128, 129, 130, 26, 131, 132, 133, 134, 135, 136, 137, 138, 139, 140, 141, 142, 143, 144, 145, 146, 147, 148, 149, 150, 151, 152, 153, 154, 155, 156, 157, 158, 159, 160, 161, 162, 163, 164, 165, 166, 167, 168, 169, 170, 171, 172, 173, 174, 175, 176, 28, 177, 178, 179, 180, 181, 182, 183, 184, 185, 186, 187, 188, 189, 190, 27, 191, 192, 193, 194, 195, 196, 197, 198, 199, 200, 201, 202, 203, 204, 205, 206, 207, 208, 209, 210, 211, 29, 212, 213, 214, 215, 216, 217, 218, 219, 220, 221, 222, 223, 224, 225, 226, 227, 228, 229, 230, 231, 232, 233, 234, 235, 236, 247, 248, 249, 250, 251, 260, 261, 262, 263, 264, 265, 266, 267, 268, 269, 252, 253, 254, 255, 256, 257, 258, 259, 280, 281, 282, 283, 284, 285, 286, 287, 288, 289, 290, 291, 272, 273, 274, 275, 276, 277, 278, 279, 270, 271] (by decide +kernel) (by decide +kernel)
set_option maxRecDepth 20000 in
theorem gX8_firstCulprit_X0_go : GoodIn wsX8_firstCulprit (wsV RX8 64 RX0 yX0_go wsX0_go) := goodIn_app (goodIn_of _ (by decide +kernel)) ggX8_firstCulprit_X0_go
set_option maxRecDepth 20000 in
theorem ggX8_firstCulprit_X1_allDeaths : GoodIn wsX8_firstCulprit wsX1_allDeaths := goodIn_r _ [240, 52, 56, 280, 281, 282, 283, 284, 285, 286, 287, 288, 289, 290, 291] (by decide +kernel) (by decide +kernel)
set_option maxRecDepth 20000 in
theorem gX8_firstCulprit_X1_allDeaths : GoodIn wsX8_firstCulprit (wsV RX8 79 RX1 yX1_allDeaths wsX1_allDeaths) := goodIn_app (goodIn_of _ (by decide +kernel)) ggX8_firstCulprit_X1_allDeaths
theorem dX8_firstCulprit_0 : decode cX8_firstCulprit 0 = .ok (.aload_n 0, 1) := by decide +kernel
theorem dX8_firstCulprit_1 : decode cX8_firstCulprit 1 = .ok (.getfield 12, 3) := by decide +kernel
theorem dX8_firstCulprit_4 : decode cX8_firstCulprit 4 = .ok (.aload_n 1, 1) := by decide +kernel
theorem dX8_firstCulprit_5 : decode cX8_firstCulprit 5 = .ok (.invokevirtual 32, 3) := by decide +kernel
theorem dX8_firstCulprit_8 : decode cX8_firstCulprit 8 = .ok (.aload_n 0, 1) := by decide +kernel
theorem dX8_firstCulprit_9 : decode cX8_firstCulprit 9 = .ok (.getfield 12, 3) := by decide +kernel
theorem dX8_firstCulprit_12 : decode cX8_firstCulprit 12 = .ok (.aload_n 1, 1) := by decide +kernel
theorem dX8_firstCulprit_13 : decode cX8_firstCulprit 13 = .ok (.bipush 24, 2) := by decide +kernel
theorem dX8_firstCulprit_15 : decode cX8_firstCulprit 15 = .ok (.invokevirtual 64, 3) := by decide +kernel
theorem dX8_firstCulprit_18 : decode cX8_firstCulprit 18 = .ok (.aload_n 0, 1) := by decide +kernel
theorem dX8_firstCulprit_19 : decode cX8_firstCulprit 19 = .ok (.getfield 12, 3) := by decide +kernel
theorem dX8_firstCulprit_22 : decode cX8_firstCulprit 22 = .ok (.getfield 36, 3) := by decide +kernel
theorem dX8_firstCulprit_25 : decode cX8_firstCulprit 25 = .ok (.getfield 75, 3) := by decide +kernel
theorem dX8_firstCulprit_28 : decode cX8_firstCulprit 28 = .ok (.invokevirtual 79, 3) := by decide +kernel
theorem dX8_firstCulprit_31 : decode cX8_firstCulprit 31 = .ok (.ifCond .ne 6, 3) := by decide +kernel
theorem dX8_firstCulprit_34 : decode cX8_firstCulprit 34 = .ok (.bipush (-2), 2) := by decide +kernel
theorem dX8_firstCulprit_36 : decode cX8_firstCulprit 36 = .ok (.ireturn, 1) := by decide +kernel
theorem dX8_firstCulprit_37 : decode cX8_firstCulprit 37 = .ok (.iconst 0, 1) := by decide +kernel
theorem dX8_firstCulprit_38 : decode cX8_firstCulprit 38 = .ok (.istore_n 2, 1) := by decide +kernel
theorem dX8_firstCulprit_39 : decode cX8_firstCulprit 39 = .ok (.iload_n 2, 1) := by decide +kernel
theorem dX8_firstCulprit_40 : decode cX8_firstCulprit 40 = .ok (.aload_n 1, 1) := by decide +kernel
theorem dX8_firstCulprit_41 : decode cX8_firstCulprit 41 = .ok (.getfield 52, 3) := by decide +kernel
theorem dX8_firstCulprit_44 : decode cX8_firstCulprit 44 = .ok (.if_icmp .ge 55, 3) := by decide +kernel
theorem dX8_firstCulprit_47 : decode cX8_firstCulprit 47 = .ok (.aload_n 0, 1) := by decide +kernel
theorem dX8_firstCulprit_48 : decode cX8_firstCulprit 48 = .ok (.getfield 12, 3) := by decide +kernel
theorem dX8_firstCulprit_51 : decode cX8_firstCulprit 51 = .ok (.aload_n 1, 1) := by decide +kernel
theorem dX8_firstCulprit_52 : decode cX8_firstCulprit 52 = .ok (.invokevirtual 32, 3) := by decide +kernel
theorem dX8_firstCulprit_55 : decode cX8_firstCulprit 55 = .ok (.aload_n 0, 1) := by decide +kernel
theorem dX8_firstCulprit_56 : decode cX8_firstCulprit 56 = .ok (.getfield 12, 3) := by decide +kernel
theorem dX8_firstCulprit_59 : decode cX8_firstCulprit 59 = .ok (.getfield 61, 3) := by decide +kernel
theorem dX8_firstCulprit_62 : decode cX8_firstCulprit 62 = .ok (.iload_n 2, 1) := by decide +kernel
theorem dX8_firstCulprit_63 : decode cX8_firstCulprit 63 = .ok (.iconst 3, 1) := by decide +kernel
theorem dX8_firstCulprit_64 : decode cX8_firstCulprit 64 = .ok (.iastore, 1) := by decide +kernel
theorem dX8_firstCulprit_65 : decode cX8_firstCulprit 65 = .ok (.aload_n 0, 1) := by decide +kernel
theorem dX8_firstCulprit_66 : decode cX8_firstCulprit 66 = .ok (.getfield 12, 3) := by decide +kernel
theorem dX8_firstCulprit_69 : decode cX8_firstCulprit 69 = .ok (.aload_n 1, 1) := by decide +kernel
theorem dX8_firstCulprit_70 : decode cX8_firstCulprit 70 = .ok (.bipush 24, 2) := by decide +kernel
theorem dX8_firstCulprit_72 : decode cX8_firstCulprit 72 = .ok (.invokevirtual 64, 3) := by decide +kernel
theorem dX8_firstCulprit_75 : decode cX8_firstCulprit 75 = .ok (.aload_n 0, 1) := by decide +kernel
theorem dX8_firstCulprit_76 : decode cX8_firstCulprit 76 = .ok (.getfield 12, 3) := by decide +kernel
theorem dX8_firstCulprit_79 : decode cX8_firstCulprit 79 = .ok (.getfield 36, 3) := by decide +kernel
theorem dX8_firstCulprit_82 : decode cX8_firstCulprit 82 = .ok (.getfield 75, 3) := by decide +kernel
theorem dX8_firstCulprit_85 : decode cX8_firstCulprit 85 = .ok (.invokevirtual 79, 3) := by decide +kernel
theorem dX8_firstCulprit_88 : decode cX8_firstCulprit 88 = .ok (.ifCond .ne 5, 3) := by decide +kernel
theorem dX8_firstCulprit_91 : decode cX8_firstCulprit 91 = .ok (.iload_n 2, 1) := by decide +kernel
theorem dX8_firstCulprit_92 : decode cX8_firstCulprit 92 = .ok (.ireturn, 1) := by decide +kernel
theorem dX8_firstCulprit_93 : decode cX8_firstCulprit 93 = .ok (.iinc 2 1, 3) := by decide +kernel
theorem dX8_firstCulprit_96 : decode cX8_firstCulprit 96 = .ok (.goto (-57), 3) := by decide +kernel
theorem dX8_firstCulprit_99 : decode cX8_firstCulprit 99 = .ok (.bipush (-3), 2) := by decide +kernel
theorem dX8_firstCulprit_101 : decode cX8_firstCulprit 101 = .ok (.ireturn, 1) := by decide +kernel
set_option maxRecDepth 20000 in
theorem ggX8_deadlyPlays_X8_play : GoodIn wsX8_deadlyPlays wsX8_play := goodIn_r _ [8, 1, 9, 10, 11, 12, 13, 14, 2, 15, 16, 17, 18, 19, 20, 21, 22, 23, 24, 25, 26, 27, 28, 29, 30, 31, 32, 33, 34, 35, 36, 37, 38, 39, 40, 41, 42, 43, 44, 45, 46, 47, 48, 49, 50, 51, 52, 53, 54, 55, 56, 57, 58, 59, 60, 61, 62, 63, 64, 65, 66, 67, 68, 69, 70, 71, 72, 73, 74, 75, 76, 77, 78, 7, 79, 80, 3, 81, 82, 83, 84, 85, 86, 87, 88, 89, 90, 91, 92, 93, 94, 95, 96, 97, 98, 99, 100, 101, 102, 103, 104, 105, 106, 107, 108, 109, 110, 111, 112, 113, 114, 115, 116, 117, 118, 119, 120, 121, 122, 123, 124, 125, 126, 127, 128, 129, 130, 131, 132, 133, 134, 135, 136, 137, 138, 139, 140, 141, 142, 143, 144, 145, 146, 147, 148, 149, 150, 151, 152, 153, 154, 155, 156, 157, 158, 159, 160, 161, 162, 163, 164, 165, 166, 167, 168, 169, 170, 171, 172, 173, 174, 175, 176, 177, 178, 179, 180, 181, 182, 183, 184, 185, 186, 187, 188, 189, 190, 191, 192, 193, 194, 195, 196, 197, 198, 199, 200, 201, 202, 203, 204, 205, 206, 207, 208, 209, 210, 211, 212, 213, 214, 215, 216, 217, 218, 219, 220, 221, 222, 223, 224, 225, 226, 227, 228, 229, 230, 231, 232, 233, 234, 235, 236, 237, 238, 239, 240, 241, 242, 243, 244, 245, 246, 247, 248, 249, 250, 251, 256, 257, 258, 259, 260, 261, 262, 263, 264, 265, 266, 275, 276, 277, 278, 279, 280, 281, 282, 283, 284, 267, 268, 269, 270, 271, 272, 273, 274, 285, 286, 287, 288, 289, 290, 291, 292, 293, 294, 295, 296, 297, 298, 299, 300, 301, 302, 303, 304, 305, 306] (by decide +kernel) (by decide +kernel)
set_option maxRecDepth 20000 in
theorem gX8_deadlyPlays_X8_play : GoodIn wsX8_deadlyPlays (wsV RX8 85 RX8 yX8_play wsX8_play) := goodIn_app (goodIn_of _ (by decide +kernel)) ggX8_deadlyPlays_X8_play
set_option maxRecDepth 20000 in
theorem ggX8_deadlyPlays_X1_allDeaths : GoodIn wsX8_deadlyPlays wsX1_allDeaths := goodIn_r _ [255, 66, 70, 295, 296, 297, 298, 299, 300, 301, 302, 303, 304, 305, 306] (by decide +kernel) (by decide +kernel)
set_option maxRecDepth 20000 in
theorem gX8_deadlyPlays_X1_allDeaths : GoodIn wsX8_deadlyPlays (wsV RX8 79 RX1 yX1_allDeaths wsX1_allDeaths) := goodIn_app (goodIn_of _ (by decide +kernel)) ggX8_deadlyPlays_X1_allDeaths
theorem dX8_deadlyPlays_0 : decode cX8_deadlyPlays 0 = .ok (.iload_n 2, 1) := by decide +kernel
theorem dX8_deadlyPlays_1 : decode cX8_deadlyPlays 1 = .ok (.istore_n 3, 1) := by decide +kernel
theorem dX8_deadlyPlays_2 : decode cX8_deadlyPlays 2 = .ok (.iconst 0, 1) := by decide +kernel
theorem dX8_deadlyPlays_3 : decode cX8_deadlyPlays 3 = .ok (.istore 4, 2) := by decide +kernel
theorem dX8_deadlyPlays_5 : decode cX8_deadlyPlays 5 = .ok (.iconst 0, 1) := by decide +kernel
theorem dX8_deadlyPlays_6 : decode cX8_deadlyPlays 6 = .ok (.istore 5, 2) := by decide +kernel
theorem dX8_deadlyPlays_8 : decode cX8_deadlyPlays 8 = .ok (.iload 5, 2) := by decide +kernel
theorem dX8_deadlyPlays_10 : decode cX8_deadlyPlays 10 = .ok (.bipush 10, 2) := by decide +kernel
theorem dX8_deadlyPlays_12 : decode cX8_deadlyPlays 12 = .ok (.if_icmp .ge 42, 3) := by decide +kernel
theorem dX8_deadlyPlays_15 : decode cX8_deadlyPlays 15 = .ok (.aload_n 0, 1) := by decide +kernel
theorem dX8_deadlyPlays_16 : decode cX8_deadlyPlays 16 = .ok (.aload_n 1, 1) := by decide +kernel
theorem dX8_deadlyPlays_17 : decode cX8_deadlyPlays 17 = .ok (.iload_n 3, 1) := by decide +kernel
theorem dX8_deadlyPlays_18 : decode cX8_deadlyPlays 18 = .ok (.invokevirtual 85, 3) := by decide +kernel
theorem dX8_deadlyPlays_21 : decode cX8_deadlyPlays 21 = .ok (.istore_n 3, 1) := by decide +kernel
theorem dX8_deadlyPlays_22 : decode cX8_deadlyPlays 22 = .ok (.iload 4, 2) := by decide +kernel
theorem dX8_deadlyPlays_24 : decode cX8_deadlyPlays 24 = .ok (.aload_n 0, 1) := by decide +kernel
theorem dX8_deadlyPlays_25 : decode cX8_deadlyPlays 25 = .ok (.getfield 12, 3) := by decide +kernel
theorem dX8_deadlyPlays_28 : decode cX8_deadlyPlays 28 = .ok (.getfield 36, 3) := by decide +kernel
theorem dX8_deadlyPlays_31 : decode cX8_deadlyPlays 31 = .ok (.getfield 75, 3) := by decide +kernel
theorem dX8_deadlyPlays_34 : decode cX8_deadlyPlays 34 = .ok (.invokevirtual 79, 3) := by decide +kernel
theorem dX8_deadlyPlays_37 : decode cX8_deadlyPlays 37 = .ok (.ifCond .le 7, 3) := by decide +kernel
theorem dX8_deadlyPlays_40 : decode cX8_deadlyPlays 40 = .ok (.iconst 1, 1) := by decide +kernel
theorem dX8_deadlyPlays_41 : decode cX8_deadlyPlays 41 = .ok (.goto 4, 3) := by decide +kernel
theorem dX8_deadlyPlays_44 : decode cX8_deadlyPlays 44 = .ok (.iconst 0, 1) := by decide +kernel
theorem dX8_deadlyPlays_45 : decode cX8_deadlyPlays 45 = .ok (.iadd, 1) := by decide +kernel
theorem dX8_deadlyPlays_46 : decode cX8_deadlyPlays 46 = .ok (.istore 4, 2) := by decide +kernel
theorem dX8_deadlyPlays_48 : decode cX8_deadlyPlays 48 = .ok (.iinc 5 1, 3) := by decide +kernel
theorem dX8_deadlyPlays_51 : decode cX8_deadlyPlays 51 = .ok (.goto (-43), 3) := by decide +kernel
theorem dX8_deadlyPlays_54 : decode cX8_deadlyPlays 54 = .ok (.iload 4, 2) := by decide +kernel
theorem dX8_deadlyPlays_56 : decode cX8_deadlyPlays 56 = .ok (.ireturn, 1) := by decide +kernel
set_option maxRecDepth 20000 in
theorem ggX8_play_X0_begin : GoodIn wsX8_play wsX0_begin := goodIn_r _ [18, 19, 20, 21, 22, 23, 24, 25, 26, 27, 28, 29, 30, 31, 32, 33, 34, 35, 36, 37, 38, 39, 40, 41, 42, 43, 44, 45, 46, 47, 48, 49, 50, 51, 52, 53, 54, 55, 56, 57, 58, 59, 60, 61, 62, 63, 64, 65, 66, 67, 68, 69, 254, 255, 256, 257, 258, 269, 270, 271, 272, 273, 274, 275, 276, 259, 260, 261, 262, 263, 264, 265, 266, 267, 268, 277, 278, 279, 280, 281, 282, 283, 284, 285, 286, 287, 288, 289, 290, 291, 292, 293, 294, 295, 296, 297, 298] (by decide +kernel) (by decide +kernel)
set_option maxRecDepth 20000 in
theorem gX8_play_X0_begin : GoodIn wsX8_play (wsV RX8 32 RX0 yX0_begin wsX0_begin) := goodIn_app (goodIn_of _ (by decide +kernel)) ggX8_play_X0_begin
set_option maxRecDepth 20000 in
theorem ggX8_play_X8_ableHands : GoodIn wsX8_play wsX8_ableHands := goodIn_r _ [74, 75, 1, 6, 8, 76, 77, 9, 259, 260, 261, 262, 263, 264, 265, 266, 267, 268, 248, 249, 250, 251, 252, 253, 254, 255, 256, 257, 258, 269, 270, 271, 272, 273, 274, 275, 276, 287, 288, 289, 290, 291, 292, 293, 294, 295, 296, 297, 298] (by decide +kernel) (by decide +kernel)
set_option maxRecDepth 20000 in
theorem gX8_play_X8_ableHands : GoodIn wsX8_play (wsV RX8 89 RX8 yX8_ableHands wsX8_ableHands) := goodIn_app (goodIn_of _ (by decide +kernel)) ggX8_play_X8_ableHands
set_option maxRecDepth 20000 in
theorem ggX8_play_J6_bitCount_0f7a4 : GoodIn wsX8_play wsJ6_bitCount_0f7a4 := goodIn_r _ [81, 82, 83, 84] (by decide +kernel) (by decide +kernel)
set_option maxRecDepth 20000 in
theorem gX8_play_J6_bitCount_0f7a4 : GoodIn wsX8_play (va_wsS RX8 92 yJ6_bitCount_0f7a4 wsJ6_bitCount_0f7a4) := goodIn_app (goodIn_of _ (by decide +kernel)) ggX8_play_J6_bitCount_0f7a4
set_option maxRecDepth 20000 in
theorem ggX8_play_X8_bitAt : GoodIn wsX8_play wsX8_bitAt := goodIn_r _ [87] (by decide +kernel) (by decide +kernel)
set_option maxRecDepth 20000 in
theorem gX8_play_X8_bitAt : GoodIn wsX8_play (va_wsS RX8 105 yX8_bitAt wsX8_bitAt) := goodIn_app (goodIn_of _ (by decide +kernel)) ggX8_play_X8_bitAt
set_option maxRecDepth 20000 in
theorem ggX8_play_X0_firstFresh : GoodIn wsX8_play wsX0_firstFresh := goodIn_r _ [91, 92, 20, 93, 259, 260, 261, 262, 263, 264, 265, 266, 267, 268, 254, 255, 256, 257, 258] (by decide +kernel) (by decide +kernel)
set_option maxRecDepth 20000 in
theorem gX8_play_X0_firstFresh : GoodIn wsX8_play (wsV RX8 109 RX0 yX0_firstFresh wsX0_firstFresh) := goodIn_app (goodIn_of _ (by decide +kernel)) ggX8_play_X0_firstFresh
set_option maxRecDepth 20000 in
theorem ggX8_play_X9_act : GoodIn wsX8_play wsX9_act := goodIn_r _ [97, 31, 98, 99, 100, 101, 102, 58, 103, 62, 104, 105, 106, 107, 60, 108, 109, 110, 27, 111, 29, 112, 113, 114, 115, 116, 41, 117, 43, 52, 53, 44, 49, 50, 51, 54, 118, 119, 120, 121, 33, 122, 123, 124, 125, 61, 126, 127, 128, 129, 130, 131, 132, 133, 134, 135, 136, 137, 138, 139, 140, 141, 34, 142, 143, 144, 145, 146, 147, 148, 149, 150, 151, 152, 153, 154, 155, 156, 157, 158, 159, 160, 161, 162, 163, 164, 165, 166, 167, 168, 169, 170, 171, 172, 173, 174, 175, 176, 177, 178, 179, 180, 181, 182, 183, 184, 185, 186, 187, 36, 188, 189, 190, 191, 192, 193, 194, 195, 196, 197, 198, 199, 200, 201, 35, 202, 203, 204, 205, 206, 207, 208, 209, 210, 211, 212, 213, 214, 215, 216, 217, 218, 219, 220, 221, 222, 37, 223, 224, 225, 226, 227, 228, 229, 230, 231, 232, 233, 234, 235, 236, 237, 238, 239, 240, 241, 242, 243, 244, 245, 246, 247, 269, 270, 271, 272, 273, 274, 275, 276, 287, 288, 289, 290, 291, 292, 293, 294, 295, 296, 297, 298, 279, 280, 281, 282, 283, 284, 285, 286, 277, 278] (by decide +kernel) (by decide +kernel)
set_option maxRecDepth 20000 in
theorem gX8_play_X9_act : GoodIn wsX8_play (wsV RX8 127 RX9 yX9_act wsX9_act) := goodIn_app (goodIn_of _ (by decide +kernel)) ggX8_play_X9_act
theorem dX8_play_0 : decode cX8_play 0 = .ok (.aload_n 0, 1) := by decide +kernel
theorem dX8_play_1 : decode cX8_play 1 = .ok (.getfield 12, 3) := by decide +kernel
theorem dX8_play_4 : decode cX8_play 4 = .ok (.aload_n 1, 1) := by decide +kernel
theorem dX8_play_5 : decode cX8_play 5 = .ok (.invokevirtual 32, 3) := by decide +kernel
theorem dX8_play_8 : decode cX8_play 8 = .ok (.iload_n 2, 1) := by decide +kernel
theorem dX8_play_9 : decode cX8_play 9 = .ok (.istore_n 3, 1) := by decide +kernel
theorem dX8_play_10 : decode cX8_play 10 = .ok (.iconst 0, 1) := by decide +kernel
theorem dX8_play_11 : decode cX8_play 11 = .ok (.istore 4, 2) := by decide +kernel
theorem dX8_play_13 : decode cX8_play 13 = .ok (.iload 4, 2) := by decide +kernel
theorem dX8_play_15 : decode cX8_play 15 = .ok (.bipush 24, 2) := by decide +kernel
theorem dX8_play_17 : decode cX8_play 17 = .ok (.if_icmp .ge 144, 3) := by decide +kernel
theorem dX8_play_20 : decode cX8_play 20 = .ok (.aload_n 0, 1) := by decide +kernel
theorem dX8_play_21 : decode cX8_play 21 = .ok (.aload_n 1, 1) := by decide +kernel
theorem dX8_play_22 : decode cX8_play 22 = .ok (.invokevirtual 89, 3) := by decide +kernel
theorem dX8_play_25 : decode cX8_play 25 = .ok (.istore 5, 2) := by decide +kernel
theorem dX8_play_27 : decode cX8_play 27 = .ok (.iload 5, 2) := by decide +kernel
theorem dX8_play_29 : decode cX8_play 29 = .ok (.invokestatic 92, 3) := by decide +kernel
theorem dX8_play_32 : decode cX8_play 32 = .ok (.istore 6, 2) := by decide +kernel
theorem dX8_play_34 : decode cX8_play 34 = .ok (.iload 6, 2) := by decide +kernel
theorem dX8_play_36 : decode cX8_play 36 = .ok (.ifCond .ne 6, 3) := by decide +kernel
theorem dX8_play_39 : decode cX8_play 39 = .ok (.goto 122, 3) := by decide +kernel
theorem dX8_play_42 : decode cX8_play 42 = .ok (.iload_n 3, 1) := by decide +kernel
theorem dX8_play_43 : decode cX8_play 43 = .ok (.i2l, 1) := by decide +kernel
theorem dX8_play_44 : decode cX8_play 44 = .ok (.ldc2_w 98, 3) := by decide +kernel
theorem dX8_play_47 : decode cX8_play 47 = .ok (.lmul, 1) := by decide +kernel
theorem dX8_play_48 : decode cX8_play 48 = .ok (.ldc2_w 100, 3) := by decide +kernel
theorem dX8_play_51 : decode cX8_play 51 = .ok (.ladd, 1) := by decide +kernel
theorem dX8_play_52 : decode cX8_play 52 = .ok (.ldc2_w 102, 3) := by decide +kernel
theorem dX8_play_55 : decode cX8_play 55 = .ok (.land, 1) := by decide +kernel
theorem dX8_play_56 : decode cX8_play 56 = .ok (.l2i, 1) := by decide +kernel
theorem dX8_play_57 : decode cX8_play 57 = .ok (.istore_n 3, 1) := by decide +kernel
theorem dX8_play_58 : decode cX8_play 58 = .ok (.aload_n 0, 1) := by decide +kernel
theorem dX8_play_59 : decode cX8_play 59 = .ok (.getfield 12, 3) := by decide +kernel
theorem dX8_play_62 : decode cX8_play 62 = .ok (.aload_n 1, 1) := by decide +kernel
theorem dX8_play_63 : decode cX8_play 63 = .ok (.iload 5, 2) := by decide +kernel
theorem dX8_play_65 : decode cX8_play 65 = .ok (.iload_n 3, 1) := by decide +kernel
theorem dX8_play_66 : decode cX8_play 66 = .ok (.ldc 104, 2) := by decide +kernel
theorem dX8_play_68 : decode cX8_play 68 = .ok (.idiv, 1) := by decide +kernel
theorem dX8_play_69 : decode cX8_play 69 = .ok (.iload 6, 2) := by decide +kernel
theorem dX8_play_71 : decode cX8_play 71 = .ok (.irem, 1) := by decide +kernel
theorem dX8_play_72 : decode cX8_play 72 = .ok (.invokestatic 105, 3) := by decide +kernel
theorem dX8_play_75 : decode cX8_play 75 = .ok (.invokevirtual 109, 3) := by decide +kernel
theorem dX8_play_78 : decode cX8_play 78 = .ok (.istore 7, 2) := by decide +kernel
theorem dX8_play_80 : decode cX8_play 80 = .ok (.iload 7, 2) := by decide +kernel
theorem dX8_play_82 : decode cX8_play 82 = .ok (.iconst (-1), 1) := by decide +kernel
theorem dX8_play_83 : decode cX8_play 83 = .ok (.if_icmp .ne 6, 3) := by decide +kernel
theorem dX8_play_86 : decode cX8_play 86 = .ok (.goto 75, 3) := by decide +kernel
theorem dX8_play_89 : decode cX8_play 89 = .ok (.aload_n 0, 1) := by decide +kernel
theorem dX8_play_90 : decode cX8_play 90 = .ok (.getfield 12, 3) := by decide +kernel
theorem dX8_play_93 : decode cX8_play 93 = .ok (.getfield 61, 3) := by decide +kernel
theorem dX8_play_96 : decode cX8_play 96 = .ok (.iload 7, 2) := by decide +kernel
theorem dX8_play_98 : decode cX8_play 98 = .ok (.iconst 2, 1) := by decide +kernel
theorem dX8_play_99 : decode cX8_play 99 = .ok (.iastore, 1) := by decide +kernel
theorem dX8_play_100 : decode cX8_play 100 = .ok (.aload_n 0, 1) := by decide +kernel
theorem dX8_play_101 : decode cX8_play 101 = .ok (.getfield 12, 3) := by decide +kernel
theorem dX8_play_104 : decode cX8_play 104 = .ok (.getfield 112, 3) := by decide +kernel
theorem dX8_play_107 : decode cX8_play 107 = .ok (.iload 7, 2) := by decide +kernel
theorem dX8_play_109 : decode cX8_play 109 = .ok (.aload_n 0, 1) := by decide +kernel
theorem dX8_play_110 : decode cX8_play 110 = .ok (.getfield 12, 3) := by decide +kernel
theorem dX8_play_113 : decode cX8_play 113 = .ok (.getfield 36, 3) := by decide +kernel
theorem dX8_play_116 : decode cX8_play 116 = .ok (.aload_n 1, 1) := by decide +kernel
theorem dX8_play_117 : decode cX8_play 117 = .ok (.getfield 58, 3) := by decide +kernel
theorem dX8_play_120 : decode cX8_play 120 = .ok (.iload 7, 2) := by decide +kernel
theorem dX8_play_122 : decode cX8_play 122 = .ok (.iaload, 1) := by decide +kernel
theorem dX8_play_123 : decode cX8_play 123 = .ok (.aload_n 1, 1) := by decide +kernel
theorem dX8_play_124 : decode cX8_play 124 = .ok (.getfield 115, 3) := by decide +kernel
theorem dX8_play_127 : decode cX8_play 127 = .ok (.iload 7, 2) := by decide +kernel
theorem dX8_play_129 : decode cX8_play 129 = .ok (.iaload, 1) := by decide +kernel
theorem dX8_play_130 : decode cX8_play 130 = .ok (.aload_n 1, 1) := by decide +kernel
theorem dX8_play_131 : decode cX8_play 131 = .ok (.getfield 118, 3) := by decide +kernel
theorem dX8_play_134 : decode cX8_play 134 = .ok (.iload 7, 2) := by decide +kernel
theorem dX8_play_136 : decode cX8_play 136 = .ok (.iaload, 1) := by decide +kernel
theorem dX8_play_137 : decode cX8_play 137 = .ok (.aload_n 1, 1) := by decide +kernel
theorem dX8_play_138 : decode cX8_play 138 = .ok (.getfield 121, 3) := by decide +kernel
theorem dX8_play_141 : decode cX8_play 141 = .ok (.iload 7, 2) := by decide +kernel
theorem dX8_play_143 : decode cX8_play 143 = .ok (.iaload, 1) := by decide +kernel
theorem dX8_play_144 : decode cX8_play 144 = .ok (.aload_n 1, 1) := by decide +kernel
theorem dX8_play_145 : decode cX8_play 145 = .ok (.getfield 124, 3) := by decide +kernel
theorem dX8_play_148 : decode cX8_play 148 = .ok (.iload 7, 2) := by decide +kernel
theorem dX8_play_150 : decode cX8_play 150 = .ok (.iaload, 1) := by decide +kernel
theorem dX8_play_151 : decode cX8_play 151 = .ok (.invokevirtual 127, 3) := by decide +kernel
theorem dX8_play_154 : decode cX8_play 154 = .ok (.iastore, 1) := by decide +kernel
theorem dX8_play_155 : decode cX8_play 155 = .ok (.iinc 4 1, 3) := by decide +kernel
theorem dX8_play_158 : decode cX8_play 158 = .ok (.goto (-145), 3) := by decide +kernel
theorem dX8_play_161 : decode cX8_play 161 = .ok (.iload_n 3, 1) := by decide +kernel
theorem dX8_play_162 : decode cX8_play 162 = .ok (.ireturn, 1) := by decide +kernel
theorem dX8_ableHands_0 : decode cX8_ableHands 0 = .ok (.iconst 0, 1) := by decide +kernel
theorem dX8_ableHands_1 : decode cX8_ableHands 1 = .ok (.istore_n 2, 1) := by decide +kernel
theorem dX8_ableHands_2 : decode cX8_ableHands 2 = .ok (.iconst 0, 1) := by decide +kernel
theorem dX8_ableHands_3 : decode cX8_ableHands 3 = .ok (.istore_n 3, 1) := by decide +kernel
theorem dX8_ableHands_4 : decode cX8_ableHands 4 = .ok (.iload_n 3, 1) := by decide +kernel
theorem dX8_ableHands_5 : decode cX8_ableHands 5 = .ok (.aload_n 1, 1) := by decide +kernel
theorem dX8_ableHands_6 : decode cX8_ableHands 6 = .ok (.getfield 52, 3) := by decide +kernel
theorem dX8_ableHands_9 : decode cX8_ableHands 9 = .ok (.if_icmp .ge 56, 3) := by decide +kernel
theorem dX8_ableHands_12 : decode cX8_ableHands 12 = .ok (.aload_n 0, 1) := by decide +kernel
theorem dX8_ableHands_13 : decode cX8_ableHands 13 = .ok (.getfield 12, 3) := by decide +kernel
theorem dX8_ableHands_16 : decode cX8_ableHands 16 = .ok (.getfield 61, 3) := by decide +kernel
theorem dX8_ableHands_19 : decode cX8_ableHands 19 = .ok (.iload_n 3, 1) := by decide +kernel
theorem dX8_ableHands_20 : decode cX8_ableHands 20 = .ok (.iaload, 1) := by decide +kernel
theorem dX8_ableHands_21 : decode cX8_ableHands 21 = .ok (.ifCond .ne 38, 3) := by decide +kernel
theorem dX8_ableHands_24 : decode cX8_ableHands 24 = .ok (.aload_n 0, 1) := by decide +kernel
theorem dX8_ableHands_25 : decode cX8_ableHands 25 = .ok (.getfield 12, 3) := by decide +kernel
theorem dX8_ableHands_28 : decode cX8_ableHands 28 = .ok (.getfield 36, 3) := by decide +kernel
theorem dX8_ableHands_31 : decode cX8_ableHands 31 = .ok (.getfield 75, 3) := by decide +kernel
theorem dX8_ableHands_34 : decode cX8_ableHands 34 = .ok (.getfield 131, 3) := by decide +kernel
theorem dX8_ableHands_37 : decode cX8_ableHands 37 = .ok (.aload_n 1, 1) := by decide +kernel
theorem dX8_ableHands_38 : decode cX8_ableHands 38 = .ok (.getfield 58, 3) := by decide +kernel
theorem dX8_ableHands_41 : decode cX8_ableHands 41 = .ok (.iload_n 3, 1) := by decide +kernel
theorem dX8_ableHands_42 : decode cX8_ableHands 42 = .ok (.iaload, 1) := by decide +kernel
theorem dX8_ableHands_43 : decode cX8_ableHands 43 = .ok (.iaload, 1) := by decide +kernel
theorem dX8_ableHands_44 : decode cX8_ableHands 44 = .ok (.iconst 2, 1) := by decide +kernel
theorem dX8_ableHands_45 : decode cX8_ableHands 45 = .ok (.if_icmp .eq 14, 3) := by decide +kernel
theorem dX8_ableHands_48 : decode cX8_ableHands 48 = .ok (.iload_n 2, 1) := by decide +kernel
theorem dX8_ableHands_49 : decode cX8_ableHands 49 = .ok (.iconst 1, 1) := by decide +kernel
theorem dX8_ableHands_50 : decode cX8_ableHands 50 = .ok (.aload_n 1, 1) := by decide +kernel
theorem dX8_ableHands_51 : decode cX8_ableHands 51 = .ok (.getfield 58, 3) := by decide +kernel
theorem dX8_ableHands_54 : decode cX8_ableHands 54 = .ok (.iload_n 3, 1) := by decide +kernel
theorem dX8_ableHands_55 : decode cX8_ableHands 55 = .ok (.iaload, 1) := by decide +kernel
theorem dX8_ableHands_56 : decode cX8_ableHands 56 = .ok (.ishl, 1) := by decide +kernel
theorem dX8_ableHands_57 : decode cX8_ableHands 57 = .ok (.ior, 1) := by decide +kernel
theorem dX8_ableHands_58 : decode cX8_ableHands 58 = .ok (.istore_n 2, 1) := by decide +kernel
theorem dX8_ableHands_59 : decode cX8_ableHands 59 = .ok (.iinc 3 1, 3) := by decide +kernel
theorem dX8_ableHands_62 : decode cX8_ableHands 62 = .ok (.goto (-58), 3) := by decide +kernel
theorem dX8_ableHands_65 : decode cX8_ableHands 65 = .ok (.iload_n 2, 1) := by decide +kernel
theorem dX8_ableHands_66 : decode cX8_ableHands 66 = .ok (.ireturn, 1) := by decide +kernel
theorem dX8_bitAt_0 : decode cX8_bitAt 0 = .ok (.iload_n 1, 1) := by decide +kernel
theorem dX8_bitAt_1 : decode cX8_bitAt 1 = .ok (.istore_n 2, 1) := by decide +kernel
theorem dX8_bitAt_2 : decode cX8_bitAt 2 = .ok (.iconst 0, 1) := by decide +kernel
theorem dX8_bitAt_3 : decode cX8_bitAt 3 = .ok (.istore_n 3, 1) := by decide +kernel
theorem dX8_bitAt_4 : decode cX8_bitAt 4 = .ok (.iload_n 3, 1) := by decide +kernel
theorem dX8_bitAt_5 : decode cX8_bitAt 5 = .ok (.bipush 31, 2) := by decide +kernel
theorem dX8_bitAt_7 : decode cX8_bitAt 7 = .ok (.if_icmp .ge 26, 3) := by decide +kernel
theorem dX8_bitAt_10 : decode cX8_bitAt 10 = .ok (.iload_n 0, 1) := by decide +kernel
theorem dX8_bitAt_11 : decode cX8_bitAt 11 = .ok (.iload_n 3, 1) := by decide +kernel
theorem dX8_bitAt_12 : decode cX8_bitAt 12 = .ok (.ishr, 1) := by decide +kernel
theorem dX8_bitAt_13 : decode cX8_bitAt 13 = .ok (.iconst 1, 1) := by decide +kernel
theorem dX8_bitAt_14 : decode cX8_bitAt 14 = .ok (.iand, 1) := by decide +kernel
theorem dX8_bitAt_15 : decode cX8_bitAt 15 = .ok (.ifCond .eq 12, 3) := by decide +kernel
theorem dX8_bitAt_18 : decode cX8_bitAt 18 = .ok (.iload_n 2, 1) := by decide +kernel
theorem dX8_bitAt_19 : decode cX8_bitAt 19 = .ok (.ifCond .ne 5, 3) := by decide +kernel
theorem dX8_bitAt_22 : decode cX8_bitAt 22 = .ok (.iload_n 3, 1) := by decide +kernel
theorem dX8_bitAt_23 : decode cX8_bitAt 23 = .ok (.ireturn, 1) := by decide +kernel
theorem dX8_bitAt_24 : decode cX8_bitAt 24 = .ok (.iinc 2 (-1), 3) := by decide +kernel
theorem dX8_bitAt_27 : decode cX8_bitAt 27 = .ok (.iinc 3 1, 3) := by decide +kernel
theorem dX8_bitAt_30 : decode cX8_bitAt 30 = .ok (.goto (-26), 3) := by decide +kernel
theorem dX8_bitAt_33 : decode cX8_bitAt 33 = .ok (.iconst (-1), 1) := by decide +kernel
theorem dX8_bitAt_34 : decode cX8_bitAt 34 = .ok (.ireturn, 1) := by decide +kernel
set_option maxRecDepth 20000 in
theorem ggX8_runOut_X0_begin : GoodIn wsX8_runOut wsX0_begin := goodIn_r _ [12, 13, 14, 15, 16, 17, 18, 19, 20, 21, 22, 23, 24, 25, 26, 27, 28, 29, 30, 31, 32, 33, 34, 35, 36, 37, 38, 39, 40, 41, 42, 43, 44, 45, 46, 47, 48, 49, 50, 51, 52, 53, 54, 55, 56, 57, 58, 59, 60, 61, 62, 63, 251, 252, 253, 254, 255, 256, 257, 258, 259, 260, 261, 262, 263, 264, 265, 266, 267, 268, 269, 270, 271, 272, 273, 274, 275, 276, 277, 278, 279, 280, 281, 282, 283, 284, 285, 286, 287, 288, 289, 290, 291, 292, 293, 294, 295] (by decide +kernel) (by decide +kernel)
set_option maxRecDepth 20000 in
theorem gX8_runOut_X0_begin : GoodIn wsX8_runOut (wsV RX8 32 RX0 yX0_begin wsX0_begin) := goodIn_app (goodIn_of _ (by decide +kernel)) ggX8_runOut_X0_begin
set_option maxRecDepth 20000 in
theorem ggX8_runOut_X0_go : GoodIn wsX8_runOut wsX0_go := goodIn_r _ [67, 68, 16, 69, 14, 13, 70, 71, 72, 15, 73, 74, 75, 76, 77, 78, 79, 11, 80, 81, 82, 83, 84, 17, 85, 86, 87, 21, 88, 25, 89, 90, 91, 92, 93, 52, 94, 56, 95, 96, 97, 98, 54, 99, 100, 101, 102, 23, 103, 104, 105, 106, 107, 35, 108, 37, 46, 47, 38, 43, 44, 45, 48, 109, 110, 111, 112, 27, 113, 114, 115, 116, 55, 117, 118, 119, 120, 121, 122, 123, 124, 125, 126, 127, 128, 129, 130, 131, 132, 28, 133, 134, 135, 136, 137, 138, 139, 140, 141, 142, 143, 144, 145, 146, 147, 148, 149, 150, 151, 152, 153, 154, 155, 156, 157, 158, 159, 160, 161, 162, 163, 164, 165, 166, 167, 168, 169, 170, 171, 172, 173, 174, 175, 176, 177, 178, 30, 179, 180, 181, 182, 183, 184, 185, 186, 187, 188, 189, 190, 191, 192, 29, 193, 194, 195, 196, 197, 198, 199, 200, 201, 202, 203, 204, 205, 206, 207, 208, 209, 210, 211, 212, 213, 31, 214, 215, 216, 217, 218, 219, 220, 221, 222, 223, 224, 225, 226, 227, 228, 229, 230, 231, 232, 233, 234, 235, 236, 237, 238, 251, 252, 253, 254, 255, 264, 265, 266, 267, 268, 269, 270, 271, 272, 273, 256, 257, 258, 259, 260, 261, 262, 263, 284, 285, 286, 287, 288, 289, 290, 291, 292, 293, 294, 295, 276, 277, 278, 279, 280, 281, 282, 283, 274, 275] (by decide +kernel) (by decide +kernel)
set_option maxRecDepth 20000 in
theorem gX8_runOut_X0_go : GoodIn wsX8_runOut (wsV RX8 64 RX0 yX0_go wsX0_go) := goodIn_app (goodIn_of _ (by decide +kernel)) ggX8_runOut_X0_go
set_option maxRecDepth 20000 in
theorem ggX8_runOut_X1_firstOpen : GoodIn wsX8_runOut wsX1_firstOpen := goodIn_r _ [242, 54, 56, 284, 285, 286, 287, 288, 289, 290, 291, 292, 293, 294, 295] (by decide +kernel) (by decide +kernel)
set_option maxRecDepth 20000 in
theorem gX8_runOut_X1_firstOpen : GoodIn wsX8_runOut (wsV RX8 138 RX1 yX1_firstOpen wsX1_firstOpen) := goodIn_app (goodIn_of _ (by decide +kernel)) ggX8_runOut_X1_firstOpen
set_option maxRecDepth 20000 in
theorem ggX8_runOut_X9_act : GoodIn wsX8_runOut wsX9_act := goodIn_r _ [88, 25, 89, 90, 91, 92, 93, 52, 94, 56, 95, 96, 97, 98, 54, 99, 100, 101, 21, 102, 23, 103, 104, 105, 106, 107, 35, 108, 37, 46, 47, 38, 43, 44, 45, 48, 109, 110, 111, 112, 27, 113, 114, 115, 116, 55, 117, 118, 119, 120, 121, 122, 123, 124, 125, 126, 127, 128, 129, 130, 131, 132, 28, 133, 134, 135, 136, 137, 138, 139, 140, 141, 142, 143, 144, 145, 146, 147, 148, 149, 150, 151, 152, 153, 154, 155, 156, 157, 158, 159, 160, 161, 162, 163, 164, 165, 166, 167, 168, 169, 170, 171, 172, 173, 174, 175, 176, 177, 178, 30, 179, 180, 181, 182, 183, 184, 185, 186, 187, 188, 189, 190, 191, 192, 29, 193, 194, 195, 196, 197, 198, 199, 200, 201, 202, 203, 204, 205, 206, 207, 208, 209, 210, 211, 212, 213, 31, 214, 215, 216, 217, 218, 219, 220, 221, 222, 223, 224, 225, 226, 227, 228, 229, 230, 231, 232, 233, 234, 235, 236, 237, 238, 256, 257, 258, 259, 260, 261, 262, 263, 284, 285, 286, 287, 288, 289, 290, 291, 292, 293, 294, 295, 276, 277, 278, 279, 280, 281, 282, 283, 274, 275] (by decide +kernel) (by decide +kernel)
set_option maxRecDepth 20000 in
theorem gX8_runOut_X9_act : GoodIn wsX8_runOut (wsV RX8 127 RX9 yX9_act wsX9_act) := goodIn_app (goodIn_of _ (by decide +kernel)) ggX8_runOut_X9_act
set_option maxRecDepth 20000 in
theorem ggX8_runOut_X7_copyFrom : GoodIn wsX8_runOut wsX7_copyFrom := goodIn_r _ [36, 37, 38, 39, 40, 41, 42, 43, 44, 45, 46, 47, 48, 276, 277, 278, 279, 280, 281, 282, 283] (by decide +kernel) (by decide +kernel)
set_option maxRecDepth 20000 in
theorem gX8_runOut_X7_copyFrom : GoodIn wsX8_runOut (wsV RX8 144 RX7 yX7_copyFrom wsX7_copyFrom) := goodIn_app (goodIn_of _ (by decide +kernel)) ggX8_runOut_X7_copyFrom
theorem dX8_runOut_0 : decode cX8_runOut 0 = .ok (.aload_n 0, 1) := by decide +kernel
theorem dX8_runOut_1 : decode cX8_runOut 1 = .ok (.getfield 134, 3) := by decide +kernel
theorem dX8_runOut_4 : decode cX8_runOut 4 = .ok (.ifCond .eq 4, 3) := by decide +kernel
theorem dX8_runOut_7 : decode cX8_runOut 7 = .ok (.return_, 1) := by decide +kernel
theorem dX8_runOut_8 : decode cX8_runOut 8 = .ok (.aload_n 0, 1) := by decide +kernel
theorem dX8_runOut_9 : decode cX8_runOut 9 = .ok (.getfield 12, 3) := by decide +kernel
theorem dX8_runOut_12 : decode cX8_runOut 12 = .ok (.aload_n 1, 1) := by decide +kernel
theorem dX8_runOut_13 : decode cX8_runOut 13 = .ok (.invokevirtual 32, 3) := by decide +kernel
theorem dX8_runOut_16 : decode cX8_runOut 16 = .ok (.aload_n 0, 1) := by decide +kernel
theorem dX8_runOut_17 : decode cX8_runOut 17 = .ok (.getfield 12, 3) := by decide +kernel
theorem dX8_runOut_20 : decode cX8_runOut 20 = .ok (.aload_n 1, 1) := by decide +kernel
theorem dX8_runOut_21 : decode cX8_runOut 21 = .ok (.bipush 24, 2) := by decide +kernel
theorem dX8_runOut_23 : decode cX8_runOut 23 = .ok (.invokevirtual 64, 3) := by decide +kernel
theorem dX8_runOut_26 : decode cX8_runOut 26 = .ok (.iconst 0, 1) := by decide +kernel
theorem dX8_runOut_27 : decode cX8_runOut 27 = .ok (.istore_n 2, 1) := by decide +kernel
theorem dX8_runOut_28 : decode cX8_runOut 28 = .ok (.iload_n 2, 1) := by decide +kernel
theorem dX8_runOut_29 : decode cX8_runOut 29 = .ok (.ldc 137, 2) := by decide +kernel
theorem dX8_runOut_31 : decode cX8_runOut 31 = .ok (.if_icmp .ge 57, 3) := by decide +kernel
theorem dX8_runOut_34 : decode cX8_runOut 34 = .ok (.aload_n 0, 1) := by decide +kernel
theorem dX8_runOut_35 : decode cX8_runOut 35 = .ok (.getfield 12, 3) := by decide +kernel
theorem dX8_runOut_38 : decode cX8_runOut 38 = .ok (.getfield 36, 3) := by decide +kernel
theorem dX8_runOut_41 : decode cX8_runOut 41 = .ok (.getfield 75, 3) := by decide +kernel
theorem dX8_runOut_44 : decode cX8_runOut 44 = .ok (.invokevirtual 138, 3) := by decide +kernel
theorem dX8_runOut_47 : decode cX8_runOut 47 = .ok (.istore_n 3, 1) := by decide +kernel
theorem dX8_runOut_48 : decode cX8_runOut 48 = .ok (.iload_n 3, 1) := by decide +kernel
theorem dX8_runOut_49 : decode cX8_runOut 49 = .ok (.iconst (-1), 1) := by decide +kernel
theorem dX8_runOut_50 : decode cX8_runOut 50 = .ok (.if_icmp .ne 6, 3) := by decide +kernel
theorem dX8_runOut_53 : decode cX8_runOut 53 = .ok (.goto 35, 3) := by decide +kernel
theorem dX8_runOut_56 : decode cX8_runOut 56 = .ok (.aload_n 0, 1) := by decide +kernel
theorem dX8_runOut_57 : decode cX8_runOut 57 = .ok (.getfield 12, 3) := by decide +kernel
theorem dX8_runOut_60 : decode cX8_runOut 60 = .ok (.getfield 36, 3) := by decide +kernel
theorem dX8_runOut_63 : decode cX8_runOut 63 = .ok (.iload_n 3, 1) := by decide +kernel
theorem dX8_runOut_64 : decode cX8_runOut 64 = .ok (.bipush 7, 2) := by decide +kernel
theorem dX8_runOut_66 : decode cX8_runOut 66 = .ok (.iconst 0, 1) := by decide +kernel
theorem dX8_runOut_67 : decode cX8_runOut 67 = .ok (.iconst 0, 1) := by decide +kernel
theorem dX8_runOut_68 : decode cX8_runOut 68 = .ok (.iconst 0, 1) := by decide +kernel
theorem dX8_runOut_69 : decode cX8_runOut 69 = .ok (.invokevirtual 127, 3) := by decide +kernel
theorem dX8_runOut_72 : decode cX8_runOut 72 = .ok (.pop, 1) := by decide +kernel
theorem dX8_runOut_73 : decode cX8_runOut 73 = .ok (.aload_n 0, 1) := by decide +kernel
theorem dX8_runOut_74 : decode cX8_runOut 74 = .ok (.getfield 12, 3) := by decide +kernel
theorem dX8_runOut_77 : decode cX8_runOut 77 = .ok (.aload_n 1, 1) := by decide +kernel
theorem dX8_runOut_78 : decode cX8_runOut 78 = .ok (.iconst 0, 1) := by decide +kernel
theorem dX8_runOut_79 : decode cX8_runOut 79 = .ok (.invokevirtual 64, 3) := by decide +kernel
theorem dX8_runOut_82 : decode cX8_runOut 82 = .ok (.iinc 2 1, 3) := by decide +kernel
theorem dX8_runOut_85 : decode cX8_runOut 85 = .ok (.goto (-57), 3) := by decide +kernel
theorem dX8_runOut_88 : decode cX8_runOut 88 = .ok (.aload_n 0, 1) := by decide +kernel
theorem dX8_runOut_89 : decode cX8_runOut 89 = .ok (.getfield 28, 3) := by decide +kernel
theorem dX8_runOut_92 : decode cX8_runOut 92 = .ok (.aload_n 0, 1) := by decide +kernel
theorem dX8_runOut_93 : decode cX8_runOut 93 = .ok (.getfield 12, 3) := by decide +kernel
theorem dX8_runOut_96 : decode cX8_runOut 96 = .ok (.getfield 36, 3) := by decide +kernel
theorem dX8_runOut_99 : decode cX8_runOut 99 = .ok (.getfield 141, 3) := by decide +kernel
theorem dX8_runOut_102 : decode cX8_runOut 102 = .ok (.invokevirtual 144, 3) := by decide +kernel
theorem dX8_runOut_105 : decode cX8_runOut 105 = .ok (.return_, 1) := by decide +kernel
set_option maxRecDepth 20000 in
theorem ggX8_matchOrders_X8_goAlone : GoodIn wsX8_matchOrders wsX8_goAlone := goodIn_r _ [15, 16, 17, 3, 4, 18, 19, 20, 21, 22, 23, 24, 25, 26, 27, 28, 29, 30, 31, 32, 33, 34, 35, 36, 37, 38, 39, 40, 41, 42, 43, 44, 45, 8, 9, 10, 46, 47, 48, 49, 50, 51, 52, 53, 54, 55, 56, 57, 58, 59, 60, 61, 62, 63, 64, 65, 66, 67, 68, 69, 70, 71, 72, 73, 74, 75, 76, 77, 78, 79, 80, 81, 82, 83, 84, 85, 86, 87, 88, 89, 90, 91, 92, 93, 94, 95, 96, 97, 98, 99, 100, 101, 102, 103, 104, 105, 106, 107, 108, 109, 110, 111, 112, 113, 114, 115, 116, 117, 118, 119, 120, 121, 122, 123, 124, 125, 126, 127, 128, 129, 130, 131, 132, 133, 134, 135, 136, 137, 138, 139, 140, 141, 142, 143, 144, 145, 146, 147, 148, 149, 150, 151, 152, 153, 154, 155, 156, 157, 158, 159, 160, 161, 162, 163, 164, 165, 166, 167, 168, 169, 170, 171, 172, 173, 174, 175, 176, 177, 178, 179, 180, 181, 182, 183, 184, 185, 186, 187, 188, 189, 190, 191, 192, 193, 194, 195, 196, 197, 198, 199, 200, 201, 202, 203, 204, 205, 206, 207, 208, 209, 210, 211, 212, 213, 214, 215, 216, 217, 218, 219, 237, 238, 239, 240, 241, 242, 253, 254, 255, 256, 257, 243, 244, 245, 246, 247, 248, 249, 250, 251, 252, 258, 259, 260, 261, 262, 263, 264, 265, 266, 267, 268, 269, 270, 271, 272, 273, 274, 275, 276, 277, 278, 279, 280, 281, 282, 283, 284, 285, 286, 287] (by decide +kernel) (by decide +kernel)
set_option maxRecDepth 20000 in
theorem gX8_matchOrders_X8_goAlone : GoodIn wsX8_matchOrders (wsV RX8 154 RX8 yX8_goAlone wsX8_goAlone) := goodIn_app (goodIn_of _ (by decide +kernel)) ggX8_matchOrders_X8_goAlone
set_option maxRecDepth 20000 in
theorem ggX8_matchOrders_X8_comesToAim : GoodIn wsX8_matchOrders wsX8_comesToAim := goodIn_r _ [223, 16, 17, 224, 225, 226, 227, 228, 237, 238, 239, 240, 241, 242, 253, 254, 255, 256, 257, 258, 259, 260, 261, 262, 263, 264, 265, 268, 269, 270, 271, 272, 273, 274, 275] (by decide +kernel) (by decide +kernel)
set_option maxRecDepth 20000 in
theorem gX8_matchOrders_X8_comesToAim : GoodIn wsX8_matchOrders (wsV RX8 157 RX8 yX8_comesToAim wsX8_comesToAim) := goodIn_app (goodIn_of _ (by decide +kernel)) ggX8_matchOrders_X8_comesToAim
set_option maxRecDepth 20000 in
theorem ggX8_matchOrders_X8_nextOrder : GoodIn wsX8_matchOrders wsX8_nextOrder := goodIn_r _ [232, 4, 233, 234, 235, 14, 236, 237, 238, 239, 240, 241, 242] (by decide +kernel) (by decide +kernel)
set_option maxRecDepth 20000 in
theorem gX8_matchOrders_X8_nextOrder : GoodIn wsX8_matchOrders (wsV RX8 167 RX8 yX8_nextOrder wsX8_nextOrder) := goodIn_app (goodIn_of _ (by decide +kernel)) ggX8_matchOrders_X8_nextOrder
theorem dX8_matchOrders_0 : decode cX8_matchOrders 0 = .ok (.aload_n 0, 1) := by decide +kernel
theorem dX8_matchOrders_1 : decode cX8_matchOrders 1 = .ok (.getfield 134, 3) := by decide +kernel
theorem dX8_matchOrders_4 : decode cX8_matchOrders 4 = .ok (.ifCond .eq 4, 3) := by decide +kernel
theorem dX8_matchOrders_7 : decode cX8_matchOrders 7 = .ok (.return_, 1) := by decide +kernel
theorem dX8_matchOrders_8 : decode cX8_matchOrders 8 = .ok (.aload_n 0, 1) := by decide +kernel
theorem dX8_matchOrders_9 : decode cX8_matchOrders 9 = .ok (.iconst 1, 1) := by decide +kernel
theorem dX8_matchOrders_10 : decode cX8_matchOrders 10 = .ok (.putfield 134, 3) := by decide +kernel
theorem dX8_matchOrders_13 : decode cX8_matchOrders 13 = .ok (.aload_n 0, 1) := by decide +kernel
theorem dX8_matchOrders_14 : decode cX8_matchOrders 14 = .ok (.iconst 0, 1) := by decide +kernel
theorem dX8_matchOrders_15 : decode cX8_matchOrders 15 = .ok (.putfield 148, 3) := by decide +kernel
theorem dX8_matchOrders_18 : decode cX8_matchOrders 18 = .ok (.iconst 0, 1) := by decide +kernel
theorem dX8_matchOrders_19 : decode cX8_matchOrders 19 = .ok (.istore_n 2, 1) := by decide +kernel
theorem dX8_matchOrders_20 : decode cX8_matchOrders 20 = .ok (.iload_n 2, 1) := by decide +kernel
theorem dX8_matchOrders_21 : decode cX8_matchOrders 21 = .ok (.aload_n 1, 1) := by decide +kernel
theorem dX8_matchOrders_22 : decode cX8_matchOrders 22 = .ok (.getfield 151, 3) := by decide +kernel
theorem dX8_matchOrders_25 : decode cX8_matchOrders 25 = .ok (.if_icmp .ge 16, 3) := by decide +kernel
theorem dX8_matchOrders_28 : decode cX8_matchOrders 28 = .ok (.aload_n 0, 1) := by decide +kernel
theorem dX8_matchOrders_29 : decode cX8_matchOrders 29 = .ok (.getfield 22, 3) := by decide +kernel
theorem dX8_matchOrders_32 : decode cX8_matchOrders 32 = .ok (.iload_n 2, 1) := by decide +kernel
theorem dX8_matchOrders_33 : decode cX8_matchOrders 33 = .ok (.iload_n 2, 1) := by decide +kernel
theorem dX8_matchOrders_34 : decode cX8_matchOrders 34 = .ok (.iastore, 1) := by decide +kernel
theorem dX8_matchOrders_35 : decode cX8_matchOrders 35 = .ok (.iinc 2 1, 3) := by decide +kernel
theorem dX8_matchOrders_38 : decode cX8_matchOrders 38 = .ok (.goto (-18), 3) := by decide +kernel
theorem dX8_matchOrders_41 : decode cX8_matchOrders 41 = .ok (.iconst 1, 1) := by decide +kernel
theorem dX8_matchOrders_42 : decode cX8_matchOrders 42 = .ok (.istore_n 2, 1) := by decide +kernel
theorem dX8_matchOrders_43 : decode cX8_matchOrders 43 = .ok (.iconst 0, 1) := by decide +kernel
theorem dX8_matchOrders_44 : decode cX8_matchOrders 44 = .ok (.istore_n 3, 1) := by decide +kernel
theorem dX8_matchOrders_45 : decode cX8_matchOrders 45 = .ok (.iload_n 3, 1) := by decide +kernel
theorem dX8_matchOrders_46 : decode cX8_matchOrders 46 = .ok (.ldc 137, 2) := by decide +kernel
theorem dX8_matchOrders_48 : decode cX8_matchOrders 48 = .ok (.if_icmp .ge 65, 3) := by decide +kernel
theorem dX8_matchOrders_51 : decode cX8_matchOrders 51 = .ok (.iload_n 2, 1) := by decide +kernel
theorem dX8_matchOrders_52 : decode cX8_matchOrders 52 = .ok (.ifCond .eq 61, 3) := by decide +kernel
theorem dX8_matchOrders_55 : decode cX8_matchOrders 55 = .ok (.aload_n 0, 1) := by decide +kernel
theorem dX8_matchOrders_56 : decode cX8_matchOrders 56 = .ok (.aload_n 1, 1) := by decide +kernel
theorem dX8_matchOrders_57 : decode cX8_matchOrders 57 = .ok (.invokevirtual 154, 3) := by decide +kernel
theorem dX8_matchOrders_60 : decode cX8_matchOrders 60 = .ok (.aload_n 0, 1) := by decide +kernel
theorem dX8_matchOrders_61 : decode cX8_matchOrders 61 = .ok (.invokevirtual 157, 3) := by decide +kernel
theorem dX8_matchOrders_64 : decode cX8_matchOrders 64 = .ok (.ifCond .eq 34, 3) := by decide +kernel
theorem dX8_matchOrders_67 : decode cX8_matchOrders 67 = .ok (.aload_n 0, 1) := by decide +kernel
theorem dX8_matchOrders_68 : decode cX8_matchOrders 68 = .ok (.getfield 148, 3) := by decide +kernel
theorem dX8_matchOrders_71 : decode cX8_matchOrders 71 = .ok (.ifCond .ne 17, 3) := by decide +kernel
theorem dX8_matchOrders_74 : decode cX8_matchOrders 74 = .ok (.aload_n 0, 1) := by decide +kernel
theorem dX8_matchOrders_75 : decode cX8_matchOrders 75 = .ok (.getfield 22, 3) := by decide +kernel
theorem dX8_matchOrders_78 : decode cX8_matchOrders 78 = .ok (.iconst 0, 1) := by decide +kernel
theorem dX8_matchOrders_79 : decode cX8_matchOrders 79 = .ok (.aload_n 0, 1) := by decide +kernel
theorem dX8_matchOrders_80 : decode cX8_matchOrders 80 = .ok (.getfield 18, 3) := by decide +kernel
theorem dX8_matchOrders_83 : decode cX8_matchOrders 83 = .ok (.iconst 0, 1) := by decide +kernel
theorem dX8_matchOrders_84 : decode cX8_matchOrders 84 = .ok (.iconst 5, 1) := by decide +kernel
theorem dX8_matchOrders_85 : decode cX8_matchOrders 85 = .ok (.invokestatic 161, 3) := by decide +kernel
theorem dX8_matchOrders_88 : decode cX8_matchOrders 88 = .ok (.aload_n 0, 1) := by decide +kernel
theorem dX8_matchOrders_89 : decode cX8_matchOrders 89 = .ok (.dup, 1) := by decide +kernel
theorem dX8_matchOrders_90 : decode cX8_matchOrders 90 = .ok (.getfield 148, 3) := by decide +kernel
theorem dX8_matchOrders_93 : decode cX8_matchOrders 93 = .ok (.iconst 1, 1) := by decide +kernel
theorem dX8_matchOrders_94 : decode cX8_matchOrders 94 = .ok (.iadd, 1) := by decide +kernel
theorem dX8_matchOrders_95 : decode cX8_matchOrders 95 = .ok (.putfield 148, 3) := by decide +kernel
theorem dX8_matchOrders_98 : decode cX8_matchOrders 98 = .ok (.aload_n 0, 1) := by decide +kernel
theorem dX8_matchOrders_99 : decode cX8_matchOrders 99 = .ok (.aload_n 1, 1) := by decide +kernel
theorem dX8_matchOrders_100 : decode cX8_matchOrders 100 = .ok (.getfield 151, 3) := by decide +kernel
theorem dX8_matchOrders_103 : decode cX8_matchOrders 103 = .ok (.invokevirtual 167, 3) := by decide +kernel
theorem dX8_matchOrders_106 : decode cX8_matchOrders 106 = .ok (.istore_n 2, 1) := by decide +kernel
theorem dX8_matchOrders_107 : decode cX8_matchOrders 107 = .ok (.iinc 3 1, 3) := by decide +kernel
theorem dX8_matchOrders_110 : decode cX8_matchOrders 110 = .ok (.goto (-65), 3) := by decide +kernel
theorem dX8_matchOrders_113 : decode cX8_matchOrders 113 = .ok (.return_, 1) := by decide +kernel
set_option maxRecDepth 20000 in
theorem ggX8_goAlone_X9_begin : GoodIn wsX8_goAlone wsX9_begin := goodIn_r _ [15, 16, 17, 18, 19, 20, 21, 22, 23, 24, 25, 26, 27, 28, 29, 30, 31, 32, 33, 34, 35, 36, 37, 38, 39, 40, 41, 42, 43, 44, 45, 46, 47, 48, 49, 50, 51, 52, 53, 54, 55, 231, 232, 233, 234, 235, 236, 237, 238, 221, 222, 223, 224, 225, 226, 227, 228, 229, 230, 239, 240, 241, 242, 243, 244, 245, 246, 247, 248, 249, 250, 251, 252, 253, 254, 255, 256, 257, 258, 259, 260] (by decide +kernel) (by decide +kernel)
set_option maxRecDepth 20000 in
theorem gX8_goAlone_X9_begin : GoodIn wsX8_goAlone (wsV RX8 171 RX9 yX9_begin wsX9_begin) := goodIn_app (goodIn_of _ (by decide +kernel)) ggX8_goAlone_X9_begin
set_option maxRecDepth 20000 in
theorem ggX8_goAlone_X9_act : GoodIn wsX8_goAlone wsX9_act := goodIn_r _ [59, 18, 60, 61, 62, 63, 64, 45, 65, 49, 66, 67, 68, 69, 47, 70, 71, 72, 14, 73, 16, 74, 75, 76, 77, 78, 28, 79, 30, 39, 40, 31, 36, 37, 38, 41, 80, 81, 82, 83, 20, 84, 85, 86, 87, 48, 88, 89, 90, 91, 92, 93, 94, 95, 96, 97, 98, 99, 100, 101, 102, 103, 21, 104, 105, 106, 107, 108, 109, 110, 111, 112, 113, 114, 115, 116, 117, 118, 119, 120, 121, 122, 123, 124, 125, 126, 127, 128, 129, 130, 131, 132, 133, 134, 135, 136, 137, 138, 139, 140, 141, 142, 143, 144, 145, 146, 147, 148, 149, 23, 150, 151, 152, 153, 154, 155, 156, 157, 158, 159, 160, 161, 162, 163, 22, 164, 165, 166, 167, 168, 169, 170, 171, 172, 173, 174, 175, 176, 177, 178, 179, 180, 181, 182, 183, 184, 24, 185, 186, 187, 188, 189, 190, 191, 192, 193, 194, 195, 196, 197, 198, 199, 200, 201, 202, 203, 204, 205, 206, 207, 208, 209, 231, 232, 233, 234, 235, 236, 237, 238, 249, 250, 251, 252, 253, 254, 255, 256, 257, 258, 259, 260, 241, 242, 243, 244, 245, 246, 247, 248, 239, 240] (by decide +kernel) (by decide +kernel)
set_option maxRecDepth 20000 in
theorem gX8_goAlone_X9_act : GoodIn wsX8_goAlone (wsV RX8 127 RX9 yX9_act wsX9_act) := goodIn_app (goodIn_of _ (by decide +kernel)) ggX8_goAlone_X9_act
theorem dX8_goAlone_0 : decode cX8_goAlone 0 = .ok (.aload_n 0, 1) := by decide +kernel
theorem dX8_goAlone_1 : decode cX8_goAlone 1 = .ok (.getfield 12, 3) := by decide +kernel
theorem dX8_goAlone_4 : decode cX8_goAlone 4 = .ok (.getfield 36, 3) := by decide +kernel
theorem dX8_goAlone_7 : decode cX8_goAlone 7 = .ok (.astore_n 2, 1) := by decide +kernel
theorem dX8_goAlone_8 : decode cX8_goAlone 8 = .ok (.aload_n 2, 1) := by decide +kernel
theorem dX8_goAlone_9 : decode cX8_goAlone 9 = .ok (.aload_n 1, 1) := by decide +kernel
theorem dX8_goAlone_10 : decode cX8_goAlone 10 = .ok (.invokevirtual 171, 3) := by decide +kernel
theorem dX8_goAlone_13 : decode cX8_goAlone 13 = .ok (.iconst 0, 1) := by decide +kernel
theorem dX8_goAlone_14 : decode cX8_goAlone 14 = .ok (.istore_n 3, 1) := by decide +kernel
theorem dX8_goAlone_15 : decode cX8_goAlone 15 = .ok (.iload_n 3, 1) := by decide +kernel
theorem dX8_goAlone_16 : decode cX8_goAlone 16 = .ok (.aload_n 1, 1) := by decide +kernel
theorem dX8_goAlone_17 : decode cX8_goAlone 17 = .ok (.getfield 151, 3) := by decide +kernel
theorem dX8_goAlone_20 : decode cX8_goAlone 20 = .ok (.if_icmp .ge 94, 3) := by decide +kernel
theorem dX8_goAlone_23 : decode cX8_goAlone 23 = .ok (.aload_n 0, 1) := by decide +kernel
theorem dX8_goAlone_24 : decode cX8_goAlone 24 = .ok (.getfield 22, 3) := by decide +kernel
theorem dX8_goAlone_27 : decode cX8_goAlone 27 = .ok (.iload_n 3, 1) := by decide +kernel
theorem dX8_goAlone_28 : decode cX8_goAlone 28 = .ok (.iaload, 1) := by decide +kernel
theorem dX8_goAlone_29 : decode cX8_goAlone 29 = .ok (.istore 4, 2) := by decide +kernel
theorem dX8_goAlone_31 : decode cX8_goAlone 31 = .ok (.iconst 0, 1) := by decide +kernel
theorem dX8_goAlone_32 : decode cX8_goAlone 32 = .ok (.istore 5, 2) := by decide +kernel
theorem dX8_goAlone_34 : decode cX8_goAlone 34 = .ok (.iload 5, 2) := by decide +kernel
theorem dX8_goAlone_36 : decode cX8_goAlone 36 = .ok (.aload_n 1, 1) := by decide +kernel
theorem dX8_goAlone_37 : decode cX8_goAlone 37 = .ok (.getfield 52, 3) := by decide +kernel
theorem dX8_goAlone_40 : decode cX8_goAlone 40 = .ok (.if_icmp .ge 56, 3) := by decide +kernel
theorem dX8_goAlone_43 : decode cX8_goAlone 43 = .ok (.aload_n 1, 1) := by decide +kernel
theorem dX8_goAlone_44 : decode cX8_goAlone 44 = .ok (.getfield 58, 3) := by decide +kernel
theorem dX8_goAlone_47 : decode cX8_goAlone 47 = .ok (.iload 5, 2) := by decide +kernel
theorem dX8_goAlone_49 : decode cX8_goAlone 49 = .ok (.iaload, 1) := by decide +kernel
theorem dX8_goAlone_50 : decode cX8_goAlone 50 = .ok (.iload 4, 2) := by decide +kernel
theorem dX8_goAlone_52 : decode cX8_goAlone 52 = .ok (.if_icmp .ne 38, 3) := by decide +kernel
theorem dX8_goAlone_55 : decode cX8_goAlone 55 = .ok (.aload_n 2, 1) := by decide +kernel
theorem dX8_goAlone_56 : decode cX8_goAlone 56 = .ok (.iload 4, 2) := by decide +kernel
theorem dX8_goAlone_58 : decode cX8_goAlone 58 = .ok (.aload_n 1, 1) := by decide +kernel
theorem dX8_goAlone_59 : decode cX8_goAlone 59 = .ok (.getfield 115, 3) := by decide +kernel
theorem dX8_goAlone_62 : decode cX8_goAlone 62 = .ok (.iload 5, 2) := by decide +kernel
theorem dX8_goAlone_64 : decode cX8_goAlone 64 = .ok (.iaload, 1) := by decide +kernel
theorem dX8_goAlone_65 : decode cX8_goAlone 65 = .ok (.aload_n 1, 1) := by decide +kernel
theorem dX8_goAlone_66 : decode cX8_goAlone 66 = .ok (.getfield 118, 3) := by decide +kernel
theorem dX8_goAlone_69 : decode cX8_goAlone 69 = .ok (.iload 5, 2) := by decide +kernel
theorem dX8_goAlone_71 : decode cX8_goAlone 71 = .ok (.iaload, 1) := by decide +kernel
theorem dX8_goAlone_72 : decode cX8_goAlone 72 = .ok (.aload_n 1, 1) := by decide +kernel
theorem dX8_goAlone_73 : decode cX8_goAlone 73 = .ok (.getfield 121, 3) := by decide +kernel
theorem dX8_goAlone_76 : decode cX8_goAlone 76 = .ok (.iload 5, 2) := by decide +kernel
theorem dX8_goAlone_78 : decode cX8_goAlone 78 = .ok (.iaload, 1) := by decide +kernel
theorem dX8_goAlone_79 : decode cX8_goAlone 79 = .ok (.aload_n 1, 1) := by decide +kernel
theorem dX8_goAlone_80 : decode cX8_goAlone 80 = .ok (.getfield 124, 3) := by decide +kernel
theorem dX8_goAlone_83 : decode cX8_goAlone 83 = .ok (.iload 5, 2) := by decide +kernel
theorem dX8_goAlone_85 : decode cX8_goAlone 85 = .ok (.iaload, 1) := by decide +kernel
theorem dX8_goAlone_86 : decode cX8_goAlone 86 = .ok (.invokevirtual 127, 3) := by decide +kernel
theorem dX8_goAlone_89 : decode cX8_goAlone 89 = .ok (.pop, 1) := by decide +kernel
theorem dX8_goAlone_90 : decode cX8_goAlone 90 = .ok (.iinc 5 1, 3) := by decide +kernel
theorem dX8_goAlone_93 : decode cX8_goAlone 93 = .ok (.goto (-59), 3) := by decide +kernel
theorem dX8_goAlone_96 : decode cX8_goAlone 96 = .ok (.aload_n 2, 1) := by decide +kernel
theorem dX8_goAlone_97 : decode cX8_goAlone 97 = .ok (.iload 4, 2) := by decide +kernel
theorem dX8_goAlone_99 : decode cX8_goAlone 99 = .ok (.bipush 7, 2) := by decide +kernel
theorem dX8_goAlone_101 : decode cX8_goAlone 101 = .ok (.iconst 0, 1) := by decide +kernel
theorem dX8_goAlone_102 : decode cX8_goAlone 102 = .ok (.iconst 0, 1) := by decide +kernel
theorem dX8_goAlone_103 : decode cX8_goAlone 103 = .ok (.iconst 0, 1) := by decide +kernel
theorem dX8_goAlone_104 : decode cX8_goAlone 104 = .ok (.invokevirtual 127, 3) := by decide +kernel
theorem dX8_goAlone_107 : decode cX8_goAlone 107 = .ok (.pop, 1) := by decide +kernel
theorem dX8_goAlone_108 : decode cX8_goAlone 108 = .ok (.iinc 3 1, 3) := by decide +kernel
theorem dX8_goAlone_111 : decode cX8_goAlone 111 = .ok (.goto (-96), 3) := by decide +kernel
theorem dX8_goAlone_114 : decode cX8_goAlone 114 = .ok (.return_, 1) := by decide +kernel
theorem dX8_comesToAim_0 : decode cX8_comesToAim 0 = .ok (.aload_n 0, 1) := by decide +kernel
theorem dX8_comesToAim_1 : decode cX8_comesToAim 1 = .ok (.getfield 12, 3) := by decide +kernel
theorem dX8_comesToAim_4 : decode cX8_comesToAim 4 = .ok (.getfield 36, 3) := by decide +kernel
theorem dX8_comesToAim_7 : decode cX8_comesToAim 7 = .ok (.getfield 141, 3) := by decide +kernel
theorem dX8_comesToAim_10 : decode cX8_comesToAim 10 = .ok (.astore_n 1, 1) := by decide +kernel
theorem dX8_comesToAim_11 : decode cX8_comesToAim 11 = .ok (.aload_n 1, 1) := by decide +kernel
theorem dX8_comesToAim_12 : decode cX8_comesToAim 12 = .ok (.getfield 172, 3) := by decide +kernel
theorem dX8_comesToAim_15 : decode cX8_comesToAim 15 = .ok (.aload_n 0, 1) := by decide +kernel
theorem dX8_comesToAim_16 : decode cX8_comesToAim 16 = .ok (.getfield 28, 3) := by decide +kernel
theorem dX8_comesToAim_19 : decode cX8_comesToAim 19 = .ok (.getfield 172, 3) := by decide +kernel
theorem dX8_comesToAim_22 : decode cX8_comesToAim 22 = .ok (.if_icmp .eq 5, 3) := by decide +kernel
theorem dX8_comesToAim_25 : decode cX8_comesToAim 25 = .ok (.iconst 0, 1) := by decide +kernel
theorem dX8_comesToAim_26 : decode cX8_comesToAim 26 = .ok (.ireturn, 1) := by decide +kernel
theorem dX8_comesToAim_27 : decode cX8_comesToAim 27 = .ok (.iconst 0, 1) := by decide +kernel
theorem dX8_comesToAim_28 : decode cX8_comesToAim 28 = .ok (.istore_n 2, 1) := by decide +kernel
theorem dX8_comesToAim_29 : decode cX8_comesToAim 29 = .ok (.iload_n 2, 1) := by decide +kernel
theorem dX8_comesToAim_30 : decode cX8_comesToAim 30 = .ok (.aload_n 0, 1) := by decide +kernel
theorem dX8_comesToAim_31 : decode cX8_comesToAim 31 = .ok (.getfield 28, 3) := by decide +kernel
theorem dX8_comesToAim_34 : decode cX8_comesToAim 34 = .ok (.getfield 172, 3) := by decide +kernel
theorem dX8_comesToAim_37 : decode cX8_comesToAim 37 = .ok (.if_icmp .ge 47, 3) := by decide +kernel
theorem dX8_comesToAim_40 : decode cX8_comesToAim 40 = .ok (.aload_n 1, 1) := by decide +kernel
theorem dX8_comesToAim_41 : decode cX8_comesToAim 41 = .ok (.getfield 175, 3) := by decide +kernel
theorem dX8_comesToAim_44 : decode cX8_comesToAim 44 = .ok (.iload_n 2, 1) := by decide +kernel
theorem dX8_comesToAim_45 : decode cX8_comesToAim 45 = .ok (.iaload, 1) := by decide +kernel
theorem dX8_comesToAim_46 : decode cX8_comesToAim 46 = .ok (.aload_n 0, 1) := by decide +kernel
theorem dX8_comesToAim_47 : decode cX8_comesToAim 47 = .ok (.getfield 28, 3) := by decide +kernel
theorem dX8_comesToAim_50 : decode cX8_comesToAim 50 = .ok (.getfield 175, 3) := by decide +kernel
theorem dX8_comesToAim_53 : decode cX8_comesToAim 53 = .ok (.iload_n 2, 1) := by decide +kernel
theorem dX8_comesToAim_54 : decode cX8_comesToAim 54 = .ok (.iaload, 1) := by decide +kernel
theorem dX8_comesToAim_55 : decode cX8_comesToAim 55 = .ok (.if_icmp .ne 21, 3) := by decide +kernel
theorem dX8_comesToAim_58 : decode cX8_comesToAim 58 = .ok (.aload_n 1, 1) := by decide +kernel
theorem dX8_comesToAim_59 : decode cX8_comesToAim 59 = .ok (.getfield 178, 3) := by decide +kernel
theorem dX8_comesToAim_62 : decode cX8_comesToAim 62 = .ok (.iload_n 2, 1) := by decide +kernel
theorem dX8_comesToAim_63 : decode cX8_comesToAim 63 = .ok (.iaload, 1) := by decide +kernel
theorem dX8_comesToAim_64 : decode cX8_comesToAim 64 = .ok (.aload_n 0, 1) := by decide +kernel
theorem dX8_comesToAim_65 : decode cX8_comesToAim 65 = .ok (.getfield 28, 3) := by decide +kernel
theorem dX8_comesToAim_68 : decode cX8_comesToAim 68 = .ok (.getfield 178, 3) := by decide +kernel
theorem dX8_comesToAim_71 : decode cX8_comesToAim 71 = .ok (.iload_n 2, 1) := by decide +kernel
theorem dX8_comesToAim_72 : decode cX8_comesToAim 72 = .ok (.iaload, 1) := by decide +kernel
theorem dX8_comesToAim_73 : decode cX8_comesToAim 73 = .ok (.if_icmp .eq 5, 3) := by decide +kernel
theorem dX8_comesToAim_76 : decode cX8_comesToAim 76 = .ok (.iconst 0, 1) := by decide +kernel
theorem dX8_comesToAim_77 : decode cX8_comesToAim 77 = .ok (.ireturn, 1) := by decide +kernel
theorem dX8_comesToAim_78 : decode cX8_comesToAim 78 = .ok (.iinc 2 1, 3) := by decide +kernel
theorem dX8_comesToAim_81 : decode cX8_comesToAim 81 = .ok (.goto (-52), 3) := by decide +kernel
theorem dX8_comesToAim_84 : decode cX8_comesToAim 84 = .ok (.iconst 1, 1) := by decide +kernel
theorem dX8_comesToAim_85 : decode cX8_comesToAim 85 = .ok (.ireturn, 1) := by decide +kernel
set_option maxRecDepth 20000 in
theorem ggX8_nextOrder_X8_exchange : GoodIn wsX8_nextOrder wsX8_exchange := goodIn_r _ [6, 1, 7, 8, 9, 10, 11, 12] (by decide +kernel) (by decide +kernel)
set_option maxRecDepth 20000 in
theorem gX8_nextOrder_X8_exchange : GoodIn wsX8_nextOrder (wsV RX8 179 RX8 yX8_exchange wsX8_exchange) := goodIn_app (goodIn_of _ (by decide +kernel)) ggX8_nextOrder_X8_exchange
theorem dX8_nextOrder_0 : decode cX8_nextOrder 0 = .ok (.iload_n 1, 1) := by decide +kernel
theorem dX8_nextOrder_1 : decode cX8_nextOrder 1 = .ok (.iconst 2, 1) := by decide +kernel
theorem dX8_nextOrder_2 : decode cX8_nextOrder 2 = .ok (.isub, 1) := by decide +kernel
theorem dX8_nextOrder_3 : decode cX8_nextOrder 3 = .ok (.istore_n 2, 1) := by decide +kernel
theorem dX8_nextOrder_4 : decode cX8_nextOrder 4 = .ok (.iload_n 2, 1) := by decide +kernel
theorem dX8_nextOrder_5 : decode cX8_nextOrder 5 = .ok (.ifCond .lt 26, 3) := by decide +kernel
theorem dX8_nextOrder_8 : decode cX8_nextOrder 8 = .ok (.aload_n 0, 1) := by decide +kernel
theorem dX8_nextOrder_9 : decode cX8_nextOrder 9 = .ok (.getfield 22, 3) := by decide +kernel
theorem dX8_nextOrder_12 : decode cX8_nextOrder 12 = .ok (.iload_n 2, 1) := by decide +kernel
theorem dX8_nextOrder_13 : decode cX8_nextOrder 13 = .ok (.iaload, 1) := by decide +kernel
theorem dX8_nextOrder_14 : decode cX8_nextOrder 14 = .ok (.aload_n 0, 1) := by decide +kernel
theorem dX8_nextOrder_15 : decode cX8_nextOrder 15 = .ok (.getfield 22, 3) := by decide +kernel
theorem dX8_nextOrder_18 : decode cX8_nextOrder 18 = .ok (.iload_n 2, 1) := by decide +kernel
theorem dX8_nextOrder_19 : decode cX8_nextOrder 19 = .ok (.iconst 1, 1) := by decide +kernel
theorem dX8_nextOrder_20 : decode cX8_nextOrder 20 = .ok (.iadd, 1) := by decide +kernel
theorem dX8_nextOrder_21 : decode cX8_nextOrder 21 = .ok (.iaload, 1) := by decide +kernel
theorem dX8_nextOrder_22 : decode cX8_nextOrder 22 = .ok (.if_icmp .le 9, 3) := by decide +kernel
theorem dX8_nextOrder_25 : decode cX8_nextOrder 25 = .ok (.iinc 2 (-1), 3) := by decide +kernel
theorem dX8_nextOrder_28 : decode cX8_nextOrder 28 = .ok (.goto (-24), 3) := by decide +kernel
theorem dX8_nextOrder_31 : decode cX8_nextOrder 31 = .ok (.iload_n 2, 1) := by decide +kernel
theorem dX8_nextOrder_32 : decode cX8_nextOrder 32 = .ok (.ifCond .ge 5, 3) := by decide +kernel
theorem dX8_nextOrder_35 : decode cX8_nextOrder 35 = .ok (.iconst 0, 1) := by decide +kernel
theorem dX8_nextOrder_36 : decode cX8_nextOrder 36 = .ok (.ireturn, 1) := by decide +kernel
theorem dX8_nextOrder_37 : decode cX8_nextOrder 37 = .ok (.iload_n 1, 1) := by decide +kernel
theorem dX8_nextOrder_38 : decode cX8_nextOrder 38 = .ok (.iconst 1, 1) := by decide +kernel
theorem dX8_nextOrder_39 : decode cX8_nextOrder 39 = .ok (.isub, 1) := by decide +kernel
theorem dX8_nextOrder_40 : decode cX8_nextOrder 40 = .ok (.istore_n 3, 1) := by decide +kernel
theorem dX8_nextOrder_41 : decode cX8_nextOrder 41 = .ok (.iload_n 3, 1) := by decide +kernel
theorem dX8_nextOrder_42 : decode cX8_nextOrder 42 = .ok (.iload_n 2, 1) := by decide +kernel
theorem dX8_nextOrder_43 : decode cX8_nextOrder 43 = .ok (.if_icmp .le 24, 3) := by decide +kernel
theorem dX8_nextOrder_46 : decode cX8_nextOrder 46 = .ok (.aload_n 0, 1) := by decide +kernel
theorem dX8_nextOrder_47 : decode cX8_nextOrder 47 = .ok (.getfield 22, 3) := by decide +kernel
theorem dX8_nextOrder_50 : decode cX8_nextOrder 50 = .ok (.iload_n 3, 1) := by decide +kernel
theorem dX8_nextOrder_51 : decode cX8_nextOrder 51 = .ok (.iaload, 1) := by decide +kernel
theorem dX8_nextOrder_52 : decode cX8_nextOrder 52 = .ok (.aload_n 0, 1) := by decide +kernel
theorem dX8_nextOrder_53 : decode cX8_nextOrder 53 = .ok (.getfield 22, 3) := by decide +kernel
theorem dX8_nextOrder_56 : decode cX8_nextOrder 56 = .ok (.iload_n 2, 1) := by decide +kernel
theorem dX8_nextOrder_57 : decode cX8_nextOrder 57 = .ok (.iaload, 1) := by decide +kernel
theorem dX8_nextOrder_58 : decode cX8_nextOrder 58 = .ok (.if_icmp .ge 9, 3) := by decide +kernel
theorem dX8_nextOrder_61 : decode cX8_nextOrder 61 = .ok (.iinc 3 (-1), 3) := by decide +kernel
theorem dX8_nextOrder_64 : decode cX8_nextOrder 64 = .ok (.goto (-23), 3) := by decide +kernel
theorem dX8_nextOrder_67 : decode cX8_nextOrder 67 = .ok (.aload_n 0, 1) := by decide +kernel
theorem dX8_nextOrder_68 : decode cX8_nextOrder 68 = .ok (.iload_n 2, 1) := by decide +kernel
theorem dX8_nextOrder_69 : decode cX8_nextOrder 69 = .ok (.iload_n 3, 1) := by decide +kernel
theorem dX8_nextOrder_70 : decode cX8_nextOrder 70 = .ok (.invokevirtual 179, 3) := by decide +kernel
theorem dX8_nextOrder_73 : decode cX8_nextOrder 73 = .ok (.iload_n 1, 1) := by decide +kernel
theorem dX8_nextOrder_74 : decode cX8_nextOrder 74 = .ok (.iconst 1, 1) := by decide +kernel
theorem dX8_nextOrder_75 : decode cX8_nextOrder 75 = .ok (.isub, 1) := by decide +kernel
theorem dX8_nextOrder_76 : decode cX8_nextOrder 76 = .ok (.istore 4, 2) := by decide +kernel
theorem dX8_nextOrder_78 : decode cX8_nextOrder 78 = .ok (.iload_n 2, 1) := by decide +kernel
theorem dX8_nextOrder_79 : decode cX8_nextOrder 79 = .ok (.iconst 1, 1) := by decide +kernel
theorem dX8_nextOrder_80 : decode cX8_nextOrder 80 = .ok (.iadd, 1) := by decide +kernel
theorem dX8_nextOrder_81 : decode cX8_nextOrder 81 = .ok (.istore 5, 2) := by decide +kernel
theorem dX8_nextOrder_83 : decode cX8_nextOrder 83 = .ok (.iload 5, 2) := by decide +kernel
theorem dX8_nextOrder_85 : decode cX8_nextOrder 85 = .ok (.iload 4, 2) := by decide +kernel
theorem dX8_nextOrder_87 : decode cX8_nextOrder 87 = .ok (.if_icmp .ge 20, 3) := by decide +kernel
theorem dX8_nextOrder_90 : decode cX8_nextOrder 90 = .ok (.aload_n 0, 1) := by decide +kernel
theorem dX8_nextOrder_91 : decode cX8_nextOrder 91 = .ok (.iload 5, 2) := by decide +kernel
theorem dX8_nextOrder_93 : decode cX8_nextOrder 93 = .ok (.iload 4, 2) := by decide +kernel
theorem dX8_nextOrder_95 : decode cX8_nextOrder 95 = .ok (.invokevirtual 179, 3) := by decide +kernel
theorem dX8_nextOrder_98 : decode cX8_nextOrder 98 = .ok (.iinc 4 (-1), 3) := by decide +kernel
theorem dX8_nextOrder_101 : decode cX8_nextOrder 101 = .ok (.iinc 5 1, 3) := by decide +kernel
theorem dX8_nextOrder_104 : decode cX8_nextOrder 104 = .ok (.goto (-21), 3) := by decide +kernel
theorem dX8_nextOrder_107 : decode cX8_nextOrder 107 = .ok (.iconst 1, 1) := by decide +kernel
theorem dX8_nextOrder_108 : decode cX8_nextOrder 108 = .ok (.ireturn, 1) := by decide +kernel
theorem dX8_exchange_0 : decode cX8_exchange 0 = .ok (.aload_n 0, 1) := by decide +kernel
theorem dX8_exchange_1 : decode cX8_exchange 1 = .ok (.getfield 22, 3) := by decide +kernel
theorem dX8_exchange_4 : decode cX8_exchange 4 = .ok (.iload_n 1, 1) := by decide +kernel
theorem dX8_exchange_5 : decode cX8_exchange 5 = .ok (.iaload, 1) := by decide +kernel
theorem dX8_exchange_6 : decode cX8_exchange 6 = .ok (.istore_n 3, 1) := by decide +kernel
theorem dX8_exchange_7 : decode cX8_exchange 7 = .ok (.aload_n 0, 1) := by decide +kernel
theorem dX8_exchange_8 : decode cX8_exchange 8 = .ok (.getfield 22, 3) := by decide +kernel
theorem dX8_exchange_11 : decode cX8_exchange 11 = .ok (.iload_n 1, 1) := by decide +kernel
theorem dX8_exchange_12 : decode cX8_exchange 12 = .ok (.aload_n 0, 1) := by decide +kernel
theorem dX8_exchange_13 : decode cX8_exchange 13 = .ok (.getfield 22, 3) := by decide +kernel
theorem dX8_exchange_16 : decode cX8_exchange 16 = .ok (.iload_n 2, 1) := by decide +kernel
theorem dX8_exchange_17 : decode cX8_exchange 17 = .ok (.iaload, 1) := by decide +kernel
theorem dX8_exchange_18 : decode cX8_exchange 18 = .ok (.iastore, 1) := by decide +kernel
theorem dX8_exchange_19 : decode cX8_exchange 19 = .ok (.aload_n 0, 1) := by decide +kernel
theorem dX8_exchange_20 : decode cX8_exchange 20 = .ok (.getfield 22, 3) := by decide +kernel
theorem dX8_exchange_23 : decode cX8_exchange 23 = .ok (.iload_n 2, 1) := by decide +kernel
theorem dX8_exchange_24 : decode cX8_exchange 24 = .ok (.iload_n 3, 1) := by decide +kernel
theorem dX8_exchange_25 : decode cX8_exchange 25 = .ok (.iastore, 1) := by decide +kernel
theorem dX8_exchange_26 : decode cX8_exchange 26 = .ok (.return_, 1) := by decide +kernel
set_option maxRecDepth 20000 in
theorem ggX9_init_X7_init : GoodIn wsX9_init wsX7_init := goodIn_r _ [17, 18, 2, 3, 19, 20, 21, 22, 23, 24, 25, 26, 45, 46, 47, 48, 49, 50, 51, 52] (by decide +kernel) (by decide +kernel)
set_option maxRecDepth 20000 in
theorem gX9_init_X7_init_n11 : GoodIn wsX9_init (wsX7_init) := ggX9_init_X7_init
set_option maxRecDepth 20000 in
theorem ggX9_init_X1_init : GoodIn wsX9_init wsX1_init := goodIn_r _ [28, 29, 2, 3, 19, 30, 31, 32, 33, 34, 35, 36, 37, 38, 39, 61, 62, 63, 64, 65, 66, 67, 68, 69, 70, 71, 72] (by decide +kernel) (by decide +kernel)
set_option maxRecDepth 20000 in
theorem gX9_init_X1_init_n20 : GoodIn wsX9_init (wsX1_init) := ggX9_init_X1_init
set_option maxRecDepth 20000 in
theorem ggX9_init_X3_init : GoodIn wsX9_init wsX3_init := goodIn_r _ [41, 42, 2, 3, 43, 44, 73, 74] (by decide +kernel) (by decide +kernel)
set_option maxRecDepth 20000 in
theorem gX9_init_X3_init_n27 : GoodIn wsX9_init (wsX3_init) := ggX9_init_X3_init
theorem dX9_init_0 : decode cX9_init 0 = .ok (.aload_n 0, 1) := by decide +kernel
theorem dX9_init_1 : decode cX9_init 1 = .ok (.invokespecial 3, 3) := by decide +kernel
theorem dX9_init_4 : decode cX9_init 4 = .ok (.aload_n 0, 1) := by decide +kernel
theorem dX9_init_5 : decode cX9_init 5 = .ok (.new 9, 3) := by decide +kernel
theorem dX9_init_8 : decode cX9_init 8 = .ok (.dup, 1) := by decide +kernel
theorem dX9_init_9 : decode cX9_init 9 = .ok (.invokespecial 11, 3) := by decide +kernel
theorem dX9_init_12 : decode cX9_init 12 = .ok (.putfield 12, 3) := by decide +kernel
theorem dX9_init_15 : decode cX9_init 15 = .ok (.aload_n 0, 1) := by decide +kernel
theorem dX9_init_16 : decode cX9_init 16 = .ok (.new 18, 3) := by decide +kernel
theorem dX9_init_19 : decode cX9_init 19 = .ok (.dup, 1) := by decide +kernel
theorem dX9_init_20 : decode cX9_init 20 = .ok (.invokespecial 20, 3) := by decide +kernel
theorem dX9_init_23 : decode cX9_init 23 = .ok (.putfield 21, 3) := by decide +kernel
theorem dX9_init_26 : decode cX9_init 26 = .ok (.aload_n 0, 1) := by decide +kernel
theorem dX9_init_27 : decode cX9_init 27 = .ok (.new 25, 3) := by decide +kernel
theorem dX9_init_30 : decode cX9_init 30 = .ok (.dup, 1) := by decide +kernel
theorem dX9_init_31 : decode cX9_init 31 = .ok (.invokespecial 27, 3) := by decide +kernel
theorem dX9_init_34 : decode cX9_init 34 = .ok (.putfield 28, 3) := by decide +kernel
theorem dX9_init_37 : decode cX9_init 37 = .ok (.return_, 1) := by decide +kernel
set_option maxRecDepth 20000 in
theorem ggX9_begin_X7_copyFrom : GoodIn wsX9_begin wsX7_copyFrom := goodIn_r _ [14, 15, 16, 17, 18, 19, 20, 21, 22, 23, 24, 25, 26, 61, 62, 63, 64, 65, 66, 67, 68] (by decide +kernel) (by decide +kernel)
set_option maxRecDepth 20000 in
theorem gX9_begin_X7_copyFrom : GoodIn wsX9_begin (wsV RX9 37 RX7 yX7_copyFrom wsX7_copyFrom) := goodIn_app (goodIn_of _ (by decide +kernel)) ggX9_begin_X7_copyFrom
set_option maxRecDepth 20000 in
theorem ggX9_begin_X1_begin : GoodIn wsX9_begin wsX1_begin := goodIn_r _ [31, 32, 33, 34, 35, 36, 37, 38, 39, 40, 69, 70, 71, 72, 73, 74, 75, 76, 77, 78, 79, 80] (by decide +kernel) (by decide +kernel)
set_option maxRecDepth 20000 in
theorem gX9_begin_X1_begin : GoodIn wsX9_begin (wsV RX9 45 RX1 yX1_begin wsX1_begin) := goodIn_app (goodIn_of _ (by decide +kernel)) ggX9_begin_X1_begin
theorem dX9_begin_0 : decode cX9_begin 0 = .ok (.aload_n 0, 1) := by decide +kernel
theorem dX9_begin_1 : decode cX9_begin 1 = .ok (.getfield 12, 3) := by decide +kernel
theorem dX9_begin_4 : decode cX9_begin 4 = .ok (.aload_n 1, 1) := by decide +kernel
theorem dX9_begin_5 : decode cX9_begin 5 = .ok (.getfield 32, 3) := by decide +kernel
theorem dX9_begin_8 : decode cX9_begin 8 = .ok (.invokevirtual 37, 3) := by decide +kernel
theorem dX9_begin_11 : decode cX9_begin 11 = .ok (.aload_n 0, 1) := by decide +kernel
theorem dX9_begin_12 : decode cX9_begin 12 = .ok (.getfield 21, 3) := by decide +kernel
theorem dX9_begin_15 : decode cX9_begin 15 = .ok (.aload_n 1, 1) := by decide +kernel
theorem dX9_begin_16 : decode cX9_begin 16 = .ok (.getfield 41, 3) := by decide +kernel
theorem dX9_begin_19 : decode cX9_begin 19 = .ok (.invokevirtual 45, 3) := by decide +kernel
theorem dX9_begin_22 : decode cX9_begin 22 = .ok (.aload_n 0, 1) := by decide +kernel
theorem dX9_begin_23 : decode cX9_begin 23 = .ok (.getfield 28, 3) := by decide +kernel
theorem dX9_begin_26 : decode cX9_begin 26 = .ok (.iconst 0, 1) := by decide +kernel
theorem dX9_begin_27 : decode cX9_begin 27 = .ok (.putfield 49, 3) := by decide +kernel
theorem dX9_begin_30 : decode cX9_begin 30 = .ok (.aload_n 0, 1) := by decide +kernel
theorem dX9_begin_31 : decode cX9_begin 31 = .ok (.iconst 0, 1) := by decide +kernel
theorem dX9_begin_32 : decode cX9_begin 32 = .ok (.putfield 52, 3) := by decide +kernel
theorem dX9_begin_35 : decode cX9_begin 35 = .ok (.aload_n 0, 1) := by decide +kernel
theorem dX9_begin_36 : decode cX9_begin 36 = .ok (.iconst 0, 1) := by decide +kernel
theorem dX9_begin_37 : decode cX9_begin 37 = .ok (.putfield 56, 3) := by decide +kernel
theorem dX9_begin_40 : decode cX9_begin 40 = .ok (.aload_n 0, 1) := by decide +kernel
theorem dX9_begin_41 : decode cX9_begin 41 = .ok (.iconst 0, 1) := by decide +kernel
theorem dX9_begin_42 : decode cX9_begin 42 = .ok (.putfield 59, 3) := by decide +kernel
theorem dX9_begin_45 : decode cX9_begin 45 = .ok (.return_, 1) := by decide +kernel
set_option maxRecDepth 20000 in
theorem ggX9_copyFrom_X7_copyFrom : GoodIn wsX9_copyFrom wsX7_copyFrom := goodIn_r _ [11, 12, 13, 14, 15, 16, 17, 18, 19, 20, 21, 22, 23, 58, 59, 60, 61, 62, 63, 64, 65] (by decide +kernel) (by decide +kernel)
set_option maxRecDepth 20000 in
theorem gX9_copyFrom_X7_copyFrom : GoodIn wsX9_copyFrom (wsV RX9 37 RX7 yX7_copyFrom wsX7_copyFrom) := goodIn_app (goodIn_of _ (by decide +kernel)) ggX9_copyFrom_X7_copyFrom
set_option maxRecDepth 20000 in
theorem ggX9_copyFrom_X1_copyFrom : GoodIn wsX9_copyFrom wsX1_copyFrom := goodIn_r _ [28, 29, 30, 31, 32, 15, 16, 17, 33, 34, 35, 36, 37, 38, 39, 40, 41, 66, 67, 68, 69, 70, 71, 72, 73, 74, 75, 76, 77] (by decide +kernel) (by decide +kernel)
set_option maxRecDepth 20000 in
theorem gX9_copyFrom_X1_copyFrom : GoodIn wsX9_copyFrom (wsV RX9 62 RX1 yX1_copyFrom wsX1_copyFrom) := goodIn_app (goodIn_of _ (by decide +kernel)) ggX9_copyFrom_X1_copyFrom
set_option maxRecDepth 20000 in
theorem ggX9_copyFrom_X3_copyFrom : GoodIn wsX9_copyFrom wsX3_copyFrom := goodIn_r _ [46, 47, 48, 49, 15, 16, 17, 78, 79] (by decide +kernel) (by decide +kernel)
set_option maxRecDepth 20000 in
theorem gX9_copyFrom_X3_copyFrom : GoodIn wsX9_copyFrom (wsV RX9 65 RX3 yX3_copyFrom wsX3_copyFrom) := goodIn_app (goodIn_of _ (by decide +kernel)) ggX9_copyFrom_X3_copyFrom
theorem dX9_copyFrom_0 : decode cX9_copyFrom 0 = .ok (.aload_n 0, 1) := by decide +kernel
theorem dX9_copyFrom_1 : decode cX9_copyFrom 1 = .ok (.getfield 12, 3) := by decide +kernel
theorem dX9_copyFrom_4 : decode cX9_copyFrom 4 = .ok (.aload_n 1, 1) := by decide +kernel
theorem dX9_copyFrom_5 : decode cX9_copyFrom 5 = .ok (.getfield 12, 3) := by decide +kernel
theorem dX9_copyFrom_8 : decode cX9_copyFrom 8 = .ok (.invokevirtual 37, 3) := by decide +kernel
theorem dX9_copyFrom_11 : decode cX9_copyFrom 11 = .ok (.aload_n 0, 1) := by decide +kernel
theorem dX9_copyFrom_12 : decode cX9_copyFrom 12 = .ok (.getfield 21, 3) := by decide +kernel
theorem dX9_copyFrom_15 : decode cX9_copyFrom 15 = .ok (.aload_n 1, 1) := by decide +kernel
theorem dX9_copyFrom_16 : decode cX9_copyFrom 16 = .ok (.getfield 21, 3) := by decide +kernel
theorem dX9_copyFrom_19 : decode cX9_copyFrom 19 = .ok (.invokevirtual 62, 3) := by decide +kernel
theorem dX9_copyFrom_22 : decode cX9_copyFrom 22 = .ok (.aload_n 0, 1) := by decide +kernel
theorem dX9_copyFrom_23 : decode cX9_copyFrom 23 = .ok (.getfield 28, 3) := by decide +kernel
theorem dX9_copyFrom_26 : decode cX9_copyFrom 26 = .ok (.aload_n 1, 1) := by decide +kernel
theorem dX9_copyFrom_27 : decode cX9_copyFrom 27 = .ok (.getfield 28, 3) := by decide +kernel
theorem dX9_copyFrom_30 : decode cX9_copyFrom 30 = .ok (.invokevirtual 65, 3) := by decide +kernel
theorem dX9_copyFrom_33 : decode cX9_copyFrom 33 = .ok (.aload_n 0, 1) := by decide +kernel
theorem dX9_copyFrom_34 : decode cX9_copyFrom 34 = .ok (.aload_n 1, 1) := by decide +kernel
theorem dX9_copyFrom_35 : decode cX9_copyFrom 35 = .ok (.getfield 52, 3) := by decide +kernel
theorem dX9_copyFrom_38 : decode cX9_copyFrom 38 = .ok (.putfield 52, 3) := by decide +kernel
theorem dX9_copyFrom_41 : decode cX9_copyFrom 41 = .ok (.aload_n 0, 1) := by decide +kernel
theorem dX9_copyFrom_42 : decode cX9_copyFrom 42 = .ok (.aload_n 1, 1) := by decide +kernel
theorem dX9_copyFrom_43 : decode cX9_copyFrom 43 = .ok (.getfield 56, 3) := by decide +kernel
theorem dX9_copyFrom_46 : decode cX9_copyFrom 46 = .ok (.putfield 56, 3) := by decide +kernel
theorem dX9_copyFrom_49 : decode cX9_copyFrom 49 = .ok (.aload_n 0, 1) := by decide +kernel
theorem dX9_copyFrom_50 : decode cX9_copyFrom 50 = .ok (.aload_n 1, 1) := by decide +kernel
theorem dX9_copyFrom_51 : decode cX9_copyFrom 51 = .ok (.getfield 59, 3) := by decide +kernel
theorem dX9_copyFrom_54 : decode cX9_copyFrom 54 = .ok (.putfield 59, 3) := by decide +kernel
theorem dX9_copyFrom_57 : decode cX9_copyFrom 57 = .ok (.return_, 1) := by decide +kernel
set_option maxRecDepth 20000 in
theorem ggX9_act_X1_mayDo : GoodIn wsX9_act wsX1_mayDo := goodIn_r _ [8, 9, 10, 11, 12, 7, 13, 14, 180, 181, 182, 183, 184, 185, 186, 187, 188, 189, 190, 191] (by decide +kernel) (by decide +kernel)
set_option maxRecDepth 20000 in
theorem gX9_act_X1_mayDo : GoodIn wsX9_act (wsV RX9 68 RX1 yX1_mayDo wsX1_mayDo) := goodIn_app (goodIn_of _ (by decide +kernel)) ggX9_act_X1_mayDo
set_option maxRecDepth 20000 in
theorem ggX9_act_X9_dropCut : GoodIn wsX9_act wsX9_dropCut := goodIn_r _ [19, 20, 21, 22, 23, 24, 25, 26, 27, 28, 29, 30, 31, 32, 33, 34, 35, 172, 173, 174, 175, 176, 177, 178, 179, 192, 193, 194, 195, 196, 197, 198, 199] (by decide +kernel) (by decide +kernel)
set_option maxRecDepth 20000 in
theorem gX9_act_X9_dropCut : GoodIn wsX9_act (wsV RX9 76 RX9 yX9_dropCut wsX9_dropCut) := goodIn_app (goodIn_of _ (by decide +kernel)) ggX9_act_X9_dropCut
set_option maxRecDepth 20000 in
theorem ggX9_act_X9_shut : GoodIn wsX9_act wsX9_shut := goodIn_r _ [39, 1, 2, 20, 40, 41, 42, 43, 7, 44, 45, 46, 47, 48, 49, 26, 50, 29, 28, 30, 35, 34, 51, 52, 53, 54, 55, 56, 57, 172, 173, 174, 175, 176, 177, 178, 179, 180, 181, 182, 183, 184, 185, 186, 187, 188, 189, 190, 191, 192, 193, 194, 195, 196, 197, 198, 199, 200, 201] (by decide +kernel) (by decide +kernel)
set_option maxRecDepth 20000 in
theorem gX9_act_X9_shut : GoodIn wsX9_act (wsV RX9 79 RX9 yX9_shut wsX9_shut) := goodIn_app (goodIn_of _ (by decide +kernel)) ggX9_act_X9_shut
set_option maxRecDepth 20000 in
theorem ggX9_act_X9_undo : GoodIn wsX9_act wsX9_undo := goodIn_r _ [61, 40, 62, 20, 63, 22, 64, 65, 66, 54, 67, 57, 68, 69, 70, 26, 71, 28, 31, 72, 73, 74, 75, 76, 77, 78, 79, 80, 81, 82, 83, 84, 85, 86, 87, 88, 23, 24, 25, 27, 29, 30, 32, 33, 34, 35, 172, 173, 174, 175, 176, 177, 178, 179, 200, 201, 192, 193, 194, 195, 196, 197, 198, 199] (by decide +kernel) (by decide +kernel)
set_option maxRecDepth 20000 in
theorem gX9_act_X9_undo : GoodIn wsX9_act (wsV RX9 82 RX9 yX9_undo wsX9_undo) := goodIn_app (goodIn_of _ (by decide +kernel)) ggX9_act_X9_undo
set_option maxRecDepth 20000 in
theorem ggX9_act_X1_keepTask : GoodIn wsX9_act wsX1_keepTask := goodIn_r _ [92, 93, 94, 95, 96, 180, 181, 182, 183, 184, 185, 186, 187, 188, 189, 190, 191] (by decide +kernel) (by decide +kernel)
set_option maxRecDepth 20000 in
theorem gX9_act_X1_keepTask : GoodIn wsX9_act (wsV RX9 85 RX1 yX1_keepTask wsX1_keepTask) := goodIn_app (goodIn_of _ (by decide +kernel)) ggX9_act_X1_keepTask
set_option maxRecDepth 20000 in
theorem ggX9_act_X9_attempt : GoodIn wsX9_act wsX9_attempt := goodIn_r _ [100, 1, 101, 102, 103, 104, 18, 105, 20, 106, 21, 107, 108, 109, 110, 111, 112, 22, 63, 68, 69, 70, 26, 71, 28, 31, 113, 114, 115, 116, 117, 118, 119, 120, 121, 122, 40, 123, 124, 125, 76, 77, 78, 79, 126, 127, 128, 54, 129, 56, 57, 130, 131, 132, 133, 134, 135, 136, 137, 29, 32, 33, 34, 30, 35, 138, 139, 140, 141, 172, 173, 174, 175, 176, 177, 178, 179, 180, 181, 182, 183, 184, 185, 186, 187, 188, 189, 190, 191, 192, 193, 194, 195, 196, 197, 198, 199, 200, 201] (by decide +kernel) (by decide +kernel)
set_option maxRecDepth 20000 in
theorem gX9_act_X9_attempt : GoodIn wsX9_act (wsV RX9 89 RX9 yX9_attempt wsX9_attempt) := goodIn_app (goodIn_of _ (by decide +kernel)) ggX9_act_X9_attempt
set_option maxRecDepth 20000 in
theorem ggX9_act_X9_waitOrDie : GoodIn wsX9_act wsX9_waitOrDie := goodIn_r _ [145, 146, 20, 117, 118, 1, 147, 148, 149, 150, 26, 151, 28, 31, 29, 30, 35, 152, 153, 154, 18, 155, 156, 2, 157, 158, 58, 59, 60, 61, 40, 62, 63, 22, 64, 65, 66, 54, 67, 57, 68, 69, 70, 71, 72, 73, 74, 75, 76, 77, 78, 79, 80, 81, 82, 83, 84, 85, 86, 87, 88, 23, 24, 25, 27, 32, 33, 34, 36, 37, 38, 39, 41, 42, 43, 7, 44, 45, 46, 47, 48, 49, 50, 51, 52, 53, 55, 56, 159, 160, 161, 162, 9, 163, 164, 172, 173, 174, 175, 176, 177, 178, 179, 180, 181, 182, 183, 184, 185, 186, 187, 188, 189, 190, 191, 192, 193, 194, 195, 196, 197, 198, 199, 200, 201] (by decide +kernel) (by decide +kernel)
set_option maxRecDepth 20000 in
theorem gX9_act_X9_waitOrDie : GoodIn wsX9_act (wsV RX9 93 RX9 yX9_waitOrDie wsX9_waitOrDie) := goodIn_app (goodIn_of _ (by decide +kernel)) ggX9_act_X9_waitOrDie
set_option maxRecDepth 20000 in
theorem ggX9_act_X9_wake : GoodIn wsX9_act wsX9_wake := goodIn_r _ [168, 169, 1, 170, 171, 117, 157, 118, 158, 2, 3, 97, 98, 99, 18, 100, 101, 102, 103, 104, 105, 20, 106, 21, 107, 108, 109, 110, 111, 112, 22, 63, 68, 69, 70, 26, 71, 28, 31, 113, 114, 115, 116, 119, 120, 121, 122, 40, 123, 124, 125, 76, 77, 78, 79, 126, 127, 128, 54, 129, 56, 57, 130, 131, 132, 133, 134, 135, 136, 137, 29, 32, 33, 34, 30, 35, 138, 139, 140, 141, 41, 42, 43, 7, 44, 45, 46, 142, 143, 144, 145, 146, 147, 148, 149, 150, 151, 152, 153, 154, 155, 156, 58, 59, 60, 61, 62, 64, 65, 66, 67, 72, 73, 74, 75, 80, 81, 82, 83, 84, 85, 86, 87, 88, 23, 24, 25, 27, 36, 37, 38, 39, 47, 48, 49, 50, 51, 52, 53, 55, 159, 160, 161, 162, 9, 163, 164, 172, 173, 174, 175, 176, 177, 178, 179, 180, 181, 182, 183, 184, 185, 186, 187, 188, 189, 190, 191, 192, 193, 194, 195, 196, 197, 198, 199, 200, 201] (by decide +kernel) (by decide +kernel)
set_option maxRecDepth 20000 in
theorem gX9_act_X9_wake : GoodIn wsX9_act (wsV RX9 99 RX9 yX9_wake wsX9_wake) := goodIn_app (goodIn_of _ (by decide +kernel)) ggX9_act_X9_wake
theorem dX9_act_0 : decode cX9_act 0 = .ok (.aload_n 0, 1) := by decide +kernel
theorem dX9_act_1 : decode cX9_act 1 = .ok (.getfield 21, 3) := by decide +kernel
theorem dX9_act_4 : decode cX9_act 4 = .ok (.iload_n 1, 1) := by decide +kernel
theorem dX9_act_5 : decode cX9_act 5 = .ok (.iload_n 2, 1) := by decide +kernel
theorem dX9_act_6 : decode cX9_act 6 = .ok (.invokevirtual 68, 3) := by decide +kernel
theorem dX9_act_9 : decode cX9_act 9 = .ok (.ifCond .ne 5, 3) := by decide +kernel
theorem dX9_act_12 : decode cX9_act 12 = .ok (.iconst (-1), 1) := by decide +kernel
theorem dX9_act_13 : decode cX9_act 13 = .ok (.ireturn, 1) := by decide +kernel
theorem dX9_act_14 : decode cX9_act 14 = .ok (.iconst 0, 1) := by decide +kernel
theorem dX9_act_15 : decode cX9_act 15 = .ok (.istore 6, 2) := by decide +kernel
theorem dX9_act_17 : decode cX9_act 17 = .ok (.iload_n 2, 1) := by decide +kernel
theorem dX9_act_18 : decode cX9_act 18 = .ok (.ifCond .ne 16, 3) := by decide +kernel
theorem dX9_act_21 : decode cX9_act 21 = .ok (.aload_n 0, 1) := by decide +kernel
theorem dX9_act_22 : decode cX9_act 22 = .ok (.getfield 21, 3) := by decide +kernel
theorem dX9_act_25 : decode cX9_act 25 = .ok (.getfield 72, 3) := by decide +kernel
theorem dX9_act_28 : decode cX9_act 28 = .ok (.iload_n 1, 1) := by decide +kernel
theorem dX9_act_29 : decode cX9_act 29 = .ok (.iconst 1, 1) := by decide +kernel
theorem dX9_act_30 : decode cX9_act 30 = .ok (.iastore, 1) := by decide +kernel
theorem dX9_act_31 : decode cX9_act 31 = .ok (.goto 81, 3) := by decide +kernel
theorem dX9_act_34 : decode cX9_act 34 = .ok (.iload_n 2, 1) := by decide +kernel
theorem dX9_act_35 : decode cX9_act 35 = .ok (.bipush 7, 2) := by decide +kernel
theorem dX9_act_37 : decode cX9_act 37 = .ok (.if_icmp .ne 16, 3) := by decide +kernel
theorem dX9_act_40 : decode cX9_act 40 = .ok (.aload_n 0, 1) := by decide +kernel
theorem dX9_act_41 : decode cX9_act 41 = .ok (.iload_n 1, 1) := by decide +kernel
theorem dX9_act_42 : decode cX9_act 42 = .ok (.invokevirtual 76, 3) := by decide +kernel
theorem dX9_act_45 : decode cX9_act 45 = .ok (.aload_n 0, 1) := by decide +kernel
theorem dX9_act_46 : decode cX9_act 46 = .ok (.iload_n 1, 1) := by decide +kernel
theorem dX9_act_47 : decode cX9_act 47 = .ok (.invokevirtual 79, 3) := by decide +kernel
theorem dX9_act_50 : decode cX9_act 50 = .ok (.goto 62, 3) := by decide +kernel
theorem dX9_act_53 : decode cX9_act 53 = .ok (.iload_n 2, 1) := by decide +kernel
theorem dX9_act_54 : decode cX9_act 54 = .ok (.bipush 8, 2) := by decide +kernel
theorem dX9_act_56 : decode cX9_act 56 = .ok (.if_icmp .ne 16, 3) := by decide +kernel
theorem dX9_act_59 : decode cX9_act 59 = .ok (.aload_n 0, 1) := by decide +kernel
theorem dX9_act_60 : decode cX9_act 60 = .ok (.iload_n 1, 1) := by decide +kernel
theorem dX9_act_61 : decode cX9_act 61 = .ok (.invokevirtual 82, 3) := by decide +kernel
theorem dX9_act_64 : decode cX9_act 64 = .ok (.aload_n 0, 1) := by decide +kernel
theorem dX9_act_65 : decode cX9_act 65 = .ok (.iload_n 1, 1) := by decide +kernel
theorem dX9_act_66 : decode cX9_act 66 = .ok (.invokevirtual 79, 3) := by decide +kernel
theorem dX9_act_69 : decode cX9_act 69 = .ok (.goto 43, 3) := by decide +kernel
theorem dX9_act_72 : decode cX9_act 72 = .ok (.aload_n 0, 1) := by decide +kernel
theorem dX9_act_73 : decode cX9_act 73 = .ok (.getfield 21, 3) := by decide +kernel
theorem dX9_act_76 : decode cX9_act 76 = .ok (.iload_n 1, 1) := by decide +kernel
theorem dX9_act_77 : decode cX9_act 77 = .ok (.iload_n 2, 1) := by decide +kernel
theorem dX9_act_78 : decode cX9_act 78 = .ok (.iload_n 3, 1) := by decide +kernel
theorem dX9_act_79 : decode cX9_act 79 = .ok (.iload 4, 2) := by decide +kernel
theorem dX9_act_81 : decode cX9_act 81 = .ok (.iload 5, 2) := by decide +kernel
theorem dX9_act_83 : decode cX9_act 83 = .ok (.invokevirtual 85, 3) := by decide +kernel
theorem dX9_act_86 : decode cX9_act 86 = .ok (.aload_n 0, 1) := by decide +kernel
theorem dX9_act_87 : decode cX9_act 87 = .ok (.iload_n 1, 1) := by decide +kernel
theorem dX9_act_88 : decode cX9_act 88 = .ok (.invokevirtual 89, 3) := by decide +kernel
theorem dX9_act_91 : decode cX9_act 91 = .ok (.istore 6, 2) := by decide +kernel
theorem dX9_act_93 : decode cX9_act 93 = .ok (.iload 6, 2) := by decide +kernel
