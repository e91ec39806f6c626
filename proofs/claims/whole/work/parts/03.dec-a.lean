theorem dX0_init_0 : decode cX0_init 0 = .ok (.aload_n 0, 1) := by decide +kernel
theorem dX0_init_1 : decode cX0_init 1 = .ok (.invokespecial 3, 3) := by decide +kernel
theorem dX0_init_4 : decode cX0_init 4 = .ok (.aload_n 0, 1) := by decide +kernel
theorem dX0_init_5 : decode cX0_init 5 = .ok (.iconst 4, 1) := by decide +kernel
theorem dX0_init_6 : decode cX0_init 6 = .ok (.newarray .int, 2) := by decide +kernel
theorem dX0_init_8 : decode cX0_init 8 = .ok (.dup, 1) := by decide +kernel
theorem dX0_init_9 : decode cX0_init 9 = .ok (.iconst 0, 1) := by decide +kernel
theorem dX0_init_10 : decode cX0_init 10 = .ok (.bipush 60, 2) := by decide +kernel
theorem dX0_init_12 : decode cX0_init 12 = .ok (.iastore, 1) := by decide +kernel
theorem dX0_init_13 : decode cX0_init 13 = .ok (.dup, 1) := by decide +kernel
theorem dX0_init_14 : decode cX0_init 14 = .ok (.iconst 1, 1) := by decide +kernel
theorem dX0_init_15 : decode cX0_init 15 = .ok (.bipush 20, 2) := by decide +kernel
theorem dX0_init_17 : decode cX0_init 17 = .ok (.iastore, 1) := by decide +kernel
theorem dX0_init_18 : decode cX0_init 18 = .ok (.dup, 1) := by decide +kernel
theorem dX0_init_19 : decode cX0_init 19 = .ok (.iconst 2, 1) := by decide +kernel
theorem dX0_init_20 : decode cX0_init 20 = .ok (.bipush 30, 2) := by decide +kernel
theorem dX0_init_22 : decode cX0_init 22 = .ok (.iastore, 1) := by decide +kernel
theorem dX0_init_23 : decode cX0_init 23 = .ok (.dup, 1) := by decide +kernel
theorem dX0_init_24 : decode cX0_init 24 = .ok (.iconst 3, 1) := by decide +kernel
theorem dX0_init_25 : decode cX0_init 25 = .ok (.bipush 40, 2) := by decide +kernel
theorem dX0_init_27 : decode cX0_init 27 = .ok (.iastore, 1) := by decide +kernel
theorem dX0_init_28 : decode cX0_init 28 = .ok (.putfield 9, 3) := by decide +kernel
theorem dX0_init_31 : decode cX0_init 31 = .ok (.aload_n 0, 1) := by decide +kernel
theorem dX0_init_32 : decode cX0_init 32 = .ok (.iconst 4, 1) := by decide +kernel
theorem dX0_init_33 : decode cX0_init 33 = .ok (.newarray .int, 2) := by decide +kernel
theorem dX0_init_35 : decode cX0_init 35 = .ok (.dup, 1) := by decide +kernel
theorem dX0_init_36 : decode cX0_init 36 = .ok (.iconst 0, 1) := by decide +kernel
theorem dX0_init_37 : decode cX0_init 37 = .ok (.bipush 30, 2) := by decide +kernel
theorem dX0_init_39 : decode cX0_init 39 = .ok (.iastore, 1) := by decide +kernel
theorem dX0_init_40 : decode cX0_init 40 = .ok (.dup, 1) := by decide +kernel
theorem dX0_init_41 : decode cX0_init 41 = .ok (.iconst 1, 1) := by decide +kernel
theorem dX0_init_42 : decode cX0_init 42 = .ok (.iconst 5, 1) := by decide +kernel
theorem dX0_init_43 : decode cX0_init 43 = .ok (.iastore, 1) := by decide +kernel
theorem dX0_init_44 : decode cX0_init 44 = .ok (.dup, 1) := by decide +kernel
theorem dX0_init_45 : decode cX0_init 45 = .ok (.iconst 2, 1) := by decide +kernel
theorem dX0_init_46 : decode cX0_init 46 = .ok (.bipush 20, 2) := by decide +kernel
theorem dX0_init_48 : decode cX0_init 48 = .ok (.iastore, 1) := by decide +kernel
theorem dX0_init_49 : decode cX0_init 49 = .ok (.dup, 1) := by decide +kernel
theorem dX0_init_50 : decode cX0_init 50 = .ok (.iconst 3, 1) := by decide +kernel
theorem dX0_init_51 : decode cX0_init 51 = .ok (.bipush 15, 2) := by decide +kernel
theorem dX0_init_53 : decode cX0_init 53 = .ok (.iastore, 1) := by decide +kernel
theorem dX0_init_54 : decode cX0_init 54 = .ok (.putfield 15, 3) := by decide +kernel
theorem dX0_init_57 : decode cX0_init 57 = .ok (.aload_n 0, 1) := by decide +kernel
theorem dX0_init_58 : decode cX0_init 58 = .ok (.iconst 4, 1) := by decide +kernel
theorem dX0_init_59 : decode cX0_init 59 = .ok (.newarray .int, 2) := by decide +kernel
theorem dX0_init_61 : decode cX0_init 61 = .ok (.dup, 1) := by decide +kernel
theorem dX0_init_62 : decode cX0_init 62 = .ok (.iconst 0, 1) := by decide +kernel
theorem dX0_init_63 : decode cX0_init 63 = .ok (.iconst 2, 1) := by decide +kernel
theorem dX0_init_64 : decode cX0_init 64 = .ok (.iastore, 1) := by decide +kernel
theorem dX0_init_65 : decode cX0_init 65 = .ok (.dup, 1) := by decide +kernel
theorem dX0_init_66 : decode cX0_init 66 = .ok (.iconst 1, 1) := by decide +kernel
theorem dX0_init_67 : decode cX0_init 67 = .ok (.iconst 3, 1) := by decide +kernel
theorem dX0_init_68 : decode cX0_init 68 = .ok (.iastore, 1) := by decide +kernel
theorem dX0_init_69 : decode cX0_init 69 = .ok (.dup, 1) := by decide +kernel
theorem dX0_init_70 : decode cX0_init 70 = .ok (.iconst 2, 1) := by decide +kernel
theorem dX0_init_71 : decode cX0_init 71 = .ok (.iconst 2, 1) := by decide +kernel
theorem dX0_init_72 : decode cX0_init 72 = .ok (.iastore, 1) := by decide +kernel
theorem dX0_init_73 : decode cX0_init 73 = .ok (.dup, 1) := by decide +kernel
theorem dX0_init_74 : decode cX0_init 74 = .ok (.iconst 3, 1) := by decide +kernel
theorem dX0_init_75 : decode cX0_init 75 = .ok (.iconst 3, 1) := by decide +kernel
theorem dX0_init_76 : decode cX0_init 76 = .ok (.iastore, 1) := by decide +kernel
theorem dX0_init_77 : decode cX0_init 77 = .ok (.putfield 18, 3) := by decide +kernel
theorem dX0_init_80 : decode cX0_init 80 = .ok (.aload_n 0, 1) := by decide +kernel
theorem dX0_init_81 : decode cX0_init 81 = .ok (.sipush 1024, 3) := by decide +kernel
theorem dX0_init_84 : decode cX0_init 84 = .ok (.newarray .long, 2) := by decide +kernel
theorem dX0_init_86 : decode cX0_init 86 = .ok (.putfield 21, 3) := by decide +kernel
theorem dX0_init_89 : decode cX0_init 89 = .ok (.aload_n 0, 1) := by decide +kernel
theorem dX0_init_90 : decode cX0_init 90 = .ok (.iconst 0, 1) := by decide +kernel
theorem dX0_init_91 : decode cX0_init 91 = .ok (.putfield 25, 3) := by decide +kernel
theorem dX0_init_94 : decode cX0_init 94 = .ok (.return_, 1) := by decide +kernel
theorem dX0_setKind_0 : decode cX0_setKind 0 = .ok (.aload_n 0, 1) := by decide +kernel
theorem dX0_setKind_1 : decode cX0_setKind 1 = .ok (.getfield 9, 3) := by decide +kernel
theorem dX0_setKind_4 : decode cX0_setKind 4 = .ok (.iload_n 1, 1) := by decide +kernel
theorem dX0_setKind_5 : decode cX0_setKind 5 = .ok (.iload_n 2, 1) := by decide +kernel
theorem dX0_setKind_6 : decode cX0_setKind 6 = .ok (.iastore, 1) := by decide +kernel
theorem dX0_setKind_7 : decode cX0_setKind 7 = .ok (.aload_n 0, 1) := by decide +kernel
theorem dX0_setKind_8 : decode cX0_setKind 8 = .ok (.getfield 15, 3) := by decide +kernel
theorem dX0_setKind_11 : decode cX0_setKind 11 = .ok (.iload_n 1, 1) := by decide +kernel
theorem dX0_setKind_12 : decode cX0_setKind 12 = .ok (.iload_n 3, 1) := by decide +kernel
theorem dX0_setKind_13 : decode cX0_setKind 13 = .ok (.iastore, 1) := by decide +kernel
theorem dX0_setKind_14 : decode cX0_setKind 14 = .ok (.aload_n 0, 1) := by decide +kernel
theorem dX0_setKind_15 : decode cX0_setKind 15 = .ok (.getfield 18, 3) := by decide +kernel
theorem dX0_setKind_18 : decode cX0_setKind 18 = .ok (.iload_n 1, 1) := by decide +kernel
theorem dX0_setKind_19 : decode cX0_setKind 19 = .ok (.iload 4, 2) := by decide +kernel
theorem dX0_setKind_21 : decode cX0_setKind 21 = .ok (.iastore, 1) := by decide +kernel
theorem dX0_setKind_22 : decode cX0_setKind 22 = .ok (.iconst 0, 1) := by decide +kernel
theorem dX0_setKind_23 : decode cX0_setKind 23 = .ok (.istore 5, 2) := by decide +kernel
theorem dX0_setKind_25 : decode cX0_setKind 25 = .ok (.iload 5, 2) := by decide +kernel
theorem dX0_setKind_27 : decode cX0_setKind 27 = .ok (.sipush 256, 3) := by decide +kernel
theorem dX0_setKind_30 : decode cX0_setKind 30 = .ok (.if_icmp .ge 25, 3) := by decide +kernel
theorem dX0_setKind_33 : decode cX0_setKind 33 = .ok (.aload_n 0, 1) := by decide +kernel
theorem dX0_setKind_34 : decode cX0_setKind 34 = .ok (.getfield 21, 3) := by decide +kernel
theorem dX0_setKind_37 : decode cX0_setKind 37 = .ok (.iload_n 1, 1) := by decide +kernel
theorem dX0_setKind_38 : decode cX0_setKind 38 = .ok (.bipush 16, 2) := by decide +kernel
theorem dX0_setKind_40 : decode cX0_setKind 40 = .ok (.imul, 1) := by decide +kernel
theorem dX0_setKind_41 : decode cX0_setKind 41 = .ok (.bipush 16, 2) := by decide +kernel
theorem dX0_setKind_43 : decode cX0_setKind 43 = .ok (.imul, 1) := by decide +kernel
theorem dX0_setKind_44 : decode cX0_setKind 44 = .ok (.iload 5, 2) := by decide +kernel
theorem dX0_setKind_46 : decode cX0_setKind 46 = .ok (.iadd, 1) := by decide +kernel
theorem dX0_setKind_47 : decode cX0_setKind 47 = .ok (.lconst 0, 1) := by decide +kernel
theorem dX0_setKind_48 : decode cX0_setKind 48 = .ok (.lastore, 1) := by decide +kernel
theorem dX0_setKind_49 : decode cX0_setKind 49 = .ok (.iinc 5 1, 3) := by decide +kernel
theorem dX0_setKind_52 : decode cX0_setKind 52 = .ok (.goto (-27), 3) := by decide +kernel
theorem dX0_setKind_55 : decode cX0_setKind 55 = .ok (.return_, 1) := by decide +kernel
set_option maxRecDepth 20000 in
theorem ggX0_setBroken_J7_fill_d0a16 : GoodIn wsX0_setBroken wsJ7_fill_d0a16 := goodIn_r _ [6] (by decide +kernel) (by decide +kernel)
set_option maxRecDepth 20000 in
theorem gX0_setBroken_J7_fill_d0a16 : GoodIn wsX0_setBroken (va_wsS RX0 29 yJ7_fill_d0a16 wsJ7_fill_d0a16) := goodIn_app (goodIn_of _ (by decide +kernel)) ggX0_setBroken_J7_fill_d0a16
theorem dX0_setBroken_0 : decode cX0_setBroken 0 = .ok (.aload_n 0, 1) := by decide +kernel
theorem dX0_setBroken_1 : decode cX0_setBroken 1 = .ok (.getfield 25, 3) := by decide +kernel
theorem dX0_setBroken_4 : decode cX0_setBroken 4 = .ok (.istore_n 2, 1) := by decide +kernel
theorem dX0_setBroken_5 : decode cX0_setBroken 5 = .ok (.aload_n 0, 1) := by decide +kernel
theorem dX0_setBroken_6 : decode cX0_setBroken 6 = .ok (.iload_n 1, 1) := by decide +kernel
theorem dX0_setBroken_7 : decode cX0_setBroken 7 = .ok (.putfield 25, 3) := by decide +kernel
theorem dX0_setBroken_10 : decode cX0_setBroken 10 = .ok (.aload_n 0, 1) := by decide +kernel
theorem dX0_setBroken_11 : decode cX0_setBroken 11 = .ok (.getfield 21, 3) := by decide +kernel
theorem dX0_setBroken_14 : decode cX0_setBroken 14 = .ok (.lconst 0, 1) := by decide +kernel
theorem dX0_setBroken_15 : decode cX0_setBroken 15 = .ok (.invokestatic 29, 3) := by decide +kernel
theorem dX0_setBroken_18 : decode cX0_setBroken 18 = .ok (.iload_n 2, 1) := by decide +kernel
theorem dX0_setBroken_19 : decode cX0_setBroken 19 = .ok (.ireturn, 1) := by decide +kernel
theorem dX0_landingOf_0 : decode cX0_landingOf 0 = .ok (.lload_n 0, 1) := by decide +kernel
theorem dX0_landingOf_1 : decode cX0_landingOf 1 = .ok (.ldc2_w 35, 3) := by decide +kernel
theorem dX0_landingOf_4 : decode cX0_landingOf 4 = .ok (.land, 1) := by decide +kernel
theorem dX0_landingOf_5 : decode cX0_landingOf 5 = .ok (.l2i, 1) := by decide +kernel
theorem dX0_landingOf_6 : decode cX0_landingOf 6 = .ok (.ireturn, 1) := by decide +kernel
theorem dX0_firstMetOf_0 : decode cX0_firstMetOf 0 = .ok (.lload_n 0, 1) := by decide +kernel
theorem dX0_firstMetOf_1 : decode cX0_firstMetOf 1 = .ok (.bipush 6, 2) := by decide +kernel
theorem dX0_firstMetOf_3 : decode cX0_firstMetOf 3 = .ok (.lshr, 1) := by decide +kernel
theorem dX0_firstMetOf_4 : decode cX0_firstMetOf 4 = .ok (.ldc2_w 35, 3) := by decide +kernel
theorem dX0_firstMetOf_7 : decode cX0_firstMetOf 7 = .ok (.land, 1) := by decide +kernel
theorem dX0_firstMetOf_8 : decode cX0_firstMetOf 8 = .ok (.l2i, 1) := by decide +kernel
theorem dX0_firstMetOf_9 : decode cX0_firstMetOf 9 = .ok (.ireturn, 1) := by decide +kernel
set_option maxRecDepth 20000 in
theorem ggX0_isNet_X0_firstMetOf : GoodIn wsX0_isNet wsX0_firstMetOf := goodIn_r _ [4, 5] (by decide +kernel) (by decide +kernel)
set_option maxRecDepth 20000 in
theorem gX0_isNet_X0_firstMetOf : GoodIn wsX0_isNet (va_wsS RX0 37 yX0_firstMetOf wsX0_firstMetOf) := goodIn_app (goodIn_of _ (by decide +kernel)) ggX0_isNet_X0_firstMetOf
theorem dX0_isNet_0 : decode cX0_isNet 0 = .ok (.lload_n 0, 1) := by decide +kernel
theorem dX0_isNet_1 : decode cX0_isNet 1 = .ok (.invokestatic 37, 3) := by decide +kernel
theorem dX0_isNet_4 : decode cX0_isNet 4 = .ok (.ifCond .ne 7, 3) := by decide +kernel
theorem dX0_isNet_7 : decode cX0_isNet 7 = .ok (.iconst 1, 1) := by decide +kernel
theorem dX0_isNet_8 : decode cX0_isNet 8 = .ok (.goto 4, 3) := by decide +kernel
theorem dX0_isNet_11 : decode cX0_isNet 11 = .ok (.iconst 0, 1) := by decide +kernel
theorem dX0_isNet_12 : decode cX0_isNet 12 = .ok (.ireturn, 1) := by decide +kernel
set_option maxRecDepth 20000 in
theorem ggX0_cellAt_X0_landingOf : GoodIn wsX0_cellAt wsX0_landingOf := goodIn_r _ [5, 6] (by decide +kernel) (by decide +kernel)
set_option maxRecDepth 20000 in
theorem gX0_cellAt_X0_landingOf : GoodIn wsX0_cellAt (va_wsS RX0 41 yX0_landingOf wsX0_landingOf) := goodIn_app (goodIn_of _ (by decide +kernel)) ggX0_cellAt_X0_landingOf
theorem dX0_cellAt_0 : decode cX0_cellAt 0 = .ok (.lload_n 0, 1) := by decide +kernel
theorem dX0_cellAt_1 : decode cX0_cellAt 1 = .ok (.bipush 12, 2) := by decide +kernel
theorem dX0_cellAt_3 : decode cX0_cellAt 3 = .ok (.iconst 4, 1) := by decide +kernel
theorem dX0_cellAt_4 : decode cX0_cellAt 4 = .ok (.lload_n 0, 1) := by decide +kernel
theorem dX0_cellAt_5 : decode cX0_cellAt 5 = .ok (.invokestatic 41, 3) := by decide +kernel
theorem dX0_cellAt_8 : decode cX0_cellAt 8 = .ok (.iload_n 2, 1) := by decide +kernel
theorem dX0_cellAt_9 : decode cX0_cellAt 9 = .ok (.isub, 1) := by decide +kernel
theorem dX0_cellAt_10 : decode cX0_cellAt 10 = .ok (.imul, 1) := by decide +kernel
theorem dX0_cellAt_11 : decode cX0_cellAt 11 = .ok (.iadd, 1) := by decide +kernel
theorem dX0_cellAt_12 : decode cX0_cellAt 12 = .ok (.lshr, 1) := by decide +kernel
theorem dX0_cellAt_13 : decode cX0_cellAt 13 = .ok (.ldc2_w 44, 3) := by decide +kernel
theorem dX0_cellAt_16 : decode cX0_cellAt 16 = .ok (.land, 1) := by decide +kernel
theorem dX0_cellAt_17 : decode cX0_cellAt 17 = .ok (.l2i, 1) := by decide +kernel
theorem dX0_cellAt_18 : decode cX0_cellAt 18 = .ok (.ireturn, 1) := by decide +kernel
set_option maxRecDepth 20000 in
theorem ggX0_pathOf_X0_workOut : GoodIn wsX0_pathOf wsX0_workOut := goodIn_r _ [6, 7, 8, 9, 10, 11, 12, 13, 14, 15, 5, 16, 17, 18, 19, 20, 21, 22, 23, 24, 25, 26, 27, 28, 29, 30, 31, 32, 33, 34, 35, 36, 37, 38, 39, 40, 41, 42, 43, 44, 45, 46, 47] (by decide +kernel) (by decide +kernel)
set_option maxRecDepth 20000 in
theorem gX0_pathOf_X0_workOut : GoodIn wsX0_pathOf (wsV RX0 46 RX0 yX0_workOut wsX0_workOut) := goodIn_app (goodIn_of _ (by decide +kernel)) ggX0_pathOf_X0_workOut
theorem dX0_pathOf_0 : decode cX0_pathOf 0 = .ok (.iload_n 1, 1) := by decide +kernel
theorem dX0_pathOf_1 : decode cX0_pathOf 1 = .ok (.bipush 16, 2) := by decide +kernel
theorem dX0_pathOf_3 : decode cX0_pathOf 3 = .ok (.imul, 1) := by decide +kernel
theorem dX0_pathOf_4 : decode cX0_pathOf 4 = .ok (.iload_n 2, 1) := by decide +kernel
theorem dX0_pathOf_5 : decode cX0_pathOf 5 = .ok (.iadd, 1) := by decide +kernel
theorem dX0_pathOf_6 : decode cX0_pathOf 6 = .ok (.bipush 16, 2) := by decide +kernel
theorem dX0_pathOf_8 : decode cX0_pathOf 8 = .ok (.imul, 1) := by decide +kernel
theorem dX0_pathOf_9 : decode cX0_pathOf 9 = .ok (.iload_n 3, 1) := by decide +kernel
theorem dX0_pathOf_10 : decode cX0_pathOf 10 = .ok (.iadd, 1) := by decide +kernel
theorem dX0_pathOf_11 : decode cX0_pathOf 11 = .ok (.istore 4, 2) := by decide +kernel
theorem dX0_pathOf_13 : decode cX0_pathOf 13 = .ok (.aload_n 0, 1) := by decide +kernel
theorem dX0_pathOf_14 : decode cX0_pathOf 14 = .ok (.getfield 21, 3) := by decide +kernel
theorem dX0_pathOf_17 : decode cX0_pathOf 17 = .ok (.iload 4, 2) := by decide +kernel
theorem dX0_pathOf_19 : decode cX0_pathOf 19 = .ok (.laload, 1) := by decide +kernel
theorem dX0_pathOf_20 : decode cX0_pathOf 20 = .ok (.lconst 0, 1) := by decide +kernel
theorem dX0_pathOf_21 : decode cX0_pathOf 21 = .ok (.lcmp, 1) := by decide +kernel
theorem dX0_pathOf_22 : decode cX0_pathOf 22 = .ok (.ifCond .ne 17, 3) := by decide +kernel
theorem dX0_pathOf_25 : decode cX0_pathOf 25 = .ok (.aload_n 0, 1) := by decide +kernel
theorem dX0_pathOf_26 : decode cX0_pathOf 26 = .ok (.getfield 21, 3) := by decide +kernel
theorem dX0_pathOf_29 : decode cX0_pathOf 29 = .ok (.iload 4, 2) := by decide +kernel
theorem dX0_pathOf_31 : decode cX0_pathOf 31 = .ok (.aload_n 0, 1) := by decide +kernel
theorem dX0_pathOf_32 : decode cX0_pathOf 32 = .ok (.iload_n 1, 1) := by decide +kernel
theorem dX0_pathOf_33 : decode cX0_pathOf 33 = .ok (.iload_n 2, 1) := by decide +kernel
theorem dX0_pathOf_34 : decode cX0_pathOf 34 = .ok (.iload_n 3, 1) := by decide +kernel
theorem dX0_pathOf_35 : decode cX0_pathOf 35 = .ok (.invokevirtual 46, 3) := by decide +kernel
theorem dX0_pathOf_38 : decode cX0_pathOf 38 = .ok (.lastore, 1) := by decide +kernel
theorem dX0_pathOf_39 : decode cX0_pathOf 39 = .ok (.aload_n 0, 1) := by decide +kernel
theorem dX0_pathOf_40 : decode cX0_pathOf 40 = .ok (.getfield 21, 3) := by decide +kernel
theorem dX0_pathOf_43 : decode cX0_pathOf 43 = .ok (.iload 4, 2) := by decide +kernel
theorem dX0_pathOf_45 : decode cX0_pathOf 45 = .ok (.laload, 1) := by decide +kernel
theorem dX0_pathOf_46 : decode cX0_pathOf 46 = .ok (.lreturn, 1) := by decide +kernel
set_option maxRecDepth 20000 in
theorem ggX0_workOutFrom_X0_pathOf : GoodIn wsX0_workOutFrom wsX0_pathOf := goodIn_r _ [5, 6, 7, 8, 9, 4, 10, 11, 12, 13, 14, 15, 16, 17, 18, 19, 20, 21, 22, 23, 24, 25, 26, 27, 28, 29, 30, 31, 32, 33, 34, 35, 36, 37, 38, 39, 40, 41, 42, 43, 44, 45, 46, 47, 48, 49, 50, 51] (by decide +kernel) (by decide +kernel)
set_option maxRecDepth 20000 in
theorem gX0_workOutFrom_X0_pathOf : GoodIn wsX0_workOutFrom (wsV RX0 50 RX0 yX0_pathOf wsX0_pathOf) := goodIn_app (goodIn_of _ (by decide +kernel)) ggX0_workOutFrom_X0_pathOf
theorem dX0_workOutFrom_0 : decode cX0_workOutFrom 0 = .ok (.iconst 0, 1) := by decide +kernel
theorem dX0_workOutFrom_1 : decode cX0_workOutFrom 1 = .ok (.istore_n 2, 1) := by decide +kernel
theorem dX0_workOutFrom_2 : decode cX0_workOutFrom 2 = .ok (.iload_n 2, 1) := by decide +kernel
theorem dX0_workOutFrom_3 : decode cX0_workOutFrom 3 = .ok (.bipush 64, 2) := by decide +kernel
theorem dX0_workOutFrom_5 : decode cX0_workOutFrom 5 = .ok (.if_icmp .ge 23, 3) := by decide +kernel
theorem dX0_workOutFrom_8 : decode cX0_workOutFrom 8 = .ok (.aload_n 0, 1) := by decide +kernel
theorem dX0_workOutFrom_9 : decode cX0_workOutFrom 9 = .ok (.iload_n 2, 1) := by decide +kernel
theorem dX0_workOutFrom_10 : decode cX0_workOutFrom 10 = .ok (.bipush 16, 2) := by decide +kernel
theorem dX0_workOutFrom_12 : decode cX0_workOutFrom 12 = .ok (.idiv, 1) := by decide +kernel
theorem dX0_workOutFrom_13 : decode cX0_workOutFrom 13 = .ok (.iload_n 1, 1) := by decide +kernel
theorem dX0_workOutFrom_14 : decode cX0_workOutFrom 14 = .ok (.iload_n 2, 1) := by decide +kernel
theorem dX0_workOutFrom_15 : decode cX0_workOutFrom 15 = .ok (.bipush 16, 2) := by decide +kernel
theorem dX0_workOutFrom_17 : decode cX0_workOutFrom 17 = .ok (.irem, 1) := by decide +kernel
theorem dX0_workOutFrom_18 : decode cX0_workOutFrom 18 = .ok (.invokevirtual 50, 3) := by decide +kernel
theorem dX0_workOutFrom_21 : decode cX0_workOutFrom 21 = .ok (.pop2, 1) := by decide +kernel
theorem dX0_workOutFrom_22 : decode cX0_workOutFrom 22 = .ok (.iinc 2 1, 3) := by decide +kernel
theorem dX0_workOutFrom_25 : decode cX0_workOutFrom 25 = .ok (.goto (-23), 3) := by decide +kernel
theorem dX0_workOutFrom_28 : decode cX0_workOutFrom 28 = .ok (.return_, 1) := by decide +kernel
theorem dX0_knownPath_0 : decode cX0_knownPath 0 = .ok (.aload_n 0, 1) := by decide +kernel
theorem dX0_knownPath_1 : decode cX0_knownPath 1 = .ok (.getfield 21, 3) := by decide +kernel
theorem dX0_knownPath_4 : decode cX0_knownPath 4 = .ok (.iload_n 2, 1) := by decide +kernel
theorem dX0_knownPath_5 : decode cX0_knownPath 5 = .ok (.bipush 16, 2) := by decide +kernel
theorem dX0_knownPath_7 : decode cX0_knownPath 7 = .ok (.idiv, 1) := by decide +kernel
theorem dX0_knownPath_8 : decode cX0_knownPath 8 = .ok (.bipush 16, 2) := by decide +kernel
theorem dX0_knownPath_10 : decode cX0_knownPath 10 = .ok (.imul, 1) := by decide +kernel
theorem dX0_knownPath_11 : decode cX0_knownPath 11 = .ok (.iload_n 1, 1) := by decide +kernel
theorem dX0_knownPath_12 : decode cX0_knownPath 12 = .ok (.iadd, 1) := by decide +kernel
theorem dX0_knownPath_13 : decode cX0_knownPath 13 = .ok (.bipush 16, 2) := by decide +kernel
theorem dX0_knownPath_15 : decode cX0_knownPath 15 = .ok (.imul, 1) := by decide +kernel
theorem dX0_knownPath_16 : decode cX0_knownPath 16 = .ok (.iload_n 2, 1) := by decide +kernel
theorem dX0_knownPath_17 : decode cX0_knownPath 17 = .ok (.bipush 16, 2) := by decide +kernel
theorem dX0_knownPath_19 : decode cX0_knownPath 19 = .ok (.irem, 1) := by decide +kernel
theorem dX0_knownPath_20 : decode cX0_knownPath 20 = .ok (.iadd, 1) := by decide +kernel
theorem dX0_knownPath_21 : decode cX0_knownPath 21 = .ok (.laload, 1) := by decide +kernel
theorem dX0_knownPath_22 : decode cX0_knownPath 22 = .ok (.lreturn, 1) := by decide +kernel
set_option maxRecDepth 20000 in
theorem ggX0_placeBehind_X0_lengthOf : GoodIn wsX0_placeBehind wsX0_lengthOf := goodIn_r _ [9, 10, 11, 4, 12, 13, 14, 15, 16, 17, 18, 19] (by decide +kernel) (by decide +kernel)
set_option maxRecDepth 20000 in
theorem gX0_placeBehind_X0_lengthOf : GoodIn wsX0_placeBehind (va_wsS RX0 53 yX0_lengthOf wsX0_lengthOf) := goodIn_app (goodIn_of _ (by decide +kernel)) ggX0_placeBehind_X0_lengthOf
set_option maxRecDepth 20000 in
theorem ggX0_placeBehind_X0_wholeOf : GoodIn wsX0_placeBehind wsX0_wholeOf := goodIn_r _ [23, 24, 36, 37, 38, 39, 40] (by decide +kernel) (by decide +kernel)
set_option maxRecDepth 20000 in
theorem gX0_placeBehind_X0_wholeOf : GoodIn wsX0_placeBehind (wsV RX0 57 RX0 yX0_wholeOf wsX0_wholeOf) := goodIn_app (goodIn_of _ (by decide +kernel)) ggX0_placeBehind_X0_wholeOf
set_option maxRecDepth 20000 in
theorem ggX0_placeBehind_X0_slowed : GoodIn wsX0_placeBehind wsX0_slowed := goodIn_r _ [28, 29, 24, 30, 31, 4, 32, 36, 37, 38, 39, 40] (by decide +kernel) (by decide +kernel)
set_option maxRecDepth 20000 in
theorem gX0_placeBehind_X0_slowed : GoodIn wsX0_placeBehind (wsV RX0 66 RX0 yX0_slowed wsX0_slowed) := goodIn_app (goodIn_of _ (by decide +kernel)) ggX0_placeBehind_X0_slowed
set_option maxRecDepth 20000 in
theorem ggX0_placeBehind_X0_placeAt : GoodIn wsX0_placeBehind wsX0_placeAt := goodIn_r _ [35, 13, 14, 15, 16, 17, 18, 19] (by decide +kernel) (by decide +kernel)
set_option maxRecDepth 20000 in
theorem gX0_placeBehind_X0_placeAt : GoodIn wsX0_placeBehind (va_wsS RX0 69 yX0_placeAt wsX0_placeAt) := goodIn_app (goodIn_of _ (by decide +kernel)) ggX0_placeBehind_X0_placeAt
theorem dX0_placeBehind_0 : decode cX0_placeBehind 0 = .ok (.iload_n 2, 1) := by decide +kernel
theorem dX0_placeBehind_1 : decode cX0_placeBehind 1 = .ok (.iload_n 3, 1) := by decide +kernel
theorem dX0_placeBehind_2 : decode cX0_placeBehind 2 = .ok (.invokestatic 53, 3) := by decide +kernel
theorem dX0_placeBehind_5 : decode cX0_placeBehind 5 = .ok (.istore 5, 2) := by decide +kernel
theorem dX0_placeBehind_7 : decode cX0_placeBehind 7 = .ok (.aload_n 0, 1) := by decide +kernel
theorem dX0_placeBehind_8 : decode cX0_placeBehind 8 = .ok (.iload 5, 2) := by decide +kernel
theorem dX0_placeBehind_10 : decode cX0_placeBehind 10 = .ok (.invokevirtual 57, 3) := by decide +kernel
theorem dX0_placeBehind_13 : decode cX0_placeBehind 13 = .ok (.istore 6, 2) := by decide +kernel
theorem dX0_placeBehind_15 : decode cX0_placeBehind 15 = .ok (.aload_n 0, 1) := by decide +kernel
theorem dX0_placeBehind_16 : decode cX0_placeBehind 16 = .ok (.getfield 9, 3) := by decide +kernel
theorem dX0_placeBehind_19 : decode cX0_placeBehind 19 = .ok (.iload_n 1, 1) := by decide +kernel
theorem dX0_placeBehind_20 : decode cX0_placeBehind 20 = .ok (.iaload, 1) := by decide +kernel
theorem dX0_placeBehind_21 : decode cX0_placeBehind 21 = .ok (.istore 7, 2) := by decide +kernel
theorem dX0_placeBehind_23 : decode cX0_placeBehind 23 = .ok (.iconst 0, 1) := by decide +kernel
theorem dX0_placeBehind_24 : decode cX0_placeBehind 24 = .ok (.istore 8, 2) := by decide +kernel
theorem dX0_placeBehind_26 : decode cX0_placeBehind 26 = .ok (.iconst 1, 1) := by decide +kernel
theorem dX0_placeBehind_27 : decode cX0_placeBehind 27 = .ok (.istore 9, 2) := by decide +kernel
theorem dX0_placeBehind_29 : decode cX0_placeBehind 29 = .ok (.iload 9, 2) := by decide +kernel
theorem dX0_placeBehind_31 : decode cX0_placeBehind 31 = .ok (.iload 4, 2) := by decide +kernel
theorem dX0_placeBehind_33 : decode cX0_placeBehind 33 = .ok (.if_icmp .gt 37, 3) := by decide +kernel
theorem dX0_placeBehind_36 : decode cX0_placeBehind 36 = .ok (.iload 8, 2) := by decide +kernel
theorem dX0_placeBehind_38 : decode cX0_placeBehind 38 = .ok (.iload 6, 2) := by decide +kernel
theorem dX0_placeBehind_40 : decode cX0_placeBehind 40 = .ok (.if_icmp .ge 30, 3) := by decide +kernel
theorem dX0_placeBehind_43 : decode cX0_placeBehind 43 = .ok (.iload 6, 2) := by decide +kernel
theorem dX0_placeBehind_45 : decode cX0_placeBehind 45 = .ok (.iload 8, 2) := by decide +kernel
theorem dX0_placeBehind_47 : decode cX0_placeBehind 47 = .ok (.iload 7, 2) := by decide +kernel
theorem dX0_placeBehind_49 : decode cX0_placeBehind 49 = .ok (.iadd, 1) := by decide +kernel
theorem dX0_placeBehind_50 : decode cX0_placeBehind 50 = .ok (.invokestatic 61, 3) := by decide +kernel
theorem dX0_placeBehind_53 : decode cX0_placeBehind 53 = .ok (.istore 8, 2) := by decide +kernel
theorem dX0_placeBehind_55 : decode cX0_placeBehind 55 = .ok (.aload_n 0, 1) := by decide +kernel
theorem dX0_placeBehind_56 : decode cX0_placeBehind 56 = .ok (.iload_n 1, 1) := by decide +kernel
theorem dX0_placeBehind_57 : decode cX0_placeBehind 57 = .ok (.iload 7, 2) := by decide +kernel
theorem dX0_placeBehind_59 : decode cX0_placeBehind 59 = .ok (.invokevirtual 66, 3) := by decide +kernel
theorem dX0_placeBehind_62 : decode cX0_placeBehind 62 = .ok (.istore 7, 2) := by decide +kernel
theorem dX0_placeBehind_64 : decode cX0_placeBehind 64 = .ok (.iinc 9 1, 3) := by decide +kernel
theorem dX0_placeBehind_67 : decode cX0_placeBehind 67 = .ok (.goto (-38), 3) := by decide +kernel
theorem dX0_placeBehind_70 : decode cX0_placeBehind 70 = .ok (.iload_n 2, 1) := by decide +kernel
theorem dX0_placeBehind_71 : decode cX0_placeBehind 71 = .ok (.iload_n 3, 1) := by decide +kernel
theorem dX0_placeBehind_72 : decode cX0_placeBehind 72 = .ok (.iload 5, 2) := by decide +kernel
theorem dX0_placeBehind_74 : decode cX0_placeBehind 74 = .ok (.iload 8, 2) := by decide +kernel
theorem dX0_placeBehind_76 : decode cX0_placeBehind 76 = .ok (.invokestatic 69, 3) := by decide +kernel
theorem dX0_placeBehind_79 : decode cX0_placeBehind 79 = .ok (.ireturn, 1) := by decide +kernel
set_option maxRecDepth 20000 in
theorem ggX0_workOut_X0_lengthOf : GoodIn wsX0_workOut wsX0_lengthOf := goodIn_r _ [11, 12, 13, 4, 14, 15, 16, 17, 18, 19, 20, 21] (by decide +kernel) (by decide +kernel)
set_option maxRecDepth 20000 in
theorem gX0_workOut_X0_lengthOf : GoodIn wsX0_workOut (va_wsS RX0 53 yX0_lengthOf wsX0_lengthOf) := goodIn_app (goodIn_of _ (by decide +kernel)) ggX0_workOut_X0_lengthOf
set_option maxRecDepth 20000 in
theorem ggX0_workOut_X0_wholeOf : GoodIn wsX0_workOut wsX0_wholeOf := goodIn_r _ [25, 26, 38, 39, 40, 41, 42] (by decide +kernel) (by decide +kernel)
set_option maxRecDepth 20000 in
theorem gX0_workOut_X0_wholeOf : GoodIn wsX0_workOut (wsV RX0 57 RX0 yX0_wholeOf wsX0_wholeOf) := goodIn_app (goodIn_of _ (by decide +kernel)) ggX0_workOut_X0_wholeOf
set_option maxRecDepth 20000 in
theorem ggX0_workOut_X0_slowed : GoodIn wsX0_workOut wsX0_slowed := goodIn_r _ [30, 31, 26, 32, 33, 4, 34, 38, 39, 40, 41, 42] (by decide +kernel) (by decide +kernel)
set_option maxRecDepth 20000 in
theorem gX0_workOut_X0_slowed : GoodIn wsX0_workOut (wsV RX0 66 RX0 yX0_slowed wsX0_slowed) := goodIn_app (goodIn_of _ (by decide +kernel)) ggX0_workOut_X0_slowed
set_option maxRecDepth 20000 in
theorem ggX0_workOut_X0_placeAt : GoodIn wsX0_workOut wsX0_placeAt := goodIn_r _ [37, 15, 16, 17, 18, 19, 20, 21] (by decide +kernel) (by decide +kernel)
set_option maxRecDepth 20000 in
theorem gX0_workOut_X0_placeAt : GoodIn wsX0_workOut (va_wsS RX0 69 yX0_placeAt wsX0_placeAt) := goodIn_app (goodIn_of _ (by decide +kernel)) ggX0_workOut_X0_placeAt
theorem dX0_workOut_0 : decode cX0_workOut 0 = .ok (.iload_n 2, 1) := by decide +kernel
theorem dX0_workOut_1 : decode cX0_workOut 1 = .ok (.iload_n 3, 1) := by decide +kernel
theorem dX0_workOut_2 : decode cX0_workOut 2 = .ok (.invokestatic 53, 3) := by decide +kernel
theorem dX0_workOut_5 : decode cX0_workOut 5 = .ok (.istore 4, 2) := by decide +kernel
theorem dX0_workOut_7 : decode cX0_workOut 7 = .ok (.aload_n 0, 1) := by decide +kernel
theorem dX0_workOut_8 : decode cX0_workOut 8 = .ok (.iload 4, 2) := by decide +kernel
theorem dX0_workOut_10 : decode cX0_workOut 10 = .ok (.invokevirtual 57, 3) := by decide +kernel
theorem dX0_workOut_13 : decode cX0_workOut 13 = .ok (.istore 5, 2) := by decide +kernel
theorem dX0_workOut_15 : decode cX0_workOut 15 = .ok (.aload_n 0, 1) := by decide +kernel
theorem dX0_workOut_16 : decode cX0_workOut 16 = .ok (.getfield 9, 3) := by decide +kernel
theorem dX0_workOut_19 : decode cX0_workOut 19 = .ok (.iload_n 1, 1) := by decide +kernel
theorem dX0_workOut_20 : decode cX0_workOut 20 = .ok (.iaload, 1) := by decide +kernel
theorem dX0_workOut_21 : decode cX0_workOut 21 = .ok (.istore 6, 2) := by decide +kernel
theorem dX0_workOut_23 : decode cX0_workOut 23 = .ok (.iconst 0, 1) := by decide +kernel
theorem dX0_workOut_24 : decode cX0_workOut 24 = .ok (.istore 7, 2) := by decide +kernel
theorem dX0_workOut_26 : decode cX0_workOut 26 = .ok (.iconst 0, 1) := by decide +kernel
theorem dX0_workOut_27 : decode cX0_workOut 27 = .ok (.istore 8, 2) := by decide +kernel
theorem dX0_workOut_29 : decode cX0_workOut 29 = .ok (.iconst 0, 1) := by decide +kernel
theorem dX0_workOut_30 : decode cX0_workOut 30 = .ok (.istore 9, 2) := by decide +kernel
theorem dX0_workOut_32 : decode cX0_workOut 32 = .ok (.lconst 0, 1) := by decide +kernel
theorem dX0_workOut_33 : decode cX0_workOut 33 = .ok (.lstore 10, 2) := by decide +kernel
theorem dX0_workOut_35 : decode cX0_workOut 35 = .ok (.iload 7, 2) := by decide +kernel
theorem dX0_workOut_37 : decode cX0_workOut 37 = .ok (.iload 5, 2) := by decide +kernel
theorem dX0_workOut_39 : decode cX0_workOut 39 = .ok (.if_icmp .ge 67, 3) := by decide +kernel
theorem dX0_workOut_42 : decode cX0_workOut 42 = .ok (.iload 8, 2) := by decide +kernel
theorem dX0_workOut_44 : decode cX0_workOut 44 = .ok (.bipush 60, 2) := by decide +kernel
theorem dX0_workOut_46 : decode cX0_workOut 46 = .ok (.if_icmp .ge 60, 3) := by decide +kernel
theorem dX0_workOut_49 : decode cX0_workOut 49 = .ok (.iinc 8 1, 3) := by decide +kernel
theorem dX0_workOut_52 : decode cX0_workOut 52 = .ok (.iload 5, 2) := by decide +kernel
theorem dX0_workOut_54 : decode cX0_workOut 54 = .ok (.iload 7, 2) := by decide +kernel
theorem dX0_workOut_56 : decode cX0_workOut 56 = .ok (.iload 6, 2) := by decide +kernel
theorem dX0_workOut_58 : decode cX0_workOut 58 = .ok (.iadd, 1) := by decide +kernel
theorem dX0_workOut_59 : decode cX0_workOut 59 = .ok (.invokestatic 61, 3) := by decide +kernel
theorem dX0_workOut_62 : decode cX0_workOut 62 = .ok (.istore 7, 2) := by decide +kernel
theorem dX0_workOut_64 : decode cX0_workOut 64 = .ok (.aload_n 0, 1) := by decide +kernel
theorem dX0_workOut_65 : decode cX0_workOut 65 = .ok (.iload_n 1, 1) := by decide +kernel
theorem dX0_workOut_66 : decode cX0_workOut 66 = .ok (.iload 6, 2) := by decide +kernel
theorem dX0_workOut_68 : decode cX0_workOut 68 = .ok (.invokevirtual 66, 3) := by decide +kernel
theorem dX0_workOut_71 : decode cX0_workOut 71 = .ok (.istore 6, 2) := by decide +kernel
theorem dX0_workOut_73 : decode cX0_workOut 73 = .ok (.iload_n 2, 1) := by decide +kernel
theorem dX0_workOut_74 : decode cX0_workOut 74 = .ok (.iload_n 3, 1) := by decide +kernel
theorem dX0_workOut_75 : decode cX0_workOut 75 = .ok (.iload 4, 2) := by decide +kernel
theorem dX0_workOut_77 : decode cX0_workOut 77 = .ok (.iload 7, 2) := by decide +kernel
theorem dX0_workOut_79 : decode cX0_workOut 79 = .ok (.invokestatic 69, 3) := by decide +kernel
theorem dX0_workOut_82 : decode cX0_workOut 82 = .ok (.istore 12, 2) := by decide +kernel
theorem dX0_workOut_84 : decode cX0_workOut 84 = .ok (.iload 12, 2) := by decide +kernel
theorem dX0_workOut_86 : decode cX0_workOut 86 = .ok (.iconst (-1), 1) := by decide +kernel
theorem dX0_workOut_87 : decode cX0_workOut 87 = .ok (.if_icmp .eq 16, 3) := by decide +kernel
theorem dX0_workOut_90 : decode cX0_workOut 90 = .ok (.iinc 9 1, 3) := by decide +kernel
theorem dX0_workOut_93 : decode cX0_workOut 93 = .ok (.lload 10, 2) := by decide +kernel
theorem dX0_workOut_95 : decode cX0_workOut 95 = .ok (.iconst 4, 1) := by decide +kernel
theorem dX0_workOut_96 : decode cX0_workOut 96 = .ok (.lshl, 1) := by decide +kernel
theorem dX0_workOut_97 : decode cX0_workOut 97 = .ok (.iload 12, 2) := by decide +kernel
theorem dX0_workOut_99 : decode cX0_workOut 99 = .ok (.i2l, 1) := by decide +kernel
theorem dX0_workOut_100 : decode cX0_workOut 100 = .ok (.lor, 1) := by decide +kernel
theorem dX0_workOut_101 : decode cX0_workOut 101 = .ok (.lstore 10, 2) := by decide +kernel
theorem dX0_workOut_103 : decode cX0_workOut 103 = .ok (.goto (-68), 3) := by decide +kernel
theorem dX0_workOut_106 : decode cX0_workOut 106 = .ok (.iload 9, 2) := by decide +kernel
theorem dX0_workOut_108 : decode cX0_workOut 108 = .ok (.ifCond .ne 7, 3) := by decide +kernel
theorem dX0_workOut_111 : decode cX0_workOut 111 = .ok (.iconst 0, 1) := by decide +kernel
theorem dX0_workOut_112 : decode cX0_workOut 112 = .ok (.goto 19, 3) := by decide +kernel
theorem dX0_workOut_115 : decode cX0_workOut 115 = .ok (.iload 8, 2) := by decide +kernel
theorem dX0_workOut_117 : decode cX0_workOut 117 = .ok (.iconst 1, 1) := by decide +kernel
theorem dX0_workOut_118 : decode cX0_workOut 118 = .ok (.iadd, 1) := by decide +kernel
theorem dX0_workOut_119 : decode cX0_workOut 119 = .ok (.iload 9, 2) := by decide +kernel
theorem dX0_workOut_121 : decode cX0_workOut 121 = .ok (.aload_n 0, 1) := by decide +kernel
theorem dX0_workOut_122 : decode cX0_workOut 122 = .ok (.getfield 18, 3) := by decide +kernel
theorem dX0_workOut_125 : decode cX0_workOut 125 = .ok (.iload_n 1, 1) := by decide +kernel
theorem dX0_workOut_126 : decode cX0_workOut 126 = .ok (.iaload, 1) := by decide +kernel
theorem dX0_workOut_127 : decode cX0_workOut 127 = .ok (.invokestatic 61, 3) := by decide +kernel
theorem dX0_workOut_130 : decode cX0_workOut 130 = .ok (.isub, 1) := by decide +kernel
theorem dX0_workOut_131 : decode cX0_workOut 131 = .ok (.istore 12, 2) := by decide +kernel
theorem dX0_workOut_133 : decode cX0_workOut 133 = .ok (.lload 10, 2) := by decide +kernel
theorem dX0_workOut_135 : decode cX0_workOut 135 = .ok (.ldc2_w 73, 3) := by decide +kernel
theorem dX0_workOut_138 : decode cX0_workOut 138 = .ok (.land, 1) := by decide +kernel
theorem dX0_workOut_139 : decode cX0_workOut 139 = .ok (.lstore 13, 2) := by decide +kernel
theorem dX0_workOut_141 : decode cX0_workOut 141 = .ok (.lload 13, 2) := by decide +kernel
theorem dX0_workOut_143 : decode cX0_workOut 143 = .ok (.bipush 12, 2) := by decide +kernel
theorem dX0_workOut_145 : decode cX0_workOut 145 = .ok (.lshl, 1) := by decide +kernel
theorem dX0_workOut_146 : decode cX0_workOut 146 = .ok (.iload 12, 2) := by decide +kernel
theorem dX0_workOut_148 : decode cX0_workOut 148 = .ok (.i2l, 1) := by decide +kernel
theorem dX0_workOut_149 : decode cX0_workOut 149 = .ok (.bipush 6, 2) := by decide +kernel
theorem dX0_workOut_151 : decode cX0_workOut 151 = .ok (.lshl, 1) := by decide +kernel
theorem dX0_workOut_152 : decode cX0_workOut 152 = .ok (.lor, 1) := by decide +kernel
theorem dX0_workOut_153 : decode cX0_workOut 153 = .ok (.iload 8, 2) := by decide +kernel
theorem dX0_workOut_155 : decode cX0_workOut 155 = .ok (.i2l, 1) := by decide +kernel
theorem dX0_workOut_156 : decode cX0_workOut 156 = .ok (.lor, 1) := by decide +kernel
theorem dX0_workOut_157 : decode cX0_workOut 157 = .ok (.lreturn, 1) := by decide +kernel
theorem dX0_slowed_0 : decode cX0_slowed 0 = .ok (.iconst 2, 1) := by decide +kernel
theorem dX0_slowed_1 : decode cX0_slowed 1 = .ok (.iload_n 2, 1) := by decide +kernel
theorem dX0_slowed_2 : decode cX0_slowed 2 = .ok (.bipush 100, 2) := by decide +kernel
theorem dX0_slowed_4 : decode cX0_slowed 4 = .ok (.aload_n 0, 1) := by decide +kernel
theorem dX0_slowed_5 : decode cX0_slowed 5 = .ok (.getfield 15, 3) := by decide +kernel
theorem dX0_slowed_8 : decode cX0_slowed 8 = .ok (.iload_n 1, 1) := by decide +kernel
theorem dX0_slowed_9 : decode cX0_slowed 9 = .ok (.iaload, 1) := by decide +kernel
theorem dX0_slowed_10 : decode cX0_slowed 10 = .ok (.isub, 1) := by decide +kernel
theorem dX0_slowed_11 : decode cX0_slowed 11 = .ok (.iconst 2, 1) := by decide +kernel
theorem dX0_slowed_12 : decode cX0_slowed 12 = .ok (.aload_n 0, 1) := by decide +kernel
theorem dX0_slowed_13 : decode cX0_slowed 13 = .ok (.getfield 25, 3) := by decide +kernel
theorem dX0_slowed_16 : decode cX0_slowed 16 = .ok (.imul, 1) := by decide +kernel
theorem dX0_slowed_17 : decode cX0_slowed 17 = .ok (.isub, 1) := by decide +kernel
theorem dX0_slowed_18 : decode cX0_slowed 18 = .ok (.imul, 1) := by decide +kernel
theorem dX0_slowed_19 : decode cX0_slowed 19 = .ok (.bipush 100, 2) := by decide +kernel
theorem dX0_slowed_21 : decode cX0_slowed 21 = .ok (.idiv, 1) := by decide +kernel
theorem dX0_slowed_22 : decode cX0_slowed 22 = .ok (.invokestatic 75, 3) := by decide +kernel
theorem dX0_slowed_25 : decode cX0_slowed 25 = .ok (.ireturn, 1) := by decide +kernel
theorem dX0_wholeOf_0 : decode cX0_wholeOf 0 = .ok (.iload_n 1, 1) := by decide +kernel
theorem dX0_wholeOf_1 : decode cX0_wholeOf 1 = .ok (.bipush 100, 2) := by decide +kernel
theorem dX0_wholeOf_3 : decode cX0_wholeOf 3 = .ok (.iconst 4, 1) := by decide +kernel
theorem dX0_wholeOf_4 : decode cX0_wholeOf 4 = .ok (.aload_n 0, 1) := by decide +kernel
theorem dX0_wholeOf_5 : decode cX0_wholeOf 5 = .ok (.getfield 25, 3) := by decide +kernel
theorem dX0_wholeOf_8 : decode cX0_wholeOf 8 = .ok (.imul, 1) := by decide +kernel
theorem dX0_wholeOf_9 : decode cX0_wholeOf 9 = .ok (.isub, 1) := by decide +kernel
theorem dX0_wholeOf_10 : decode cX0_wholeOf 10 = .ok (.imul, 1) := by decide +kernel
theorem dX0_wholeOf_11 : decode cX0_wholeOf 11 = .ok (.bipush 100, 2) := by decide +kernel
theorem dX0_wholeOf_13 : decode cX0_wholeOf 13 = .ok (.idiv, 1) := by decide +kernel
theorem dX0_wholeOf_14 : decode cX0_wholeOf 14 = .ok (.ireturn, 1) := by decide +kernel
set_option maxRecDepth 20000 in
theorem ggX0_lengthOf_X2_rowOf : GoodIn wsX0_lengthOf wsX2_rowOf := goodIn_r _ [8] (by decide +kernel) (by decide +kernel)
set_option maxRecDepth 20000 in
theorem gX0_lengthOf_X2_rowOf : GoodIn wsX0_lengthOf (va_wsS RX0 78 yX2_rowOf wsX2_rowOf) := goodIn_app (goodIn_of _ (by decide +kernel)) ggX0_lengthOf_X2_rowOf
set_option maxRecDepth 20000 in
theorem ggX0_lengthOf_X2_colOf : GoodIn wsX0_lengthOf wsX2_colOf := goodIn_r _ [11] (by decide +kernel) (by decide +kernel)
set_option maxRecDepth 20000 in
theorem gX0_lengthOf_X2_colOf : GoodIn wsX0_lengthOf (va_wsS RX0 83 yX2_colOf wsX2_colOf) := goodIn_app (goodIn_of _ (by decide +kernel)) ggX0_lengthOf_X2_colOf
theorem dX0_lengthOf_0 : decode cX0_lengthOf 0 = .ok (.iload_n 0, 1) := by decide +kernel
theorem dX0_lengthOf_1 : decode cX0_lengthOf 1 = .ok (.invokestatic 78, 3) := by decide +kernel
theorem dX0_lengthOf_4 : decode cX0_lengthOf 4 = .ok (.iload_n 1, 1) := by decide +kernel
theorem dX0_lengthOf_5 : decode cX0_lengthOf 5 = .ok (.invokestatic 78, 3) := by decide +kernel
theorem dX0_lengthOf_8 : decode cX0_lengthOf 8 = .ok (.iadd, 1) := by decide +kernel
theorem dX0_lengthOf_9 : decode cX0_lengthOf 9 = .ok (.iconst 1, 1) := by decide +kernel
theorem dX0_lengthOf_10 : decode cX0_lengthOf 10 = .ok (.iadd, 1) := by decide +kernel
theorem dX0_lengthOf_11 : decode cX0_lengthOf 11 = .ok (.istore_n 2, 1) := by decide +kernel
theorem dX0_lengthOf_12 : decode cX0_lengthOf 12 = .ok (.bipush 10, 2) := by decide +kernel
theorem dX0_lengthOf_14 : decode cX0_lengthOf 14 = .ok (.iload_n 2, 1) := by decide +kernel
theorem dX0_lengthOf_15 : decode cX0_lengthOf 15 = .ok (.imul, 1) := by decide +kernel
theorem dX0_lengthOf_16 : decode cX0_lengthOf 16 = .ok (.iconst 5, 1) := by decide +kernel
theorem dX0_lengthOf_17 : decode cX0_lengthOf 17 = .ok (.iload_n 0, 1) := by decide +kernel
theorem dX0_lengthOf_18 : decode cX0_lengthOf 18 = .ok (.invokestatic 83, 3) := by decide +kernel
theorem dX0_lengthOf_21 : decode cX0_lengthOf 21 = .ok (.iload_n 1, 1) := by decide +kernel
theorem dX0_lengthOf_22 : decode cX0_lengthOf 22 = .ok (.invokestatic 83, 3) := by decide +kernel
theorem dX0_lengthOf_25 : decode cX0_lengthOf 25 = .ok (.isub, 1) := by decide +kernel
theorem dX0_lengthOf_26 : decode cX0_lengthOf 26 = .ok (.invokestatic 86, 3) := by decide +kernel
theorem dX0_lengthOf_29 : decode cX0_lengthOf 29 = .ok (.imul, 1) := by decide +kernel
theorem dX0_lengthOf_30 : decode cX0_lengthOf 30 = .ok (.iadd, 1) := by decide +kernel
theorem dX0_lengthOf_31 : decode cX0_lengthOf 31 = .ok (.ireturn, 1) := by decide +kernel
set_option maxRecDepth 20000 in
theorem ggX0_placeAt_X2_rowOf : GoodIn wsX0_placeAt wsX2_rowOf := goodIn_r _ [4] (by decide +kernel) (by decide +kernel)
set_option maxRecDepth 20000 in
theorem gX0_placeAt_X2_rowOf : GoodIn wsX0_placeAt (va_wsS RX0 78 yX2_rowOf wsX2_rowOf) := goodIn_app (goodIn_of _ (by decide +kernel)) ggX0_placeAt_X2_rowOf
set_option maxRecDepth 20000 in
theorem ggX0_placeAt_X2_colOf : GoodIn wsX0_placeAt wsX2_colOf := goodIn_r _ [7] (by decide +kernel) (by decide +kernel)
set_option maxRecDepth 20000 in
theorem gX0_placeAt_X2_colOf : GoodIn wsX0_placeAt (va_wsS RX0 83 yX2_colOf wsX2_colOf) := goodIn_app (goodIn_of _ (by decide +kernel)) ggX0_placeAt_X2_colOf
theorem dX0_placeAt_0 : decode cX0_placeAt 0 = .ok (.iload_n 2, 1) := by decide +kernel
theorem dX0_placeAt_1 : decode cX0_placeAt 1 = .ok (.iconst 1, 1) := by decide +kernel
theorem dX0_placeAt_2 : decode cX0_placeAt 2 = .ok (.if_icmp .ge 5, 3) := by decide +kernel
theorem dX0_placeAt_5 : decode cX0_placeAt 5 = .ok (.iconst (-1), 1) := by decide +kernel
theorem dX0_placeAt_6 : decode cX0_placeAt 6 = .ok (.ireturn, 1) := by decide +kernel
theorem dX0_placeAt_7 : decode cX0_placeAt 7 = .ok (.iload_n 0, 1) := by decide +kernel
theorem dX0_placeAt_8 : decode cX0_placeAt 8 = .ok (.invokestatic 78, 3) := by decide +kernel
theorem dX0_placeAt_11 : decode cX0_placeAt 11 = .ok (.iload_n 1, 1) := by decide +kernel
theorem dX0_placeAt_12 : decode cX0_placeAt 12 = .ok (.invokestatic 78, 3) := by decide +kernel
theorem dX0_placeAt_15 : decode cX0_placeAt 15 = .ok (.iadd, 1) := by decide +kernel
theorem dX0_placeAt_16 : decode cX0_placeAt 16 = .ok (.iconst 1, 1) := by decide +kernel
theorem dX0_placeAt_17 : decode cX0_placeAt 17 = .ok (.iadd, 1) := by decide +kernel
theorem dX0_placeAt_18 : decode cX0_placeAt 18 = .ok (.istore 4, 2) := by decide +kernel
theorem dX0_placeAt_20 : decode cX0_placeAt 20 = .ok (.iload 4, 2) := by decide +kernel
theorem dX0_placeAt_22 : decode cX0_placeAt 22 = .ok (.iload_n 3, 1) := by decide +kernel
theorem dX0_placeAt_23 : decode cX0_placeAt 23 = .ok (.imul, 1) := by decide +kernel
theorem dX0_placeAt_24 : decode cX0_placeAt 24 = .ok (.iload_n 2, 1) := by decide +kernel
theorem dX0_placeAt_25 : decode cX0_placeAt 25 = .ok (.idiv, 1) := by decide +kernel
theorem dX0_placeAt_26 : decode cX0_placeAt 26 = .ok (.iload_n 0, 1) := by decide +kernel
theorem dX0_placeAt_27 : decode cX0_placeAt 27 = .ok (.invokestatic 78, 3) := by decide +kernel
theorem dX0_placeAt_30 : decode cX0_placeAt 30 = .ok (.isub, 1) := by decide +kernel
theorem dX0_placeAt_31 : decode cX0_placeAt 31 = .ok (.iconst 1, 1) := by decide +kernel
theorem dX0_placeAt_32 : decode cX0_placeAt 32 = .ok (.isub, 1) := by decide +kernel
theorem dX0_placeAt_33 : decode cX0_placeAt 33 = .ok (.istore 5, 2) := by decide +kernel
theorem dX0_placeAt_35 : decode cX0_placeAt 35 = .ok (.iload 5, 2) := by decide +kernel
theorem dX0_placeAt_37 : decode cX0_placeAt 37 = .ok (.ifCond .ge 5, 3) := by decide +kernel
theorem dX0_placeAt_40 : decode cX0_placeAt 40 = .ok (.iconst (-1), 1) := by decide +kernel
theorem dX0_placeAt_41 : decode cX0_placeAt 41 = .ok (.ireturn, 1) := by decide +kernel
theorem dX0_placeAt_42 : decode cX0_placeAt 42 = .ok (.iload_n 0, 1) := by decide +kernel
theorem dX0_placeAt_43 : decode cX0_placeAt 43 = .ok (.invokestatic 83, 3) := by decide +kernel
theorem dX0_placeAt_46 : decode cX0_placeAt 46 = .ok (.iload_n 1, 1) := by decide +kernel
theorem dX0_placeAt_47 : decode cX0_placeAt 47 = .ok (.invokestatic 83, 3) := by decide +kernel
theorem dX0_placeAt_50 : decode cX0_placeAt 50 = .ok (.iload_n 0, 1) := by decide +kernel
theorem dX0_placeAt_51 : decode cX0_placeAt 51 = .ok (.invokestatic 83, 3) := by decide +kernel
theorem dX0_placeAt_54 : decode cX0_placeAt 54 = .ok (.isub, 1) := by decide +kernel
theorem dX0_placeAt_55 : decode cX0_placeAt 55 = .ok (.iload_n 3, 1) := by decide +kernel
theorem dX0_placeAt_56 : decode cX0_placeAt 56 = .ok (.imul, 1) := by decide +kernel
theorem dX0_placeAt_57 : decode cX0_placeAt 57 = .ok (.iload_n 2, 1) := by decide +kernel
theorem dX0_placeAt_58 : decode cX0_placeAt 58 = .ok (.idiv, 1) := by decide +kernel
theorem dX0_placeAt_59 : decode cX0_placeAt 59 = .ok (.iadd, 1) := by decide +kernel
theorem dX0_placeAt_60 : decode cX0_placeAt 60 = .ok (.istore 6, 2) := by decide +kernel
theorem dX0_placeAt_62 : decode cX0_placeAt 62 = .ok (.iconst 4, 1) := by decide +kernel
theorem dX0_placeAt_63 : decode cX0_placeAt 63 = .ok (.iload 5, 2) := by decide +kernel
theorem dX0_placeAt_65 : decode cX0_placeAt 65 = .ok (.imul, 1) := by decide +kernel
theorem dX0_placeAt_66 : decode cX0_placeAt 66 = .ok (.iload 6, 2) := by decide +kernel
theorem dX0_placeAt_68 : decode cX0_placeAt 68 = .ok (.iadd, 1) := by decide +kernel
theorem dX0_placeAt_69 : decode cX0_placeAt 69 = .ok (.ireturn, 1) := by decide +kernel
theorem dX1_init_0 : decode cX1_init 0 = .ok (.aload_n 0, 1) := by decide +kernel
theorem dX1_init_1 : decode cX1_init 1 = .ok (.invokespecial 3, 3) := by decide +kernel
theorem dX1_init_4 : decode cX1_init 4 = .ok (.aload_n 0, 1) := by decide +kernel
theorem dX1_init_5 : decode cX1_init 5 = .ok (.iconst 4, 1) := by decide +kernel
theorem dX1_init_6 : decode cX1_init 6 = .ok (.newarray .int, 2) := by decide +kernel
theorem dX1_init_8 : decode cX1_init 8 = .ok (.dup, 1) := by decide +kernel
theorem dX1_init_9 : decode cX1_init 9 = .ok (.iconst 0, 1) := by decide +kernel
theorem dX1_init_10 : decode cX1_init 10 = .ok (.iconst 3, 1) := by decide +kernel
theorem dX1_init_11 : decode cX1_init 11 = .ok (.iastore, 1) := by decide +kernel
theorem dX1_init_12 : decode cX1_init 12 = .ok (.dup, 1) := by decide +kernel
theorem dX1_init_13 : decode cX1_init 13 = .ok (.iconst 1, 1) := by decide +kernel
theorem dX1_init_14 : decode cX1_init 14 = .ok (.iconst 1, 1) := by decide +kernel
theorem dX1_init_15 : decode cX1_init 15 = .ok (.iastore, 1) := by decide +kernel
theorem dX1_init_16 : decode cX1_init 16 = .ok (.dup, 1) := by decide +kernel
theorem dX1_init_17 : decode cX1_init 17 = .ok (.iconst 2, 1) := by decide +kernel
theorem dX1_init_18 : decode cX1_init 18 = .ok (.iconst 1, 1) := by decide +kernel
theorem dX1_init_19 : decode cX1_init 19 = .ok (.iastore, 1) := by decide +kernel
theorem dX1_init_20 : decode cX1_init 20 = .ok (.dup, 1) := by decide +kernel
theorem dX1_init_21 : decode cX1_init 21 = .ok (.iconst 3, 1) := by decide +kernel
theorem dX1_init_22 : decode cX1_init 22 = .ok (.iconst 2, 1) := by decide +kernel
theorem dX1_init_23 : decode cX1_init 23 = .ok (.iastore, 1) := by decide +kernel
theorem dX1_init_24 : decode cX1_init 24 = .ok (.putfield 9, 3) := by decide +kernel
theorem dX1_init_27 : decode cX1_init 27 = .ok (.aload_n 0, 1) := by decide +kernel
theorem dX1_init_28 : decode cX1_init 28 = .ok (.bipush 30, 2) := by decide +kernel
theorem dX1_init_30 : decode cX1_init 30 = .ok (.newarray .int, 2) := by decide +kernel
theorem dX1_init_32 : decode cX1_init 32 = .ok (.putfield 15, 3) := by decide +kernel
theorem dX1_init_35 : decode cX1_init 35 = .ok (.aload_n 0, 1) := by decide +kernel
theorem dX1_init_36 : decode cX1_init 36 = .ok (.bipush 121, 2) := by decide +kernel
theorem dX1_init_38 : decode cX1_init 38 = .ok (.newarray .int, 2) := by decide +kernel
theorem dX1_init_40 : decode cX1_init 40 = .ok (.putfield 18, 3) := by decide +kernel
theorem dX1_init_43 : decode cX1_init 43 = .ok (.aload_n 0, 1) := by decide +kernel
theorem dX1_init_44 : decode cX1_init 44 = .ok (.iconst 0, 1) := by decide +kernel
theorem dX1_init_45 : decode cX1_init 45 = .ok (.putfield 21, 3) := by decide +kernel
theorem dX1_init_48 : decode cX1_init 48 = .ok (.aload_n 0, 1) := by decide +kernel
theorem dX1_init_49 : decode cX1_init 49 = .ok (.bipush 20, 2) := by decide +kernel
theorem dX1_init_51 : decode cX1_init 51 = .ok (.putfield 25, 3) := by decide +kernel
theorem dX1_init_54 : decode cX1_init 54 = .ok (.aload_n 0, 1) := by decide +kernel
theorem dX1_init_55 : decode cX1_init 55 = .ok (.iconst 2, 1) := by decide +kernel
theorem dX1_init_56 : decode cX1_init 56 = .ok (.putfield 28, 3) := by decide +kernel
theorem dX1_init_59 : decode cX1_init 59 = .ok (.return_, 1) := by decide +kernel
theorem dX1_setPrice_0 : decode cX1_setPrice 0 = .ok (.aload_n 0, 1) := by decide +kernel
theorem dX1_setPrice_1 : decode cX1_setPrice 1 = .ok (.getfield 25, 3) := by decide +kernel
theorem dX1_setPrice_4 : decode cX1_setPrice 4 = .ok (.istore_n 2, 1) := by decide +kernel
theorem dX1_setPrice_5 : decode cX1_setPrice 5 = .ok (.aload_n 0, 1) := by decide +kernel
theorem dX1_setPrice_6 : decode cX1_setPrice 6 = .ok (.iload_n 1, 1) := by decide +kernel
theorem dX1_setPrice_7 : decode cX1_setPrice 7 = .ok (.putfield 25, 3) := by decide +kernel
theorem dX1_setPrice_10 : decode cX1_setPrice 10 = .ok (.iload_n 2, 1) := by decide +kernel
theorem dX1_setPrice_11 : decode cX1_setPrice 11 = .ok (.ireturn, 1) := by decide +kernel
theorem dX1_setLoss_0 : decode cX1_setLoss 0 = .ok (.aload_n 0, 1) := by decide +kernel
theorem dX1_setLoss_1 : decode cX1_setLoss 1 = .ok (.getfield 28, 3) := by decide +kernel
theorem dX1_setLoss_4 : decode cX1_setLoss 4 = .ok (.istore_n 2, 1) := by decide +kernel
theorem dX1_setLoss_5 : decode cX1_setLoss 5 = .ok (.aload_n 0, 1) := by decide +kernel
theorem dX1_setLoss_6 : decode cX1_setLoss 6 = .ok (.iload_n 1, 1) := by decide +kernel
theorem dX1_setLoss_7 : decode cX1_setLoss 7 = .ok (.putfield 28, 3) := by decide +kernel
theorem dX1_setLoss_10 : decode cX1_setLoss 10 = .ok (.iload_n 2, 1) := by decide +kernel
theorem dX1_setLoss_11 : decode cX1_setLoss 11 = .ok (.ireturn, 1) := by decide +kernel
theorem dX1_setWear_0 : decode cX1_setWear 0 = .ok (.aload_n 0, 1) := by decide +kernel
theorem dX1_setWear_1 : decode cX1_setWear 1 = .ok (.getfield 9, 3) := by decide +kernel
theorem dX1_setWear_4 : decode cX1_setWear 4 = .ok (.iload_n 1, 1) := by decide +kernel
theorem dX1_setWear_5 : decode cX1_setWear 5 = .ok (.iaload, 1) := by decide +kernel
theorem dX1_setWear_6 : decode cX1_setWear 6 = .ok (.istore_n 3, 1) := by decide +kernel
theorem dX1_setWear_7 : decode cX1_setWear 7 = .ok (.aload_n 0, 1) := by decide +kernel
theorem dX1_setWear_8 : decode cX1_setWear 8 = .ok (.getfield 9, 3) := by decide +kernel
theorem dX1_setWear_11 : decode cX1_setWear 11 = .ok (.iload_n 1, 1) := by decide +kernel
theorem dX1_setWear_12 : decode cX1_setWear 12 = .ok (.iload_n 2, 1) := by decide +kernel
theorem dX1_setWear_13 : decode cX1_setWear 13 = .ok (.iastore, 1) := by decide +kernel
theorem dX1_setWear_14 : decode cX1_setWear 14 = .ok (.iload_n 3, 1) := by decide +kernel
theorem dX1_setWear_15 : decode cX1_setWear 15 = .ok (.ireturn, 1) := by decide +kernel
theorem dX1_isEmpty_0 : decode cX1_isEmpty 0 = .ok (.aload_n 0, 1) := by decide +kernel
theorem dX1_isEmpty_1 : decode cX1_isEmpty 1 = .ok (.getfield 21, 3) := by decide +kernel
theorem dX1_isEmpty_4 : decode cX1_isEmpty 4 = .ok (.ifCond .ne 7, 3) := by decide +kernel
theorem dX1_isEmpty_7 : decode cX1_isEmpty 7 = .ok (.iconst 1, 1) := by decide +kernel
theorem dX1_isEmpty_8 : decode cX1_isEmpty 8 = .ok (.goto 4, 3) := by decide +kernel
theorem dX1_isEmpty_11 : decode cX1_isEmpty 11 = .ok (.iconst 0, 1) := by decide +kernel
theorem dX1_isEmpty_12 : decode cX1_isEmpty 12 = .ok (.ireturn, 1) := by decide +kernel
theorem dX1_size_0 : decode cX1_size 0 = .ok (.aload_n 0, 1) := by decide +kernel
theorem dX1_size_1 : decode cX1_size 1 = .ok (.getfield 21, 3) := by decide +kernel
theorem dX1_size_4 : decode cX1_size 4 = .ok (.ireturn, 1) := by decide +kernel
theorem dX1_add_0 : decode cX1_add 0 = .ok (.aload_n 0, 1) := by decide +kernel
theorem dX1_add_1 : decode cX1_add 1 = .ok (.getfield 21, 3) := by decide +kernel
theorem dX1_add_4 : decode cX1_add 4 = .ok (.bipush 30, 2) := by decide +kernel
theorem dX1_add_6 : decode cX1_add 6 = .ok (.if_icmp .lt 6, 3) := by decide +kernel
theorem dX1_add_9 : decode cX1_add 9 = .ok (.bipush (-5), 2) := by decide +kernel
theorem dX1_add_11 : decode cX1_add 11 = .ok (.ireturn, 1) := by decide +kernel
theorem dX1_add_12 : decode cX1_add 12 = .ok (.aload_n 0, 1) := by decide +kernel
theorem dX1_add_13 : decode cX1_add 13 = .ok (.getfield 15, 3) := by decide +kernel
theorem dX1_add_16 : decode cX1_add 16 = .ok (.aload_n 0, 1) := by decide +kernel
theorem dX1_add_17 : decode cX1_add 17 = .ok (.getfield 21, 3) := by decide +kernel
theorem dX1_add_20 : decode cX1_add 20 = .ok (.iload_n 1, 1) := by decide +kernel
theorem dX1_add_21 : decode cX1_add 21 = .ok (.iastore, 1) := by decide +kernel
theorem dX1_add_22 : decode cX1_add 22 = .ok (.aload_n 0, 1) := by decide +kernel
theorem dX1_add_23 : decode cX1_add 23 = .ok (.dup, 1) := by decide +kernel
theorem dX1_add_24 : decode cX1_add 24 = .ok (.getfield 21, 3) := by decide +kernel
theorem dX1_add_27 : decode cX1_add 27 = .ok (.iconst 1, 1) := by decide +kernel
theorem dX1_add_28 : decode cX1_add 28 = .ok (.iadd, 1) := by decide +kernel
theorem dX1_add_29 : decode cX1_add 29 = .ok (.putfield 21, 3) := by decide +kernel
theorem dX1_add_32 : decode cX1_add 32 = .ok (.aload_n 0, 1) := by decide +kernel
theorem dX1_add_33 : decode cX1_add 33 = .ok (.getfield 21, 3) := by decide +kernel
theorem dX1_add_36 : decode cX1_add 36 = .ok (.ireturn, 1) := by decide +kernel
theorem dX1_clear_0 : decode cX1_clear 0 = .ok (.aload_n 0, 1) := by decide +kernel
theorem dX1_clear_1 : decode cX1_clear 1 = .ok (.getfield 21, 3) := by decide +kernel
theorem dX1_clear_4 : decode cX1_clear 4 = .ok (.istore_n 1, 1) := by decide +kernel
theorem dX1_clear_5 : decode cX1_clear 5 = .ok (.aload_n 0, 1) := by decide +kernel
theorem dX1_clear_6 : decode cX1_clear 6 = .ok (.iconst 0, 1) := by decide +kernel
theorem dX1_clear_7 : decode cX1_clear 7 = .ok (.putfield 21, 3) := by decide +kernel
theorem dX1_clear_10 : decode cX1_clear 10 = .ok (.iload_n 1, 1) := by decide +kernel
theorem dX1_clear_11 : decode cX1_clear 11 = .ok (.ireturn, 1) := by decide +kernel
set_option maxRecDepth 20000 in
theorem ggX1_wholeCost_X1_addUp : GoodIn wsX1_wholeCost wsX1_addUp := goodIn_r _ [6, 1, 7, 8, 9, 10, 11, 12, 13, 14, 15, 16, 17, 18, 19, 20, 21] (by decide +kernel) (by decide +kernel)
set_option maxRecDepth 20000 in
theorem gX1_wholeCost_X1_addUp : GoodIn wsX1_wholeCost (wsV RX1 31 RX1 yX1_addUp wsX1_addUp) := goodIn_app (goodIn_of _ (by decide +kernel)) ggX1_wholeCost_X1_addUp
theorem dX1_wholeCost_0 : decode cX1_wholeCost 0 = .ok (.aload_n 0, 1) := by decide +kernel
theorem dX1_wholeCost_1 : decode cX1_wholeCost 1 = .ok (.iload_n 1, 1) := by decide +kernel
theorem dX1_wholeCost_2 : decode cX1_wholeCost 2 = .ok (.invokevirtual 31, 3) := by decide +kernel
theorem dX1_wholeCost_5 : decode cX1_wholeCost 5 = .ok (.aload_n 0, 1) := by decide +kernel
theorem dX1_wholeCost_6 : decode cX1_wholeCost 6 = .ok (.getfield 18, 3) := by decide +kernel
theorem dX1_wholeCost_9 : decode cX1_wholeCost 9 = .ok (.iload_n 1, 1) := by decide +kernel
theorem dX1_wholeCost_10 : decode cX1_wholeCost 10 = .ok (.iaload, 1) := by decide +kernel
theorem dX1_wholeCost_11 : decode cX1_wholeCost 11 = .ok (.ireturn, 1) := by decide +kernel
set_option maxRecDepth 20000 in
theorem ggX1_bestChange_X1_addUp : GoodIn wsX1_bestChange wsX1_addUp := goodIn_r _ [6, 1, 7, 8, 9, 10, 11, 12, 13, 14, 15, 16, 17, 18, 19, 20, 21] (by decide +kernel) (by decide +kernel)
set_option maxRecDepth 20000 in
theorem gX1_bestChange_X1_addUp : GoodIn wsX1_bestChange (wsV RX1 31 RX1 yX1_addUp wsX1_addUp) := goodIn_app (goodIn_of _ (by decide +kernel)) ggX1_bestChange_X1_addUp
theorem dX1_bestChange_0 : decode cX1_bestChange 0 = .ok (.aload_n 0, 1) := by decide +kernel
theorem dX1_bestChange_1 : decode cX1_bestChange 1 = .ok (.bipush 120, 2) := by decide +kernel
theorem dX1_bestChange_3 : decode cX1_bestChange 3 = .ok (.invokevirtual 31, 3) := by decide +kernel
theorem dX1_bestChange_6 : decode cX1_bestChange 6 = .ok (.iconst 1, 1) := by decide +kernel
theorem dX1_bestChange_7 : decode cX1_bestChange 7 = .ok (.istore_n 1, 1) := by decide +kernel
theorem dX1_bestChange_8 : decode cX1_bestChange 8 = .ok (.iconst 2, 1) := by decide +kernel
theorem dX1_bestChange_9 : decode cX1_bestChange 9 = .ok (.istore_n 2, 1) := by decide +kernel
theorem dX1_bestChange_10 : decode cX1_bestChange 10 = .ok (.iload_n 2, 1) := by decide +kernel
theorem dX1_bestChange_11 : decode cX1_bestChange 11 = .ok (.bipush 120, 2) := by decide +kernel
theorem dX1_bestChange_13 : decode cX1_bestChange 13 = .ok (.if_icmp .gt 30, 3) := by decide +kernel
theorem dX1_bestChange_16 : decode cX1_bestChange 16 = .ok (.aload_n 0, 1) := by decide +kernel
theorem dX1_bestChange_17 : decode cX1_bestChange 17 = .ok (.getfield 18, 3) := by decide +kernel
theorem dX1_bestChange_20 : decode cX1_bestChange 20 = .ok (.iload_n 2, 1) := by decide +kernel
theorem dX1_bestChange_21 : decode cX1_bestChange 21 = .ok (.iaload, 1) := by decide +kernel
theorem dX1_bestChange_22 : decode cX1_bestChange 22 = .ok (.iload_n 1, 1) := by decide +kernel
theorem dX1_bestChange_23 : decode cX1_bestChange 23 = .ok (.imul, 1) := by decide +kernel
theorem dX1_bestChange_24 : decode cX1_bestChange 24 = .ok (.aload_n 0, 1) := by decide +kernel
theorem dX1_bestChange_25 : decode cX1_bestChange 25 = .ok (.getfield 18, 3) := by decide +kernel
theorem dX1_bestChange_28 : decode cX1_bestChange 28 = .ok (.iload_n 1, 1) := by decide +kernel
theorem dX1_bestChange_29 : decode cX1_bestChange 29 = .ok (.iaload, 1) := by decide +kernel
theorem dX1_bestChange_30 : decode cX1_bestChange 30 = .ok (.iload_n 2, 1) := by decide +kernel
theorem dX1_bestChange_31 : decode cX1_bestChange 31 = .ok (.imul, 1) := by decide +kernel
theorem dX1_bestChange_32 : decode cX1_bestChange 32 = .ok (.if_icmp .ge 5, 3) := by decide +kernel
theorem dX1_bestChange_35 : decode cX1_bestChange 35 = .ok (.iload_n 2, 1) := by decide +kernel
theorem dX1_bestChange_36 : decode cX1_bestChange 36 = .ok (.istore_n 1, 1) := by decide +kernel
theorem dX1_bestChange_37 : decode cX1_bestChange 37 = .ok (.iinc 2 1, 3) := by decide +kernel
theorem dX1_bestChange_40 : decode cX1_bestChange 40 = .ok (.goto (-30), 3) := by decide +kernel
theorem dX1_bestChange_43 : decode cX1_bestChange 43 = .ok (.iload_n 1, 1) := by decide +kernel
theorem dX1_bestChange_44 : decode cX1_bestChange 44 = .ok (.ireturn, 1) := by decide +kernel
theorem dX1_addUp_0 : decode cX1_addUp 0 = .ok (.iconst 0, 1) := by decide +kernel
theorem dX1_addUp_1 : decode cX1_addUp 1 = .ok (.istore_n 2, 1) := by decide +kernel
theorem dX1_addUp_2 : decode cX1_addUp 2 = .ok (.iconst 0, 1) := by decide +kernel
theorem dX1_addUp_3 : decode cX1_addUp 3 = .ok (.istore_n 3, 1) := by decide +kernel
theorem dX1_addUp_4 : decode cX1_addUp 4 = .ok (.aload_n 0, 1) := by decide +kernel
theorem dX1_addUp_5 : decode cX1_addUp 5 = .ok (.getfield 18, 3) := by decide +kernel
theorem dX1_addUp_8 : decode cX1_addUp 8 = .ok (.iconst 0, 1) := by decide +kernel
theorem dX1_addUp_9 : decode cX1_addUp 9 = .ok (.aload_n 0, 1) := by decide +kernel
theorem dX1_addUp_10 : decode cX1_addUp 10 = .ok (.getfield 25, 3) := by decide +kernel
theorem dX1_addUp_13 : decode cX1_addUp 13 = .ok (.iastore, 1) := by decide +kernel
theorem dX1_addUp_14 : decode cX1_addUp 14 = .ok (.iconst 1, 1) := by decide +kernel
theorem dX1_addUp_15 : decode cX1_addUp 15 = .ok (.istore 4, 2) := by decide +kernel
theorem dX1_addUp_17 : decode cX1_addUp 17 = .ok (.iload 4, 2) := by decide +kernel
theorem dX1_addUp_19 : decode cX1_addUp 19 = .ok (.iload_n 1, 1) := by decide +kernel
theorem dX1_addUp_20 : decode cX1_addUp 20 = .ok (.if_icmp .gt 72, 3) := by decide +kernel
theorem dX1_addUp_23 : decode cX1_addUp 23 = .ok (.aload_n 0, 1) := by decide +kernel
theorem dX1_addUp_24 : decode cX1_addUp 24 = .ok (.getfield 18, 3) := by decide +kernel
theorem dX1_addUp_27 : decode cX1_addUp 27 = .ok (.iload 4, 2) := by decide +kernel
theorem dX1_addUp_29 : decode cX1_addUp 29 = .ok (.aload_n 0, 1) := by decide +kernel
theorem dX1_addUp_30 : decode cX1_addUp 30 = .ok (.getfield 18, 3) := by decide +kernel
theorem dX1_addUp_33 : decode cX1_addUp 33 = .ok (.iload 4, 2) := by decide +kernel
theorem dX1_addUp_35 : decode cX1_addUp 35 = .ok (.iconst 1, 1) := by decide +kernel
theorem dX1_addUp_36 : decode cX1_addUp 36 = .ok (.isub, 1) := by decide +kernel
theorem dX1_addUp_37 : decode cX1_addUp 37 = .ok (.iaload, 1) := by decide +kernel
theorem dX1_addUp_38 : decode cX1_addUp 38 = .ok (.aload_n 0, 1) := by decide +kernel
theorem dX1_addUp_39 : decode cX1_addUp 39 = .ok (.getfield 28, 3) := by decide +kernel
theorem dX1_addUp_42 : decode cX1_addUp 42 = .ok (.bipush 8, 2) := by decide +kernel
theorem dX1_addUp_44 : decode cX1_addUp 44 = .ok (.iload_n 2, 1) := by decide +kernel
theorem dX1_addUp_45 : decode cX1_addUp 45 = .ok (.bipush 10, 2) := by decide +kernel
theorem dX1_addUp_47 : decode cX1_addUp 47 = .ok (.idiv, 1) := by decide +kernel
theorem dX1_addUp_48 : decode cX1_addUp 48 = .ok (.invokestatic 35, 3) := by decide +kernel
theorem dX1_addUp_51 : decode cX1_addUp 51 = .ok (.imul, 1) := by decide +kernel
theorem dX1_addUp_52 : decode cX1_addUp 52 = .ok (.iadd, 1) := by decide +kernel
theorem dX1_addUp_53 : decode cX1_addUp 53 = .ok (.iastore, 1) := by decide +kernel
theorem dX1_addUp_54 : decode cX1_addUp 54 = .ok (.iload_n 2, 1) := by decide +kernel
theorem dX1_addUp_55 : decode cX1_addUp 55 = .ok (.aload_n 0, 1) := by decide +kernel
theorem dX1_addUp_56 : decode cX1_addUp 56 = .ok (.getfield 9, 3) := by decide +kernel
theorem dX1_addUp_59 : decode cX1_addUp 59 = .ok (.aload_n 0, 1) := by decide +kernel
theorem dX1_addUp_60 : decode cX1_addUp 60 = .ok (.getfield 15, 3) := by decide +kernel
theorem dX1_addUp_63 : decode cX1_addUp 63 = .ok (.iload_n 3, 1) := by decide +kernel
theorem dX1_addUp_64 : decode cX1_addUp 64 = .ok (.iaload, 1) := by decide +kernel
theorem dX1_addUp_65 : decode cX1_addUp 65 = .ok (.iaload, 1) := by decide +kernel
theorem dX1_addUp_66 : decode cX1_addUp 66 = .ok (.iadd, 1) := by decide +kernel
theorem dX1_addUp_67 : decode cX1_addUp 67 = .ok (.istore_n 2, 1) := by decide +kernel
theorem dX1_addUp_68 : decode cX1_addUp 68 = .ok (.iload_n 3, 1) := by decide +kernel
theorem dX1_addUp_69 : decode cX1_addUp 69 = .ok (.iconst 1, 1) := by decide +kernel
theorem dX1_addUp_70 : decode cX1_addUp 70 = .ok (.iadd, 1) := by decide +kernel
theorem dX1_addUp_71 : decode cX1_addUp 71 = .ok (.aload_n 0, 1) := by decide +kernel
theorem dX1_addUp_72 : decode cX1_addUp 72 = .ok (.getfield 21, 3) := by decide +kernel
theorem dX1_addUp_75 : decode cX1_addUp 75 = .ok (.if_icmp .ge 9, 3) := by decide +kernel
theorem dX1_addUp_78 : decode cX1_addUp 78 = .ok (.iload_n 3, 1) := by decide +kernel
theorem dX1_addUp_79 : decode cX1_addUp 79 = .ok (.iconst 1, 1) := by decide +kernel
theorem dX1_addUp_80 : decode cX1_addUp 80 = .ok (.iadd, 1) := by decide +kernel
theorem dX1_addUp_81 : decode cX1_addUp 81 = .ok (.goto 4, 3) := by decide +kernel
theorem dX1_addUp_84 : decode cX1_addUp 84 = .ok (.iconst 0, 1) := by decide +kernel
theorem dX1_addUp_85 : decode cX1_addUp 85 = .ok (.istore_n 3, 1) := by decide +kernel
theorem dX1_addUp_86 : decode cX1_addUp 86 = .ok (.iinc 4 1, 3) := by decide +kernel
theorem dX1_addUp_89 : decode cX1_addUp 89 = .ok (.goto (-72), 3) := by decide +kernel
theorem dX1_addUp_92 : decode cX1_addUp 92 = .ok (.return_, 1) := by decide +kernel
theorem dX2_rowOf_0 : decode cX2_rowOf 0 = .ok (.iload_n 0, 1) := by decide +kernel
theorem dX2_rowOf_1 : decode cX2_rowOf 1 = .ok (.iconst 4, 1) := by decide +kernel
theorem dX2_rowOf_2 : decode cX2_rowOf 2 = .ok (.idiv, 1) := by decide +kernel
theorem dX2_rowOf_3 : decode cX2_rowOf 3 = .ok (.ireturn, 1) := by decide +kernel
theorem dX2_colOf_0 : decode cX2_colOf 0 = .ok (.iload_n 0, 1) := by decide +kernel
theorem dX2_colOf_1 : decode cX2_colOf 1 = .ok (.iconst 4, 1) := by decide +kernel
theorem dX2_colOf_2 : decode cX2_colOf 2 = .ok (.irem, 1) := by decide +kernel
theorem dX2_colOf_3 : decode cX2_colOf 3 = .ok (.ireturn, 1) := by decide +kernel
set_option maxRecDepth 20000 in
theorem ggX2_far_X2_rowOf : GoodIn wsX2_far wsX2_rowOf := goodIn_r _ [11] (by decide +kernel) (by decide +kernel)
set_option maxRecDepth 20000 in
theorem gX2_far_X2_rowOf : GoodIn wsX2_far (va_wsS RX2 7 yX2_rowOf wsX2_rowOf) := goodIn_app (goodIn_of _ (by decide +kernel)) ggX2_far_X2_rowOf
set_option maxRecDepth 20000 in
theorem ggX2_far_X2_colOf : GoodIn wsX2_far wsX2_colOf := goodIn_r _ [14] (by decide +kernel) (by decide +kernel)
set_option maxRecDepth 20000 in
theorem gX2_far_X2_colOf : GoodIn wsX2_far (va_wsS RX2 18 yX2_colOf wsX2_colOf) := goodIn_app (goodIn_of _ (by decide +kernel)) ggX2_far_X2_colOf
theorem dX2_far_0 : decode cX2_far 0 = .ok (.iload_n 0, 1) := by decide +kernel
theorem dX2_far_1 : decode cX2_far 1 = .ok (.invokestatic 7, 3) := by decide +kernel
theorem dX2_far_4 : decode cX2_far 4 = .ok (.iload_n 1, 1) := by decide +kernel
theorem dX2_far_5 : decode cX2_far 5 = .ok (.invokestatic 7, 3) := by decide +kernel
theorem dX2_far_8 : decode cX2_far 8 = .ok (.isub, 1) := by decide +kernel
theorem dX2_far_9 : decode cX2_far 9 = .ok (.invokestatic 13, 3) := by decide +kernel
theorem dX2_far_12 : decode cX2_far 12 = .ok (.iload_n 0, 1) := by decide +kernel
theorem dX2_far_13 : decode cX2_far 13 = .ok (.invokestatic 18, 3) := by decide +kernel
theorem dX2_far_16 : decode cX2_far 16 = .ok (.iload_n 1, 1) := by decide +kernel
theorem dX2_far_17 : decode cX2_far 17 = .ok (.invokestatic 18, 3) := by decide +kernel
theorem dX2_far_20 : decode cX2_far 20 = .ok (.isub, 1) := by decide +kernel
theorem dX2_far_21 : decode cX2_far 21 = .ok (.invokestatic 13, 3) := by decide +kernel
theorem dX2_far_24 : decode cX2_far 24 = .ok (.invokestatic 21, 3) := by decide +kernel
theorem dX2_far_27 : decode cX2_far 27 = .ok (.ireturn, 1) := by decide +kernel
set_option maxRecDepth 20000 in
theorem ggX2_near_X2_rowOf : GoodIn wsX2_near wsX2_rowOf := goodIn_r _ [12] (by decide +kernel) (by decide +kernel)
set_option maxRecDepth 20000 in
theorem gX2_near_X2_rowOf : GoodIn wsX2_near (va_wsS RX2 7 yX2_rowOf wsX2_rowOf) := goodIn_app (goodIn_of _ (by decide +kernel)) ggX2_near_X2_rowOf
set_option maxRecDepth 20000 in
theorem ggX2_near_X2_colOf : GoodIn wsX2_near wsX2_colOf := goodIn_r _ [15] (by decide +kernel) (by decide +kernel)
set_option maxRecDepth 20000 in
theorem gX2_near_X2_colOf : GoodIn wsX2_near (va_wsS RX2 18 yX2_colOf wsX2_colOf) := goodIn_app (goodIn_of _ (by decide +kernel)) ggX2_near_X2_colOf
theorem dX2_near_0 : decode cX2_near 0 = .ok (.iload_n 1, 1) := by decide +kernel
theorem dX2_near_1 : decode cX2_near 1 = .ok (.iconst 3, 1) := by decide +kernel
theorem dX2_near_2 : decode cX2_near 2 = .ok (.if_icmp .lt 6, 3) := by decide +kernel
theorem dX2_near_5 : decode cX2_near 5 = .ok (.ldc 25, 2) := by decide +kernel
theorem dX2_near_7 : decode cX2_near 7 = .ok (.ireturn, 1) := by decide +kernel
theorem dX2_near_8 : decode cX2_near 8 = .ok (.iconst 0, 1) := by decide +kernel
theorem dX2_near_9 : decode cX2_near 9 = .ok (.iload_n 0, 1) := by decide +kernel
theorem dX2_near_10 : decode cX2_near 10 = .ok (.invokestatic 7, 3) := by decide +kernel
theorem dX2_near_13 : decode cX2_near 13 = .ok (.iload_n 1, 1) := by decide +kernel
theorem dX2_near_14 : decode cX2_near 14 = .ok (.isub, 1) := by decide +kernel
theorem dX2_near_15 : decode cX2_near 15 = .ok (.invokestatic 21, 3) := by decide +kernel
theorem dX2_near_18 : decode cX2_near 18 = .ok (.istore_n 2, 1) := by decide +kernel
theorem dX2_near_19 : decode cX2_near 19 = .ok (.iconst 3, 1) := by decide +kernel
theorem dX2_near_20 : decode cX2_near 20 = .ok (.iload_n 0, 1) := by decide +kernel
theorem dX2_near_21 : decode cX2_near 21 = .ok (.invokestatic 7, 3) := by decide +kernel
theorem dX2_near_24 : decode cX2_near 24 = .ok (.iload_n 1, 1) := by decide +kernel
theorem dX2_near_25 : decode cX2_near 25 = .ok (.iadd, 1) := by decide +kernel
theorem dX2_near_26 : decode cX2_near 26 = .ok (.invokestatic 26, 3) := by decide +kernel
theorem dX2_near_29 : decode cX2_near 29 = .ok (.istore_n 3, 1) := by decide +kernel
theorem dX2_near_30 : decode cX2_near 30 = .ok (.iconst 0, 1) := by decide +kernel
theorem dX2_near_31 : decode cX2_near 31 = .ok (.iload_n 0, 1) := by decide +kernel
theorem dX2_near_32 : decode cX2_near 32 = .ok (.invokestatic 18, 3) := by decide +kernel
theorem dX2_near_35 : decode cX2_near 35 = .ok (.iload_n 1, 1) := by decide +kernel
theorem dX2_near_36 : decode cX2_near 36 = .ok (.isub, 1) := by decide +kernel
theorem dX2_near_37 : decode cX2_near 37 = .ok (.invokestatic 21, 3) := by decide +kernel
theorem dX2_near_40 : decode cX2_near 40 = .ok (.istore 4, 2) := by decide +kernel
theorem dX2_near_42 : decode cX2_near 42 = .ok (.iconst 3, 1) := by decide +kernel
theorem dX2_near_43 : decode cX2_near 43 = .ok (.iload_n 0, 1) := by decide +kernel
theorem dX2_near_44 : decode cX2_near 44 = .ok (.invokestatic 18, 3) := by decide +kernel
theorem dX2_near_47 : decode cX2_near 47 = .ok (.iload_n 1, 1) := by decide +kernel
theorem dX2_near_48 : decode cX2_near 48 = .ok (.iadd, 1) := by decide +kernel
theorem dX2_near_49 : decode cX2_near 49 = .ok (.invokestatic 26, 3) := by decide +kernel
theorem dX2_near_52 : decode cX2_near 52 = .ok (.istore 5, 2) := by decide +kernel
theorem dX2_near_54 : decode cX2_near 54 = .ok (.ldc 25, 2) := by decide +kernel
theorem dX2_near_56 : decode cX2_near 56 = .ok (.iconst 4, 1) := by decide +kernel
theorem dX2_near_57 : decode cX2_near 57 = .ok (.iload_n 2, 1) := by decide +kernel
theorem dX2_near_58 : decode cX2_near 58 = .ok (.imul, 1) := by decide +kernel
theorem dX2_near_59 : decode cX2_near 59 = .ok (.ishl, 1) := by decide +kernel
theorem dX2_near_60 : decode cX2_near 60 = .ok (.ldc 25, 2) := by decide +kernel
theorem dX2_near_62 : decode cX2_near 62 = .ok (.iconst 4, 1) := by decide +kernel
theorem dX2_near_63 : decode cX2_near 63 = .ok (.iconst 3, 1) := by decide +kernel
theorem dX2_near_64 : decode cX2_near 64 = .ok (.iload_n 3, 1) := by decide +kernel
theorem dX2_near_65 : decode cX2_near 65 = .ok (.isub, 1) := by decide +kernel
theorem dX2_near_66 : decode cX2_near 66 = .ok (.imul, 1) := by decide +kernel
theorem dX2_near_67 : decode cX2_near 67 = .ok (.ishr, 1) := by decide +kernel
theorem dX2_near_68 : decode cX2_near 68 = .ok (.iand, 1) := by decide +kernel
theorem dX2_near_69 : decode cX2_near 69 = .ok (.istore 6, 2) := by decide +kernel
theorem dX2_near_71 : decode cX2_near 71 = .ok (.bipush 15, 2) := by decide +kernel
theorem dX2_near_73 : decode cX2_near 73 = .ok (.iload 4, 2) := by decide +kernel
theorem dX2_near_75 : decode cX2_near 75 = .ok (.ishl, 1) := by decide +kernel
theorem dX2_near_76 : decode cX2_near 76 = .ok (.bipush 15, 2) := by decide +kernel
theorem dX2_near_78 : decode cX2_near 78 = .ok (.iconst 3, 1) := by decide +kernel
theorem dX2_near_79 : decode cX2_near 79 = .ok (.iload 5, 2) := by decide +kernel
theorem dX2_near_81 : decode cX2_near 81 = .ok (.isub, 1) := by decide +kernel
theorem dX2_near_82 : decode cX2_near 82 = .ok (.ishr, 1) := by decide +kernel
theorem dX2_near_83 : decode cX2_near 83 = .ok (.iand, 1) := by decide +kernel
theorem dX2_near_84 : decode cX2_near 84 = .ok (.sipush 4369, 3) := by decide +kernel
theorem dX2_near_87 : decode cX2_near 87 = .ok (.imul, 1) := by decide +kernel
theorem dX2_near_88 : decode cX2_near 88 = .ok (.istore 7, 2) := by decide +kernel
theorem dX2_near_90 : decode cX2_near 90 = .ok (.iload 6, 2) := by decide +kernel
theorem dX2_near_92 : decode cX2_near 92 = .ok (.iload 7, 2) := by decide +kernel
theorem dX2_near_94 : decode cX2_near 94 = .ok (.iand, 1) := by decide +kernel
theorem dX2_near_95 : decode cX2_near 95 = .ok (.ireturn, 1) := by decide +kernel
theorem dX2_holds_0 : decode cX2_holds 0 = .ok (.iload_n 0, 1) := by decide +kernel
theorem dX2_holds_1 : decode cX2_holds 1 = .ok (.iload_n 1, 1) := by decide +kernel
theorem dX2_holds_2 : decode cX2_holds 2 = .ok (.ishr, 1) := by decide +kernel
theorem dX2_holds_3 : decode cX2_holds 3 = .ok (.iconst 1, 1) := by decide +kernel
theorem dX2_holds_4 : decode cX2_holds 4 = .ok (.iand, 1) := by decide +kernel
theorem dX2_holds_5 : decode cX2_holds 5 = .ok (.iconst 1, 1) := by decide +kernel
theorem dX2_holds_6 : decode cX2_holds 6 = .ok (.if_icmp .ne 7, 3) := by decide +kernel
theorem dX2_holds_9 : decode cX2_holds 9 = .ok (.iconst 1, 1) := by decide +kernel
theorem dX2_holds_10 : decode cX2_holds 10 = .ok (.goto 4, 3) := by decide +kernel
theorem dX2_holds_13 : decode cX2_holds 13 = .ok (.iconst 0, 1) := by decide +kernel
theorem dX2_holds_14 : decode cX2_holds 14 = .ok (.ireturn, 1) := by decide +kernel
theorem dX3_init_0 : decode cX3_init 0 = .ok (.aload_n 0, 1) := by decide +kernel
theorem dX3_init_1 : decode cX3_init 1 = .ok (.invokespecial 3, 3) := by decide +kernel
theorem dX3_init_4 : decode cX3_init 4 = .ok (.aload_n 0, 1) := by decide +kernel
theorem dX3_init_5 : decode cX3_init 5 = .ok (.bipush 16, 2) := by decide +kernel
theorem dX3_init_7 : decode cX3_init 7 = .ok (.newarray .int, 2) := by decide +kernel
theorem dX3_init_9 : decode cX3_init 9 = .ok (.putfield 9, 3) := by decide +kernel
theorem dX3_init_12 : decode cX3_init 12 = .ok (.aload_n 0, 1) := by decide +kernel
theorem dX3_init_13 : decode cX3_init 13 = .ok (.bipush 16, 2) := by decide +kernel
theorem dX3_init_15 : decode cX3_init 15 = .ok (.newarray .int, 2) := by decide +kernel
theorem dX3_init_17 : decode cX3_init 17 = .ok (.putfield 15, 3) := by decide +kernel
theorem dX3_init_20 : decode cX3_init 20 = .ok (.aload_n 0, 1) := by decide +kernel
theorem dX3_init_21 : decode cX3_init 21 = .ok (.aload_n 1, 1) := by decide +kernel
theorem dX3_init_22 : decode cX3_init 22 = .ok (.putfield 18, 3) := by decide +kernel
theorem dX3_init_25 : decode cX3_init 25 = .ok (.aload_n 0, 1) := by decide +kernel
theorem dX3_init_26 : decode cX3_init 26 = .ok (.aload_n 2, 1) := by decide +kernel
theorem dX3_init_27 : decode cX3_init 27 = .ok (.putfield 22, 3) := by decide +kernel
theorem dX3_init_30 : decode cX3_init 30 = .ok (.return_, 1) := by decide +kernel
set_option maxRecDepth 20000 in
theorem ggX3_slackFor_X0_isNet : GoodIn wsX3_slackFor wsX0_isNet := goodIn_r _ [9, 10, 11, 8, 12, 13] (by decide +kernel) (by decide +kernel)
set_option maxRecDepth 20000 in
theorem gX3_slackFor_X0_isNet : GoodIn wsX3_slackFor (va_wsS RX3 26 yX0_isNet wsX0_isNet) := goodIn_app (goodIn_of _ (by decide +kernel)) ggX3_slackFor_X0_isNet
set_option maxRecDepth 20000 in
theorem ggX3_slackFor_X6_reachOf : GoodIn wsX3_slackFor wsX6_reachOf := goodIn_r _ [18, 19, 52, 53, 54, 55] (by decide +kernel) (by decide +kernel)
set_option maxRecDepth 20000 in
theorem gX3_slackFor_X6_reachOf : GoodIn wsX3_slackFor (wsV RX3 32 RX6 yX6_reachOf wsX6_reachOf) := goodIn_app (goodIn_of _ (by decide +kernel)) ggX3_slackFor_X6_reachOf
set_option maxRecDepth 20000 in
theorem ggX3_slackFor_X0_firstMetOf : GoodIn wsX3_slackFor wsX0_firstMetOf := goodIn_r _ [12, 13] (by decide +kernel) (by decide +kernel)
set_option maxRecDepth 20000 in
theorem gX3_slackFor_X0_firstMetOf : GoodIn wsX3_slackFor (va_wsS RX3 38 yX0_firstMetOf wsX0_firstMetOf) := goodIn_app (goodIn_of _ (by decide +kernel)) ggX3_slackFor_X0_firstMetOf
set_option maxRecDepth 20000 in
theorem ggX3_slackFor_X0_landingOf : GoodIn wsX3_slackFor wsX0_landingOf := goodIn_r _ [23, 13] (by decide +kernel) (by decide +kernel)
set_option maxRecDepth 20000 in
theorem gX3_slackFor_X0_landingOf : GoodIn wsX3_slackFor (va_wsS RX3 42 yX0_landingOf wsX0_landingOf) := goodIn_app (goodIn_of _ (by decide +kernel)) ggX3_slackFor_X0_landingOf
set_option maxRecDepth 20000 in
theorem ggX3_slackFor_X0_cellAt : GoodIn wsX3_slackFor wsX0_cellAt := goodIn_r _ [26, 27, 28, 22, 8, 23, 13] (by decide +kernel) (by decide +kernel)
set_option maxRecDepth 20000 in
theorem gX3_slackFor_X0_cellAt : GoodIn wsX3_slackFor (va_wsS RX3 45 yX0_cellAt wsX0_cellAt) := goodIn_app (goodIn_of _ (by decide +kernel)) ggX3_slackFor_X0_cellAt
set_option maxRecDepth 20000 in
theorem ggX3_slackFor_X2_far : GoodIn wsX3_slackFor wsX2_far := goodIn_r _ [32, 33, 34, 4, 35, 36, 3, 5, 37, 38, 31, 39, 40, 41, 42] (by decide +kernel) (by decide +kernel)
set_option maxRecDepth 20000 in
theorem gX3_slackFor_X2_far : GoodIn wsX3_slackFor (va_wsS RX3 49 yX2_far wsX2_far) := goodIn_app (goodIn_of _ (by decide +kernel)) ggX3_slackFor_X2_far
set_option maxRecDepth 20000 in
theorem ggX3_slackFor_X6_comes : GoodIn wsX3_slackFor wsX6_comes := goodIn_r _ [46, 47, 52, 53, 54, 55] (by decide +kernel) (by decide +kernel)
set_option maxRecDepth 20000 in
theorem gX3_slackFor_X6_comes : GoodIn wsX3_slackFor (wsV RX3 60 RX6 yX6_comes wsX6_comes) := goodIn_app (goodIn_of _ (by decide +kernel)) ggX3_slackFor_X6_comes
theorem dX3_slackFor_0 : decode cX3_slackFor 0 = .ok (.lload_n 3, 1) := by decide +kernel
theorem dX3_slackFor_1 : decode cX3_slackFor 1 = .ok (.invokestatic 26, 3) := by decide +kernel
theorem dX3_slackFor_4 : decode cX3_slackFor 4 = .ok (.ifCond .eq 6, 3) := by decide +kernel
theorem dX3_slackFor_7 : decode cX3_slackFor 7 = .ok (.bipush (-100), 2) := by decide +kernel
theorem dX3_slackFor_9 : decode cX3_slackFor 9 = .ok (.ireturn, 1) := by decide +kernel
theorem dX3_slackFor_10 : decode cX3_slackFor 10 = .ok (.aload_n 0, 1) := by decide +kernel
theorem dX3_slackFor_11 : decode cX3_slackFor 11 = .ok (.getfield 22, 3) := by decide +kernel
theorem dX3_slackFor_14 : decode cX3_slackFor 14 = .ok (.iload_n 1, 1) := by decide +kernel
theorem dX3_slackFor_15 : decode cX3_slackFor 15 = .ok (.invokevirtual 32, 3) := by decide +kernel
theorem dX3_slackFor_18 : decode cX3_slackFor 18 = .ok (.istore 5, 2) := by decide +kernel
theorem dX3_slackFor_20 : decode cX3_slackFor 20 = .ok (.bipush (-100), 2) := by decide +kernel
theorem dX3_slackFor_22 : decode cX3_slackFor 22 = .ok (.istore 6, 2) := by decide +kernel
theorem dX3_slackFor_24 : decode cX3_slackFor 24 = .ok (.lload_n 3, 1) := by decide +kernel
theorem dX3_slackFor_25 : decode cX3_slackFor 25 = .ok (.invokestatic 38, 3) := by decide +kernel
theorem dX3_slackFor_28 : decode cX3_slackFor 28 = .ok (.istore 7, 2) := by decide +kernel
theorem dX3_slackFor_30 : decode cX3_slackFor 30 = .ok (.iload 7, 2) := by decide +kernel
theorem dX3_slackFor_32 : decode cX3_slackFor 32 = .ok (.lload_n 3, 1) := by decide +kernel
theorem dX3_slackFor_33 : decode cX3_slackFor 33 = .ok (.invokestatic 42, 3) := by decide +kernel
theorem dX3_slackFor_36 : decode cX3_slackFor 36 = .ok (.if_icmp .gt 48, 3) := by decide +kernel
theorem dX3_slackFor_39 : decode cX3_slackFor 39 = .ok (.iconst 0, 1) := by decide +kernel
theorem dX3_slackFor_40 : decode cX3_slackFor 40 = .ok (.iload_n 2, 1) := by decide +kernel
theorem dX3_slackFor_41 : decode cX3_slackFor 41 = .ok (.lload_n 3, 1) := by decide +kernel
theorem dX3_slackFor_42 : decode cX3_slackFor 42 = .ok (.iload 7, 2) := by decide +kernel
theorem dX3_slackFor_44 : decode cX3_slackFor 44 = .ok (.invokestatic 45, 3) := by decide +kernel
theorem dX3_slackFor_47 : decode cX3_slackFor 47 = .ok (.invokestatic 49, 3) := by decide +kernel
theorem dX3_slackFor_50 : decode cX3_slackFor 50 = .ok (.iload 5, 2) := by decide +kernel
theorem dX3_slackFor_52 : decode cX3_slackFor 52 = .ok (.isub, 1) := by decide +kernel
theorem dX3_slackFor_53 : decode cX3_slackFor 53 = .ok (.invokestatic 55, 3) := by decide +kernel
theorem dX3_slackFor_56 : decode cX3_slackFor 56 = .ok (.istore 8, 2) := by decide +kernel
theorem dX3_slackFor_58 : decode cX3_slackFor 58 = .ok (.iload 6, 2) := by decide +kernel
theorem dX3_slackFor_60 : decode cX3_slackFor 60 = .ok (.aload_n 0, 1) := by decide +kernel
theorem dX3_slackFor_61 : decode cX3_slackFor 61 = .ok (.getfield 22, 3) := by decide +kernel
theorem dX3_slackFor_64 : decode cX3_slackFor 64 = .ok (.iload_n 1, 1) := by decide +kernel
theorem dX3_slackFor_65 : decode cX3_slackFor 65 = .ok (.iload 7, 2) := by decide +kernel
theorem dX3_slackFor_67 : decode cX3_slackFor 67 = .ok (.invokevirtual 60, 3) := by decide +kernel
theorem dX3_slackFor_70 : decode cX3_slackFor 70 = .ok (.iload 8, 2) := by decide +kernel
theorem dX3_slackFor_72 : decode cX3_slackFor 72 = .ok (.isub, 1) := by decide +kernel
theorem dX3_slackFor_73 : decode cX3_slackFor 73 = .ok (.invokestatic 55, 3) := by decide +kernel
theorem dX3_slackFor_76 : decode cX3_slackFor 76 = .ok (.istore 6, 2) := by decide +kernel
theorem dX3_slackFor_78 : decode cX3_slackFor 78 = .ok (.iinc 7 1, 3) := by decide +kernel
theorem dX3_slackFor_81 : decode cX3_slackFor 81 = .ok (.goto (-51), 3) := by decide +kernel
theorem dX3_slackFor_84 : decode cX3_slackFor 84 = .ok (.iload 6, 2) := by decide +kernel
theorem dX3_slackFor_86 : decode cX3_slackFor 86 = .ok (.ireturn, 1) := by decide +kernel
set_option maxRecDepth 20000 in
theorem ggX3_bestStrike_X0_knownPath : GoodIn wsX3_bestStrike wsX0_knownPath := goodIn_r _ [6, 7, 63, 64, 65, 66, 67] (by decide +kernel) (by decide +kernel)
set_option maxRecDepth 20000 in
theorem gX3_bestStrike_X0_knownPath : GoodIn wsX3_bestStrike (wsV RX3 63 RX0 yX0_knownPath wsX0_knownPath) := goodIn_app (goodIn_of _ (by decide +kernel)) ggX3_bestStrike_X0_knownPath
set_option maxRecDepth 20000 in
theorem ggX3_bestStrike_X0_isNet : GoodIn wsX3_bestStrike wsX0_isNet := goodIn_r _ [10, 11, 12, 5, 13, 14] (by decide +kernel) (by decide +kernel)
set_option maxRecDepth 20000 in
theorem gX3_bestStrike_X0_isNet : GoodIn wsX3_bestStrike (va_wsS RX3 26 yX0_isNet wsX0_isNet) := goodIn_app (goodIn_of _ (by decide +kernel)) ggX3_bestStrike_X0_isNet
set_option maxRecDepth 20000 in
theorem ggX3_bestStrike_X3_slackFor : GoodIn wsX3_bestStrike wsX3_slackFor := goodIn_r _ [19, 20, 21, 22, 23, 24, 8, 9, 5, 10, 11, 12, 13, 14, 25, 26, 27, 28, 29, 30, 31, 32, 33, 34, 35, 36, 37, 38, 39, 40, 41, 42, 43, 44, 45, 46, 47, 48, 49, 50, 51, 52, 53, 54, 55, 56, 57, 58, 59, 60, 61, 62, 68, 69, 70, 71] (by decide +kernel) (by decide +kernel)
set_option maxRecDepth 20000 in
theorem gX3_bestStrike_X3_slackFor : GoodIn wsX3_bestStrike (wsV RX3 67 RX3 yX3_slackFor wsX3_slackFor) := goodIn_app (goodIn_of _ (by decide +kernel)) ggX3_bestStrike_X3_slackFor
theorem dX3_bestStrike_0 : decode cX3_bestStrike 0 = .ok (.iconst (-1), 1) := by decide +kernel
theorem dX3_bestStrike_1 : decode cX3_bestStrike 1 = .ok (.istore 4, 2) := by decide +kernel
theorem dX3_bestStrike_3 : decode cX3_bestStrike 3 = .ok (.iconst 0, 1) := by decide +kernel
theorem dX3_bestStrike_4 : decode cX3_bestStrike 4 = .ok (.istore 5, 2) := by decide +kernel
theorem dX3_bestStrike_6 : decode cX3_bestStrike 6 = .ok (.iconst 0, 1) := by decide +kernel
theorem dX3_bestStrike_7 : decode cX3_bestStrike 7 = .ok (.istore 6, 2) := by decide +kernel
theorem dX3_bestStrike_9 : decode cX3_bestStrike 9 = .ok (.iload 6, 2) := by decide +kernel
theorem dX3_bestStrike_11 : decode cX3_bestStrike 11 = .ok (.bipush 64, 2) := by decide +kernel
theorem dX3_bestStrike_13 : decode cX3_bestStrike 13 = .ok (.if_icmp .ge 63, 3) := by decide +kernel
theorem dX3_bestStrike_16 : decode cX3_bestStrike 16 = .ok (.aload_n 0, 1) := by decide +kernel
theorem dX3_bestStrike_17 : decode cX3_bestStrike 17 = .ok (.getfield 18, 3) := by decide +kernel
theorem dX3_bestStrike_20 : decode cX3_bestStrike 20 = .ok (.iload_n 1, 1) := by decide +kernel
theorem dX3_bestStrike_21 : decode cX3_bestStrike 21 = .ok (.iload 6, 2) := by decide +kernel
theorem dX3_bestStrike_23 : decode cX3_bestStrike 23 = .ok (.invokevirtual 63, 3) := by decide +kernel
theorem dX3_bestStrike_26 : decode cX3_bestStrike 26 = .ok (.lstore 7, 2) := by decide +kernel
theorem dX3_bestStrike_28 : decode cX3_bestStrike 28 = .ok (.lload 7, 2) := by decide +kernel
theorem dX3_bestStrike_30 : decode cX3_bestStrike 30 = .ok (.invokestatic 26, 3) := by decide +kernel
theorem dX3_bestStrike_33 : decode cX3_bestStrike 33 = .ok (.ifCond .eq 6, 3) := by decide +kernel
theorem dX3_bestStrike_36 : decode cX3_bestStrike 36 = .ok (.goto 34, 3) := by decide +kernel
theorem dX3_bestStrike_39 : decode cX3_bestStrike 39 = .ok (.aload_n 0, 1) := by decide +kernel
theorem dX3_bestStrike_40 : decode cX3_bestStrike 40 = .ok (.iload_n 2, 1) := by decide +kernel
theorem dX3_bestStrike_41 : decode cX3_bestStrike 41 = .ok (.iload_n 3, 1) := by decide +kernel
theorem dX3_bestStrike_42 : decode cX3_bestStrike 42 = .ok (.lload 7, 2) := by decide +kernel
theorem dX3_bestStrike_44 : decode cX3_bestStrike 44 = .ok (.invokevirtual 67, 3) := by decide +kernel
theorem dX3_bestStrike_47 : decode cX3_bestStrike 47 = .ok (.istore 9, 2) := by decide +kernel
theorem dX3_bestStrike_49 : decode cX3_bestStrike 49 = .ok (.iload 4, 2) := by decide +kernel
theorem dX3_bestStrike_51 : decode cX3_bestStrike 51 = .ok (.iconst (-1), 1) := by decide +kernel
theorem dX3_bestStrike_52 : decode cX3_bestStrike 52 = .ok (.if_icmp .eq 10, 3) := by decide +kernel
theorem dX3_bestStrike_55 : decode cX3_bestStrike 55 = .ok (.iload 9, 2) := by decide +kernel
theorem dX3_bestStrike_57 : decode cX3_bestStrike 57 = .ok (.iload 5, 2) := by decide +kernel
theorem dX3_bestStrike_59 : decode cX3_bestStrike 59 = .ok (.if_icmp .ge 11, 3) := by decide +kernel
theorem dX3_bestStrike_62 : decode cX3_bestStrike 62 = .ok (.iload 6, 2) := by decide +kernel
theorem dX3_bestStrike_64 : decode cX3_bestStrike 64 = .ok (.istore 4, 2) := by decide +kernel
theorem dX3_bestStrike_66 : decode cX3_bestStrike 66 = .ok (.iload 9, 2) := by decide +kernel
theorem dX3_bestStrike_68 : decode cX3_bestStrike 68 = .ok (.istore 5, 2) := by decide +kernel
theorem dX3_bestStrike_70 : decode cX3_bestStrike 70 = .ok (.iinc 6 1, 3) := by decide +kernel
theorem dX3_bestStrike_73 : decode cX3_bestStrike 73 = .ok (.goto (-64), 3) := by decide +kernel
theorem dX3_bestStrike_76 : decode cX3_bestStrike 76 = .ok (.iload 4, 2) := by decide +kernel
theorem dX3_bestStrike_78 : decode cX3_bestStrike 78 = .ok (.ireturn, 1) := by decide +kernel
set_option maxRecDepth 20000 in
theorem ggX3_leastSlack_X3_bestStrike : GoodIn wsX3_leastSlack wsX3_bestStrike := goodIn_r _ [6, 1, 7, 8, 9, 10, 11, 12, 13, 14, 15, 16, 17, 18, 19, 20, 21, 22, 5, 23, 24, 25, 26, 27, 28, 29, 30, 31, 32, 33, 34, 35, 36, 37, 38, 39, 40, 41, 42, 43, 44, 45, 46, 47, 48, 49, 50, 51, 52, 53, 54, 55, 56, 57, 58, 59, 60, 61, 62, 63, 64, 65, 66, 67, 68, 69, 70, 71, 72, 73, 74, 75] (by decide +kernel) (by decide +kernel)
set_option maxRecDepth 20000 in
theorem gX3_leastSlack_X3_bestStrike : GoodIn wsX3_leastSlack (wsV RX3 71 RX3 yX3_bestStrike wsX3_bestStrike) := goodIn_app (goodIn_of _ (by decide +kernel)) ggX3_leastSlack_X3_bestStrike
set_option maxRecDepth 20000 in
theorem ggX3_leastSlack_X0_knownPath : GoodIn wsX3_leastSlack wsX0_knownPath := goodIn_r _ [11, 12, 67, 68, 69, 70, 71] (by decide +kernel) (by decide +kernel)
set_option maxRecDepth 20000 in
theorem gX3_leastSlack_X0_knownPath : GoodIn wsX3_leastSlack (wsV RX3 63 RX0 yX0_knownPath wsX0_knownPath) := goodIn_app (goodIn_of _ (by decide +kernel)) ggX3_leastSlack_X0_knownPath
set_option maxRecDepth 20000 in
theorem ggX3_leastSlack_X3_slackFor : GoodIn wsX3_leastSlack wsX3_slackFor := goodIn_r _ [23, 24, 25, 26, 27, 28, 13, 14, 10, 15, 16, 17, 18, 19, 29, 30, 31, 32, 33, 34, 35, 36, 37, 38, 39, 40, 41, 42, 43, 44, 45, 46, 47, 48, 49, 50, 51, 52, 53, 54, 55, 56, 57, 58, 59, 60, 61, 62, 63, 64, 65, 66, 72, 73, 74, 75] (by decide +kernel) (by decide +kernel)
set_option maxRecDepth 20000 in
theorem gX3_leastSlack_X3_slackFor : GoodIn wsX3_leastSlack (wsV RX3 67 RX3 yX3_slackFor wsX3_slackFor) := goodIn_app (goodIn_of _ (by decide +kernel)) ggX3_leastSlack_X3_slackFor
theorem dX3_leastSlack_0 : decode cX3_leastSlack 0 = .ok (.aload_n 0, 1) := by decide +kernel
theorem dX3_leastSlack_1 : decode cX3_leastSlack 1 = .ok (.iload_n 1, 1) := by decide +kernel
theorem dX3_leastSlack_2 : decode cX3_leastSlack 2 = .ok (.iload_n 2, 1) := by decide +kernel
theorem dX3_leastSlack_3 : decode cX3_leastSlack 3 = .ok (.iload_n 3, 1) := by decide +kernel
theorem dX3_leastSlack_4 : decode cX3_leastSlack 4 = .ok (.invokevirtual 71, 3) := by decide +kernel
theorem dX3_leastSlack_7 : decode cX3_leastSlack 7 = .ok (.istore 4, 2) := by decide +kernel
theorem dX3_leastSlack_9 : decode cX3_leastSlack 9 = .ok (.iload 4, 2) := by decide +kernel
theorem dX3_leastSlack_11 : decode cX3_leastSlack 11 = .ok (.iconst (-1), 1) := by decide +kernel
theorem dX3_leastSlack_12 : decode cX3_leastSlack 12 = .ok (.if_icmp .ne 8, 3) := by decide +kernel
theorem dX3_leastSlack_15 : decode cX3_leastSlack 15 = .ok (.bipush (-100), 2) := by decide +kernel
theorem dX3_leastSlack_17 : decode cX3_leastSlack 17 = .ok (.goto 19, 3) := by decide +kernel
theorem dX3_leastSlack_20 : decode cX3_leastSlack 20 = .ok (.aload_n 0, 1) := by decide +kernel
theorem dX3_leastSlack_21 : decode cX3_leastSlack 21 = .ok (.iload_n 2, 1) := by decide +kernel
theorem dX3_leastSlack_22 : decode cX3_leastSlack 22 = .ok (.iload_n 3, 1) := by decide +kernel
theorem dX3_leastSlack_23 : decode cX3_leastSlack 23 = .ok (.aload_n 0, 1) := by decide +kernel
theorem dX3_leastSlack_24 : decode cX3_leastSlack 24 = .ok (.getfield 18, 3) := by decide +kernel
theorem dX3_leastSlack_27 : decode cX3_leastSlack 27 = .ok (.iload_n 1, 1) := by decide +kernel
theorem dX3_leastSlack_28 : decode cX3_leastSlack 28 = .ok (.iload 4, 2) := by decide +kernel
theorem dX3_leastSlack_30 : decode cX3_leastSlack 30 = .ok (.invokevirtual 63, 3) := by decide +kernel
theorem dX3_leastSlack_33 : decode cX3_leastSlack 33 = .ok (.invokevirtual 67, 3) := by decide +kernel
theorem dX3_leastSlack_36 : decode cX3_leastSlack 36 = .ok (.ireturn, 1) := by decide +kernel
set_option maxRecDepth 20000 in
theorem ggX3_bestStand_X3_leastSlack : GoodIn wsX3_bestStand wsX3_leastSlack := goodIn_r _ [5, 6, 7, 8, 9, 4, 10, 11, 12, 13, 14, 15, 16, 17, 18, 19, 20, 21, 22, 23, 24, 25, 26, 27, 28, 29, 30, 31, 32, 33, 34, 35, 36, 37, 38, 39, 40, 41, 42, 43, 44, 45, 46, 47, 48, 49, 50, 51, 52, 53, 54, 55, 56, 57, 58, 59, 60, 61, 62, 63, 64, 65, 66, 67, 68, 69, 70, 71, 72, 73, 74, 75, 76, 77, 78, 79] (by decide +kernel) (by decide +kernel)
set_option maxRecDepth 20000 in
theorem gX3_bestStand_X3_leastSlack : GoodIn wsX3_bestStand (wsV RX3 75 RX3 yX3_leastSlack wsX3_leastSlack) := goodIn_app (goodIn_of _ (by decide +kernel)) ggX3_bestStand_X3_leastSlack
theorem dX3_bestStand_0 : decode cX3_bestStand 0 = .ok (.iconst (-1), 1) := by decide +kernel
theorem dX3_bestStand_1 : decode cX3_bestStand 1 = .ok (.istore_n 3, 1) := by decide +kernel
theorem dX3_bestStand_2 : decode cX3_bestStand 2 = .ok (.bipush (-100), 2) := by decide +kernel
theorem dX3_bestStand_4 : decode cX3_bestStand 4 = .ok (.istore 4, 2) := by decide +kernel
theorem dX3_bestStand_6 : decode cX3_bestStand 6 = .ok (.iconst 0, 1) := by decide +kernel
theorem dX3_bestStand_7 : decode cX3_bestStand 7 = .ok (.istore 5, 2) := by decide +kernel
theorem dX3_bestStand_9 : decode cX3_bestStand 9 = .ok (.iload 5, 2) := by decide +kernel
theorem dX3_bestStand_11 : decode cX3_bestStand 11 = .ok (.bipush 16, 2) := by decide +kernel
theorem dX3_bestStand_13 : decode cX3_bestStand 13 = .ok (.if_icmp .ge 33, 3) := by decide +kernel
theorem dX3_bestStand_16 : decode cX3_bestStand 16 = .ok (.aload_n 0, 1) := by decide +kernel
theorem dX3_bestStand_17 : decode cX3_bestStand 17 = .ok (.iload_n 2, 1) := by decide +kernel
theorem dX3_bestStand_18 : decode cX3_bestStand 18 = .ok (.iload_n 1, 1) := by decide +kernel
theorem dX3_bestStand_19 : decode cX3_bestStand 19 = .ok (.iload 5, 2) := by decide +kernel
theorem dX3_bestStand_21 : decode cX3_bestStand 21 = .ok (.invokevirtual 75, 3) := by decide +kernel
theorem dX3_bestStand_24 : decode cX3_bestStand 24 = .ok (.istore 6, 2) := by decide +kernel
theorem dX3_bestStand_26 : decode cX3_bestStand 26 = .ok (.iload 6, 2) := by decide +kernel
theorem dX3_bestStand_28 : decode cX3_bestStand 28 = .ok (.iload 4, 2) := by decide +kernel
theorem dX3_bestStand_30 : decode cX3_bestStand 30 = .ok (.if_icmp .le 10, 3) := by decide +kernel
theorem dX3_bestStand_33 : decode cX3_bestStand 33 = .ok (.iload 5, 2) := by decide +kernel
theorem dX3_bestStand_35 : decode cX3_bestStand 35 = .ok (.istore_n 3, 1) := by decide +kernel
theorem dX3_bestStand_36 : decode cX3_bestStand 36 = .ok (.iload 6, 2) := by decide +kernel
theorem dX3_bestStand_38 : decode cX3_bestStand 38 = .ok (.istore 4, 2) := by decide +kernel
theorem dX3_bestStand_40 : decode cX3_bestStand 40 = .ok (.iinc 5 1, 3) := by decide +kernel
theorem dX3_bestStand_43 : decode cX3_bestStand 43 = .ok (.goto (-34), 3) := by decide +kernel
theorem dX3_bestStand_46 : decode cX3_bestStand 46 = .ok (.iload_n 3, 1) := by decide +kernel
theorem dX3_bestStand_47 : decode cX3_bestStand 47 = .ok (.ireturn, 1) := by decide +kernel
set_option maxRecDepth 20000 in
theorem ggX3_canForce_X0_workOutFrom : GoodIn wsX3_canForce wsX0_workOutFrom := goodIn_r _ [7, 8, 9, 10, 6, 11, 12, 13, 14, 15, 16, 17, 18, 19, 20, 21, 22, 23, 24, 25, 26, 27, 28, 29, 30, 31, 32, 33, 34, 35, 36, 37, 38, 39, 40, 41, 42, 43, 44, 45, 46, 47, 48, 49, 50, 51, 52, 121, 122, 123, 124, 125] (by decide +kernel) (by decide +kernel)
set_option maxRecDepth 20000 in
theorem gX3_canForce_X0_workOutFrom : GoodIn wsX3_canForce (wsV RX3 78 RX0 yX0_workOutFrom wsX0_workOutFrom) := goodIn_app (goodIn_of _ (by decide +kernel)) ggX3_canForce_X0_workOutFrom
set_option maxRecDepth 20000 in
theorem ggX3_canForce_X3_missedFrom : GoodIn wsX3_canForce wsX3_missedFrom := goodIn_r _ [57, 1, 58, 59, 60, 61, 62, 6, 63, 12, 64, 65, 66, 67, 68, 69, 70, 71, 72, 73, 74, 75, 76, 77, 78, 79, 80, 81, 82, 83, 84, 85, 86, 87, 88, 89, 90, 91, 92, 32, 93, 94, 95, 48, 20, 49, 96, 19, 21, 97, 31, 33, 98, 35, 36, 117, 118, 119, 120, 121, 122, 123, 124, 125, 126, 127, 128, 129] (by decide +kernel) (by decide +kernel)
set_option maxRecDepth 20000 in
theorem gX3_canForce_X3_missedFrom : GoodIn wsX3_canForce (wsV RX3 82 RX3 yX3_missedFrom wsX3_missedFrom) := goodIn_app (goodIn_of _ (by decide +kernel)) ggX3_canForce_X3_missedFrom
set_option maxRecDepth 20000 in
theorem ggX3_canForce_X2_holds : GoodIn wsX3_canForce wsX2_holds := goodIn_r _ [101] (by decide +kernel) (by decide +kernel)
set_option maxRecDepth 20000 in
theorem gX3_canForce_X2_holds : GoodIn wsX3_canForce (va_wsS RX3 85 yX2_holds wsX2_holds) := goodIn_app (goodIn_of _ (by decide +kernel)) ggX3_canForce_X2_holds
set_option maxRecDepth 20000 in
theorem ggX3_canForce_X3_widenWon : GoodIn wsX3_canForce wsX3_widenWon := goodIn_r _ [105, 106, 2, 107, 108, 109, 56, 110, 59, 1, 58, 60, 61, 62, 6, 63, 12, 64, 65, 66, 67, 68, 69, 70, 71, 72, 73, 74, 75, 76, 77, 78, 79, 80, 81, 82, 83, 84, 85, 86, 87, 88, 89, 90, 91, 92, 32, 93, 94, 95, 48, 20, 49, 96, 19, 21, 97, 31, 33, 98, 35, 36, 111, 112, 113, 114, 115, 116, 117, 118, 119, 120, 121, 122, 123, 124, 125, 126, 127, 128, 129] (by decide +kernel) (by decide +kernel)
set_option maxRecDepth 20000 in
theorem gX3_canForce_X3_widenWon : GoodIn wsX3_canForce (wsV RX3 89 RX3 yX3_widenWon wsX3_widenWon) := goodIn_app (goodIn_of _ (by decide +kernel)) ggX3_canForce_X3_widenWon
theorem dX3_canForce_0 : decode cX3_canForce 0 = .ok (.aload_n 0, 1) := by decide +kernel
theorem dX3_canForce_1 : decode cX3_canForce 1 = .ok (.getfield 18, 3) := by decide +kernel
theorem dX3_canForce_4 : decode cX3_canForce 4 = .ok (.iload_n 3, 1) := by decide +kernel
theorem dX3_canForce_5 : decode cX3_canForce 5 = .ok (.invokevirtual 78, 3) := by decide +kernel
theorem dX3_canForce_8 : decode cX3_canForce 8 = .ok (.aload_n 0, 1) := by decide +kernel
theorem dX3_canForce_9 : decode cX3_canForce 9 = .ok (.iload_n 2, 1) := by decide +kernel
theorem dX3_canForce_10 : decode cX3_canForce 10 = .ok (.iload_n 3, 1) := by decide +kernel
theorem dX3_canForce_11 : decode cX3_canForce 11 = .ok (.invokevirtual 82, 3) := by decide +kernel
theorem dX3_canForce_14 : decode cX3_canForce 14 = .ok (.iload 4, 2) := by decide +kernel
theorem dX3_canForce_16 : decode cX3_canForce 16 = .ok (.invokestatic 85, 3) := by decide +kernel
theorem dX3_canForce_19 : decode cX3_canForce 19 = .ok (.ifCond .eq 5, 3) := by decide +kernel
theorem dX3_canForce_22 : decode cX3_canForce 22 = .ok (.iconst 1, 1) := by decide +kernel
theorem dX3_canForce_23 : decode cX3_canForce 23 = .ok (.ireturn, 1) := by decide +kernel
theorem dX3_canForce_24 : decode cX3_canForce 24 = .ok (.iload 5, 2) := by decide +kernel
theorem dX3_canForce_26 : decode cX3_canForce 26 = .ok (.iconst 1, 1) := by decide +kernel
theorem dX3_canForce_27 : decode cX3_canForce 27 = .ok (.if_icmp .ne 5, 3) := by decide +kernel
theorem dX3_canForce_30 : decode cX3_canForce 30 = .ok (.iconst 0, 1) := by decide +kernel
theorem dX3_canForce_31 : decode cX3_canForce 31 = .ok (.ireturn, 1) := by decide +kernel
theorem dX3_canForce_32 : decode cX3_canForce 32 = .ok (.iconst 0, 1) := by decide +kernel
theorem dX3_canForce_33 : decode cX3_canForce 33 = .ok (.istore 6, 2) := by decide +kernel
theorem dX3_canForce_35 : decode cX3_canForce 35 = .ok (.iload 6, 2) := by decide +kernel
theorem dX3_canForce_37 : decode cX3_canForce 37 = .ok (.bipush 16, 2) := by decide +kernel
theorem dX3_canForce_39 : decode cX3_canForce 39 = .ok (.if_icmp .ge 32, 3) := by decide +kernel
theorem dX3_canForce_42 : decode cX3_canForce 42 = .ok (.aload_n 0, 1) := by decide +kernel
theorem dX3_canForce_43 : decode cX3_canForce 43 = .ok (.getfield 18, 3) := by decide +kernel
theorem dX3_canForce_46 : decode cX3_canForce 46 = .ok (.iload 6, 2) := by decide +kernel
theorem dX3_canForce_48 : decode cX3_canForce 48 = .ok (.invokevirtual 78, 3) := by decide +kernel
theorem dX3_canForce_51 : decode cX3_canForce 51 = .ok (.aload_n 0, 1) := by decide +kernel
theorem dX3_canForce_52 : decode cX3_canForce 52 = .ok (.getfield 9, 3) := by decide +kernel
theorem dX3_canForce_55 : decode cX3_canForce 55 = .ok (.iload 6, 2) := by decide +kernel
theorem dX3_canForce_57 : decode cX3_canForce 57 = .ok (.aload_n 0, 1) := by decide +kernel
theorem dX3_canForce_58 : decode cX3_canForce 58 = .ok (.iload_n 2, 1) := by decide +kernel
theorem dX3_canForce_59 : decode cX3_canForce 59 = .ok (.iload 6, 2) := by decide +kernel
theorem dX3_canForce_61 : decode cX3_canForce 61 = .ok (.invokevirtual 82, 3) := by decide +kernel
theorem dX3_canForce_64 : decode cX3_canForce 64 = .ok (.iastore, 1) := by decide +kernel
theorem dX3_canForce_65 : decode cX3_canForce 65 = .ok (.iinc 6 1, 3) := by decide +kernel
theorem dX3_canForce_68 : decode cX3_canForce 68 = .ok (.goto (-33), 3) := by decide +kernel
theorem dX3_canForce_71 : decode cX3_canForce 71 = .ok (.iconst 1, 1) := by decide +kernel
theorem dX3_canForce_72 : decode cX3_canForce 72 = .ok (.istore 6, 2) := by decide +kernel
theorem dX3_canForce_74 : decode cX3_canForce 74 = .ok (.iconst 2, 1) := by decide +kernel
theorem dX3_canForce_75 : decode cX3_canForce 75 = .ok (.istore 7, 2) := by decide +kernel
theorem dX3_canForce_77 : decode cX3_canForce 77 = .ok (.iload 7, 2) := by decide +kernel
theorem dX3_canForce_79 : decode cX3_canForce 79 = .ok (.iload 5, 2) := by decide +kernel
theorem dX3_canForce_81 : decode cX3_canForce 81 = .ok (.if_icmp .gt 22, 3) := by decide +kernel
theorem dX3_canForce_84 : decode cX3_canForce 84 = .ok (.iload 6, 2) := by decide +kernel
theorem dX3_canForce_86 : decode cX3_canForce 86 = .ok (.ifCond .eq 17, 3) := by decide +kernel
theorem dX3_canForce_89 : decode cX3_canForce 89 = .ok (.aload_n 0, 1) := by decide +kernel
theorem dX3_canForce_90 : decode cX3_canForce 90 = .ok (.iload_n 1, 1) := by decide +kernel
theorem dX3_canForce_91 : decode cX3_canForce 91 = .ok (.iload_n 2, 1) := by decide +kernel
theorem dX3_canForce_92 : decode cX3_canForce 92 = .ok (.invokevirtual 89, 3) := by decide +kernel
theorem dX3_canForce_95 : decode cX3_canForce 95 = .ok (.istore 6, 2) := by decide +kernel
theorem dX3_canForce_97 : decode cX3_canForce 97 = .ok (.iinc 7 1, 3) := by decide +kernel
theorem dX3_canForce_100 : decode cX3_canForce 100 = .ok (.goto (-23), 3) := by decide +kernel
theorem dX3_canForce_103 : decode cX3_canForce 103 = .ok (.aload_n 0, 1) := by decide +kernel
theorem dX3_canForce_104 : decode cX3_canForce 104 = .ok (.getfield 9, 3) := by decide +kernel
theorem dX3_canForce_107 : decode cX3_canForce 107 = .ok (.iload_n 3, 1) := by decide +kernel
theorem dX3_canForce_108 : decode cX3_canForce 108 = .ok (.iaload, 1) := by decide +kernel
theorem dX3_canForce_109 : decode cX3_canForce 109 = .ok (.iload 4, 2) := by decide +kernel
theorem dX3_canForce_111 : decode cX3_canForce 111 = .ok (.invokestatic 85, 3) := by decide +kernel
theorem dX3_canForce_114 : decode cX3_canForce 114 = .ok (.ireturn, 1) := by decide +kernel
set_option maxRecDepth 20000 in
theorem ggX3_widenWon_X3_heldAgainst : GoodIn wsX3_widenWon wsX3_heldAgainst := goodIn_r _ [7, 8, 9, 10, 2, 11, 12, 13, 14, 15, 16, 17, 18, 19, 20, 21, 22, 23, 24, 25, 26, 27, 28, 29, 30, 31, 32, 33, 34, 35, 36, 37, 38, 39, 40, 41, 42, 43, 44, 45, 46, 47, 48, 49, 50, 51, 52, 53, 54, 55, 56, 57, 58, 59, 60, 61, 62, 63, 68, 69, 70, 71, 72, 73, 74, 75, 76, 77, 78, 79, 80] (by decide +kernel) (by decide +kernel)
set_option maxRecDepth 20000 in
theorem gX3_widenWon_X3_heldAgainst : GoodIn wsX3_widenWon (wsV RX3 92 RX3 yX3_heldAgainst wsX3_heldAgainst) := goodIn_app (goodIn_of _ (by decide +kernel)) ggX3_widenWon_X3_heldAgainst
set_option maxRecDepth 20000 in
theorem ggX3_widenWon_X3_forcedFrom : GoodIn wsX3_widenWon wsX3_forcedFrom := goodIn_r _ [67, 9, 10, 1, 11, 12, 13, 14, 15, 16, 17, 18, 19, 20, 21, 22, 23, 24, 25, 26, 27, 28, 29, 30, 31, 32, 33, 34, 35, 36, 37, 38, 39, 40, 41, 42, 43, 44, 45, 46, 47, 48, 49, 50, 51, 52, 53, 54, 55, 56, 57, 58, 59, 60, 61, 62, 63, 68, 69, 70, 71, 72, 73, 74, 75, 76, 77, 78, 79, 80] (by decide +kernel) (by decide +kernel)
set_option maxRecDepth 20000 in
theorem gX3_widenWon_X3_forcedFrom : GoodIn wsX3_widenWon (wsV RX3 95 RX3 yX3_forcedFrom wsX3_forcedFrom) := goodIn_app (goodIn_of _ (by decide +kernel)) ggX3_widenWon_X3_forcedFrom
theorem dX3_widenWon_0 : decode cX3_widenWon 0 = .ok (.iconst 0, 1) := by decide +kernel
theorem dX3_widenWon_1 : decode cX3_widenWon 1 = .ok (.istore_n 3, 1) := by decide +kernel
theorem dX3_widenWon_2 : decode cX3_widenWon 2 = .ok (.iload_n 3, 1) := by decide +kernel
theorem dX3_widenWon_3 : decode cX3_widenWon 3 = .ok (.bipush 16, 2) := by decide +kernel
theorem dX3_widenWon_5 : decode cX3_widenWon 5 = .ok (.if_icmp .ge 22, 3) := by decide +kernel
theorem dX3_widenWon_8 : decode cX3_widenWon 8 = .ok (.aload_n 0, 1) := by decide +kernel
theorem dX3_widenWon_9 : decode cX3_widenWon 9 = .ok (.getfield 15, 3) := by decide +kernel
theorem dX3_widenWon_12 : decode cX3_widenWon 12 = .ok (.iload_n 3, 1) := by decide +kernel
theorem dX3_widenWon_13 : decode cX3_widenWon 13 = .ok (.aload_n 0, 1) := by decide +kernel
theorem dX3_widenWon_14 : decode cX3_widenWon 14 = .ok (.iload_n 1, 1) := by decide +kernel
theorem dX3_widenWon_15 : decode cX3_widenWon 15 = .ok (.iload_n 2, 1) := by decide +kernel
theorem dX3_widenWon_16 : decode cX3_widenWon 16 = .ok (.iload_n 3, 1) := by decide +kernel
theorem dX3_widenWon_17 : decode cX3_widenWon 17 = .ok (.invokevirtual 92, 3) := by decide +kernel
theorem dX3_widenWon_20 : decode cX3_widenWon 20 = .ok (.iastore, 1) := by decide +kernel
theorem dX3_widenWon_21 : decode cX3_widenWon 21 = .ok (.iinc 3 1, 3) := by decide +kernel
theorem dX3_widenWon_24 : decode cX3_widenWon 24 = .ok (.goto (-22), 3) := by decide +kernel
theorem dX3_widenWon_27 : decode cX3_widenWon 27 = .ok (.iconst 0, 1) := by decide +kernel
theorem dX3_widenWon_28 : decode cX3_widenWon 28 = .ok (.istore_n 3, 1) := by decide +kernel
theorem dX3_widenWon_29 : decode cX3_widenWon 29 = .ok (.iconst 0, 1) := by decide +kernel
theorem dX3_widenWon_30 : decode cX3_widenWon 30 = .ok (.istore 4, 2) := by decide +kernel
theorem dX3_widenWon_32 : decode cX3_widenWon 32 = .ok (.iload 4, 2) := by decide +kernel
theorem dX3_widenWon_34 : decode cX3_widenWon 34 = .ok (.bipush 16, 2) := by decide +kernel
theorem dX3_widenWon_36 : decode cX3_widenWon 36 = .ok (.if_icmp .ge 58, 3) := by decide +kernel
theorem dX3_widenWon_39 : decode cX3_widenWon 39 = .ok (.aload_n 0, 1) := by decide +kernel
theorem dX3_widenWon_40 : decode cX3_widenWon 40 = .ok (.getfield 9, 3) := by decide +kernel
theorem dX3_widenWon_43 : decode cX3_widenWon 43 = .ok (.iload 4, 2) := by decide +kernel
theorem dX3_widenWon_45 : decode cX3_widenWon 45 = .ok (.iaload, 1) := by decide +kernel
theorem dX3_widenWon_46 : decode cX3_widenWon 46 = .ok (.aload_n 0, 1) := by decide +kernel
theorem dX3_widenWon_47 : decode cX3_widenWon 47 = .ok (.iload_n 1, 1) := by decide +kernel
theorem dX3_widenWon_48 : decode cX3_widenWon 48 = .ok (.iload_n 2, 1) := by decide +kernel
theorem dX3_widenWon_49 : decode cX3_widenWon 49 = .ok (.iload 4, 2) := by decide +kernel
theorem dX3_widenWon_51 : decode cX3_widenWon 51 = .ok (.invokevirtual 95, 3) := by decide +kernel
theorem dX3_widenWon_54 : decode cX3_widenWon 54 = .ok (.ior, 1) := by decide +kernel
theorem dX3_widenWon_55 : decode cX3_widenWon 55 = .ok (.istore 5, 2) := by decide +kernel
theorem dX3_widenWon_57 : decode cX3_widenWon 57 = .ok (.iload_n 3, 1) := by decide +kernel
theorem dX3_widenWon_58 : decode cX3_widenWon 58 = .ok (.ifCond .ne 15, 3) := by decide +kernel
theorem dX3_widenWon_61 : decode cX3_widenWon 61 = .ok (.iload 5, 2) := by decide +kernel
theorem dX3_widenWon_63 : decode cX3_widenWon 63 = .ok (.aload_n 0, 1) := by decide +kernel
theorem dX3_widenWon_64 : decode cX3_widenWon 64 = .ok (.getfield 9, 3) := by decide +kernel
theorem dX3_widenWon_67 : decode cX3_widenWon 67 = .ok (.iload 4, 2) := by decide +kernel
theorem dX3_widenWon_69 : decode cX3_widenWon 69 = .ok (.iaload, 1) := by decide +kernel
theorem dX3_widenWon_70 : decode cX3_widenWon 70 = .ok (.if_icmp .eq 7, 3) := by decide +kernel
theorem dX3_widenWon_73 : decode cX3_widenWon 73 = .ok (.iconst 1, 1) := by decide +kernel
theorem dX3_widenWon_74 : decode cX3_widenWon 74 = .ok (.goto 4, 3) := by decide +kernel
theorem dX3_widenWon_77 : decode cX3_widenWon 77 = .ok (.iconst 0, 1) := by decide +kernel
theorem dX3_widenWon_78 : decode cX3_widenWon 78 = .ok (.istore_n 3, 1) := by decide +kernel
theorem dX3_widenWon_79 : decode cX3_widenWon 79 = .ok (.aload_n 0, 1) := by decide +kernel
theorem dX3_widenWon_80 : decode cX3_widenWon 80 = .ok (.getfield 9, 3) := by decide +kernel
theorem dX3_widenWon_83 : decode cX3_widenWon 83 = .ok (.iload 4, 2) := by decide +kernel
theorem dX3_widenWon_85 : decode cX3_widenWon 85 = .ok (.iload 5, 2) := by decide +kernel
theorem dX3_widenWon_87 : decode cX3_widenWon 87 = .ok (.iastore, 1) := by decide +kernel
theorem dX3_widenWon_88 : decode cX3_widenWon 88 = .ok (.iinc 4 1, 3) := by decide +kernel
theorem dX3_widenWon_91 : decode cX3_widenWon 91 = .ok (.goto (-59), 3) := by decide +kernel
theorem dX3_widenWon_94 : decode cX3_widenWon 94 = .ok (.iload_n 3, 1) := by decide +kernel
theorem dX3_widenWon_95 : decode cX3_widenWon 95 = .ok (.ireturn, 1) := by decide +kernel
set_option maxRecDepth 20000 in
theorem ggX3_missedFrom_X0_knownPath : GoodIn wsX3_missedFrom wsX0_knownPath := goodIn_r _ [8, 9, 59, 60, 61, 62, 63] (by decide +kernel) (by decide +kernel)
set_option maxRecDepth 20000 in
theorem gX3_missedFrom_X0_knownPath : GoodIn wsX3_missedFrom (wsV RX3 63 RX0 yX0_knownPath wsX0_knownPath) := goodIn_app (goodIn_of _ (by decide +kernel)) ggX3_missedFrom_X0_knownPath
set_option maxRecDepth 20000 in
theorem ggX3_missedFrom_X0_isNet : GoodIn wsX3_missedFrom wsX0_isNet := goodIn_r _ [12, 13, 14, 7, 15, 16] (by decide +kernel) (by decide +kernel)
set_option maxRecDepth 20000 in
theorem gX3_missedFrom_X0_isNet : GoodIn wsX3_missedFrom (va_wsS RX3 26 yX0_isNet wsX0_isNet) := goodIn_app (goodIn_of _ (by decide +kernel)) ggX3_missedFrom_X0_isNet
set_option maxRecDepth 20000 in
theorem ggX3_missedFrom_X0_firstMetOf : GoodIn wsX3_missedFrom wsX0_firstMetOf := goodIn_r _ [15, 16] (by decide +kernel) (by decide +kernel)
set_option maxRecDepth 20000 in
theorem gX3_missedFrom_X0_firstMetOf : GoodIn wsX3_missedFrom (va_wsS RX3 38 yX0_firstMetOf wsX0_firstMetOf) := goodIn_app (goodIn_of _ (by decide +kernel)) ggX3_missedFrom_X0_firstMetOf
set_option maxRecDepth 20000 in
theorem ggX3_missedFrom_X0_landingOf : GoodIn wsX3_missedFrom wsX0_landingOf := goodIn_r _ [20, 16] (by decide +kernel) (by decide +kernel)
set_option maxRecDepth 20000 in
theorem gX3_missedFrom_X0_landingOf : GoodIn wsX3_missedFrom (va_wsS RX3 42 yX0_landingOf wsX0_landingOf) := goodIn_app (goodIn_of _ (by decide +kernel)) ggX3_missedFrom_X0_landingOf
set_option maxRecDepth 20000 in
theorem ggX3_missedFrom_X0_cellAt : GoodIn wsX3_missedFrom wsX0_cellAt := goodIn_r _ [23, 24, 25, 19, 7, 20, 16] (by decide +kernel) (by decide +kernel)
set_option maxRecDepth 20000 in
theorem gX3_missedFrom_X0_cellAt : GoodIn wsX3_missedFrom (va_wsS RX3 45 yX0_cellAt wsX0_cellAt) := goodIn_app (goodIn_of _ (by decide +kernel)) ggX3_missedFrom_X0_cellAt
set_option maxRecDepth 20000 in
theorem ggX3_missedFrom_X6_meetingCells : GoodIn wsX3_missedFrom wsX6_meetingCells := goodIn_r _ [30, 31, 32, 33, 34, 29, 35, 36, 37, 38, 39, 40, 41, 42, 43, 44, 45, 46, 47, 48, 49, 50, 51, 52, 53, 54, 64, 65, 66, 67] (by decide +kernel) (by decide +kernel)
set_option maxRecDepth 20000 in
theorem gX3_missedFrom_X6_meetingCells : GoodIn wsX3_missedFrom (wsV RX3 98 RX6 yX6_meetingCells wsX6_meetingCells) := goodIn_app (goodIn_of _ (by decide +kernel)) ggX3_missedFrom_X6_meetingCells
theorem dX3_missedFrom_0 : decode cX3_missedFrom 0 = .ok (.iconst 0, 1) := by decide +kernel
theorem dX3_missedFrom_1 : decode cX3_missedFrom 1 = .ok (.istore_n 3, 1) := by decide +kernel
theorem dX3_missedFrom_2 : decode cX3_missedFrom 2 = .ok (.iconst 0, 1) := by decide +kernel
theorem dX3_missedFrom_3 : decode cX3_missedFrom 3 = .ok (.istore 4, 2) := by decide +kernel
theorem dX3_missedFrom_5 : decode cX3_missedFrom 5 = .ok (.iload 4, 2) := by decide +kernel
theorem dX3_missedFrom_7 : decode cX3_missedFrom 7 = .ok (.bipush 64, 2) := by decide +kernel
theorem dX3_missedFrom_9 : decode cX3_missedFrom 9 = .ok (.if_icmp .ge 90, 3) := by decide +kernel
theorem dX3_missedFrom_12 : decode cX3_missedFrom 12 = .ok (.aload_n 0, 1) := by decide +kernel
theorem dX3_missedFrom_13 : decode cX3_missedFrom 13 = .ok (.getfield 18, 3) := by decide +kernel
theorem dX3_missedFrom_16 : decode cX3_missedFrom 16 = .ok (.iload_n 2, 1) := by decide +kernel
theorem dX3_missedFrom_17 : decode cX3_missedFrom 17 = .ok (.iload 4, 2) := by decide +kernel
theorem dX3_missedFrom_19 : decode cX3_missedFrom 19 = .ok (.invokevirtual 63, 3) := by decide +kernel
theorem dX3_missedFrom_22 : decode cX3_missedFrom 22 = .ok (.lstore 5, 2) := by decide +kernel
theorem dX3_missedFrom_24 : decode cX3_missedFrom 24 = .ok (.lload 5, 2) := by decide +kernel
theorem dX3_missedFrom_26 : decode cX3_missedFrom 26 = .ok (.invokestatic 26, 3) := by decide +kernel
theorem dX3_missedFrom_29 : decode cX3_missedFrom 29 = .ok (.ifCond .eq 6, 3) := by decide +kernel
theorem dX3_missedFrom_32 : decode cX3_missedFrom 32 = .ok (.goto 61, 3) := by decide +kernel
theorem dX3_missedFrom_35 : decode cX3_missedFrom 35 = .ok (.iconst 0, 1) := by decide +kernel
theorem dX3_missedFrom_36 : decode cX3_missedFrom 36 = .ok (.istore 7, 2) := by decide +kernel
theorem dX3_missedFrom_38 : decode cX3_missedFrom 38 = .ok (.lload 5, 2) := by decide +kernel
theorem dX3_missedFrom_40 : decode cX3_missedFrom 40 = .ok (.invokestatic 38, 3) := by decide +kernel
theorem dX3_missedFrom_43 : decode cX3_missedFrom 43 = .ok (.istore 8, 2) := by decide +kernel
theorem dX3_missedFrom_45 : decode cX3_missedFrom 45 = .ok (.iload 8, 2) := by decide +kernel
theorem dX3_missedFrom_47 : decode cX3_missedFrom 47 = .ok (.lload 5, 2) := by decide +kernel
theorem dX3_missedFrom_49 : decode cX3_missedFrom 49 = .ok (.invokestatic 42, 3) := by decide +kernel
theorem dX3_missedFrom_52 : decode cX3_missedFrom 52 = .ok (.if_icmp .gt 31, 3) := by decide +kernel
theorem dX3_missedFrom_55 : decode cX3_missedFrom 55 = .ok (.iload 7, 2) := by decide +kernel
theorem dX3_missedFrom_57 : decode cX3_missedFrom 57 = .ok (.aload_n 0, 1) := by decide +kernel
theorem dX3_missedFrom_58 : decode cX3_missedFrom 58 = .ok (.getfield 22, 3) := by decide +kernel
theorem dX3_missedFrom_61 : decode cX3_missedFrom 61 = .ok (.iload_n 1, 1) := by decide +kernel
theorem dX3_missedFrom_62 : decode cX3_missedFrom 62 = .ok (.lload 5, 2) := by decide +kernel
theorem dX3_missedFrom_64 : decode cX3_missedFrom 64 = .ok (.iload 8, 2) := by decide +kernel
theorem dX3_missedFrom_66 : decode cX3_missedFrom 66 = .ok (.invokestatic 45, 3) := by decide +kernel
theorem dX3_missedFrom_69 : decode cX3_missedFrom 69 = .ok (.iload 8, 2) := by decide +kernel
theorem dX3_missedFrom_71 : decode cX3_missedFrom 71 = .ok (.invokevirtual 98, 3) := by decide +kernel
theorem dX3_missedFrom_74 : decode cX3_missedFrom 74 = .ok (.ior, 1) := by decide +kernel
theorem dX3_missedFrom_75 : decode cX3_missedFrom 75 = .ok (.istore 7, 2) := by decide +kernel
theorem dX3_missedFrom_77 : decode cX3_missedFrom 77 = .ok (.iinc 8 1, 3) := by decide +kernel
theorem dX3_missedFrom_80 : decode cX3_missedFrom 80 = .ok (.goto (-35), 3) := by decide +kernel
theorem dX3_missedFrom_83 : decode cX3_missedFrom 83 = .ok (.iload_n 3, 1) := by decide +kernel
theorem dX3_missedFrom_84 : decode cX3_missedFrom 84 = .ok (.ldc 101, 2) := by decide +kernel
theorem dX3_missedFrom_86 : decode cX3_missedFrom 86 = .ok (.iload 7, 2) := by decide +kernel
theorem dX3_missedFrom_88 : decode cX3_missedFrom 88 = .ok (.iconst (-1), 1) := by decide +kernel
theorem dX3_missedFrom_89 : decode cX3_missedFrom 89 = .ok (.ixor, 1) := by decide +kernel
theorem dX3_missedFrom_90 : decode cX3_missedFrom 90 = .ok (.iand, 1) := by decide +kernel
theorem dX3_missedFrom_91 : decode cX3_missedFrom 91 = .ok (.ior, 1) := by decide +kernel
theorem dX3_missedFrom_92 : decode cX3_missedFrom 92 = .ok (.istore_n 3, 1) := by decide +kernel
theorem dX3_missedFrom_93 : decode cX3_missedFrom 93 = .ok (.iinc 4 1, 3) := by decide +kernel
theorem dX3_missedFrom_96 : decode cX3_missedFrom 96 = .ok (.goto (-91), 3) := by decide +kernel
theorem dX3_missedFrom_99 : decode cX3_missedFrom 99 = .ok (.iload_n 3, 1) := by decide +kernel
theorem dX3_missedFrom_100 : decode cX3_missedFrom 100 = .ok (.ireturn, 1) := by decide +kernel
set_option maxRecDepth 20000 in
theorem ggX3_heldAgainst_X0_knownPath : GoodIn wsX3_heldAgainst wsX0_knownPath := goodIn_r _ [9, 10, 62, 63, 64, 65, 66] (by decide +kernel) (by decide +kernel)
set_option maxRecDepth 20000 in
theorem gX3_heldAgainst_X0_knownPath : GoodIn wsX3_heldAgainst (wsV RX3 63 RX0 yX0_knownPath wsX0_knownPath) := goodIn_app (goodIn_of _ (by decide +kernel)) ggX3_heldAgainst_X0_knownPath
set_option maxRecDepth 20000 in
theorem ggX3_heldAgainst_X0_isNet : GoodIn wsX3_heldAgainst wsX0_isNet := goodIn_r _ [13, 14, 15, 8, 16, 17] (by decide +kernel) (by decide +kernel)
set_option maxRecDepth 20000 in
theorem gX3_heldAgainst_X0_isNet : GoodIn wsX3_heldAgainst (va_wsS RX3 26 yX0_isNet wsX0_isNet) := goodIn_app (goodIn_of _ (by decide +kernel)) ggX3_heldAgainst_X0_isNet
set_option maxRecDepth 20000 in
theorem ggX3_heldAgainst_X0_firstMetOf : GoodIn wsX3_heldAgainst wsX0_firstMetOf := goodIn_r _ [16, 17] (by decide +kernel) (by decide +kernel)
set_option maxRecDepth 20000 in
theorem gX3_heldAgainst_X0_firstMetOf : GoodIn wsX3_heldAgainst (va_wsS RX3 38 yX0_firstMetOf wsX0_firstMetOf) := goodIn_app (goodIn_of _ (by decide +kernel)) ggX3_heldAgainst_X0_firstMetOf
set_option maxRecDepth 20000 in
theorem ggX3_heldAgainst_X0_landingOf : GoodIn wsX3_heldAgainst wsX0_landingOf := goodIn_r _ [21, 17] (by decide +kernel) (by decide +kernel)
set_option maxRecDepth 20000 in
theorem gX3_heldAgainst_X0_landingOf : GoodIn wsX3_heldAgainst (va_wsS RX3 42 yX0_landingOf wsX0_landingOf) := goodIn_app (goodIn_of _ (by decide +kernel)) ggX3_heldAgainst_X0_landingOf
set_option maxRecDepth 20000 in
theorem ggX3_heldAgainst_X0_cellAt : GoodIn wsX3_heldAgainst wsX0_cellAt := goodIn_r _ [24, 25, 26, 20, 8, 21, 17] (by decide +kernel) (by decide +kernel)
set_option maxRecDepth 20000 in
theorem gX3_heldAgainst_X0_cellAt : GoodIn wsX3_heldAgainst (va_wsS RX3 45 yX0_cellAt wsX0_cellAt) := goodIn_app (goodIn_of _ (by decide +kernel)) ggX3_heldAgainst_X0_cellAt
set_option maxRecDepth 20000 in
theorem ggX3_heldAgainst_X6_meetingCells : GoodIn wsX3_heldAgainst wsX6_meetingCells := goodIn_r _ [31, 32, 33, 34, 35, 30, 36, 37, 38, 39, 40, 41, 42, 43, 44, 45, 46, 47, 48, 49, 50, 51, 52, 53, 54, 55, 67, 68, 69, 70] (by decide +kernel) (by decide +kernel)
set_option maxRecDepth 20000 in
theorem gX3_heldAgainst_X6_meetingCells : GoodIn wsX3_heldAgainst (wsV RX3 98 RX6 yX6_meetingCells wsX6_meetingCells) := goodIn_app (goodIn_of _ (by decide +kernel)) ggX3_heldAgainst_X6_meetingCells
set_option maxRecDepth 20000 in
theorem ggX3_heldAgainst_X6_comes : GoodIn wsX3_heldAgainst wsX6_comes := goodIn_r _ [36, 37, 67, 68, 69, 70] (by decide +kernel) (by decide +kernel)
set_option maxRecDepth 20000 in
theorem gX3_heldAgainst_X6_comes : GoodIn wsX3_heldAgainst (wsV RX3 60 RX6 yX6_comes wsX6_comes) := goodIn_app (goodIn_of _ (by decide +kernel)) ggX3_heldAgainst_X6_comes
set_option maxRecDepth 20000 in
theorem ggX3_heldAgainst_X2_near : GoodIn wsX3_heldAgainst wsX2_near := goodIn_r _ [41, 42, 43, 44, 45, 46, 47, 48, 49, 50, 51, 40, 52, 53, 54, 55] (by decide +kernel) (by decide +kernel)
set_option maxRecDepth 20000 in
theorem gX3_heldAgainst_X2_near : GoodIn wsX3_heldAgainst (va_wsS RX3 102 yX2_near wsX2_near) := goodIn_app (goodIn_of _ (by decide +kernel)) ggX3_heldAgainst_X2_near
theorem dX3_heldAgainst_0 : decode cX3_heldAgainst 0 = .ok (.ldc 101, 2) := by decide +kernel
theorem dX3_heldAgainst_2 : decode cX3_heldAgainst 2 = .ok (.istore 4, 2) := by decide +kernel
theorem dX3_heldAgainst_4 : decode cX3_heldAgainst 4 = .ok (.iconst 0, 1) := by decide +kernel
theorem dX3_heldAgainst_5 : decode cX3_heldAgainst 5 = .ok (.istore 5, 2) := by decide +kernel
theorem dX3_heldAgainst_7 : decode cX3_heldAgainst 7 = .ok (.iload 5, 2) := by decide +kernel
theorem dX3_heldAgainst_9 : decode cX3_heldAgainst 9 = .ok (.bipush 64, 2) := by decide +kernel
theorem dX3_heldAgainst_11 : decode cX3_heldAgainst 11 = .ok (.if_icmp .ge 142, 3) := by decide +kernel
theorem dX3_heldAgainst_14 : decode cX3_heldAgainst 14 = .ok (.iload 4, 2) := by decide +kernel
theorem dX3_heldAgainst_16 : decode cX3_heldAgainst 16 = .ok (.ifCond .eq 137, 3) := by decide +kernel
theorem dX3_heldAgainst_19 : decode cX3_heldAgainst 19 = .ok (.aload_n 0, 1) := by decide +kernel
theorem dX3_heldAgainst_20 : decode cX3_heldAgainst 20 = .ok (.getfield 18, 3) := by decide +kernel
theorem dX3_heldAgainst_23 : decode cX3_heldAgainst 23 = .ok (.iload_n 3, 1) := by decide +kernel
theorem dX3_heldAgainst_24 : decode cX3_heldAgainst 24 = .ok (.iload 5, 2) := by decide +kernel
theorem dX3_heldAgainst_26 : decode cX3_heldAgainst 26 = .ok (.invokevirtual 63, 3) := by decide +kernel
theorem dX3_heldAgainst_29 : decode cX3_heldAgainst 29 = .ok (.lstore 6, 2) := by decide +kernel
theorem dX3_heldAgainst_31 : decode cX3_heldAgainst 31 = .ok (.lload 6, 2) := by decide +kernel
theorem dX3_heldAgainst_33 : decode cX3_heldAgainst 33 = .ok (.invokestatic 26, 3) := by decide +kernel
theorem dX3_heldAgainst_36 : decode cX3_heldAgainst 36 = .ok (.ifCond .eq 6, 3) := by decide +kernel
theorem dX3_heldAgainst_39 : decode cX3_heldAgainst 39 = .ok (.goto 108, 3) := by decide +kernel
theorem dX3_heldAgainst_42 : decode cX3_heldAgainst 42 = .ok (.iconst 0, 1) := by decide +kernel
theorem dX3_heldAgainst_43 : decode cX3_heldAgainst 43 = .ok (.istore 8, 2) := by decide +kernel
theorem dX3_heldAgainst_45 : decode cX3_heldAgainst 45 = .ok (.iconst 0, 1) := by decide +kernel
theorem dX3_heldAgainst_46 : decode cX3_heldAgainst 46 = .ok (.istore 9, 2) := by decide +kernel
theorem dX3_heldAgainst_48 : decode cX3_heldAgainst 48 = .ok (.lload 6, 2) := by decide +kernel
theorem dX3_heldAgainst_50 : decode cX3_heldAgainst 50 = .ok (.invokestatic 38, 3) := by decide +kernel
theorem dX3_heldAgainst_53 : decode cX3_heldAgainst 53 = .ok (.istore 10, 2) := by decide +kernel
theorem dX3_heldAgainst_55 : decode cX3_heldAgainst 55 = .ok (.iload 10, 2) := by decide +kernel
theorem dX3_heldAgainst_57 : decode cX3_heldAgainst 57 = .ok (.lload 6, 2) := by decide +kernel
theorem dX3_heldAgainst_59 : decode cX3_heldAgainst 59 = .ok (.invokestatic 42, 3) := by decide +kernel
theorem dX3_heldAgainst_62 : decode cX3_heldAgainst 62 = .ok (.if_icmp .gt 78, 3) := by decide +kernel
theorem dX3_heldAgainst_65 : decode cX3_heldAgainst 65 = .ok (.lload 6, 2) := by decide +kernel
theorem dX3_heldAgainst_67 : decode cX3_heldAgainst 67 = .ok (.iload 10, 2) := by decide +kernel
theorem dX3_heldAgainst_69 : decode cX3_heldAgainst 69 = .ok (.invokestatic 45, 3) := by decide +kernel
theorem dX3_heldAgainst_72 : decode cX3_heldAgainst 72 = .ok (.istore 11, 2) := by decide +kernel
theorem dX3_heldAgainst_74 : decode cX3_heldAgainst 74 = .ok (.aload_n 0, 1) := by decide +kernel
theorem dX3_heldAgainst_75 : decode cX3_heldAgainst 75 = .ok (.getfield 22, 3) := by decide +kernel
theorem dX3_heldAgainst_78 : decode cX3_heldAgainst 78 = .ok (.iload_n 1, 1) := by decide +kernel
theorem dX3_heldAgainst_79 : decode cX3_heldAgainst 79 = .ok (.iload 11, 2) := by decide +kernel
theorem dX3_heldAgainst_81 : decode cX3_heldAgainst 81 = .ok (.iload 10, 2) := by decide +kernel
theorem dX3_heldAgainst_83 : decode cX3_heldAgainst 83 = .ok (.invokevirtual 98, 3) := by decide +kernel
theorem dX3_heldAgainst_86 : decode cX3_heldAgainst 86 = .ok (.iload 8, 2) := by decide +kernel
theorem dX3_heldAgainst_88 : decode cX3_heldAgainst 88 = .ok (.iconst (-1), 1) := by decide +kernel
theorem dX3_heldAgainst_89 : decode cX3_heldAgainst 89 = .ok (.ixor, 1) := by decide +kernel
theorem dX3_heldAgainst_90 : decode cX3_heldAgainst 90 = .ok (.iand, 1) := by decide +kernel
theorem dX3_heldAgainst_91 : decode cX3_heldAgainst 91 = .ok (.istore 12, 2) := by decide +kernel
theorem dX3_heldAgainst_93 : decode cX3_heldAgainst 93 = .ok (.iload 8, 2) := by decide +kernel
theorem dX3_heldAgainst_95 : decode cX3_heldAgainst 95 = .ok (.iload 12, 2) := by decide +kernel
theorem dX3_heldAgainst_97 : decode cX3_heldAgainst 97 = .ok (.ior, 1) := by decide +kernel
theorem dX3_heldAgainst_98 : decode cX3_heldAgainst 98 = .ok (.istore 8, 2) := by decide +kernel
theorem dX3_heldAgainst_100 : decode cX3_heldAgainst 100 = .ok (.iload_n 3, 1) := by decide +kernel
theorem dX3_heldAgainst_101 : decode cX3_heldAgainst 101 = .ok (.aload_n 0, 1) := by decide +kernel
theorem dX3_heldAgainst_102 : decode cX3_heldAgainst 102 = .ok (.getfield 22, 3) := by decide +kernel
theorem dX3_heldAgainst_105 : decode cX3_heldAgainst 105 = .ok (.iload_n 2, 1) := by decide +kernel
theorem dX3_heldAgainst_106 : decode cX3_heldAgainst 106 = .ok (.iload 10, 2) := by decide +kernel
theorem dX3_heldAgainst_108 : decode cX3_heldAgainst 108 = .ok (.invokevirtual 60, 3) := by decide +kernel
theorem dX3_heldAgainst_111 : decode cX3_heldAgainst 111 = .ok (.invokestatic 102, 3) := by decide +kernel
theorem dX3_heldAgainst_114 : decode cX3_heldAgainst 114 = .ok (.aload_n 0, 1) := by decide +kernel
theorem dX3_heldAgainst_115 : decode cX3_heldAgainst 115 = .ok (.getfield 9, 3) := by decide +kernel
theorem dX3_heldAgainst_118 : decode cX3_heldAgainst 118 = .ok (.iload 11, 2) := by decide +kernel
theorem dX3_heldAgainst_120 : decode cX3_heldAgainst 120 = .ok (.iaload, 1) := by decide +kernel
theorem dX3_heldAgainst_121 : decode cX3_heldAgainst 121 = .ok (.iconst (-1), 1) := by decide +kernel
theorem dX3_heldAgainst_122 : decode cX3_heldAgainst 122 = .ok (.ixor, 1) := by decide +kernel
theorem dX3_heldAgainst_123 : decode cX3_heldAgainst 123 = .ok (.iand, 1) := by decide +kernel
theorem dX3_heldAgainst_124 : decode cX3_heldAgainst 124 = .ok (.ifCond .ne 10, 3) := by decide +kernel
theorem dX3_heldAgainst_127 : decode cX3_heldAgainst 127 = .ok (.iload 9, 2) := by decide +kernel
theorem dX3_heldAgainst_129 : decode cX3_heldAgainst 129 = .ok (.iload 12, 2) := by decide +kernel
theorem dX3_heldAgainst_131 : decode cX3_heldAgainst 131 = .ok (.ior, 1) := by decide +kernel
theorem dX3_heldAgainst_132 : decode cX3_heldAgainst 132 = .ok (.istore 9, 2) := by decide +kernel
theorem dX3_heldAgainst_134 : decode cX3_heldAgainst 134 = .ok (.iinc 10 1, 3) := by decide +kernel
theorem dX3_heldAgainst_137 : decode cX3_heldAgainst 137 = .ok (.goto (-82), 3) := by decide +kernel
theorem dX3_heldAgainst_140 : decode cX3_heldAgainst 140 = .ok (.iload 4, 2) := by decide +kernel
theorem dX3_heldAgainst_142 : decode cX3_heldAgainst 142 = .ok (.iload 9, 2) := by decide +kernel
theorem dX3_heldAgainst_144 : decode cX3_heldAgainst 144 = .ok (.iand, 1) := by decide +kernel
theorem dX3_heldAgainst_145 : decode cX3_heldAgainst 145 = .ok (.istore 4, 2) := by decide +kernel
theorem dX3_heldAgainst_147 : decode cX3_heldAgainst 147 = .ok (.iinc 5 1, 3) := by decide +kernel
theorem dX3_heldAgainst_150 : decode cX3_heldAgainst 150 = .ok (.goto (-143), 3) := by decide +kernel
theorem dX3_heldAgainst_153 : decode cX3_heldAgainst 153 = .ok (.iload 4, 2) := by decide +kernel
theorem dX3_heldAgainst_155 : decode cX3_heldAgainst 155 = .ok (.ireturn, 1) := by decide +kernel
set_option maxRecDepth 20000 in
theorem ggX3_forcedFrom_X0_knownPath : GoodIn wsX3_forcedFrom wsX0_knownPath := goodIn_r _ [8, 9, 61, 62, 63, 64, 65] (by decide +kernel) (by decide +kernel)
set_option maxRecDepth 20000 in
theorem gX3_forcedFrom_X0_knownPath : GoodIn wsX3_forcedFrom (wsV RX3 63 RX0 yX0_knownPath wsX0_knownPath) := goodIn_app (goodIn_of _ (by decide +kernel)) ggX3_forcedFrom_X0_knownPath
set_option maxRecDepth 20000 in
theorem ggX3_forcedFrom_X0_isNet : GoodIn wsX3_forcedFrom wsX0_isNet := goodIn_r _ [12, 13, 14, 7, 15, 16] (by decide +kernel) (by decide +kernel)
set_option maxRecDepth 20000 in
theorem gX3_forcedFrom_X0_isNet : GoodIn wsX3_forcedFrom (va_wsS RX3 26 yX0_isNet wsX0_isNet) := goodIn_app (goodIn_of _ (by decide +kernel)) ggX3_forcedFrom_X0_isNet
set_option maxRecDepth 20000 in
theorem ggX3_forcedFrom_X0_firstMetOf : GoodIn wsX3_forcedFrom wsX0_firstMetOf := goodIn_r _ [15, 16] (by decide +kernel) (by decide +kernel)
set_option maxRecDepth 20000 in
theorem gX3_forcedFrom_X0_firstMetOf : GoodIn wsX3_forcedFrom (va_wsS RX3 38 yX0_firstMetOf wsX0_firstMetOf) := goodIn_app (goodIn_of _ (by decide +kernel)) ggX3_forcedFrom_X0_firstMetOf
set_option maxRecDepth 20000 in
theorem ggX3_forcedFrom_X0_landingOf : GoodIn wsX3_forcedFrom wsX0_landingOf := goodIn_r _ [20, 16] (by decide +kernel) (by decide +kernel)
set_option maxRecDepth 20000 in
theorem gX3_forcedFrom_X0_landingOf : GoodIn wsX3_forcedFrom (va_wsS RX3 42 yX0_landingOf wsX0_landingOf) := goodIn_app (goodIn_of _ (by decide +kernel)) ggX3_forcedFrom_X0_landingOf
set_option maxRecDepth 20000 in
theorem ggX3_forcedFrom_X0_cellAt : GoodIn wsX3_forcedFrom wsX0_cellAt := goodIn_r _ [23, 24, 25, 19, 7, 20, 16] (by decide +kernel) (by decide +kernel)
set_option maxRecDepth 20000 in
theorem gX3_forcedFrom_X0_cellAt : GoodIn wsX3_forcedFrom (va_wsS RX3 45 yX0_cellAt wsX0_cellAt) := goodIn_app (goodIn_of _ (by decide +kernel)) ggX3_forcedFrom_X0_cellAt
set_option maxRecDepth 20000 in
theorem ggX3_forcedFrom_X6_meetingCells : GoodIn wsX3_forcedFrom wsX6_meetingCells := goodIn_r _ [30, 31, 32, 33, 34, 29, 35, 36, 37, 38, 39, 40, 41, 42, 43, 44, 45, 46, 47, 48, 49, 50, 51, 52, 53, 54, 66, 67, 68, 69] (by decide +kernel) (by decide +kernel)
set_option maxRecDepth 20000 in
theorem gX3_forcedFrom_X6_meetingCells : GoodIn wsX3_forcedFrom (wsV RX3 98 RX6 yX6_meetingCells wsX6_meetingCells) := goodIn_app (goodIn_of _ (by decide +kernel)) ggX3_forcedFrom_X6_meetingCells
set_option maxRecDepth 20000 in
theorem ggX3_forcedFrom_X6_comes : GoodIn wsX3_forcedFrom wsX6_comes := goodIn_r _ [35, 36, 66, 67, 68, 69] (by decide +kernel) (by decide +kernel)
set_option maxRecDepth 20000 in
theorem gX3_forcedFrom_X6_comes : GoodIn wsX3_forcedFrom (wsV RX3 60 RX6 yX6_comes wsX6_comes) := goodIn_app (goodIn_of _ (by decide +kernel)) ggX3_forcedFrom_X6_comes
set_option maxRecDepth 20000 in
theorem ggX3_forcedFrom_X2_near : GoodIn wsX3_forcedFrom wsX2_near := goodIn_r _ [40, 41, 42, 43, 44, 45, 46, 47, 48, 49, 50, 39, 51, 52, 53, 54] (by decide +kernel) (by decide +kernel)
set_option maxRecDepth 20000 in
theorem gX3_forcedFrom_X2_near : GoodIn wsX3_forcedFrom (va_wsS RX3 102 yX2_near wsX2_near) := goodIn_app (goodIn_of _ (by decide +kernel)) ggX3_forcedFrom_X2_near
theorem dX3_forcedFrom_0 : decode cX3_forcedFrom 0 = .ok (.iconst 0, 1) := by decide +kernel
theorem dX3_forcedFrom_1 : decode cX3_forcedFrom 1 = .ok (.istore 4, 2) := by decide +kernel
theorem dX3_forcedFrom_3 : decode cX3_forcedFrom 3 = .ok (.iconst 0, 1) := by decide +kernel
theorem dX3_forcedFrom_4 : decode cX3_forcedFrom 4 = .ok (.istore 5, 2) := by decide +kernel
theorem dX3_forcedFrom_6 : decode cX3_forcedFrom 6 = .ok (.iload 5, 2) := by decide +kernel
theorem dX3_forcedFrom_8 : decode cX3_forcedFrom 8 = .ok (.bipush 64, 2) := by decide +kernel
theorem dX3_forcedFrom_10 : decode cX3_forcedFrom 10 = .ok (.if_icmp .ge 125, 3) := by decide +kernel
theorem dX3_forcedFrom_13 : decode cX3_forcedFrom 13 = .ok (.aload_n 0, 1) := by decide +kernel
theorem dX3_forcedFrom_14 : decode cX3_forcedFrom 14 = .ok (.getfield 18, 3) := by decide +kernel
theorem dX3_forcedFrom_17 : decode cX3_forcedFrom 17 = .ok (.iload_n 3, 1) := by decide +kernel
theorem dX3_forcedFrom_18 : decode cX3_forcedFrom 18 = .ok (.iload 5, 2) := by decide +kernel
theorem dX3_forcedFrom_20 : decode cX3_forcedFrom 20 = .ok (.invokevirtual 63, 3) := by decide +kernel
theorem dX3_forcedFrom_23 : decode cX3_forcedFrom 23 = .ok (.lstore 6, 2) := by decide +kernel
theorem dX3_forcedFrom_25 : decode cX3_forcedFrom 25 = .ok (.lload 6, 2) := by decide +kernel
theorem dX3_forcedFrom_27 : decode cX3_forcedFrom 27 = .ok (.invokestatic 26, 3) := by decide +kernel
theorem dX3_forcedFrom_30 : decode cX3_forcedFrom 30 = .ok (.ifCond .eq 6, 3) := by decide +kernel
theorem dX3_forcedFrom_33 : decode cX3_forcedFrom 33 = .ok (.goto 96, 3) := by decide +kernel
theorem dX3_forcedFrom_36 : decode cX3_forcedFrom 36 = .ok (.iconst 0, 1) := by decide +kernel
theorem dX3_forcedFrom_37 : decode cX3_forcedFrom 37 = .ok (.istore 8, 2) := by decide +kernel
theorem dX3_forcedFrom_39 : decode cX3_forcedFrom 39 = .ok (.lload 6, 2) := by decide +kernel
theorem dX3_forcedFrom_41 : decode cX3_forcedFrom 41 = .ok (.invokestatic 38, 3) := by decide +kernel
theorem dX3_forcedFrom_44 : decode cX3_forcedFrom 44 = .ok (.istore 9, 2) := by decide +kernel
theorem dX3_forcedFrom_46 : decode cX3_forcedFrom 46 = .ok (.iload 9, 2) := by decide +kernel
theorem dX3_forcedFrom_48 : decode cX3_forcedFrom 48 = .ok (.lload 6, 2) := by decide +kernel
theorem dX3_forcedFrom_50 : decode cX3_forcedFrom 50 = .ok (.invokestatic 42, 3) := by decide +kernel
theorem dX3_forcedFrom_53 : decode cX3_forcedFrom 53 = .ok (.if_icmp .gt 76, 3) := by decide +kernel
theorem dX3_forcedFrom_56 : decode cX3_forcedFrom 56 = .ok (.lload 6, 2) := by decide +kernel
theorem dX3_forcedFrom_58 : decode cX3_forcedFrom 58 = .ok (.iload 9, 2) := by decide +kernel
theorem dX3_forcedFrom_60 : decode cX3_forcedFrom 60 = .ok (.invokestatic 45, 3) := by decide +kernel
theorem dX3_forcedFrom_63 : decode cX3_forcedFrom 63 = .ok (.istore 10, 2) := by decide +kernel
theorem dX3_forcedFrom_65 : decode cX3_forcedFrom 65 = .ok (.aload_n 0, 1) := by decide +kernel
theorem dX3_forcedFrom_66 : decode cX3_forcedFrom 66 = .ok (.getfield 22, 3) := by decide +kernel
theorem dX3_forcedFrom_69 : decode cX3_forcedFrom 69 = .ok (.iload_n 2, 1) := by decide +kernel
theorem dX3_forcedFrom_70 : decode cX3_forcedFrom 70 = .ok (.iload 10, 2) := by decide +kernel
theorem dX3_forcedFrom_72 : decode cX3_forcedFrom 72 = .ok (.iload 9, 2) := by decide +kernel
theorem dX3_forcedFrom_74 : decode cX3_forcedFrom 74 = .ok (.invokevirtual 98, 3) := by decide +kernel
theorem dX3_forcedFrom_77 : decode cX3_forcedFrom 77 = .ok (.iload 8, 2) := by decide +kernel
theorem dX3_forcedFrom_79 : decode cX3_forcedFrom 79 = .ok (.iconst (-1), 1) := by decide +kernel
theorem dX3_forcedFrom_80 : decode cX3_forcedFrom 80 = .ok (.ixor, 1) := by decide +kernel
theorem dX3_forcedFrom_81 : decode cX3_forcedFrom 81 = .ok (.iand, 1) := by decide +kernel
theorem dX3_forcedFrom_82 : decode cX3_forcedFrom 82 = .ok (.istore 11, 2) := by decide +kernel
theorem dX3_forcedFrom_84 : decode cX3_forcedFrom 84 = .ok (.iload 8, 2) := by decide +kernel
theorem dX3_forcedFrom_86 : decode cX3_forcedFrom 86 = .ok (.iload 11, 2) := by decide +kernel
theorem dX3_forcedFrom_88 : decode cX3_forcedFrom 88 = .ok (.ior, 1) := by decide +kernel
theorem dX3_forcedFrom_89 : decode cX3_forcedFrom 89 = .ok (.istore 8, 2) := by decide +kernel
theorem dX3_forcedFrom_91 : decode cX3_forcedFrom 91 = .ok (.iload_n 3, 1) := by decide +kernel
theorem dX3_forcedFrom_92 : decode cX3_forcedFrom 92 = .ok (.aload_n 0, 1) := by decide +kernel
theorem dX3_forcedFrom_93 : decode cX3_forcedFrom 93 = .ok (.getfield 22, 3) := by decide +kernel
theorem dX3_forcedFrom_96 : decode cX3_forcedFrom 96 = .ok (.iload_n 1, 1) := by decide +kernel
theorem dX3_forcedFrom_97 : decode cX3_forcedFrom 97 = .ok (.iload 9, 2) := by decide +kernel
theorem dX3_forcedFrom_99 : decode cX3_forcedFrom 99 = .ok (.invokevirtual 60, 3) := by decide +kernel
theorem dX3_forcedFrom_102 : decode cX3_forcedFrom 102 = .ok (.invokestatic 102, 3) := by decide +kernel
theorem dX3_forcedFrom_105 : decode cX3_forcedFrom 105 = .ok (.aload_n 0, 1) := by decide +kernel
theorem dX3_forcedFrom_106 : decode cX3_forcedFrom 106 = .ok (.getfield 15, 3) := by decide +kernel
theorem dX3_forcedFrom_109 : decode cX3_forcedFrom 109 = .ok (.iload 10, 2) := by decide +kernel
theorem dX3_forcedFrom_111 : decode cX3_forcedFrom 111 = .ok (.iaload, 1) := by decide +kernel
theorem dX3_forcedFrom_112 : decode cX3_forcedFrom 112 = .ok (.iand, 1) := by decide +kernel
theorem dX3_forcedFrom_113 : decode cX3_forcedFrom 113 = .ok (.ifCond .eq 10, 3) := by decide +kernel
theorem dX3_forcedFrom_116 : decode cX3_forcedFrom 116 = .ok (.iload 4, 2) := by decide +kernel
theorem dX3_forcedFrom_118 : decode cX3_forcedFrom 118 = .ok (.iload 11, 2) := by decide +kernel
theorem dX3_forcedFrom_120 : decode cX3_forcedFrom 120 = .ok (.ior, 1) := by decide +kernel
theorem dX3_forcedFrom_121 : decode cX3_forcedFrom 121 = .ok (.istore 4, 2) := by decide +kernel
theorem dX3_forcedFrom_123 : decode cX3_forcedFrom 123 = .ok (.iinc 9 1, 3) := by decide +kernel
theorem dX3_forcedFrom_126 : decode cX3_forcedFrom 126 = .ok (.goto (-80), 3) := by decide +kernel
theorem dX3_forcedFrom_129 : decode cX3_forcedFrom 129 = .ok (.iinc 5 1, 3) := by decide +kernel
theorem dX3_forcedFrom_132 : decode cX3_forcedFrom 132 = .ok (.goto (-126), 3) := by decide +kernel
theorem dX3_forcedFrom_135 : decode cX3_forcedFrom 135 = .ok (.iload 4, 2) := by decide +kernel
theorem dX3_forcedFrom_137 : decode cX3_forcedFrom 137 = .ok (.ireturn, 1) := by decide +kernel
theorem dX4_init_0 : decode cX4_init 0 = .ok (.aload_n 0, 1) := by decide +kernel
theorem dX4_init_1 : decode cX4_init 1 = .ok (.invokespecial 3, 3) := by decide +kernel
theorem dX4_init_4 : decode cX4_init 4 = .ok (.aload_n 0, 1) := by decide +kernel
theorem dX4_init_5 : decode cX4_init 5 = .ok (.bipush 8, 2) := by decide +kernel
theorem dX4_init_7 : decode cX4_init 7 = .ok (.newarray .boolean, 2) := by decide +kernel
theorem dX4_init_9 : decode cX4_init 9 = .ok (.putfield 9, 3) := by decide +kernel
theorem dX4_init_12 : decode cX4_init 12 = .ok (.aload_n 0, 1) := by decide +kernel
theorem dX4_init_13 : decode cX4_init 13 = .ok (.bipush 8, 2) := by decide +kernel
theorem dX4_init_15 : decode cX4_init 15 = .ok (.newarray .int, 2) := by decide +kernel
theorem dX4_init_17 : decode cX4_init 17 = .ok (.putfield 15, 3) := by decide +kernel
theorem dX4_init_20 : decode cX4_init 20 = .ok (.aload_n 0, 1) := by decide +kernel
theorem dX4_init_21 : decode cX4_init 21 = .ok (.bipush 8, 2) := by decide +kernel
theorem dX4_init_23 : decode cX4_init 23 = .ok (.newarray .int, 2) := by decide +kernel
theorem dX4_init_25 : decode cX4_init 25 = .ok (.putfield 19, 3) := by decide +kernel
theorem dX4_init_28 : decode cX4_init 28 = .ok (.aload_n 0, 1) := by decide +kernel
theorem dX4_init_29 : decode cX4_init 29 = .ok (.bipush 64, 2) := by decide +kernel
theorem dX4_init_31 : decode cX4_init 31 = .ok (.newarray .int, 2) := by decide +kernel
theorem dX4_init_33 : decode cX4_init 33 = .ok (.putfield 22, 3) := by decide +kernel
theorem dX4_init_36 : decode cX4_init 36 = .ok (.aload_n 0, 1) := by decide +kernel
theorem dX4_init_37 : decode cX4_init 37 = .ok (.bipush 8, 2) := by decide +kernel
theorem dX4_init_39 : decode cX4_init 39 = .ok (.newarray .int, 2) := by decide +kernel
theorem dX4_init_41 : decode cX4_init 41 = .ok (.putfield 25, 3) := by decide +kernel
theorem dX4_init_44 : decode cX4_init 44 = .ok (.aload_n 0, 1) := by decide +kernel
theorem dX4_init_45 : decode cX4_init 45 = .ok (.bipush 8, 2) := by decide +kernel
theorem dX4_init_47 : decode cX4_init 47 = .ok (.newarray .int, 2) := by decide +kernel
theorem dX4_init_49 : decode cX4_init 49 = .ok (.putfield 28, 3) := by decide +kernel
theorem dX4_init_52 : decode cX4_init 52 = .ok (.aload_n 0, 1) := by decide +kernel
theorem dX4_init_53 : decode cX4_init 53 = .ok (.iconst 2, 1) := by decide +kernel
theorem dX4_init_54 : decode cX4_init 54 = .ok (.putfield 31, 3) := by decide +kernel
theorem dX4_init_57 : decode cX4_init 57 = .ok (.aload_n 0, 1) := by decide +kernel
theorem dX4_init_58 : decode cX4_init 58 = .ok (.iconst 0, 1) := by decide +kernel
theorem dX4_init_59 : decode cX4_init 59 = .ok (.putfield 35, 3) := by decide +kernel
theorem dX4_init_62 : decode cX4_init 62 = .ok (.aload_n 0, 1) := by decide +kernel
theorem dX4_init_63 : decode cX4_init 63 = .ok (.iconst 0, 1) := by decide +kernel
theorem dX4_init_64 : decode cX4_init 64 = .ok (.putfield 38, 3) := by decide +kernel
theorem dX4_init_67 : decode cX4_init 67 = .ok (.aload_n 0, 1) := by decide +kernel
theorem dX4_init_68 : decode cX4_init 68 = .ok (.iconst 0, 1) := by decide +kernel
theorem dX4_init_69 : decode cX4_init 69 = .ok (.putfield 41, 3) := by decide +kernel
theorem dX4_init_72 : decode cX4_init 72 = .ok (.aload_n 0, 1) := by decide +kernel
theorem dX4_init_73 : decode cX4_init 73 = .ok (.iconst 0, 1) := by decide +kernel
theorem dX4_init_74 : decode cX4_init 74 = .ok (.putfield 45, 3) := by decide +kernel
theorem dX4_init_77 : decode cX4_init 77 = .ok (.aload_n 0, 1) := by decide +kernel
theorem dX4_init_78 : decode cX4_init 78 = .ok (.iconst 0, 1) := by decide +kernel
theorem dX4_init_79 : decode cX4_init 79 = .ok (.putfield 48, 3) := by decide +kernel
theorem dX4_init_82 : decode cX4_init 82 = .ok (.aload_n 0, 1) := by decide +kernel
theorem dX4_init_83 : decode cX4_init 83 = .ok (.iconst 0, 1) := by decide +kernel
theorem dX4_init_84 : decode cX4_init 84 = .ok (.putfield 51, 3) := by decide +kernel
theorem dX4_init_87 : decode cX4_init 87 = .ok (.aload_n 0, 1) := by decide +kernel
theorem dX4_init_88 : decode cX4_init 88 = .ok (.iconst 0, 1) := by decide +kernel
theorem dX4_init_89 : decode cX4_init 89 = .ok (.putfield 54, 3) := by decide +kernel
theorem dX4_init_92 : decode cX4_init 92 = .ok (.return_, 1) := by decide +kernel
theorem dX4_setCourts_0 : decode cX4_setCourts 0 = .ok (.aload_n 0, 1) := by decide +kernel
theorem dX4_setCourts_1 : decode cX4_setCourts 1 = .ok (.getfield 31, 3) := by decide +kernel
theorem dX4_setCourts_4 : decode cX4_setCourts 4 = .ok (.istore_n 2, 1) := by decide +kernel
theorem dX4_setCourts_5 : decode cX4_setCourts 5 = .ok (.aload_n 0, 1) := by decide +kernel
theorem dX4_setCourts_6 : decode cX4_setCourts 6 = .ok (.iload_n 1, 1) := by decide +kernel
theorem dX4_setCourts_7 : decode cX4_setCourts 7 = .ok (.putfield 31, 3) := by decide +kernel
theorem dX4_setCourts_10 : decode cX4_setCourts 10 = .ok (.aload_n 0, 1) := by decide +kernel
theorem dX4_setCourts_11 : decode cX4_setCourts 11 = .ok (.iconst 0, 1) := by decide +kernel
theorem dX4_setCourts_12 : decode cX4_setCourts 12 = .ok (.putfield 41, 3) := by decide +kernel
theorem dX4_setCourts_15 : decode cX4_setCourts 15 = .ok (.iload_n 2, 1) := by decide +kernel
theorem dX4_setCourts_16 : decode cX4_setCourts 16 = .ok (.ireturn, 1) := by decide +kernel
theorem dX4_isThere_0 : decode cX4_isThere 0 = .ok (.aload_n 0, 1) := by decide +kernel
theorem dX4_isThere_1 : decode cX4_isThere 1 = .ok (.getfield 9, 3) := by decide +kernel
theorem dX4_isThere_4 : decode cX4_isThere 4 = .ok (.iload_n 1, 1) := by decide +kernel
theorem dX4_isThere_5 : decode cX4_isThere 5 = .ok (.baload, 1) := by decide +kernel
theorem dX4_isThere_6 : decode cX4_isThere 6 = .ok (.ireturn, 1) := by decide +kernel
theorem dX4_enter_0 : decode cX4_enter 0 = .ok (.aload_n 0, 1) := by decide +kernel
theorem dX4_enter_1 : decode cX4_enter 1 = .ok (.getfield 9, 3) := by decide +kernel
theorem dX4_enter_4 : decode cX4_enter 4 = .ok (.iload_n 1, 1) := by decide +kernel
theorem dX4_enter_5 : decode cX4_enter 5 = .ok (.iconst 1, 1) := by decide +kernel
theorem dX4_enter_6 : decode cX4_enter 6 = .ok (.bastore, 1) := by decide +kernel
theorem dX4_enter_7 : decode cX4_enter 7 = .ok (.aload_n 0, 1) := by decide +kernel
theorem dX4_enter_8 : decode cX4_enter 8 = .ok (.getfield 15, 3) := by decide +kernel
theorem dX4_enter_11 : decode cX4_enter 11 = .ok (.iload_n 1, 1) := by decide +kernel
theorem dX4_enter_12 : decode cX4_enter 12 = .ok (.iload_n 2, 1) := by decide +kernel
theorem dX4_enter_13 : decode cX4_enter 13 = .ok (.iastore, 1) := by decide +kernel
theorem dX4_enter_14 : decode cX4_enter 14 = .ok (.aload_n 0, 1) := by decide +kernel
theorem dX4_enter_15 : decode cX4_enter 15 = .ok (.getfield 19, 3) := by decide +kernel
theorem dX4_enter_18 : decode cX4_enter 18 = .ok (.iload_n 1, 1) := by decide +kernel
theorem dX4_enter_19 : decode cX4_enter 19 = .ok (.iconst 0, 1) := by decide +kernel
theorem dX4_enter_20 : decode cX4_enter 20 = .ok (.iastore, 1) := by decide +kernel
theorem dX4_enter_21 : decode cX4_enter 21 = .ok (.aload_n 0, 1) := by decide +kernel
theorem dX4_enter_22 : decode cX4_enter 22 = .ok (.dup, 1) := by decide +kernel
theorem dX4_enter_23 : decode cX4_enter 23 = .ok (.getfield 35, 3) := by decide +kernel
theorem dX4_enter_26 : decode cX4_enter 26 = .ok (.iconst 1, 1) := by decide +kernel
theorem dX4_enter_27 : decode cX4_enter 27 = .ok (.iadd, 1) := by decide +kernel
theorem dX4_enter_28 : decode cX4_enter 28 = .ok (.putfield 35, 3) := by decide +kernel
theorem dX4_enter_31 : decode cX4_enter 31 = .ok (.aload_n 0, 1) := by decide +kernel
theorem dX4_enter_32 : decode cX4_enter 32 = .ok (.iconst 0, 1) := by decide +kernel
theorem dX4_enter_33 : decode cX4_enter 33 = .ok (.putfield 41, 3) := by decide +kernel
theorem dX4_enter_36 : decode cX4_enter 36 = .ok (.aload_n 0, 1) := by decide +kernel
theorem dX4_enter_37 : decode cX4_enter 37 = .ok (.getfield 35, 3) := by decide +kernel
theorem dX4_enter_40 : decode cX4_enter 40 = .ok (.ireturn, 1) := by decide +kernel
theorem dX4_exit_0 : decode cX4_exit 0 = .ok (.aload_n 0, 1) := by decide +kernel
theorem dX4_exit_1 : decode cX4_exit 1 = .ok (.getfield 9, 3) := by decide +kernel
theorem dX4_exit_4 : decode cX4_exit 4 = .ok (.iload_n 1, 1) := by decide +kernel
theorem dX4_exit_5 : decode cX4_exit 5 = .ok (.iconst 0, 1) := by decide +kernel
theorem dX4_exit_6 : decode cX4_exit 6 = .ok (.bastore, 1) := by decide +kernel
theorem dX4_exit_7 : decode cX4_exit 7 = .ok (.aload_n 0, 1) := by decide +kernel
theorem dX4_exit_8 : decode cX4_exit 8 = .ok (.dup, 1) := by decide +kernel
theorem dX4_exit_9 : decode cX4_exit 9 = .ok (.getfield 35, 3) := by decide +kernel
theorem dX4_exit_12 : decode cX4_exit 12 = .ok (.iconst 1, 1) := by decide +kernel
theorem dX4_exit_13 : decode cX4_exit 13 = .ok (.isub, 1) := by decide +kernel
theorem dX4_exit_14 : decode cX4_exit 14 = .ok (.putfield 35, 3) := by decide +kernel
theorem dX4_exit_17 : decode cX4_exit 17 = .ok (.aload_n 0, 1) := by decide +kernel
theorem dX4_exit_18 : decode cX4_exit 18 = .ok (.iconst 0, 1) := by decide +kernel
theorem dX4_exit_19 : decode cX4_exit 19 = .ok (.putfield 41, 3) := by decide +kernel
theorem dX4_exit_22 : decode cX4_exit 22 = .ok (.aload_n 0, 1) := by decide +kernel
theorem dX4_exit_23 : decode cX4_exit 23 = .ok (.getfield 35, 3) := by decide +kernel
theorem dX4_exit_26 : decode cX4_exit 26 = .ok (.ireturn, 1) := by decide +kernel
set_option maxRecDepth 20000 in
theorem ggX4_mateOf_X4_seek : GoodIn wsX4_mateOf wsX4_seek := goodIn_r _ [6, 7, 8, 9, 10, 11, 12, 13, 14, 15, 16, 5, 17, 18, 19, 20, 21, 22, 23, 24, 25, 26, 27, 28, 29, 30, 31, 32, 33, 34, 35, 36, 37, 38, 39, 40, 1, 41, 42, 43, 44, 45, 46, 47, 48, 49, 50, 51, 52, 53, 54, 55, 56, 57, 58, 59, 60, 61, 62, 63, 64, 65, 66, 67] (by decide +kernel) (by decide +kernel)
set_option maxRecDepth 20000 in
theorem gX4_mateOf_X4_seek : GoodIn wsX4_mateOf (wsV RX4 57 RX4 yX4_seek wsX4_seek) := goodIn_app (goodIn_of _ (by decide +kernel)) ggX4_mateOf_X4_seek
theorem dX4_mateOf_0 : decode cX4_mateOf 0 = .ok (.aload_n 0, 1) := by decide +kernel
theorem dX4_mateOf_1 : decode cX4_mateOf 1 = .ok (.invokevirtual 57, 3) := by decide +kernel
theorem dX4_mateOf_4 : decode cX4_mateOf 4 = .ok (.aload_n 0, 1) := by decide +kernel
theorem dX4_mateOf_5 : decode cX4_mateOf 5 = .ok (.getfield 28, 3) := by decide +kernel
theorem dX4_mateOf_8 : decode cX4_mateOf 8 = .ok (.iload_n 1, 1) := by decide +kernel
theorem dX4_mateOf_9 : decode cX4_mateOf 9 = .ok (.iaload, 1) := by decide +kernel
theorem dX4_mateOf_10 : decode cX4_mateOf 10 = .ok (.ireturn, 1) := by decide +kernel
set_option maxRecDepth 20000 in
theorem ggX4_readRound_X4_seek : GoodIn wsX4_readRound wsX4_seek := goodIn_r _ [8, 9, 10, 11, 12, 13, 14, 15, 16, 17, 18, 7, 19, 20, 21, 22, 23, 24, 25, 26, 27, 28, 29, 30, 31, 32, 33, 34, 35, 36, 37, 38, 39, 1, 2, 3, 40, 41, 42, 43, 44, 45, 46, 47, 48, 49, 50, 51, 52, 53, 54, 55, 56, 57, 58, 59, 60, 61, 62, 63, 64, 65, 66, 67] (by decide +kernel) (by decide +kernel)
set_option maxRecDepth 20000 in
theorem gX4_readRound_X4_seek : GoodIn wsX4_readRound (wsV RX4 57 RX4 yX4_seek wsX4_seek) := goodIn_app (goodIn_of _ (by decide +kernel)) ggX4_readRound_X4_seek
set_option maxRecDepth 20000 in
theorem ggX4_readRound_X4_gamesAtOnce : GoodIn wsX4_readRound wsX4_gamesAtOnce := goodIn_r _ [19, 20, 21, 22, 23, 24, 25, 54, 55, 56, 57, 58, 59, 60, 61, 62, 63, 64, 65, 66, 67] (by decide +kernel) (by decide +kernel)
set_option maxRecDepth 20000 in
theorem gX4_readRound_X4_gamesAtOnce : GoodIn wsX4_readRound (wsV RX4 60 RX4 yX4_gamesAtOnce wsX4_gamesAtOnce) := goodIn_app (goodIn_of _ (by decide +kernel)) ggX4_readRound_X4_gamesAtOnce
theorem dX4_readRound_0 : decode cX4_readRound 0 = .ok (.aload_n 0, 1) := by decide +kernel
theorem dX4_readRound_1 : decode cX4_readRound 1 = .ok (.invokevirtual 57, 3) := by decide +kernel
theorem dX4_readRound_4 : decode cX4_readRound 4 = .ok (.iload_n 1, 1) := by decide +kernel
theorem dX4_readRound_5 : decode cX4_readRound 5 = .ok (.tableswitch 42 0 2 #[27, 32, 37], 27) := by decide +kernel
theorem dX4_readRound_32 : decode cX4_readRound 32 = .ok (.aload_n 0, 1) := by decide +kernel
theorem dX4_readRound_33 : decode cX4_readRound 33 = .ok (.invokevirtual 60, 3) := by decide +kernel
theorem dX4_readRound_36 : decode cX4_readRound 36 = .ok (.ireturn, 1) := by decide +kernel
theorem dX4_readRound_37 : decode cX4_readRound 37 = .ok (.aload_n 0, 1) := by decide +kernel
theorem dX4_readRound_38 : decode cX4_readRound 38 = .ok (.getfield 48, 3) := by decide +kernel
theorem dX4_readRound_41 : decode cX4_readRound 41 = .ok (.ireturn, 1) := by decide +kernel
theorem dX4_readRound_42 : decode cX4_readRound 42 = .ok (.aload_n 0, 1) := by decide +kernel
theorem dX4_readRound_43 : decode cX4_readRound 43 = .ok (.getfield 51, 3) := by decide +kernel
theorem dX4_readRound_46 : decode cX4_readRound 46 = .ok (.ireturn, 1) := by decide +kernel
theorem dX4_readRound_47 : decode cX4_readRound 47 = .ok (.aload_n 0, 1) := by decide +kernel
theorem dX4_readRound_48 : decode cX4_readRound 48 = .ok (.getfield 54, 3) := by decide +kernel
theorem dX4_readRound_51 : decode cX4_readRound 51 = .ok (.ireturn, 1) := by decide +kernel
set_option maxRecDepth 20000 in
theorem ggX4_playRound_X4_seek : GoodIn wsX4_playRound wsX4_seek := goodIn_r _ [11, 6, 12, 13, 14, 15, 16, 17, 18, 19, 20, 10, 21, 22, 23, 24, 25, 26, 27, 28, 29, 30, 31, 2, 3, 32, 33, 34, 35, 36, 37, 38, 39, 40, 41, 42, 1, 43, 44, 45, 46, 47, 48, 49, 50, 51, 52, 53, 54, 4, 55, 56, 57, 58, 59, 60, 61, 62, 63, 64, 65, 66, 67, 68] (by decide +kernel) (by decide +kernel)
set_option maxRecDepth 20000 in
theorem gX4_playRound_X4_seek : GoodIn wsX4_playRound (wsV RX4 57 RX4 yX4_seek wsX4_seek) := goodIn_app (goodIn_of _ (by decide +kernel)) ggX4_playRound_X4_seek
set_option maxRecDepth 20000 in
theorem ggX4_playRound_X4_gamesAtOnce : GoodIn wsX4_playRound wsX4_gamesAtOnce := goodIn_r _ [21, 22, 23, 24, 25, 26, 27, 55, 56, 57, 58, 59, 60, 61, 62, 63, 64, 65, 66, 67, 68] (by decide +kernel) (by decide +kernel)
set_option maxRecDepth 20000 in
theorem gX4_playRound_X4_gamesAtOnce : GoodIn wsX4_playRound (wsV RX4 60 RX4 yX4_gamesAtOnce wsX4_gamesAtOnce) := goodIn_app (goodIn_of _ (by decide +kernel)) ggX4_playRound_X4_gamesAtOnce
theorem dX4_playRound_0 : decode cX4_playRound 0 = .ok (.aload_n 0, 1) := by decide +kernel
theorem dX4_playRound_1 : decode cX4_playRound 1 = .ok (.invokevirtual 57, 3) := by decide +kernel
theorem dX4_playRound_4 : decode cX4_playRound 4 = .ok (.iconst 0, 1) := by decide +kernel
theorem dX4_playRound_5 : decode cX4_playRound 5 = .ok (.istore_n 1, 1) := by decide +kernel
theorem dX4_playRound_6 : decode cX4_playRound 6 = .ok (.iload_n 1, 1) := by decide +kernel
theorem dX4_playRound_7 : decode cX4_playRound 7 = .ok (.bipush 8, 2) := by decide +kernel
theorem dX4_playRound_9 : decode cX4_playRound 9 = .ok (.if_icmp .ge 65, 3) := by decide +kernel
theorem dX4_playRound_12 : decode cX4_playRound 12 = .ok (.aload_n 0, 1) := by decide +kernel
theorem dX4_playRound_13 : decode cX4_playRound 13 = .ok (.getfield 28, 3) := by decide +kernel
theorem dX4_playRound_16 : decode cX4_playRound 16 = .ok (.iload_n 1, 1) := by decide +kernel
theorem dX4_playRound_17 : decode cX4_playRound 17 = .ok (.iaload, 1) := by decide +kernel
theorem dX4_playRound_18 : decode cX4_playRound 18 = .ok (.istore_n 2, 1) := by decide +kernel
theorem dX4_playRound_19 : decode cX4_playRound 19 = .ok (.iload_n 2, 1) := by decide +kernel
theorem dX4_playRound_20 : decode cX4_playRound 20 = .ok (.iconst (-1), 1) := by decide +kernel
theorem dX4_playRound_21 : decode cX4_playRound 21 = .ok (.if_icmp .eq 28, 3) := by decide +kernel
theorem dX4_playRound_24 : decode cX4_playRound 24 = .ok (.aload_n 0, 1) := by decide +kernel
theorem dX4_playRound_25 : decode cX4_playRound 25 = .ok (.getfield 19, 3) := by decide +kernel
theorem dX4_playRound_28 : decode cX4_playRound 28 = .ok (.iload_n 1, 1) := by decide +kernel
theorem dX4_playRound_29 : decode cX4_playRound 29 = .ok (.iconst 0, 1) := by decide +kernel
theorem dX4_playRound_30 : decode cX4_playRound 30 = .ok (.iastore, 1) := by decide +kernel
theorem dX4_playRound_31 : decode cX4_playRound 31 = .ok (.aload_n 0, 1) := by decide +kernel
theorem dX4_playRound_32 : decode cX4_playRound 32 = .ok (.getfield 22, 3) := by decide +kernel
theorem dX4_playRound_35 : decode cX4_playRound 35 = .ok (.iload_n 1, 1) := by decide +kernel
theorem dX4_playRound_36 : decode cX4_playRound 36 = .ok (.bipush 8, 2) := by decide +kernel
theorem dX4_playRound_38 : decode cX4_playRound 38 = .ok (.imul, 1) := by decide +kernel
theorem dX4_playRound_39 : decode cX4_playRound 39 = .ok (.iload_n 2, 1) := by decide +kernel
theorem dX4_playRound_40 : decode cX4_playRound 40 = .ok (.iadd, 1) := by decide +kernel
theorem dX4_playRound_41 : decode cX4_playRound 41 = .ok (.dup2, 1) := by decide +kernel
theorem dX4_playRound_42 : decode cX4_playRound 42 = .ok (.iaload, 1) := by decide +kernel
theorem dX4_playRound_43 : decode cX4_playRound 43 = .ok (.iconst 1, 1) := by decide +kernel
theorem dX4_playRound_44 : decode cX4_playRound 44 = .ok (.iadd, 1) := by decide +kernel
theorem dX4_playRound_45 : decode cX4_playRound 45 = .ok (.iastore, 1) := by decide +kernel
theorem dX4_playRound_46 : decode cX4_playRound 46 = .ok (.goto 22, 3) := by decide +kernel
theorem dX4_playRound_49 : decode cX4_playRound 49 = .ok (.aload_n 0, 1) := by decide +kernel
theorem dX4_playRound_50 : decode cX4_playRound 50 = .ok (.getfield 9, 3) := by decide +kernel
theorem dX4_playRound_53 : decode cX4_playRound 53 = .ok (.iload_n 1, 1) := by decide +kernel
theorem dX4_playRound_54 : decode cX4_playRound 54 = .ok (.baload, 1) := by decide +kernel
theorem dX4_playRound_55 : decode cX4_playRound 55 = .ok (.ifCond .eq 13, 3) := by decide +kernel
theorem dX4_playRound_58 : decode cX4_playRound 58 = .ok (.aload_n 0, 1) := by decide +kernel
theorem dX4_playRound_59 : decode cX4_playRound 59 = .ok (.getfield 19, 3) := by decide +kernel
theorem dX4_playRound_62 : decode cX4_playRound 62 = .ok (.iload_n 1, 1) := by decide +kernel
theorem dX4_playRound_63 : decode cX4_playRound 63 = .ok (.dup2, 1) := by decide +kernel
theorem dX4_playRound_64 : decode cX4_playRound 64 = .ok (.iaload, 1) := by decide +kernel
theorem dX4_playRound_65 : decode cX4_playRound 65 = .ok (.iconst 1, 1) := by decide +kernel
theorem dX4_playRound_66 : decode cX4_playRound 66 = .ok (.iadd, 1) := by decide +kernel
theorem dX4_playRound_67 : decode cX4_playRound 67 = .ok (.iastore, 1) := by decide +kernel
theorem dX4_playRound_68 : decode cX4_playRound 68 = .ok (.iinc 1 1, 3) := by decide +kernel
theorem dX4_playRound_71 : decode cX4_playRound 71 = .ok (.goto (-65), 3) := by decide +kernel
theorem dX4_playRound_74 : decode cX4_playRound 74 = .ok (.aload_n 0, 1) := by decide +kernel
theorem dX4_playRound_75 : decode cX4_playRound 75 = .ok (.dup, 1) := by decide +kernel
theorem dX4_playRound_76 : decode cX4_playRound 76 = .ok (.getfield 38, 3) := by decide +kernel
theorem dX4_playRound_79 : decode cX4_playRound 79 = .ok (.iconst 1, 1) := by decide +kernel
theorem dX4_playRound_80 : decode cX4_playRound 80 = .ok (.iadd, 1) := by decide +kernel
theorem dX4_playRound_81 : decode cX4_playRound 81 = .ok (.putfield 38, 3) := by decide +kernel
theorem dX4_playRound_84 : decode cX4_playRound 84 = .ok (.aload_n 0, 1) := by decide +kernel
theorem dX4_playRound_85 : decode cX4_playRound 85 = .ok (.iconst 0, 1) := by decide +kernel
theorem dX4_playRound_86 : decode cX4_playRound 86 = .ok (.putfield 41, 3) := by decide +kernel
theorem dX4_playRound_89 : decode cX4_playRound 89 = .ok (.aload_n 0, 1) := by decide +kernel
theorem dX4_playRound_90 : decode cX4_playRound 90 = .ok (.invokevirtual 60, 3) := by decide +kernel
theorem dX4_playRound_93 : decode cX4_playRound 93 = .ok (.ireturn, 1) := by decide +kernel
theorem dX4_gamesOfBoth_0 : decode cX4_gamesOfBoth 0 = .ok (.aload_n 0, 1) := by decide +kernel
theorem dX4_gamesOfBoth_1 : decode cX4_gamesOfBoth 1 = .ok (.getfield 22, 3) := by decide +kernel
theorem dX4_gamesOfBoth_4 : decode cX4_gamesOfBoth 4 = .ok (.iload_n 1, 1) := by decide +kernel
theorem dX4_gamesOfBoth_5 : decode cX4_gamesOfBoth 5 = .ok (.bipush 8, 2) := by decide +kernel
theorem dX4_gamesOfBoth_7 : decode cX4_gamesOfBoth 7 = .ok (.imul, 1) := by decide +kernel
theorem dX4_gamesOfBoth_8 : decode cX4_gamesOfBoth 8 = .ok (.iload_n 2, 1) := by decide +kernel
theorem dX4_gamesOfBoth_9 : decode cX4_gamesOfBoth 9 = .ok (.iadd, 1) := by decide +kernel
theorem dX4_gamesOfBoth_10 : decode cX4_gamesOfBoth 10 = .ok (.iaload, 1) := by decide +kernel
theorem dX4_gamesOfBoth_11 : decode cX4_gamesOfBoth 11 = .ok (.ireturn, 1) := by decide +kernel
theorem dX4_gamesOf_0 : decode cX4_gamesOf 0 = .ok (.iconst 0, 1) := by decide +kernel
theorem dX4_gamesOf_1 : decode cX4_gamesOf 1 = .ok (.istore_n 2, 1) := by decide +kernel
theorem dX4_gamesOf_2 : decode cX4_gamesOf 2 = .ok (.iconst 0, 1) := by decide +kernel
theorem dX4_gamesOf_3 : decode cX4_gamesOf 3 = .ok (.istore_n 3, 1) := by decide +kernel
theorem dX4_gamesOf_4 : decode cX4_gamesOf 4 = .ok (.iload_n 3, 1) := by decide +kernel
theorem dX4_gamesOf_5 : decode cX4_gamesOf 5 = .ok (.bipush 8, 2) := by decide +kernel
theorem dX4_gamesOf_7 : decode cX4_gamesOf 7 = .ok (.if_icmp .ge 23, 3) := by decide +kernel
theorem dX4_gamesOf_10 : decode cX4_gamesOf 10 = .ok (.iload_n 2, 1) := by decide +kernel
theorem dX4_gamesOf_11 : decode cX4_gamesOf 11 = .ok (.aload_n 0, 1) := by decide +kernel
theorem dX4_gamesOf_12 : decode cX4_gamesOf 12 = .ok (.getfield 22, 3) := by decide +kernel
theorem dX4_gamesOf_15 : decode cX4_gamesOf 15 = .ok (.iload_n 1, 1) := by decide +kernel
theorem dX4_gamesOf_16 : decode cX4_gamesOf 16 = .ok (.bipush 8, 2) := by decide +kernel
theorem dX4_gamesOf_18 : decode cX4_gamesOf 18 = .ok (.imul, 1) := by decide +kernel
theorem dX4_gamesOf_19 : decode cX4_gamesOf 19 = .ok (.iload_n 3, 1) := by decide +kernel
theorem dX4_gamesOf_20 : decode cX4_gamesOf 20 = .ok (.iadd, 1) := by decide +kernel
theorem dX4_gamesOf_21 : decode cX4_gamesOf 21 = .ok (.iaload, 1) := by decide +kernel
theorem dX4_gamesOf_22 : decode cX4_gamesOf 22 = .ok (.iadd, 1) := by decide +kernel
theorem dX4_gamesOf_23 : decode cX4_gamesOf 23 = .ok (.istore_n 2, 1) := by decide +kernel
theorem dX4_gamesOf_24 : decode cX4_gamesOf 24 = .ok (.iinc 3 1, 3) := by decide +kernel
theorem dX4_gamesOf_27 : decode cX4_gamesOf 27 = .ok (.goto (-23), 3) := by decide +kernel
theorem dX4_gamesOf_30 : decode cX4_gamesOf 30 = .ok (.iload_n 2, 1) := by decide +kernel
theorem dX4_gamesOf_31 : decode cX4_gamesOf 31 = .ok (.ireturn, 1) := by decide +kernel
theorem dX4_waitedOf_0 : decode cX4_waitedOf 0 = .ok (.aload_n 0, 1) := by decide +kernel
theorem dX4_waitedOf_1 : decode cX4_waitedOf 1 = .ok (.getfield 9, 3) := by decide +kernel
theorem dX4_waitedOf_4 : decode cX4_waitedOf 4 = .ok (.iload_n 1, 1) := by decide +kernel
theorem dX4_waitedOf_5 : decode cX4_waitedOf 5 = .ok (.baload, 1) := by decide +kernel
theorem dX4_waitedOf_6 : decode cX4_waitedOf 6 = .ok (.ifCond .eq 12, 3) := by decide +kernel
theorem dX4_waitedOf_9 : decode cX4_waitedOf 9 = .ok (.aload_n 0, 1) := by decide +kernel
theorem dX4_waitedOf_10 : decode cX4_waitedOf 10 = .ok (.getfield 19, 3) := by decide +kernel
theorem dX4_waitedOf_13 : decode cX4_waitedOf 13 = .ok (.iload_n 1, 1) := by decide +kernel
theorem dX4_waitedOf_14 : decode cX4_waitedOf 14 = .ok (.iaload, 1) := by decide +kernel
theorem dX4_waitedOf_15 : decode cX4_waitedOf 15 = .ok (.goto 4, 3) := by decide +kernel
theorem dX4_waitedOf_18 : decode cX4_waitedOf 18 = .ok (.iconst (-1), 1) := by decide +kernel
theorem dX4_waitedOf_19 : decode cX4_waitedOf 19 = .ok (.ireturn, 1) := by decide +kernel
theorem dX4_gradeOf_0 : decode cX4_gradeOf 0 = .ok (.aload_n 0, 1) := by decide +kernel
theorem dX4_gradeOf_1 : decode cX4_gradeOf 1 = .ok (.getfield 9, 3) := by decide +kernel
theorem dX4_gradeOf_4 : decode cX4_gradeOf 4 = .ok (.iload_n 1, 1) := by decide +kernel
theorem dX4_gradeOf_5 : decode cX4_gradeOf 5 = .ok (.baload, 1) := by decide +kernel
theorem dX4_gradeOf_6 : decode cX4_gradeOf 6 = .ok (.ifCond .eq 12, 3) := by decide +kernel
theorem dX4_gradeOf_9 : decode cX4_gradeOf 9 = .ok (.aload_n 0, 1) := by decide +kernel
theorem dX4_gradeOf_10 : decode cX4_gradeOf 10 = .ok (.getfield 15, 3) := by decide +kernel
theorem dX4_gradeOf_13 : decode cX4_gradeOf 13 = .ok (.iload_n 1, 1) := by decide +kernel
theorem dX4_gradeOf_14 : decode cX4_gradeOf 14 = .ok (.iaload, 1) := by decide +kernel
theorem dX4_gradeOf_15 : decode cX4_gradeOf 15 = .ok (.goto 4, 3) := by decide +kernel
theorem dX4_gradeOf_18 : decode cX4_gradeOf 18 = .ok (.iconst (-1), 1) := by decide +kernel
theorem dX4_gradeOf_19 : decode cX4_gradeOf 19 = .ok (.ireturn, 1) := by decide +kernel
theorem dX4_thereNow_0 : decode cX4_thereNow 0 = .ok (.aload_n 0, 1) := by decide +kernel
theorem dX4_thereNow_1 : decode cX4_thereNow 1 = .ok (.getfield 35, 3) := by decide +kernel
theorem dX4_thereNow_4 : decode cX4_thereNow 4 = .ok (.ireturn, 1) := by decide +kernel
theorem dX4_roundsPlayed_0 : decode cX4_roundsPlayed 0 = .ok (.aload_n 0, 1) := by decide +kernel
theorem dX4_roundsPlayed_1 : decode cX4_roundsPlayed 1 = .ok (.getfield 38, 3) := by decide +kernel
theorem dX4_roundsPlayed_4 : decode cX4_roundsPlayed 4 = .ok (.ireturn, 1) := by decide +kernel
theorem dX4_gamesAtOnce_0 : decode cX4_gamesAtOnce 0 = .ok (.aload_n 0, 1) := by decide +kernel
theorem dX4_gamesAtOnce_1 : decode cX4_gamesAtOnce 1 = .ok (.getfield 31, 3) := by decide +kernel
theorem dX4_gamesAtOnce_4 : decode cX4_gamesAtOnce 4 = .ok (.aload_n 0, 1) := by decide +kernel
theorem dX4_gamesAtOnce_5 : decode cX4_gamesAtOnce 5 = .ok (.getfield 35, 3) := by decide +kernel
theorem dX4_gamesAtOnce_8 : decode cX4_gamesAtOnce 8 = .ok (.iconst 2, 1) := by decide +kernel
theorem dX4_gamesAtOnce_9 : decode cX4_gamesAtOnce 9 = .ok (.idiv, 1) := by decide +kernel
theorem dX4_gamesAtOnce_10 : decode cX4_gamesAtOnce 10 = .ok (.invokestatic 64, 3) := by decide +kernel
theorem dX4_gamesAtOnce_13 : decode cX4_gamesAtOnce 13 = .ok (.ireturn, 1) := by decide +kernel
set_option maxRecDepth 20000 in
theorem ggX4_seek_J7_fill_53178 : GoodIn wsX4_seek wsJ7_fill_53178 := goodIn_r _ [7] (by decide +kernel) (by decide +kernel)
set_option maxRecDepth 20000 in
theorem gX4_seek_J7_fill_53178 : GoodIn wsX4_seek (va_wsS RX4 70 yJ7_fill_53178 wsJ7_fill_53178) := goodIn_app (goodIn_of _ (by decide +kernel)) ggX4_seek_J7_fill_53178
set_option maxRecDepth 20000 in
theorem ggX4_seek_X4_gamesAtOnce : GoodIn wsX4_seek wsX4_gamesAtOnce := goodIn_r _ [12, 13, 14, 15, 16, 17, 18, 50, 51, 52, 53, 54, 55, 56, 57, 58, 59, 60, 61, 62, 63] (by decide +kernel) (by decide +kernel)
set_option maxRecDepth 20000 in
theorem gX4_seek_X4_gamesAtOnce : GoodIn wsX4_seek (wsV RX4 60 RX4 yX4_gamesAtOnce wsX4_gamesAtOnce) := goodIn_app (goodIn_of _ (by decide +kernel)) ggX4_seek_X4_gamesAtOnce
set_option maxRecDepth 20000 in
theorem ggX4_seek_X4_pairFrom : GoodIn wsX4_seek wsX4_pairFrom := goodIn_r _ [22, 3, 23, 24, 25, 26, 27, 17, 28, 29, 30, 31, 11, 32, 2, 33, 34, 35, 36, 37, 38, 39, 40, 41, 42, 43, 44, 45, 46, 47, 48, 49, 19, 20, 21, 50, 51, 52, 53, 54, 55, 56, 57, 58, 59, 60, 61, 62, 63] (by decide +kernel) (by decide +kernel)
set_option maxRecDepth 20000 in
theorem gX4_seek_X4_pairFrom : GoodIn wsX4_seek (wsV RX4 76 RX4 yX4_pairFrom wsX4_pairFrom) := goodIn_app (goodIn_of _ (by decide +kernel)) ggX4_seek_X4_pairFrom
theorem dX4_seek_0 : decode cX4_seek 0 = .ok (.aload_n 0, 1) := by decide +kernel
theorem dX4_seek_1 : decode cX4_seek 1 = .ok (.getfield 41, 3) := by decide +kernel
theorem dX4_seek_4 : decode cX4_seek 4 = .ok (.ifCond .eq 4, 3) := by decide +kernel
theorem dX4_seek_7 : decode cX4_seek 7 = .ok (.return_, 1) := by decide +kernel
theorem dX4_seek_8 : decode cX4_seek 8 = .ok (.aload_n 0, 1) := by decide +kernel
theorem dX4_seek_9 : decode cX4_seek 9 = .ok (.iconst 1, 1) := by decide +kernel
theorem dX4_seek_10 : decode cX4_seek 10 = .ok (.putfield 41, 3) := by decide +kernel
theorem dX4_seek_13 : decode cX4_seek 13 = .ok (.aload_n 0, 1) := by decide +kernel
theorem dX4_seek_14 : decode cX4_seek 14 = .ok (.iconst 0, 1) := by decide +kernel
theorem dX4_seek_15 : decode cX4_seek 15 = .ok (.putfield 45, 3) := by decide +kernel
theorem dX4_seek_18 : decode cX4_seek 18 = .ok (.aload_n 0, 1) := by decide +kernel
theorem dX4_seek_19 : decode cX4_seek 19 = .ok (.getfield 25, 3) := by decide +kernel
theorem dX4_seek_22 : decode cX4_seek 22 = .ok (.iconst (-1), 1) := by decide +kernel
theorem dX4_seek_23 : decode cX4_seek 23 = .ok (.invokestatic 70, 3) := by decide +kernel
theorem dX4_seek_26 : decode cX4_seek 26 = .ok (.aload_n 0, 1) := by decide +kernel
theorem dX4_seek_27 : decode cX4_seek 27 = .ok (.iconst 0, 1) := by decide +kernel
theorem dX4_seek_28 : decode cX4_seek 28 = .ok (.aload_n 0, 1) := by decide +kernel
theorem dX4_seek_29 : decode cX4_seek 29 = .ok (.invokevirtual 60, 3) := by decide +kernel
theorem dX4_seek_32 : decode cX4_seek 32 = .ok (.iconst 0, 1) := by decide +kernel
theorem dX4_seek_33 : decode cX4_seek 33 = .ok (.iconst 0, 1) := by decide +kernel
theorem dX4_seek_34 : decode cX4_seek 34 = .ok (.iconst 0, 1) := by decide +kernel
theorem dX4_seek_35 : decode cX4_seek 35 = .ok (.invokevirtual 76, 3) := by decide +kernel
theorem dX4_seek_38 : decode cX4_seek 38 = .ok (.return_, 1) := by decide +kernel
set_option maxRecDepth 20000 in
theorem ggX4_pairFrom_X4_keepIfBetter : GoodIn wsX4_pairFrom wsX4_keepIfBetter := goodIn_r _ [13, 14, 15, 16, 17, 1, 18, 19, 20, 21, 22, 23, 24, 25, 12, 26, 35, 36, 37, 38, 39, 40, 41, 42, 43, 44, 45, 46, 47, 48] (by decide +kernel) (by decide +kernel)
set_option maxRecDepth 20000 in
theorem gX4_pairFrom_X4_keepIfBetter : GoodIn wsX4_pairFrom (wsV RX4 80 RX4 yX4_keepIfBetter wsX4_keepIfBetter) := goodIn_app (goodIn_of _ (by decide +kernel)) ggX4_pairFrom_X4_keepIfBetter
set_option maxRecDepth 20000 in
theorem ggX4_pairFrom_X4_isFree : GoodIn wsX4_pairFrom wsX4_isFree := goodIn_r _ [30, 31, 1, 35, 36, 37, 38, 39, 40, 41, 42, 43, 44, 45, 46, 47, 48] (by decide +kernel) (by decide +kernel)
set_option maxRecDepth 20000 in
theorem gX4_pairFrom_X4_isFree : GoodIn wsX4_pairFrom (wsV RX4 84 RX4 yX4_isFree wsX4_isFree) := goodIn_app (goodIn_of _ (by decide +kernel)) ggX4_pairFrom_X4_isFree
set_option maxRecDepth 20000 in
theorem ggX4_pairFrom_X4_pairFrom : GoodIn wsX4_pairFrom wsX4_pairFrom := goodIn_r _ [0, 1, 2, 3, 4, 5, 6, 7, 8, 9, 10, 11, 12, 13, 14, 15, 16, 17, 18, 19, 20, 21, 22, 23, 24, 25, 26, 27, 28, 29, 30, 31, 32, 33, 34, 35, 36, 37, 38, 39, 40, 41, 42, 43, 44, 45, 46, 47, 48] (by decide +kernel) (by decide +kernel)
set_option maxRecDepth 20000 in
theorem gX4_pairFrom_X4_pairFrom : GoodIn wsX4_pairFrom (wsV RX4 76 RX4 yX4_pairFrom wsX4_pairFrom) := goodIn_app (goodIn_of _ (by decide +kernel)) ggX4_pairFrom_X4_pairFrom
theorem dX4_pairFrom_0 : decode cX4_pairFrom 0 = .ok (.iload_n 2, 1) := by decide +kernel
theorem dX4_pairFrom_1 : decode cX4_pairFrom 1 = .ok (.ifCond .ne 13, 3) := by decide +kernel
theorem dX4_pairFrom_4 : decode cX4_pairFrom 4 = .ok (.aload_n 0, 1) := by decide +kernel
theorem dX4_pairFrom_5 : decode cX4_pairFrom 5 = .ok (.iload_n 3, 1) := by decide +kernel
theorem dX4_pairFrom_6 : decode cX4_pairFrom 6 = .ok (.iload 4, 2) := by decide +kernel
theorem dX4_pairFrom_8 : decode cX4_pairFrom 8 = .ok (.iload 5, 2) := by decide +kernel
theorem dX4_pairFrom_10 : decode cX4_pairFrom 10 = .ok (.invokevirtual 80, 3) := by decide +kernel
theorem dX4_pairFrom_13 : decode cX4_pairFrom 13 = .ok (.return_, 1) := by decide +kernel
theorem dX4_pairFrom_14 : decode cX4_pairFrom 14 = .ok (.iload_n 1, 1) := by decide +kernel
theorem dX4_pairFrom_15 : decode cX4_pairFrom 15 = .ok (.bipush 8, 2) := by decide +kernel
theorem dX4_pairFrom_17 : decode cX4_pairFrom 17 = .ok (.if_icmp .lt 4, 3) := by decide +kernel
theorem dX4_pairFrom_20 : decode cX4_pairFrom 20 = .ok (.return_, 1) := by decide +kernel
theorem dX4_pairFrom_21 : decode cX4_pairFrom 21 = .ok (.aload_n 0, 1) := by decide +kernel
theorem dX4_pairFrom_22 : decode cX4_pairFrom 22 = .ok (.iload_n 1, 1) := by decide +kernel
theorem dX4_pairFrom_23 : decode cX4_pairFrom 23 = .ok (.invokevirtual 84, 3) := by decide +kernel
theorem dX4_pairFrom_26 : decode cX4_pairFrom 26 = .ok (.ifCond .eq 122, 3) := by decide +kernel
theorem dX4_pairFrom_29 : decode cX4_pairFrom 29 = .ok (.iload_n 1, 1) := by decide +kernel
theorem dX4_pairFrom_30 : decode cX4_pairFrom 30 = .ok (.iconst 1, 1) := by decide +kernel
theorem dX4_pairFrom_31 : decode cX4_pairFrom 31 = .ok (.iadd, 1) := by decide +kernel
theorem dX4_pairFrom_32 : decode cX4_pairFrom 32 = .ok (.istore 6, 2) := by decide +kernel
theorem dX4_pairFrom_34 : decode cX4_pairFrom 34 = .ok (.iload 6, 2) := by decide +kernel
theorem dX4_pairFrom_36 : decode cX4_pairFrom 36 = .ok (.bipush 8, 2) := by decide +kernel
theorem dX4_pairFrom_38 : decode cX4_pairFrom 38 = .ok (.if_icmp .ge 110, 3) := by decide +kernel
theorem dX4_pairFrom_41 : decode cX4_pairFrom 41 = .ok (.aload_n 0, 1) := by decide +kernel
theorem dX4_pairFrom_42 : decode cX4_pairFrom 42 = .ok (.iload 6, 2) := by decide +kernel
theorem dX4_pairFrom_44 : decode cX4_pairFrom 44 = .ok (.invokevirtual 84, 3) := by decide +kernel
theorem dX4_pairFrom_47 : decode cX4_pairFrom 47 = .ok (.ifCond .eq 95, 3) := by decide +kernel
theorem dX4_pairFrom_50 : decode cX4_pairFrom 50 = .ok (.aload_n 0, 1) := by decide +kernel
theorem dX4_pairFrom_51 : decode cX4_pairFrom 51 = .ok (.getfield 25, 3) := by decide +kernel
theorem dX4_pairFrom_54 : decode cX4_pairFrom 54 = .ok (.iload_n 1, 1) := by decide +kernel
theorem dX4_pairFrom_55 : decode cX4_pairFrom 55 = .ok (.iload 6, 2) := by decide +kernel
theorem dX4_pairFrom_57 : decode cX4_pairFrom 57 = .ok (.iastore, 1) := by decide +kernel
theorem dX4_pairFrom_58 : decode cX4_pairFrom 58 = .ok (.aload_n 0, 1) := by decide +kernel
theorem dX4_pairFrom_59 : decode cX4_pairFrom 59 = .ok (.getfield 25, 3) := by decide +kernel
theorem dX4_pairFrom_62 : decode cX4_pairFrom 62 = .ok (.iload 6, 2) := by decide +kernel
theorem dX4_pairFrom_64 : decode cX4_pairFrom 64 = .ok (.iload_n 1, 1) := by decide +kernel
theorem dX4_pairFrom_65 : decode cX4_pairFrom 65 = .ok (.iastore, 1) := by decide +kernel
theorem dX4_pairFrom_66 : decode cX4_pairFrom 66 = .ok (.aload_n 0, 1) := by decide +kernel
theorem dX4_pairFrom_67 : decode cX4_pairFrom 67 = .ok (.iload_n 1, 1) := by decide +kernel
theorem dX4_pairFrom_68 : decode cX4_pairFrom 68 = .ok (.iconst 1, 1) := by decide +kernel
theorem dX4_pairFrom_69 : decode cX4_pairFrom 69 = .ok (.iadd, 1) := by decide +kernel
theorem dX4_pairFrom_70 : decode cX4_pairFrom 70 = .ok (.iload_n 2, 1) := by decide +kernel
theorem dX4_pairFrom_71 : decode cX4_pairFrom 71 = .ok (.iconst 1, 1) := by decide +kernel
theorem dX4_pairFrom_72 : decode cX4_pairFrom 72 = .ok (.isub, 1) := by decide +kernel
theorem dX4_pairFrom_73 : decode cX4_pairFrom 73 = .ok (.iload_n 3, 1) := by decide +kernel
theorem dX4_pairFrom_74 : decode cX4_pairFrom 74 = .ok (.aload_n 0, 1) := by decide +kernel
theorem dX4_pairFrom_75 : decode cX4_pairFrom 75 = .ok (.getfield 19, 3) := by decide +kernel
theorem dX4_pairFrom_78 : decode cX4_pairFrom 78 = .ok (.iload_n 1, 1) := by decide +kernel
theorem dX4_pairFrom_79 : decode cX4_pairFrom 79 = .ok (.iaload, 1) := by decide +kernel
theorem dX4_pairFrom_80 : decode cX4_pairFrom 80 = .ok (.iadd, 1) := by decide +kernel
theorem dX4_pairFrom_81 : decode cX4_pairFrom 81 = .ok (.aload_n 0, 1) := by decide +kernel
theorem dX4_pairFrom_82 : decode cX4_pairFrom 82 = .ok (.getfield 19, 3) := by decide +kernel
theorem dX4_pairFrom_85 : decode cX4_pairFrom 85 = .ok (.iload 6, 2) := by decide +kernel
theorem dX4_pairFrom_87 : decode cX4_pairFrom 87 = .ok (.iaload, 1) := by decide +kernel
theorem dX4_pairFrom_88 : decode cX4_pairFrom 88 = .ok (.iadd, 1) := by decide +kernel
theorem dX4_pairFrom_89 : decode cX4_pairFrom 89 = .ok (.iload 4, 2) := by decide +kernel
theorem dX4_pairFrom_91 : decode cX4_pairFrom 91 = .ok (.aload_n 0, 1) := by decide +kernel
theorem dX4_pairFrom_92 : decode cX4_pairFrom 92 = .ok (.getfield 22, 3) := by decide +kernel
theorem dX4_pairFrom_95 : decode cX4_pairFrom 95 = .ok (.iload_n 1, 1) := by decide +kernel
theorem dX4_pairFrom_96 : decode cX4_pairFrom 96 = .ok (.bipush 8, 2) := by decide +kernel
theorem dX4_pairFrom_98 : decode cX4_pairFrom 98 = .ok (.imul, 1) := by decide +kernel
theorem dX4_pairFrom_99 : decode cX4_pairFrom 99 = .ok (.iload 6, 2) := by decide +kernel
theorem dX4_pairFrom_101 : decode cX4_pairFrom 101 = .ok (.iadd, 1) := by decide +kernel
theorem dX4_pairFrom_102 : decode cX4_pairFrom 102 = .ok (.iaload, 1) := by decide +kernel
theorem dX4_pairFrom_103 : decode cX4_pairFrom 103 = .ok (.iadd, 1) := by decide +kernel
theorem dX4_pairFrom_104 : decode cX4_pairFrom 104 = .ok (.iload 5, 2) := by decide +kernel
theorem dX4_pairFrom_106 : decode cX4_pairFrom 106 = .ok (.aload_n 0, 1) := by decide +kernel
theorem dX4_pairFrom_107 : decode cX4_pairFrom 107 = .ok (.getfield 15, 3) := by decide +kernel
theorem dX4_pairFrom_110 : decode cX4_pairFrom 110 = .ok (.iload_n 1, 1) := by decide +kernel
theorem dX4_pairFrom_111 : decode cX4_pairFrom 111 = .ok (.iaload, 1) := by decide +kernel
theorem dX4_pairFrom_112 : decode cX4_pairFrom 112 = .ok (.aload_n 0, 1) := by decide +kernel
theorem dX4_pairFrom_113 : decode cX4_pairFrom 113 = .ok (.getfield 15, 3) := by decide +kernel
theorem dX4_pairFrom_116 : decode cX4_pairFrom 116 = .ok (.iload 6, 2) := by decide +kernel
theorem dX4_pairFrom_118 : decode cX4_pairFrom 118 = .ok (.iaload, 1) := by decide +kernel
theorem dX4_pairFrom_119 : decode cX4_pairFrom 119 = .ok (.isub, 1) := by decide +kernel
theorem dX4_pairFrom_120 : decode cX4_pairFrom 120 = .ok (.invokestatic 88, 3) := by decide +kernel
theorem dX4_pairFrom_123 : decode cX4_pairFrom 123 = .ok (.iadd, 1) := by decide +kernel
theorem dX4_pairFrom_124 : decode cX4_pairFrom 124 = .ok (.invokevirtual 76, 3) := by decide +kernel
theorem dX4_pairFrom_127 : decode cX4_pairFrom 127 = .ok (.aload_n 0, 1) := by decide +kernel
theorem dX4_pairFrom_128 : decode cX4_pairFrom 128 = .ok (.getfield 25, 3) := by decide +kernel
theorem dX4_pairFrom_131 : decode cX4_pairFrom 131 = .ok (.iload_n 1, 1) := by decide +kernel
theorem dX4_pairFrom_132 : decode cX4_pairFrom 132 = .ok (.iconst (-1), 1) := by decide +kernel
theorem dX4_pairFrom_133 : decode cX4_pairFrom 133 = .ok (.iastore, 1) := by decide +kernel
theorem dX4_pairFrom_134 : decode cX4_pairFrom 134 = .ok (.aload_n 0, 1) := by decide +kernel
theorem dX4_pairFrom_135 : decode cX4_pairFrom 135 = .ok (.getfield 25, 3) := by decide +kernel
theorem dX4_pairFrom_138 : decode cX4_pairFrom 138 = .ok (.iload 6, 2) := by decide +kernel
theorem dX4_pairFrom_140 : decode cX4_pairFrom 140 = .ok (.iconst (-1), 1) := by decide +kernel
theorem dX4_pairFrom_141 : decode cX4_pairFrom 141 = .ok (.iastore, 1) := by decide +kernel
theorem dX4_pairFrom_142 : decode cX4_pairFrom 142 = .ok (.iinc 6 1, 3) := by decide +kernel
theorem dX4_pairFrom_145 : decode cX4_pairFrom 145 = .ok (.goto (-111), 3) := by decide +kernel
theorem dX4_pairFrom_148 : decode cX4_pairFrom 148 = .ok (.aload_n 0, 1) := by decide +kernel
theorem dX4_pairFrom_149 : decode cX4_pairFrom 149 = .ok (.iload_n 1, 1) := by decide +kernel
theorem dX4_pairFrom_150 : decode cX4_pairFrom 150 = .ok (.iconst 1, 1) := by decide +kernel
theorem dX4_pairFrom_151 : decode cX4_pairFrom 151 = .ok (.iadd, 1) := by decide +kernel
theorem dX4_pairFrom_152 : decode cX4_pairFrom 152 = .ok (.iload_n 2, 1) := by decide +kernel
theorem dX4_pairFrom_153 : decode cX4_pairFrom 153 = .ok (.iload_n 3, 1) := by decide +kernel
theorem dX4_pairFrom_154 : decode cX4_pairFrom 154 = .ok (.iload 4, 2) := by decide +kernel
theorem dX4_pairFrom_156 : decode cX4_pairFrom 156 = .ok (.iload 5, 2) := by decide +kernel
theorem dX4_pairFrom_158 : decode cX4_pairFrom 158 = .ok (.invokevirtual 76, 3) := by decide +kernel
theorem dX4_pairFrom_161 : decode cX4_pairFrom 161 = .ok (.return_, 1) := by decide +kernel
theorem dX4_isFree_0 : decode cX4_isFree 0 = .ok (.aload_n 0, 1) := by decide +kernel
theorem dX4_isFree_1 : decode cX4_isFree 1 = .ok (.getfield 9, 3) := by decide +kernel
theorem dX4_isFree_4 : decode cX4_isFree 4 = .ok (.iload_n 1, 1) := by decide +kernel
theorem dX4_isFree_5 : decode cX4_isFree 5 = .ok (.baload, 1) := by decide +kernel
theorem dX4_isFree_6 : decode cX4_isFree 6 = .ok (.ifCond .eq 17, 3) := by decide +kernel
theorem dX4_isFree_9 : decode cX4_isFree 9 = .ok (.aload_n 0, 1) := by decide +kernel
theorem dX4_isFree_10 : decode cX4_isFree 10 = .ok (.getfield 25, 3) := by decide +kernel
theorem dX4_isFree_13 : decode cX4_isFree 13 = .ok (.iload_n 1, 1) := by decide +kernel
theorem dX4_isFree_14 : decode cX4_isFree 14 = .ok (.iaload, 1) := by decide +kernel
theorem dX4_isFree_15 : decode cX4_isFree 15 = .ok (.iconst (-1), 1) := by decide +kernel
theorem dX4_isFree_16 : decode cX4_isFree 16 = .ok (.if_icmp .ne 7, 3) := by decide +kernel
theorem dX4_isFree_19 : decode cX4_isFree 19 = .ok (.iconst 1, 1) := by decide +kernel
theorem dX4_isFree_20 : decode cX4_isFree 20 = .ok (.goto 4, 3) := by decide +kernel
theorem dX4_isFree_23 : decode cX4_isFree 23 = .ok (.iconst 0, 1) := by decide +kernel
theorem dX4_isFree_24 : decode cX4_isFree 24 = .ok (.ireturn, 1) := by decide +kernel
set_option maxRecDepth 20000 in
theorem ggX4_keepIfBetter_X4_isBetter : GoodIn wsX4_keepIfBetter wsX4_isBetter := goodIn_r _ [15, 2, 3, 4, 16, 17, 18, 19, 20, 21, 22, 23, 24, 25, 26, 27, 28, 29] (by decide +kernel) (by decide +kernel)
set_option maxRecDepth 20000 in
theorem gX4_keepIfBetter_X4_isBetter : GoodIn wsX4_keepIfBetter (wsV RX4 92 RX4 yX4_isBetter wsX4_isBetter) := goodIn_app (goodIn_of _ (by decide +kernel)) ggX4_keepIfBetter_X4_isBetter
theorem dX4_keepIfBetter_0 : decode cX4_keepIfBetter 0 = .ok (.aload_n 0, 1) := by decide +kernel
theorem dX4_keepIfBetter_1 : decode cX4_keepIfBetter 1 = .ok (.getfield 45, 3) := by decide +kernel
theorem dX4_keepIfBetter_4 : decode cX4_keepIfBetter 4 = .ok (.ifCond .eq 14, 3) := by decide +kernel
theorem dX4_keepIfBetter_7 : decode cX4_keepIfBetter 7 = .ok (.aload_n 0, 1) := by decide +kernel
theorem dX4_keepIfBetter_8 : decode cX4_keepIfBetter 8 = .ok (.iload_n 1, 1) := by decide +kernel
theorem dX4_keepIfBetter_9 : decode cX4_keepIfBetter 9 = .ok (.iload_n 2, 1) := by decide +kernel
theorem dX4_keepIfBetter_10 : decode cX4_keepIfBetter 10 = .ok (.iload_n 3, 1) := by decide +kernel
theorem dX4_keepIfBetter_11 : decode cX4_keepIfBetter 11 = .ok (.invokevirtual 92, 3) := by decide +kernel
theorem dX4_keepIfBetter_14 : decode cX4_keepIfBetter 14 = .ok (.ifCond .ne 4, 3) := by decide +kernel
theorem dX4_keepIfBetter_17 : decode cX4_keepIfBetter 17 = .ok (.return_, 1) := by decide +kernel
theorem dX4_keepIfBetter_18 : decode cX4_keepIfBetter 18 = .ok (.aload_n 0, 1) := by decide +kernel
theorem dX4_keepIfBetter_19 : decode cX4_keepIfBetter 19 = .ok (.iconst 1, 1) := by decide +kernel
theorem dX4_keepIfBetter_20 : decode cX4_keepIfBetter 20 = .ok (.putfield 45, 3) := by decide +kernel
theorem dX4_keepIfBetter_23 : decode cX4_keepIfBetter 23 = .ok (.aload_n 0, 1) := by decide +kernel
theorem dX4_keepIfBetter_24 : decode cX4_keepIfBetter 24 = .ok (.iload_n 1, 1) := by decide +kernel
theorem dX4_keepIfBetter_25 : decode cX4_keepIfBetter 25 = .ok (.putfield 48, 3) := by decide +kernel
theorem dX4_keepIfBetter_28 : decode cX4_keepIfBetter 28 = .ok (.aload_n 0, 1) := by decide +kernel
theorem dX4_keepIfBetter_29 : decode cX4_keepIfBetter 29 = .ok (.iload_n 2, 1) := by decide +kernel
theorem dX4_keepIfBetter_30 : decode cX4_keepIfBetter 30 = .ok (.putfield 51, 3) := by decide +kernel
theorem dX4_keepIfBetter_33 : decode cX4_keepIfBetter 33 = .ok (.aload_n 0, 1) := by decide +kernel
theorem dX4_keepIfBetter_34 : decode cX4_keepIfBetter 34 = .ok (.iload_n 3, 1) := by decide +kernel
theorem dX4_keepIfBetter_35 : decode cX4_keepIfBetter 35 = .ok (.putfield 54, 3) := by decide +kernel
theorem dX4_keepIfBetter_38 : decode cX4_keepIfBetter 38 = .ok (.aload_n 0, 1) := by decide +kernel
theorem dX4_keepIfBetter_39 : decode cX4_keepIfBetter 39 = .ok (.getfield 25, 3) := by decide +kernel
theorem dX4_keepIfBetter_42 : decode cX4_keepIfBetter 42 = .ok (.iconst 0, 1) := by decide +kernel
theorem dX4_keepIfBetter_43 : decode cX4_keepIfBetter 43 = .ok (.aload_n 0, 1) := by decide +kernel
theorem dX4_keepIfBetter_44 : decode cX4_keepIfBetter 44 = .ok (.getfield 28, 3) := by decide +kernel
theorem dX4_keepIfBetter_47 : decode cX4_keepIfBetter 47 = .ok (.iconst 0, 1) := by decide +kernel
theorem dX4_keepIfBetter_48 : decode cX4_keepIfBetter 48 = .ok (.bipush 8, 2) := by decide +kernel
theorem dX4_keepIfBetter_50 : decode cX4_keepIfBetter 50 = .ok (.invokestatic 96, 3) := by decide +kernel
theorem dX4_keepIfBetter_53 : decode cX4_keepIfBetter 53 = .ok (.return_, 1) := by decide +kernel
theorem dX4_isBetter_0 : decode cX4_isBetter 0 = .ok (.iload_n 1, 1) := by decide +kernel
theorem dX4_isBetter_1 : decode cX4_isBetter 1 = .ok (.aload_n 0, 1) := by decide +kernel
theorem dX4_isBetter_2 : decode cX4_isBetter 2 = .ok (.getfield 48, 3) := by decide +kernel
theorem dX4_isBetter_5 : decode cX4_isBetter 5 = .ok (.if_icmp .eq 17, 3) := by decide +kernel
theorem dX4_isBetter_8 : decode cX4_isBetter 8 = .ok (.iload_n 1, 1) := by decide +kernel
theorem dX4_isBetter_9 : decode cX4_isBetter 9 = .ok (.aload_n 0, 1) := by decide +kernel
theorem dX4_isBetter_10 : decode cX4_isBetter 10 = .ok (.getfield 48, 3) := by decide +kernel
theorem dX4_isBetter_13 : decode cX4_isBetter 13 = .ok (.if_icmp .le 7, 3) := by decide +kernel
theorem dX4_isBetter_16 : decode cX4_isBetter 16 = .ok (.iconst 1, 1) := by decide +kernel
theorem dX4_isBetter_17 : decode cX4_isBetter 17 = .ok (.goto 4, 3) := by decide +kernel
theorem dX4_isBetter_20 : decode cX4_isBetter 20 = .ok (.iconst 0, 1) := by decide +kernel
theorem dX4_isBetter_21 : decode cX4_isBetter 21 = .ok (.ireturn, 1) := by decide +kernel
theorem dX4_isBetter_22 : decode cX4_isBetter 22 = .ok (.iload_n 2, 1) := by decide +kernel
theorem dX4_isBetter_23 : decode cX4_isBetter 23 = .ok (.aload_n 0, 1) := by decide +kernel
theorem dX4_isBetter_24 : decode cX4_isBetter 24 = .ok (.getfield 51, 3) := by decide +kernel
theorem dX4_isBetter_27 : decode cX4_isBetter 27 = .ok (.if_icmp .eq 17, 3) := by decide +kernel
theorem dX4_isBetter_30 : decode cX4_isBetter 30 = .ok (.iload_n 2, 1) := by decide +kernel
theorem dX4_isBetter_31 : decode cX4_isBetter 31 = .ok (.aload_n 0, 1) := by decide +kernel
theorem dX4_isBetter_32 : decode cX4_isBetter 32 = .ok (.getfield 51, 3) := by decide +kernel
theorem dX4_isBetter_35 : decode cX4_isBetter 35 = .ok (.if_icmp .ge 7, 3) := by decide +kernel
theorem dX4_isBetter_38 : decode cX4_isBetter 38 = .ok (.iconst 1, 1) := by decide +kernel
theorem dX4_isBetter_39 : decode cX4_isBetter 39 = .ok (.goto 4, 3) := by decide +kernel
theorem dX4_isBetter_42 : decode cX4_isBetter 42 = .ok (.iconst 0, 1) := by decide +kernel
theorem dX4_isBetter_43 : decode cX4_isBetter 43 = .ok (.ireturn, 1) := by decide +kernel
theorem dX4_isBetter_44 : decode cX4_isBetter 44 = .ok (.iload_n 3, 1) := by decide +kernel
theorem dX4_isBetter_45 : decode cX4_isBetter 45 = .ok (.aload_n 0, 1) := by decide +kernel
theorem dX4_isBetter_46 : decode cX4_isBetter 46 = .ok (.getfield 54, 3) := by decide +kernel
theorem dX4_isBetter_49 : decode cX4_isBetter 49 = .ok (.if_icmp .ge 7, 3) := by decide +kernel
theorem dX4_isBetter_52 : decode cX4_isBetter 52 = .ok (.iconst 1, 1) := by decide +kernel
theorem dX4_isBetter_53 : decode cX4_isBetter 53 = .ok (.goto 4, 3) := by decide +kernel
theorem dX4_isBetter_56 : decode cX4_isBetter 56 = .ok (.iconst 0, 1) := by decide +kernel
theorem dX4_isBetter_57 : decode cX4_isBetter 57 = .ok (.ireturn, 1) := by decide +kernel
theorem dX5_init_0 : decode cX5_init 0 = .ok (.aload_n 0, 1) := by decide +kernel
theorem dX5_init_1 : decode cX5_init 1 = .ok (.invokespecial 3, 3) := by decide +kernel
theorem dX5_init_4 : decode cX5_init 4 = .ok (.aload_n 0, 1) := by decide +kernel
theorem dX5_init_5 : decode cX5_init 5 = .ok (.bipush 16, 2) := by decide +kernel
theorem dX5_init_7 : decode cX5_init 7 = .ok (.newarray .int, 2) := by decide +kernel
theorem dX5_init_9 : decode cX5_init 9 = .ok (.putfield 9, 3) := by decide +kernel
theorem dX5_init_12 : decode cX5_init 12 = .ok (.aload_n 0, 1) := by decide +kernel
theorem dX5_init_13 : decode cX5_init 13 = .ok (.iconst 4, 1) := by decide +kernel
theorem dX5_init_14 : decode cX5_init 14 = .ok (.newarray .int, 2) := by decide +kernel
theorem dX5_init_16 : decode cX5_init 16 = .ok (.putfield 15, 3) := by decide +kernel
theorem dX5_init_19 : decode cX5_init 19 = .ok (.aload_n 0, 1) := by decide +kernel
theorem dX5_init_20 : decode cX5_init 20 = .ok (.iconst 4, 1) := by decide +kernel
theorem dX5_init_21 : decode cX5_init 21 = .ok (.newarray .int, 2) := by decide +kernel
theorem dX5_init_23 : decode cX5_init 23 = .ok (.putfield 18, 3) := by decide +kernel
theorem dX5_init_26 : decode cX5_init 26 = .ok (.aload_n 0, 1) := by decide +kernel
theorem dX5_init_27 : decode cX5_init 27 = .ok (.iconst 0, 1) := by decide +kernel
theorem dX5_init_28 : decode cX5_init 28 = .ok (.putfield 21, 3) := by decide +kernel
theorem dX5_init_31 : decode cX5_init 31 = .ok (.aload_n 0, 1) := by decide +kernel
theorem dX5_init_32 : decode cX5_init 32 = .ok (.iconst 0, 1) := by decide +kernel
theorem dX5_init_33 : decode cX5_init 33 = .ok (.putfield 25, 3) := by decide +kernel
theorem dX5_init_36 : decode cX5_init 36 = .ok (.return_, 1) := by decide +kernel
theorem dX5_size_0 : decode cX5_size 0 = .ok (.aload_n 0, 1) := by decide +kernel
theorem dX5_size_1 : decode cX5_size 1 = .ok (.getfield 25, 3) := by decide +kernel
theorem dX5_size_4 : decode cX5_size 4 = .ok (.ireturn, 1) := by decide +kernel
theorem dX5_add_0 : decode cX5_add 0 = .ok (.aload_n 0, 1) := by decide +kernel
theorem dX5_add_1 : decode cX5_add 1 = .ok (.getfield 25, 3) := by decide +kernel
theorem dX5_add_4 : decode cX5_add 4 = .ok (.bipush 60, 2) := by decide +kernel
theorem dX5_add_6 : decode cX5_add 6 = .ok (.if_icmp .lt 6, 3) := by decide +kernel
theorem dX5_add_9 : decode cX5_add 9 = .ok (.bipush (-5), 2) := by decide +kernel
theorem dX5_add_11 : decode cX5_add 11 = .ok (.ireturn, 1) := by decide +kernel
theorem dX5_add_12 : decode cX5_add 12 = .ok (.aload_n 0, 1) := by decide +kernel
theorem dX5_add_13 : decode cX5_add 13 = .ok (.dup, 1) := by decide +kernel
theorem dX5_add_14 : decode cX5_add 14 = .ok (.getfield 25, 3) := by decide +kernel
theorem dX5_add_17 : decode cX5_add 17 = .ok (.iconst 1, 1) := by decide +kernel
theorem dX5_add_18 : decode cX5_add 18 = .ok (.iadd, 1) := by decide +kernel
theorem dX5_add_19 : decode cX5_add 19 = .ok (.putfield 25, 3) := by decide +kernel
theorem dX5_add_22 : decode cX5_add 22 = .ok (.iload_n 1, 1) := by decide +kernel
theorem dX5_add_23 : decode cX5_add 23 = .ok (.iconst (-1), 1) := by decide +kernel
theorem dX5_add_24 : decode cX5_add 24 = .ok (.if_icmp .eq 67, 3) := by decide +kernel
theorem dX5_add_27 : decode cX5_add 27 = .ok (.iload_n 2, 1) := by decide +kernel
theorem dX5_add_28 : decode cX5_add 28 = .ok (.iconst (-1), 1) := by decide +kernel
theorem dX5_add_29 : decode cX5_add 29 = .ok (.if_icmp .eq 62, 3) := by decide +kernel
theorem dX5_add_32 : decode cX5_add 32 = .ok (.iload_n 3, 1) := by decide +kernel
theorem dX5_add_33 : decode cX5_add 33 = .ok (.ifCond .eq 9, 3) := by decide +kernel
theorem dX5_add_36 : decode cX5_add 36 = .ok (.iload_n 1, 1) := by decide +kernel
theorem dX5_add_37 : decode cX5_add 37 = .ok (.iconst 1, 1) := by decide +kernel
theorem dX5_add_38 : decode cX5_add 38 = .ok (.ixor, 1) := by decide +kernel
theorem dX5_add_39 : decode cX5_add 39 = .ok (.goto 4, 3) := by decide +kernel
theorem dX5_add_42 : decode cX5_add 42 = .ok (.iload_n 1, 1) := by decide +kernel
theorem dX5_add_43 : decode cX5_add 43 = .ok (.istore 4, 2) := by decide +kernel
theorem dX5_add_45 : decode cX5_add 45 = .ok (.aload_n 0, 1) := by decide +kernel
theorem dX5_add_46 : decode cX5_add 46 = .ok (.getfield 9, 3) := by decide +kernel
theorem dX5_add_49 : decode cX5_add 49 = .ok (.iload 4, 2) := by decide +kernel
theorem dX5_add_51 : decode cX5_add 51 = .ok (.iconst 4, 1) := by decide +kernel
theorem dX5_add_52 : decode cX5_add 52 = .ok (.imul, 1) := by decide +kernel
theorem dX5_add_53 : decode cX5_add 53 = .ok (.iload_n 2, 1) := by decide +kernel
theorem dX5_add_54 : decode cX5_add 54 = .ok (.iadd, 1) := by decide +kernel
theorem dX5_add_55 : decode cX5_add 55 = .ok (.dup2, 1) := by decide +kernel
theorem dX5_add_56 : decode cX5_add 56 = .ok (.iaload, 1) := by decide +kernel
theorem dX5_add_57 : decode cX5_add 57 = .ok (.iconst 1, 1) := by decide +kernel
theorem dX5_add_58 : decode cX5_add 58 = .ok (.iadd, 1) := by decide +kernel
theorem dX5_add_59 : decode cX5_add 59 = .ok (.iastore, 1) := by decide +kernel
theorem dX5_add_60 : decode cX5_add 60 = .ok (.aload_n 0, 1) := by decide +kernel
theorem dX5_add_61 : decode cX5_add 61 = .ok (.getfield 15, 3) := by decide +kernel
theorem dX5_add_64 : decode cX5_add 64 = .ok (.iload 4, 2) := by decide +kernel
theorem dX5_add_66 : decode cX5_add 66 = .ok (.dup2, 1) := by decide +kernel
theorem dX5_add_67 : decode cX5_add 67 = .ok (.iaload, 1) := by decide +kernel
theorem dX5_add_68 : decode cX5_add 68 = .ok (.iconst 1, 1) := by decide +kernel
theorem dX5_add_69 : decode cX5_add 69 = .ok (.iadd, 1) := by decide +kernel
theorem dX5_add_70 : decode cX5_add 70 = .ok (.iastore, 1) := by decide +kernel
theorem dX5_add_71 : decode cX5_add 71 = .ok (.aload_n 0, 1) := by decide +kernel
theorem dX5_add_72 : decode cX5_add 72 = .ok (.getfield 18, 3) := by decide +kernel
theorem dX5_add_75 : decode cX5_add 75 = .ok (.iload_n 2, 1) := by decide +kernel
theorem dX5_add_76 : decode cX5_add 76 = .ok (.dup2, 1) := by decide +kernel
theorem dX5_add_77 : decode cX5_add 77 = .ok (.iaload, 1) := by decide +kernel
theorem dX5_add_78 : decode cX5_add 78 = .ok (.iconst 1, 1) := by decide +kernel
theorem dX5_add_79 : decode cX5_add 79 = .ok (.iadd, 1) := by decide +kernel
theorem dX5_add_80 : decode cX5_add 80 = .ok (.iastore, 1) := by decide +kernel
theorem dX5_add_81 : decode cX5_add 81 = .ok (.aload_n 0, 1) := by decide +kernel
theorem dX5_add_82 : decode cX5_add 82 = .ok (.dup, 1) := by decide +kernel
theorem dX5_add_83 : decode cX5_add 83 = .ok (.getfield 21, 3) := by decide +kernel
theorem dX5_add_86 : decode cX5_add 86 = .ok (.iconst 1, 1) := by decide +kernel
theorem dX5_add_87 : decode cX5_add 87 = .ok (.iadd, 1) := by decide +kernel
theorem dX5_add_88 : decode cX5_add 88 = .ok (.putfield 21, 3) := by decide +kernel
theorem dX5_add_91 : decode cX5_add 91 = .ok (.aload_n 0, 1) := by decide +kernel
theorem dX5_add_92 : decode cX5_add 92 = .ok (.getfield 25, 3) := by decide +kernel
theorem dX5_add_95 : decode cX5_add 95 = .ok (.ireturn, 1) := by decide +kernel
theorem dX5_read_0 : decode cX5_read 0 = .ok (.iload_n 3, 1) := by decide +kernel
theorem dX5_read_1 : decode cX5_read 1 = .ok (.tableswitch 52 0 2 #[27, 38, 45], 27) := by decide +kernel
theorem dX5_read_28 : decode cX5_read 28 = .ok (.aload_n 0, 1) := by decide +kernel
theorem dX5_read_29 : decode cX5_read 29 = .ok (.getfield 9, 3) := by decide +kernel
theorem dX5_read_32 : decode cX5_read 32 = .ok (.iload_n 1, 1) := by decide +kernel
theorem dX5_read_33 : decode cX5_read 33 = .ok (.iconst 4, 1) := by decide +kernel
theorem dX5_read_34 : decode cX5_read 34 = .ok (.imul, 1) := by decide +kernel
theorem dX5_read_35 : decode cX5_read 35 = .ok (.iload_n 2, 1) := by decide +kernel
theorem dX5_read_36 : decode cX5_read 36 = .ok (.iadd, 1) := by decide +kernel
theorem dX5_read_37 : decode cX5_read 37 = .ok (.iaload, 1) := by decide +kernel
theorem dX5_read_38 : decode cX5_read 38 = .ok (.ireturn, 1) := by decide +kernel
theorem dX5_read_39 : decode cX5_read 39 = .ok (.aload_n 0, 1) := by decide +kernel
theorem dX5_read_40 : decode cX5_read 40 = .ok (.getfield 15, 3) := by decide +kernel
theorem dX5_read_43 : decode cX5_read 43 = .ok (.iload_n 1, 1) := by decide +kernel
theorem dX5_read_44 : decode cX5_read 44 = .ok (.iaload, 1) := by decide +kernel
theorem dX5_read_45 : decode cX5_read 45 = .ok (.ireturn, 1) := by decide +kernel
theorem dX5_read_46 : decode cX5_read 46 = .ok (.aload_n 0, 1) := by decide +kernel
theorem dX5_read_47 : decode cX5_read 47 = .ok (.getfield 18, 3) := by decide +kernel
theorem dX5_read_50 : decode cX5_read 50 = .ok (.iload_n 2, 1) := by decide +kernel
theorem dX5_read_51 : decode cX5_read 51 = .ok (.iaload, 1) := by decide +kernel
theorem dX5_read_52 : decode cX5_read 52 = .ok (.ireturn, 1) := by decide +kernel
theorem dX5_read_53 : decode cX5_read 53 = .ok (.aload_n 0, 1) := by decide +kernel
theorem dX5_read_54 : decode cX5_read 54 = .ok (.getfield 21, 3) := by decide +kernel
theorem dX5_read_57 : decode cX5_read 57 = .ok (.ireturn, 1) := by decide +kernel
set_option maxRecDepth 20000 in
theorem ggX5_triedHabits_X5_aboveZero : GoodIn wsX5_triedHabits wsX5_aboveZero := goodIn_r _ [6] (by decide +kernel) (by decide +kernel)
set_option maxRecDepth 20000 in
theorem gX5_triedHabits_X5_aboveZero : GoodIn wsX5_triedHabits (va_wsS RX5 28 yX5_aboveZero wsX5_aboveZero) := goodIn_app (goodIn_of _ (by decide +kernel)) ggX5_triedHabits_X5_aboveZero
theorem dX5_triedHabits_0 : decode cX5_triedHabits 0 = .ok (.aload_n 0, 1) := by decide +kernel
theorem dX5_triedHabits_1 : decode cX5_triedHabits 1 = .ok (.getfield 15, 3) := by decide +kernel
theorem dX5_triedHabits_4 : decode cX5_triedHabits 4 = .ok (.invokestatic 28, 3) := by decide +kernel
theorem dX5_triedHabits_7 : decode cX5_triedHabits 7 = .ok (.aload_n 0, 1) := by decide +kernel
theorem dX5_triedHabits_8 : decode cX5_triedHabits 8 = .ok (.getfield 18, 3) := by decide +kernel
theorem dX5_triedHabits_11 : decode cX5_triedHabits 11 = .ok (.invokestatic 28, 3) := by decide +kernel
theorem dX5_triedHabits_14 : decode cX5_triedHabits 14 = .ok (.imul, 1) := by decide +kernel
theorem dX5_triedHabits_15 : decode cX5_triedHabits 15 = .ok (.ireturn, 1) := by decide +kernel
set_option maxRecDepth 20000 in
theorem ggX5_isPastChance_X5_triedHabits : GoodIn wsX5_isPastChance wsX5_triedHabits := goodIn_r _ [14, 1, 2, 15, 16, 13, 17, 21, 22, 23, 24, 25] (by decide +kernel) (by decide +kernel)
set_option maxRecDepth 20000 in
theorem gX5_isPastChance_X5_triedHabits : GoodIn wsX5_isPastChance (wsV RX5 32 RX5 yX5_triedHabits wsX5_triedHabits) := goodIn_app (goodIn_of _ (by decide +kernel)) ggX5_isPastChance_X5_triedHabits
set_option maxRecDepth 20000 in
theorem ggX5_isPastChance_X5_ways : GoodIn wsX5_isPastChance wsX5_ways := goodIn_r _ [20, 5, 6, 7, 8] (by decide +kernel) (by decide +kernel)
set_option maxRecDepth 20000 in
theorem gX5_isPastChance_X5_ways : GoodIn wsX5_isPastChance (va_wsS RX5 36 yX5_ways wsX5_ways) := goodIn_app (goodIn_of _ (by decide +kernel)) ggX5_isPastChance_X5_ways
theorem dX5_isPastChance_0 : decode cX5_isPastChance 0 = .ok (.aload_n 0, 1) := by decide +kernel
theorem dX5_isPastChance_1 : decode cX5_isPastChance 1 = .ok (.getfield 15, 3) := by decide +kernel
theorem dX5_isPastChance_4 : decode cX5_isPastChance 4 = .ok (.iload_n 1, 1) := by decide +kernel
theorem dX5_isPastChance_5 : decode cX5_isPastChance 5 = .ok (.iaload, 1) := by decide +kernel
theorem dX5_isPastChance_6 : decode cX5_isPastChance 6 = .ok (.istore_n 3, 1) := by decide +kernel
theorem dX5_isPastChance_7 : decode cX5_isPastChance 7 = .ok (.aload_n 0, 1) := by decide +kernel
theorem dX5_isPastChance_8 : decode cX5_isPastChance 8 = .ok (.getfield 18, 3) := by decide +kernel
theorem dX5_isPastChance_11 : decode cX5_isPastChance 11 = .ok (.iload_n 2, 1) := by decide +kernel
theorem dX5_isPastChance_12 : decode cX5_isPastChance 12 = .ok (.iaload, 1) := by decide +kernel
theorem dX5_isPastChance_13 : decode cX5_isPastChance 13 = .ok (.istore 4, 2) := by decide +kernel
theorem dX5_isPastChance_15 : decode cX5_isPastChance 15 = .ok (.aload_n 0, 1) := by decide +kernel
theorem dX5_isPastChance_16 : decode cX5_isPastChance 16 = .ok (.invokevirtual 32, 3) := by decide +kernel
theorem dX5_isPastChance_19 : decode cX5_isPastChance 19 = .ok (.istore 5, 2) := by decide +kernel
theorem dX5_isPastChance_21 : decode cX5_isPastChance 21 = .ok (.iload_n 3, 1) := by decide +kernel
theorem dX5_isPastChance_22 : decode cX5_isPastChance 22 = .ok (.ifCond .eq 13, 3) := by decide +kernel
theorem dX5_isPastChance_25 : decode cX5_isPastChance 25 = .ok (.iload 4, 2) := by decide +kernel
theorem dX5_isPastChance_27 : decode cX5_isPastChance 27 = .ok (.ifCond .eq 8, 3) := by decide +kernel
theorem dX5_isPastChance_30 : decode cX5_isPastChance 30 = .ok (.iload 5, 2) := by decide +kernel
theorem dX5_isPastChance_32 : decode cX5_isPastChance 32 = .ok (.ifCond .ne 5, 3) := by decide +kernel
theorem dX5_isPastChance_35 : decode cX5_isPastChance 35 = .ok (.iconst 0, 1) := by decide +kernel
theorem dX5_isPastChance_36 : decode cX5_isPastChance 36 = .ok (.ireturn, 1) := by decide +kernel
theorem dX5_isPastChance_37 : decode cX5_isPastChance 37 = .ok (.aload_n 0, 1) := by decide +kernel
theorem dX5_isPastChance_38 : decode cX5_isPastChance 38 = .ok (.getfield 21, 3) := by decide +kernel
theorem dX5_isPastChance_41 : decode cX5_isPastChance 41 = .ok (.iload_n 3, 1) := by decide +kernel
theorem dX5_isPastChance_42 : decode cX5_isPastChance 42 = .ok (.invokestatic 36, 3) := by decide +kernel
theorem dX5_isPastChance_45 : decode cX5_isPastChance 45 = .ok (.ldc2_w 40, 3) := by decide +kernel
theorem dX5_isPastChance_48 : decode cX5_isPastChance 48 = .ok (.iload 5, 2) := by decide +kernel
theorem dX5_isPastChance_50 : decode cX5_isPastChance 50 = .ok (.i2l, 1) := by decide +kernel
theorem dX5_isPastChance_51 : decode cX5_isPastChance 51 = .ok (.lmul, 1) := by decide +kernel
theorem dX5_isPastChance_52 : decode cX5_isPastChance 52 = .ok (.ldiv, 1) := by decide +kernel
theorem dX5_isPastChance_53 : decode cX5_isPastChance 53 = .ok (.lstore 6, 2) := by decide +kernel
theorem dX5_isPastChance_55 : decode cX5_isPastChance 55 = .ok (.lconst 0, 1) := by decide +kernel
theorem dX5_isPastChance_56 : decode cX5_isPastChance 56 = .ok (.lstore 8, 2) := by decide +kernel
theorem dX5_isPastChance_58 : decode cX5_isPastChance 58 = .ok (.iload_n 3, 1) := by decide +kernel
theorem dX5_isPastChance_59 : decode cX5_isPastChance 59 = .ok (.iload 4, 2) := by decide +kernel
theorem dX5_isPastChance_61 : decode cX5_isPastChance 61 = .ok (.invokestatic 42, 3) := by decide +kernel
theorem dX5_isPastChance_64 : decode cX5_isPastChance 64 = .ok (.istore 10, 2) := by decide +kernel
theorem dX5_isPastChance_66 : decode cX5_isPastChance 66 = .ok (.iload 10, 2) := by decide +kernel
theorem dX5_isPastChance_68 : decode cX5_isPastChance 68 = .ok (.aload_n 0, 1) := by decide +kernel
theorem dX5_isPastChance_69 : decode cX5_isPastChance 69 = .ok (.getfield 9, 3) := by decide +kernel
theorem dX5_isPastChance_72 : decode cX5_isPastChance 72 = .ok (.iload_n 1, 1) := by decide +kernel
theorem dX5_isPastChance_73 : decode cX5_isPastChance 73 = .ok (.iconst 4, 1) := by decide +kernel
theorem dX5_isPastChance_74 : decode cX5_isPastChance 74 = .ok (.imul, 1) := by decide +kernel
theorem dX5_isPastChance_75 : decode cX5_isPastChance 75 = .ok (.iload_n 2, 1) := by decide +kernel
theorem dX5_isPastChance_76 : decode cX5_isPastChance 76 = .ok (.iadd, 1) := by decide +kernel
theorem dX5_isPastChance_77 : decode cX5_isPastChance 77 = .ok (.iaload, 1) := by decide +kernel
theorem dX5_isPastChance_78 : decode cX5_isPastChance 78 = .ok (.if_icmp .lt 44, 3) := by decide +kernel
theorem dX5_isPastChance_81 : decode cX5_isPastChance 81 = .ok (.lload 8, 2) := by decide +kernel
theorem dX5_isPastChance_83 : decode cX5_isPastChance 83 = .ok (.lload 6, 2) := by decide +kernel
theorem dX5_isPastChance_85 : decode cX5_isPastChance 85 = .ok (.lcmp, 1) := by decide +kernel
theorem dX5_isPastChance_86 : decode cX5_isPastChance 86 = .ok (.ifCond .gt 36, 3) := by decide +kernel
theorem dX5_isPastChance_89 : decode cX5_isPastChance 89 = .ok (.lload 8, 2) := by decide +kernel
theorem dX5_isPastChance_91 : decode cX5_isPastChance 91 = .ok (.iload 4, 2) := by decide +kernel
theorem dX5_isPastChance_93 : decode cX5_isPastChance 93 = .ok (.iload 10, 2) := by decide +kernel
theorem dX5_isPastChance_95 : decode cX5_isPastChance 95 = .ok (.invokestatic 36, 3) := by decide +kernel
theorem dX5_isPastChance_98 : decode cX5_isPastChance 98 = .ok (.aload_n 0, 1) := by decide +kernel
theorem dX5_isPastChance_99 : decode cX5_isPastChance 99 = .ok (.getfield 21, 3) := by decide +kernel
theorem dX5_isPastChance_102 : decode cX5_isPastChance 102 = .ok (.iload 4, 2) := by decide +kernel
theorem dX5_isPastChance_104 : decode cX5_isPastChance 104 = .ok (.isub, 1) := by decide +kernel
theorem dX5_isPastChance_105 : decode cX5_isPastChance 105 = .ok (.iload_n 3, 1) := by decide +kernel
theorem dX5_isPastChance_106 : decode cX5_isPastChance 106 = .ok (.iload 10, 2) := by decide +kernel
theorem dX5_isPastChance_108 : decode cX5_isPastChance 108 = .ok (.isub, 1) := by decide +kernel
theorem dX5_isPastChance_109 : decode cX5_isPastChance 109 = .ok (.invokestatic 36, 3) := by decide +kernel
theorem dX5_isPastChance_112 : decode cX5_isPastChance 112 = .ok (.lmul, 1) := by decide +kernel
theorem dX5_isPastChance_113 : decode cX5_isPastChance 113 = .ok (.ladd, 1) := by decide +kernel
theorem dX5_isPastChance_114 : decode cX5_isPastChance 114 = .ok (.lstore 8, 2) := by decide +kernel
theorem dX5_isPastChance_116 : decode cX5_isPastChance 116 = .ok (.iinc 10 (-1), 3) := by decide +kernel
theorem dX5_isPastChance_119 : decode cX5_isPastChance 119 = .ok (.goto (-53), 3) := by decide +kernel
theorem dX5_isPastChance_122 : decode cX5_isPastChance 122 = .ok (.lload 8, 2) := by decide +kernel
theorem dX5_isPastChance_124 : decode cX5_isPastChance 124 = .ok (.lload 6, 2) := by decide +kernel
theorem dX5_isPastChance_126 : decode cX5_isPastChance 126 = .ok (.lcmp, 1) := by decide +kernel
theorem dX5_isPastChance_127 : decode cX5_isPastChance 127 = .ok (.ifCond .gt 7, 3) := by decide +kernel
theorem dX5_isPastChance_130 : decode cX5_isPastChance 130 = .ok (.iconst 1, 1) := by decide +kernel
theorem dX5_isPastChance_131 : decode cX5_isPastChance 131 = .ok (.goto 4, 3) := by decide +kernel
theorem dX5_isPastChance_134 : decode cX5_isPastChance 134 = .ok (.iconst 0, 1) := by decide +kernel
theorem dX5_isPastChance_135 : decode cX5_isPastChance 135 = .ok (.ireturn, 1) := by decide +kernel
set_option maxRecDepth 20000 in
theorem ggX5_strongestHabit_X5_isPastChance : GoodIn wsX5_strongestHabit wsX5_isPastChance := goodIn_r _ [7, 2, 8, 9, 10, 11, 12, 13, 14, 1, 15, 16, 17, 6, 18, 19, 20, 21, 22, 23, 24, 25, 26, 27, 28, 29] (by decide +kernel) (by decide +kernel)
set_option maxRecDepth 20000 in
theorem gX5_strongestHabit_X5_isPastChance : GoodIn wsX5_strongestHabit (wsV RX5 48 RX5 yX5_isPastChance wsX5_isPastChance) := goodIn_app (goodIn_of _ (by decide +kernel)) ggX5_strongestHabit_X5_isPastChance
theorem dX5_strongestHabit_0 : decode cX5_strongestHabit 0 = .ok (.iconst (-1), 1) := by decide +kernel
theorem dX5_strongestHabit_1 : decode cX5_strongestHabit 1 = .ok (.istore_n 1, 1) := by decide +kernel
theorem dX5_strongestHabit_2 : decode cX5_strongestHabit 2 = .ok (.iconst 0, 1) := by decide +kernel
theorem dX5_strongestHabit_3 : decode cX5_strongestHabit 3 = .ok (.istore_n 2, 1) := by decide +kernel
theorem dX5_strongestHabit_4 : decode cX5_strongestHabit 4 = .ok (.iconst 1, 1) := by decide +kernel
theorem dX5_strongestHabit_5 : decode cX5_strongestHabit 5 = .ok (.istore_n 3, 1) := by decide +kernel
theorem dX5_strongestHabit_6 : decode cX5_strongestHabit 6 = .ok (.iconst 0, 1) := by decide +kernel
theorem dX5_strongestHabit_7 : decode cX5_strongestHabit 7 = .ok (.istore 4, 2) := by decide +kernel
theorem dX5_strongestHabit_9 : decode cX5_strongestHabit 9 = .ok (.iload 4, 2) := by decide +kernel
theorem dX5_strongestHabit_11 : decode cX5_strongestHabit 11 = .ok (.bipush 16, 2) := by decide +kernel
theorem dX5_strongestHabit_13 : decode cX5_strongestHabit 13 = .ok (.if_icmp .ge 85, 3) := by decide +kernel
theorem dX5_strongestHabit_16 : decode cX5_strongestHabit 16 = .ok (.iload 4, 2) := by decide +kernel
theorem dX5_strongestHabit_18 : decode cX5_strongestHabit 18 = .ok (.iconst 4, 1) := by decide +kernel
theorem dX5_strongestHabit_19 : decode cX5_strongestHabit 19 = .ok (.idiv, 1) := by decide +kernel
theorem dX5_strongestHabit_20 : decode cX5_strongestHabit 20 = .ok (.istore 5, 2) := by decide +kernel
theorem dX5_strongestHabit_22 : decode cX5_strongestHabit 22 = .ok (.iload_n 1, 1) := by decide +kernel
theorem dX5_strongestHabit_23 : decode cX5_strongestHabit 23 = .ok (.iconst (-1), 1) := by decide +kernel
theorem dX5_strongestHabit_24 : decode cX5_strongestHabit 24 = .ok (.if_icmp .eq 24, 3) := by decide +kernel
theorem dX5_strongestHabit_27 : decode cX5_strongestHabit 27 = .ok (.aload_n 0, 1) := by decide +kernel
theorem dX5_strongestHabit_28 : decode cX5_strongestHabit 28 = .ok (.getfield 9, 3) := by decide +kernel
theorem dX5_strongestHabit_31 : decode cX5_strongestHabit 31 = .ok (.iload 4, 2) := by decide +kernel
theorem dX5_strongestHabit_33 : decode cX5_strongestHabit 33 = .ok (.iaload, 1) := by decide +kernel
theorem dX5_strongestHabit_34 : decode cX5_strongestHabit 34 = .ok (.iload_n 3, 1) := by decide +kernel
theorem dX5_strongestHabit_35 : decode cX5_strongestHabit 35 = .ok (.imul, 1) := by decide +kernel
theorem dX5_strongestHabit_36 : decode cX5_strongestHabit 36 = .ok (.iload_n 2, 1) := by decide +kernel
theorem dX5_strongestHabit_37 : decode cX5_strongestHabit 37 = .ok (.aload_n 0, 1) := by decide +kernel
theorem dX5_strongestHabit_38 : decode cX5_strongestHabit 38 = .ok (.getfield 15, 3) := by decide +kernel
theorem dX5_strongestHabit_41 : decode cX5_strongestHabit 41 = .ok (.iload 5, 2) := by decide +kernel
theorem dX5_strongestHabit_43 : decode cX5_strongestHabit 43 = .ok (.iaload, 1) := by decide +kernel
theorem dX5_strongestHabit_44 : decode cX5_strongestHabit 44 = .ok (.imul, 1) := by decide +kernel
theorem dX5_strongestHabit_45 : decode cX5_strongestHabit 45 = .ok (.if_icmp .le 7, 3) := by decide +kernel
theorem dX5_strongestHabit_48 : decode cX5_strongestHabit 48 = .ok (.iconst 1, 1) := by decide +kernel
theorem dX5_strongestHabit_49 : decode cX5_strongestHabit 49 = .ok (.goto 4, 3) := by decide +kernel
theorem dX5_strongestHabit_52 : decode cX5_strongestHabit 52 = .ok (.iconst 0, 1) := by decide +kernel
theorem dX5_strongestHabit_53 : decode cX5_strongestHabit 53 = .ok (.istore 6, 2) := by decide +kernel
theorem dX5_strongestHabit_55 : decode cX5_strongestHabit 55 = .ok (.iload 6, 2) := by decide +kernel
theorem dX5_strongestHabit_57 : decode cX5_strongestHabit 57 = .ok (.ifCond .eq 35, 3) := by decide +kernel
theorem dX5_strongestHabit_60 : decode cX5_strongestHabit 60 = .ok (.aload_n 0, 1) := by decide +kernel
theorem dX5_strongestHabit_61 : decode cX5_strongestHabit 61 = .ok (.iload 5, 2) := by decide +kernel
theorem dX5_strongestHabit_63 : decode cX5_strongestHabit 63 = .ok (.iload 4, 2) := by decide +kernel
theorem dX5_strongestHabit_65 : decode cX5_strongestHabit 65 = .ok (.iconst 4, 1) := by decide +kernel
theorem dX5_strongestHabit_66 : decode cX5_strongestHabit 66 = .ok (.irem, 1) := by decide +kernel
theorem dX5_strongestHabit_67 : decode cX5_strongestHabit 67 = .ok (.invokevirtual 48, 3) := by decide +kernel
theorem dX5_strongestHabit_70 : decode cX5_strongestHabit 70 = .ok (.ifCond .eq 22, 3) := by decide +kernel
theorem dX5_strongestHabit_73 : decode cX5_strongestHabit 73 = .ok (.iload 4, 2) := by decide +kernel
theorem dX5_strongestHabit_75 : decode cX5_strongestHabit 75 = .ok (.istore_n 1, 1) := by decide +kernel
theorem dX5_strongestHabit_76 : decode cX5_strongestHabit 76 = .ok (.aload_n 0, 1) := by decide +kernel
theorem dX5_strongestHabit_77 : decode cX5_strongestHabit 77 = .ok (.getfield 9, 3) := by decide +kernel
theorem dX5_strongestHabit_80 : decode cX5_strongestHabit 80 = .ok (.iload 4, 2) := by decide +kernel
theorem dX5_strongestHabit_82 : decode cX5_strongestHabit 82 = .ok (.iaload, 1) := by decide +kernel
theorem dX5_strongestHabit_83 : decode cX5_strongestHabit 83 = .ok (.istore_n 2, 1) := by decide +kernel
theorem dX5_strongestHabit_84 : decode cX5_strongestHabit 84 = .ok (.aload_n 0, 1) := by decide +kernel
theorem dX5_strongestHabit_85 : decode cX5_strongestHabit 85 = .ok (.getfield 15, 3) := by decide +kernel
theorem dX5_strongestHabit_88 : decode cX5_strongestHabit 88 = .ok (.iload 5, 2) := by decide +kernel
theorem dX5_strongestHabit_90 : decode cX5_strongestHabit 90 = .ok (.iaload, 1) := by decide +kernel
theorem dX5_strongestHabit_91 : decode cX5_strongestHabit 91 = .ok (.istore_n 3, 1) := by decide +kernel
theorem dX5_strongestHabit_92 : decode cX5_strongestHabit 92 = .ok (.iinc 4 1, 3) := by decide +kernel
theorem dX5_strongestHabit_95 : decode cX5_strongestHabit 95 = .ok (.goto (-86), 3) := by decide +kernel
theorem dX5_strongestHabit_98 : decode cX5_strongestHabit 98 = .ok (.iload_n 1, 1) := by decide +kernel
theorem dX5_strongestHabit_99 : decode cX5_strongestHabit 99 = .ok (.ireturn, 1) := by decide +kernel
theorem dX5_aboveZero_0 : decode cX5_aboveZero 0 = .ok (.iconst 0, 1) := by decide +kernel
theorem dX5_aboveZero_1 : decode cX5_aboveZero 1 = .ok (.istore_n 1, 1) := by decide +kernel
theorem dX5_aboveZero_2 : decode cX5_aboveZero 2 = .ok (.aload_n 0, 1) := by decide +kernel
theorem dX5_aboveZero_3 : decode cX5_aboveZero 3 = .ok (.astore_n 2, 1) := by decide +kernel
theorem dX5_aboveZero_4 : decode cX5_aboveZero 4 = .ok (.aload_n 2, 1) := by decide +kernel
theorem dX5_aboveZero_5 : decode cX5_aboveZero 5 = .ok (.arraylength, 1) := by decide +kernel
theorem dX5_aboveZero_6 : decode cX5_aboveZero 6 = .ok (.istore_n 3, 1) := by decide +kernel
theorem dX5_aboveZero_7 : decode cX5_aboveZero 7 = .ok (.iconst 0, 1) := by decide +kernel
theorem dX5_aboveZero_8 : decode cX5_aboveZero 8 = .ok (.istore 4, 2) := by decide +kernel
theorem dX5_aboveZero_10 : decode cX5_aboveZero 10 = .ok (.iload 4, 2) := by decide +kernel
theorem dX5_aboveZero_12 : decode cX5_aboveZero 12 = .ok (.iload_n 3, 1) := by decide +kernel
theorem dX5_aboveZero_13 : decode cX5_aboveZero 13 = .ok (.if_icmp .ge 23, 3) := by decide +kernel
theorem dX5_aboveZero_16 : decode cX5_aboveZero 16 = .ok (.aload_n 2, 1) := by decide +kernel
theorem dX5_aboveZero_17 : decode cX5_aboveZero 17 = .ok (.iload 4, 2) := by decide +kernel
theorem dX5_aboveZero_19 : decode cX5_aboveZero 19 = .ok (.iaload, 1) := by decide +kernel
theorem dX5_aboveZero_20 : decode cX5_aboveZero 20 = .ok (.istore 5, 2) := by decide +kernel
theorem dX5_aboveZero_22 : decode cX5_aboveZero 22 = .ok (.iload 5, 2) := by decide +kernel
theorem dX5_aboveZero_24 : decode cX5_aboveZero 24 = .ok (.ifCond .le 6, 3) := by decide +kernel
theorem dX5_aboveZero_27 : decode cX5_aboveZero 27 = .ok (.iinc 1 1, 3) := by decide +kernel
theorem dX5_aboveZero_30 : decode cX5_aboveZero 30 = .ok (.iinc 4 1, 3) := by decide +kernel
theorem dX5_aboveZero_33 : decode cX5_aboveZero 33 = .ok (.goto (-23), 3) := by decide +kernel
theorem dX5_aboveZero_36 : decode cX5_aboveZero 36 = .ok (.iload_n 1, 1) := by decide +kernel
theorem dX5_aboveZero_37 : decode cX5_aboveZero 37 = .ok (.ireturn, 1) := by decide +kernel
theorem dX5_ways_0 : decode cX5_ways 0 = .ok (.iload_n 1, 1) := by decide +kernel
theorem dX5_ways_1 : decode cX5_ways 1 = .ok (.ifCond .lt 8, 3) := by decide +kernel
theorem dX5_ways_4 : decode cX5_ways 4 = .ok (.iload_n 1, 1) := by decide +kernel
theorem dX5_ways_5 : decode cX5_ways 5 = .ok (.iload_n 0, 1) := by decide +kernel
theorem dX5_ways_6 : decode cX5_ways 6 = .ok (.if_icmp .le 5, 3) := by decide +kernel
theorem dX5_ways_9 : decode cX5_ways 9 = .ok (.lconst 0, 1) := by decide +kernel
theorem dX5_ways_10 : decode cX5_ways 10 = .ok (.lreturn, 1) := by decide +kernel
theorem dX5_ways_11 : decode cX5_ways 11 = .ok (.iload_n 1, 1) := by decide +kernel
theorem dX5_ways_12 : decode cX5_ways 12 = .ok (.iload_n 0, 1) := by decide +kernel
theorem dX5_ways_13 : decode cX5_ways 13 = .ok (.iload_n 1, 1) := by decide +kernel
theorem dX5_ways_14 : decode cX5_ways 14 = .ok (.isub, 1) := by decide +kernel
theorem dX5_ways_15 : decode cX5_ways 15 = .ok (.invokestatic 42, 3) := by decide +kernel
theorem dX5_ways_18 : decode cX5_ways 18 = .ok (.istore_n 2, 1) := by decide +kernel
theorem dX5_ways_19 : decode cX5_ways 19 = .ok (.lconst 1, 1) := by decide +kernel
theorem dX5_ways_20 : decode cX5_ways 20 = .ok (.lstore_n 3, 1) := by decide +kernel
theorem dX5_ways_21 : decode cX5_ways 21 = .ok (.iconst 1, 1) := by decide +kernel
theorem dX5_ways_22 : decode cX5_ways 22 = .ok (.istore 5, 2) := by decide +kernel
theorem dX5_ways_24 : decode cX5_ways 24 = .ok (.iload 5, 2) := by decide +kernel
theorem dX5_ways_26 : decode cX5_ways 26 = .ok (.iload_n 2, 1) := by decide +kernel
theorem dX5_ways_27 : decode cX5_ways 27 = .ok (.if_icmp .gt 23, 3) := by decide +kernel
theorem dX5_ways_30 : decode cX5_ways 30 = .ok (.lload_n 3, 1) := by decide +kernel
theorem dX5_ways_31 : decode cX5_ways 31 = .ok (.iload_n 0, 1) := by decide +kernel
theorem dX5_ways_32 : decode cX5_ways 32 = .ok (.iload_n 2, 1) := by decide +kernel
theorem dX5_ways_33 : decode cX5_ways 33 = .ok (.isub, 1) := by decide +kernel
theorem dX5_ways_34 : decode cX5_ways 34 = .ok (.iload 5, 2) := by decide +kernel
theorem dX5_ways_36 : decode cX5_ways 36 = .ok (.iadd, 1) := by decide +kernel
theorem dX5_ways_37 : decode cX5_ways 37 = .ok (.i2l, 1) := by decide +kernel
theorem dX5_ways_38 : decode cX5_ways 38 = .ok (.lmul, 1) := by decide +kernel
theorem dX5_ways_39 : decode cX5_ways 39 = .ok (.iload 5, 2) := by decide +kernel
theorem dX5_ways_41 : decode cX5_ways 41 = .ok (.i2l, 1) := by decide +kernel
theorem dX5_ways_42 : decode cX5_ways 42 = .ok (.ldiv, 1) := by decide +kernel
theorem dX5_ways_43 : decode cX5_ways 43 = .ok (.lstore_n 3, 1) := by decide +kernel
theorem dX5_ways_44 : decode cX5_ways 44 = .ok (.iinc 5 1, 3) := by decide +kernel
theorem dX5_ways_47 : decode cX5_ways 47 = .ok (.goto (-23), 3) := by decide +kernel
theorem dX5_ways_50 : decode cX5_ways 50 = .ok (.lload_n 3, 1) := by decide +kernel
theorem dX5_ways_51 : decode cX5_ways 51 = .ok (.lreturn, 1) := by decide +kernel
set_option maxRecDepth 20000 in
theorem ggX6_init_J7_fill_53178 : GoodIn wsX6_init wsJ7_fill_53178 := goodIn_r _ [12] (by decide +kernel) (by decide +kernel)
set_option maxRecDepth 20000 in
theorem gX6_init_J7_fill_53178 : GoodIn wsX6_init (va_wsS RX6 24 yJ7_fill_53178 wsJ7_fill_53178) := goodIn_app (goodIn_of _ (by decide +kernel)) ggX6_init_J7_fill_53178
theorem dX6_init_0 : decode cX6_init 0 = .ok (.aload_n 0, 1) := by decide +kernel
theorem dX6_init_1 : decode cX6_init 1 = .ok (.invokespecial 3, 3) := by decide +kernel
theorem dX6_init_4 : decode cX6_init 4 = .ok (.aload_n 0, 1) := by decide +kernel
theorem dX6_init_5 : decode cX6_init 5 = .ok (.bipush 8, 2) := by decide +kernel
theorem dX6_init_7 : decode cX6_init 7 = .ok (.newarray .int, 2) := by decide +kernel
theorem dX6_init_9 : decode cX6_init 9 = .ok (.putfield 9, 3) := by decide +kernel
theorem dX6_init_12 : decode cX6_init 12 = .ok (.aload_n 0, 1) := by decide +kernel
theorem dX6_init_13 : decode cX6_init 13 = .ok (.bipush 8, 2) := by decide +kernel
theorem dX6_init_15 : decode cX6_init 15 = .ok (.newarray .int, 2) := by decide +kernel
theorem dX6_init_17 : decode cX6_init 17 = .ok (.putfield 15, 3) := by decide +kernel
theorem dX6_init_20 : decode cX6_init 20 = .ok (.aload_n 0, 1) := by decide +kernel
theorem dX6_init_21 : decode cX6_init 21 = .ok (.bipush 8, 2) := by decide +kernel
theorem dX6_init_23 : decode cX6_init 23 = .ok (.newarray .int, 2) := by decide +kernel
theorem dX6_init_25 : decode cX6_init 25 = .ok (.putfield 18, 3) := by decide +kernel
theorem dX6_init_28 : decode cX6_init 28 = .ok (.aload_n 0, 1) := by decide +kernel
theorem dX6_init_29 : decode cX6_init 29 = .ok (.bipush 8, 2) := by decide +kernel
theorem dX6_init_31 : decode cX6_init 31 = .ok (.newarray .int, 2) := by decide +kernel
theorem dX6_init_33 : decode cX6_init 33 = .ok (.putfield 21, 3) := by decide +kernel
theorem dX6_init_36 : decode cX6_init 36 = .ok (.aload_n 0, 1) := by decide +kernel
theorem dX6_init_37 : decode cX6_init 37 = .ok (.getfield 9, 3) := by decide +kernel
theorem dX6_init_40 : decode cX6_init 40 = .ok (.bipush 10, 2) := by decide +kernel
theorem dX6_init_42 : decode cX6_init 42 = .ok (.invokestatic 24, 3) := by decide +kernel
theorem dX6_init_45 : decode cX6_init 45 = .ok (.aload_n 0, 1) := by decide +kernel
theorem dX6_init_46 : decode cX6_init 46 = .ok (.getfield 15, 3) := by decide +kernel
theorem dX6_init_49 : decode cX6_init 49 = .ok (.iconst 1, 1) := by decide +kernel
theorem dX6_init_50 : decode cX6_init 50 = .ok (.invokestatic 24, 3) := by decide +kernel
theorem dX6_init_53 : decode cX6_init 53 = .ok (.aload_n 0, 1) := by decide +kernel
theorem dX6_init_54 : decode cX6_init 54 = .ok (.getfield 21, 3) := by decide +kernel
theorem dX6_init_57 : decode cX6_init 57 = .ok (.bipush 10, 2) := by decide +kernel
theorem dX6_init_59 : decode cX6_init 59 = .ok (.invokestatic 24, 3) := by decide +kernel
theorem dX6_init_62 : decode cX6_init 62 = .ok (.return_, 1) := by decide +kernel
set_option maxRecDepth 20000 in
theorem ggX6_setPlayer_X6_setStride : GoodIn wsX6_setPlayer wsX6_setStride := goodIn_r _ [7, 8, 1, 9, 10, 11, 12, 13, 14, 15, 16, 17] (by decide +kernel) (by decide +kernel)
set_option maxRecDepth 20000 in
theorem gX6_setPlayer_X6_setStride : GoodIn wsX6_setPlayer (wsV RX6 30 RX6 yX6_setStride wsX6_setStride) := goodIn_app (goodIn_of _ (by decide +kernel)) ggX6_setPlayer_X6_setStride
theorem dX6_setPlayer_0 : decode cX6_setPlayer 0 = .ok (.aload_n 0, 1) := by decide +kernel
theorem dX6_setPlayer_1 : decode cX6_setPlayer 1 = .ok (.getfield 9, 3) := by decide +kernel
theorem dX6_setPlayer_4 : decode cX6_setPlayer 4 = .ok (.iload_n 1, 1) := by decide +kernel
theorem dX6_setPlayer_5 : decode cX6_setPlayer 5 = .ok (.iload_n 2, 1) := by decide +kernel
theorem dX6_setPlayer_6 : decode cX6_setPlayer 6 = .ok (.iastore, 1) := by decide +kernel
theorem dX6_setPlayer_7 : decode cX6_setPlayer 7 = .ok (.aload_n 0, 1) := by decide +kernel
theorem dX6_setPlayer_8 : decode cX6_setPlayer 8 = .ok (.getfield 15, 3) := by decide +kernel
theorem dX6_setPlayer_11 : decode cX6_setPlayer 11 = .ok (.iload_n 1, 1) := by decide +kernel
theorem dX6_setPlayer_12 : decode cX6_setPlayer 12 = .ok (.iload_n 3, 1) := by decide +kernel
theorem dX6_setPlayer_13 : decode cX6_setPlayer 13 = .ok (.iastore, 1) := by decide +kernel
theorem dX6_setPlayer_14 : decode cX6_setPlayer 14 = .ok (.aload_n 0, 1) := by decide +kernel
theorem dX6_setPlayer_15 : decode cX6_setPlayer 15 = .ok (.iload_n 1, 1) := by decide +kernel
theorem dX6_setPlayer_16 : decode cX6_setPlayer 16 = .ok (.invokevirtual 30, 3) := by decide +kernel
theorem dX6_setPlayer_19 : decode cX6_setPlayer 19 = .ok (.return_, 1) := by decide +kernel
set_option maxRecDepth 20000 in
theorem ggX6_tire_X6_setStride : GoodIn wsX6_tire wsX6_setStride := goodIn_r _ [13, 14, 15, 1, 6, 7, 4, 8, 16, 17, 18, 19] (by decide +kernel) (by decide +kernel)
set_option maxRecDepth 20000 in
theorem gX6_tire_X6_setStride : GoodIn wsX6_tire (wsV RX6 30 RX6 yX6_setStride wsX6_setStride) := goodIn_app (goodIn_of _ (by decide +kernel)) ggX6_tire_X6_setStride
theorem dX6_tire_0 : decode cX6_tire 0 = .ok (.aload_n 0, 1) := by decide +kernel
theorem dX6_tire_1 : decode cX6_tire 1 = .ok (.getfield 18, 3) := by decide +kernel
theorem dX6_tire_4 : decode cX6_tire 4 = .ok (.iload_n 1, 1) := by decide +kernel
theorem dX6_tire_5 : decode cX6_tire 5 = .ok (.iconst 0, 1) := by decide +kernel
theorem dX6_tire_6 : decode cX6_tire 6 = .ok (.bipush 100, 2) := by decide +kernel
theorem dX6_tire_8 : decode cX6_tire 8 = .ok (.aload_n 0, 1) := by decide +kernel
theorem dX6_tire_9 : decode cX6_tire 9 = .ok (.getfield 18, 3) := by decide +kernel
theorem dX6_tire_12 : decode cX6_tire 12 = .ok (.iload_n 1, 1) := by decide +kernel
theorem dX6_tire_13 : decode cX6_tire 13 = .ok (.iaload, 1) := by decide +kernel
theorem dX6_tire_14 : decode cX6_tire 14 = .ok (.iload_n 2, 1) := by decide +kernel
theorem dX6_tire_15 : decode cX6_tire 15 = .ok (.iadd, 1) := by decide +kernel
theorem dX6_tire_16 : decode cX6_tire 16 = .ok (.invokestatic 34, 3) := by decide +kernel
theorem dX6_tire_19 : decode cX6_tire 19 = .ok (.invokestatic 40, 3) := by decide +kernel
theorem dX6_tire_22 : decode cX6_tire 22 = .ok (.iastore, 1) := by decide +kernel
theorem dX6_tire_23 : decode cX6_tire 23 = .ok (.aload_n 0, 1) := by decide +kernel
theorem dX6_tire_24 : decode cX6_tire 24 = .ok (.iload_n 1, 1) := by decide +kernel
theorem dX6_tire_25 : decode cX6_tire 25 = .ok (.invokevirtual 30, 3) := by decide +kernel
theorem dX6_tire_28 : decode cX6_tire 28 = .ok (.aload_n 0, 1) := by decide +kernel
theorem dX6_tire_29 : decode cX6_tire 29 = .ok (.getfield 18, 3) := by decide +kernel
theorem dX6_tire_32 : decode cX6_tire 32 = .ok (.iload_n 1, 1) := by decide +kernel
theorem dX6_tire_33 : decode cX6_tire 33 = .ok (.iaload, 1) := by decide +kernel
theorem dX6_tire_34 : decode cX6_tire 34 = .ok (.ireturn, 1) := by decide +kernel
theorem dX6_tiredOf_0 : decode cX6_tiredOf 0 = .ok (.aload_n 0, 1) := by decide +kernel
theorem dX6_tiredOf_1 : decode cX6_tiredOf 1 = .ok (.getfield 18, 3) := by decide +kernel
theorem dX6_tiredOf_4 : decode cX6_tiredOf 4 = .ok (.iload_n 1, 1) := by decide +kernel
theorem dX6_tiredOf_5 : decode cX6_tiredOf 5 = .ok (.iaload, 1) := by decide +kernel
theorem dX6_tiredOf_6 : decode cX6_tiredOf 6 = .ok (.ireturn, 1) := by decide +kernel
theorem dX6_reachOf_0 : decode cX6_reachOf 0 = .ok (.aload_n 0, 1) := by decide +kernel
theorem dX6_reachOf_1 : decode cX6_reachOf 1 = .ok (.getfield 15, 3) := by decide +kernel
theorem dX6_reachOf_4 : decode cX6_reachOf 4 = .ok (.iload_n 1, 1) := by decide +kernel
theorem dX6_reachOf_5 : decode cX6_reachOf 5 = .ok (.iaload, 1) := by decide +kernel
theorem dX6_reachOf_6 : decode cX6_reachOf 6 = .ok (.ireturn, 1) := by decide +kernel
theorem dX6_strideOf_0 : decode cX6_strideOf 0 = .ok (.aload_n 0, 1) := by decide +kernel
theorem dX6_strideOf_1 : decode cX6_strideOf 1 = .ok (.getfield 21, 3) := by decide +kernel
theorem dX6_strideOf_4 : decode cX6_strideOf 4 = .ok (.iload_n 1, 1) := by decide +kernel
theorem dX6_strideOf_5 : decode cX6_strideOf 5 = .ok (.iaload, 1) := by decide +kernel
theorem dX6_strideOf_6 : decode cX6_strideOf 6 = .ok (.ireturn, 1) := by decide +kernel
theorem dX6_comes_0 : decode cX6_comes 0 = .ok (.iload_n 2, 1) := by decide +kernel
theorem dX6_comes_1 : decode cX6_comes 1 = .ok (.aload_n 0, 1) := by decide +kernel
theorem dX6_comes_2 : decode cX6_comes 2 = .ok (.getfield 21, 3) := by decide +kernel
theorem dX6_comes_5 : decode cX6_comes 5 = .ok (.iload_n 1, 1) := by decide +kernel
theorem dX6_comes_6 : decode cX6_comes 6 = .ok (.iaload, 1) := by decide +kernel
theorem dX6_comes_7 : decode cX6_comes 7 = .ok (.imul, 1) := by decide +kernel
theorem dX6_comes_8 : decode cX6_comes 8 = .ok (.bipush 10, 2) := by decide +kernel
theorem dX6_comes_10 : decode cX6_comes 10 = .ok (.idiv, 1) := by decide +kernel
theorem dX6_comes_11 : decode cX6_comes 11 = .ok (.ireturn, 1) := by decide +kernel
set_option maxRecDepth 20000 in
theorem ggX6_meetingCells_X6_comes : GoodIn wsX6_meetingCells wsX6_comes := goodIn_r _ [6, 7, 26, 27, 28, 29] (by decide +kernel) (by decide +kernel)
set_option maxRecDepth 20000 in
theorem gX6_meetingCells_X6_comes : GoodIn wsX6_meetingCells (wsV RX6 43 RX6 yX6_comes wsX6_comes) := goodIn_app (goodIn_of _ (by decide +kernel)) ggX6_meetingCells_X6_comes
set_option maxRecDepth 20000 in
theorem ggX6_meetingCells_X2_near : GoodIn wsX6_meetingCells wsX2_near := goodIn_r _ [11, 12, 13, 14, 15, 16, 17, 18, 19, 20, 21, 10, 22, 23, 24, 25] (by decide +kernel) (by decide +kernel)
set_option maxRecDepth 20000 in
theorem gX6_meetingCells_X2_near : GoodIn wsX6_meetingCells (va_wsS RX6 46 yX2_near wsX2_near) := goodIn_app (goodIn_of _ (by decide +kernel)) ggX6_meetingCells_X2_near
theorem dX6_meetingCells_0 : decode cX6_meetingCells 0 = .ok (.iload_n 2, 1) := by decide +kernel
theorem dX6_meetingCells_1 : decode cX6_meetingCells 1 = .ok (.aload_n 0, 1) := by decide +kernel
theorem dX6_meetingCells_2 : decode cX6_meetingCells 2 = .ok (.iload_n 1, 1) := by decide +kernel
theorem dX6_meetingCells_3 : decode cX6_meetingCells 3 = .ok (.iload_n 3, 1) := by decide +kernel
theorem dX6_meetingCells_4 : decode cX6_meetingCells 4 = .ok (.invokevirtual 43, 3) := by decide +kernel
theorem dX6_meetingCells_7 : decode cX6_meetingCells 7 = .ok (.aload_n 0, 1) := by decide +kernel
theorem dX6_meetingCells_8 : decode cX6_meetingCells 8 = .ok (.getfield 15, 3) := by decide +kernel
theorem dX6_meetingCells_11 : decode cX6_meetingCells 11 = .ok (.iload_n 1, 1) := by decide +kernel
theorem dX6_meetingCells_12 : decode cX6_meetingCells 12 = .ok (.iaload, 1) := by decide +kernel
theorem dX6_meetingCells_13 : decode cX6_meetingCells 13 = .ok (.iadd, 1) := by decide +kernel
theorem dX6_meetingCells_14 : decode cX6_meetingCells 14 = .ok (.invokestatic 46, 3) := by decide +kernel
theorem dX6_meetingCells_17 : decode cX6_meetingCells 17 = .ok (.ireturn, 1) := by decide +kernel
theorem dX6_setStride_0 : decode cX6_setStride 0 = .ok (.aload_n 0, 1) := by decide +kernel
theorem dX6_setStride_1 : decode cX6_setStride 1 = .ok (.getfield 21, 3) := by decide +kernel
theorem dX6_setStride_4 : decode cX6_setStride 4 = .ok (.iload_n 1, 1) := by decide +kernel
theorem dX6_setStride_5 : decode cX6_setStride 5 = .ok (.iconst 1, 1) := by decide +kernel
theorem dX6_setStride_6 : decode cX6_setStride 6 = .ok (.aload_n 0, 1) := by decide +kernel
theorem dX6_setStride_7 : decode cX6_setStride 7 = .ok (.getfield 9, 3) := by decide +kernel
theorem dX6_setStride_10 : decode cX6_setStride 10 = .ok (.iload_n 1, 1) := by decide +kernel
theorem dX6_setStride_11 : decode cX6_setStride 11 = .ok (.iaload, 1) := by decide +kernel
theorem dX6_setStride_12 : decode cX6_setStride 12 = .ok (.sipush 200, 3) := by decide +kernel
theorem dX6_setStride_15 : decode cX6_setStride 15 = .ok (.aload_n 0, 1) := by decide +kernel
theorem dX6_setStride_16 : decode cX6_setStride 16 = .ok (.getfield 18, 3) := by decide +kernel
theorem dX6_setStride_19 : decode cX6_setStride 19 = .ok (.iload_n 1, 1) := by decide +kernel
theorem dX6_setStride_20 : decode cX6_setStride 20 = .ok (.iaload, 1) := by decide +kernel
theorem dX6_setStride_21 : decode cX6_setStride 21 = .ok (.isub, 1) := by decide +kernel
theorem dX6_setStride_22 : decode cX6_setStride 22 = .ok (.imul, 1) := by decide +kernel
theorem dX6_setStride_23 : decode cX6_setStride 23 = .ok (.sipush 200, 3) := by decide +kernel
theorem dX6_setStride_26 : decode cX6_setStride 26 = .ok (.idiv, 1) := by decide +kernel
theorem dX6_setStride_27 : decode cX6_setStride 27 = .ok (.invokestatic 40, 3) := by decide +kernel
theorem dX6_setStride_30 : decode cX6_setStride 30 = .ok (.iastore, 1) := by decide +kernel
theorem dX6_setStride_31 : decode cX6_setStride 31 = .ok (.return_, 1) := by decide +kernel
theorem dX7_init_0 : decode cX7_init 0 = .ok (.aload_n 0, 1) := by decide +kernel
theorem dX7_init_1 : decode cX7_init 1 = .ok (.invokespecial 3, 3) := by decide +kernel
theorem dX7_init_4 : decode cX7_init 4 = .ok (.aload_n 0, 1) := by decide +kernel
theorem dX7_init_5 : decode cX7_init 5 = .ok (.iconst 3, 1) := by decide +kernel
theorem dX7_init_6 : decode cX7_init 6 = .ok (.newarray .int, 2) := by decide +kernel
theorem dX7_init_8 : decode cX7_init 8 = .ok (.putfield 11, 3) := by decide +kernel
theorem dX7_init_11 : decode cX7_init 11 = .ok (.aload_n 0, 1) := by decide +kernel
theorem dX7_init_12 : decode cX7_init 12 = .ok (.iconst 0, 1) := by decide +kernel
theorem dX7_init_13 : decode cX7_init 13 = .ok (.putfield 15, 3) := by decide +kernel
theorem dX7_init_16 : decode cX7_init 16 = .ok (.return_, 1) := by decide +kernel
set_option maxRecDepth 20000 in
theorem ggX7_isOver_X7_aloneNow : GoodIn wsX7_isOver wsX7_aloneNow := goodIn_r _ [6, 1, 7, 8] (by decide +kernel) (by decide +kernel)
set_option maxRecDepth 20000 in
theorem gX7_isOver_X7_aloneNow : GoodIn wsX7_isOver (wsV RX7 19 RX7 yX7_aloneNow wsX7_aloneNow) := goodIn_app (goodIn_of _ (by decide +kernel)) ggX7_isOver_X7_aloneNow
theorem dX7_isOver_0 : decode cX7_isOver 0 = .ok (.aload_n 0, 1) := by decide +kernel
theorem dX7_isOver_1 : decode cX7_isOver 1 = .ok (.getfield 11, 3) := by decide +kernel
theorem dX7_isOver_4 : decode cX7_isOver 4 = .ok (.aload_n 0, 1) := by decide +kernel
theorem dX7_isOver_5 : decode cX7_isOver 5 = .ok (.invokevirtual 19, 3) := by decide +kernel
theorem dX7_isOver_8 : decode cX7_isOver 8 = .ok (.iaload, 1) := by decide +kernel
theorem dX7_isOver_9 : decode cX7_isOver 9 = .ok (.bipush 15, 2) := by decide +kernel
theorem dX7_isOver_11 : decode cX7_isOver 11 = .ok (.if_icmp .lt 7, 3) := by decide +kernel
theorem dX7_isOver_14 : decode cX7_isOver 14 = .ok (.iconst 1, 1) := by decide +kernel
theorem dX7_isOver_15 : decode cX7_isOver 15 = .ok (.goto 4, 3) := by decide +kernel
theorem dX7_isOver_18 : decode cX7_isOver 18 = .ok (.iconst 0, 1) := by decide +kernel
theorem dX7_isOver_19 : decode cX7_isOver 19 = .ok (.ireturn, 1) := by decide +kernel
set_option maxRecDepth 20000 in
theorem ggX7_tell_X7_aloneNow : GoodIn wsX7_tell wsX7_aloneNow := goodIn_r _ [7, 1, 8, 9] (by decide +kernel) (by decide +kernel)
set_option maxRecDepth 20000 in
theorem gX7_tell_X7_aloneNow : GoodIn wsX7_tell (wsV RX7 19 RX7 yX7_aloneNow wsX7_aloneNow) := goodIn_app (goodIn_of _ (by decide +kernel)) ggX7_tell_X7_aloneNow
theorem dX7_tell_0 : decode cX7_tell 0 = .ok (.aload_n 0, 1) := by decide +kernel
theorem dX7_tell_1 : decode cX7_tell 1 = .ok (.invokevirtual 19, 3) := by decide +kernel
theorem dX7_tell_4 : decode cX7_tell 4 = .ok (.istore_n 2, 1) := by decide +kernel
theorem dX7_tell_5 : decode cX7_tell 5 = .ok (.iload_n 1, 1) := by decide +kernel
theorem dX7_tell_6 : decode cX7_tell 6 = .ok (.ifCond .ne 21, 3) := by decide +kernel
theorem dX7_tell_9 : decode cX7_tell 9 = .ok (.aload_n 0, 1) := by decide +kernel
theorem dX7_tell_10 : decode cX7_tell 10 = .ok (.getfield 11, 3) := by decide +kernel
theorem dX7_tell_13 : decode cX7_tell 13 = .ok (.iload_n 2, 1) := by decide +kernel
theorem dX7_tell_14 : decode cX7_tell 14 = .ok (.dup2, 1) := by decide +kernel
theorem dX7_tell_15 : decode cX7_tell 15 = .ok (.iaload, 1) := by decide +kernel
theorem dX7_tell_16 : decode cX7_tell 16 = .ok (.iconst 1, 1) := by decide +kernel
theorem dX7_tell_17 : decode cX7_tell 17 = .ok (.iadd, 1) := by decide +kernel
theorem dX7_tell_18 : decode cX7_tell 18 = .ok (.iastore, 1) := by decide +kernel
theorem dX7_tell_19 : decode cX7_tell 19 = .ok (.aload_n 0, 1) := by decide +kernel
theorem dX7_tell_20 : decode cX7_tell 20 = .ok (.iload_n 2, 1) := by decide +kernel
theorem dX7_tell_21 : decode cX7_tell 21 = .ok (.putfield 15, 3) := by decide +kernel
theorem dX7_tell_24 : decode cX7_tell 24 = .ok (.goto 77, 3) := by decide +kernel
theorem dX7_tell_27 : decode cX7_tell 27 = .ok (.iload_n 1, 1) := by decide +kernel
theorem dX7_tell_28 : decode cX7_tell 28 = .ok (.iconst 1, 1) := by decide +kernel
theorem dX7_tell_29 : decode cX7_tell 29 = .ok (.if_icmp .ne 72, 3) := by decide +kernel
theorem dX7_tell_32 : decode cX7_tell 32 = .ok (.iload_n 2, 1) := by decide +kernel
theorem dX7_tell_33 : decode cX7_tell 33 = .ok (.ifCond .ne 7, 3) := by decide +kernel
theorem dX7_tell_36 : decode cX7_tell 36 = .ok (.iconst 1, 1) := by decide +kernel
theorem dX7_tell_37 : decode cX7_tell 37 = .ok (.goto 4, 3) := by decide +kernel
theorem dX7_tell_40 : decode cX7_tell 40 = .ok (.iconst 0, 1) := by decide +kernel
theorem dX7_tell_41 : decode cX7_tell 41 = .ok (.istore_n 3, 1) := by decide +kernel
theorem dX7_tell_42 : decode cX7_tell 42 = .ok (.iload_n 2, 1) := by decide +kernel
theorem dX7_tell_43 : decode cX7_tell 43 = .ok (.iconst 2, 1) := by decide +kernel
theorem dX7_tell_44 : decode cX7_tell 44 = .ok (.if_icmp .ne 7, 3) := by decide +kernel
theorem dX7_tell_47 : decode cX7_tell 47 = .ok (.iconst 1, 1) := by decide +kernel
theorem dX7_tell_48 : decode cX7_tell 48 = .ok (.goto 4, 3) := by decide +kernel
theorem dX7_tell_51 : decode cX7_tell 51 = .ok (.iconst 2, 1) := by decide +kernel
theorem dX7_tell_52 : decode cX7_tell 52 = .ok (.istore 4, 2) := by decide +kernel
theorem dX7_tell_54 : decode cX7_tell 54 = .ok (.aload_n 0, 1) := by decide +kernel
theorem dX7_tell_55 : decode cX7_tell 55 = .ok (.getfield 11, 3) := by decide +kernel
theorem dX7_tell_58 : decode cX7_tell 58 = .ok (.iload_n 3, 1) := by decide +kernel
theorem dX7_tell_59 : decode cX7_tell 59 = .ok (.dup2, 1) := by decide +kernel
theorem dX7_tell_60 : decode cX7_tell 60 = .ok (.iaload, 1) := by decide +kernel
theorem dX7_tell_61 : decode cX7_tell 61 = .ok (.iconst 1, 1) := by decide +kernel
theorem dX7_tell_62 : decode cX7_tell 62 = .ok (.iadd, 1) := by decide +kernel
theorem dX7_tell_63 : decode cX7_tell 63 = .ok (.iastore, 1) := by decide +kernel
theorem dX7_tell_64 : decode cX7_tell 64 = .ok (.aload_n 0, 1) := by decide +kernel
theorem dX7_tell_65 : decode cX7_tell 65 = .ok (.getfield 11, 3) := by decide +kernel
theorem dX7_tell_68 : decode cX7_tell 68 = .ok (.iload 4, 2) := by decide +kernel
theorem dX7_tell_70 : decode cX7_tell 70 = .ok (.dup2, 1) := by decide +kernel
theorem dX7_tell_71 : decode cX7_tell 71 = .ok (.iaload, 1) := by decide +kernel
theorem dX7_tell_72 : decode cX7_tell 72 = .ok (.iconst 1, 1) := by decide +kernel
theorem dX7_tell_73 : decode cX7_tell 73 = .ok (.iadd, 1) := by decide +kernel
theorem dX7_tell_74 : decode cX7_tell 74 = .ok (.iastore, 1) := by decide +kernel
theorem dX7_tell_75 : decode cX7_tell 75 = .ok (.aload_n 0, 1) := by decide +kernel
theorem dX7_tell_76 : decode cX7_tell 76 = .ok (.aload_n 0, 1) := by decide +kernel
theorem dX7_tell_77 : decode cX7_tell 77 = .ok (.getfield 11, 3) := by decide +kernel
theorem dX7_tell_80 : decode cX7_tell 80 = .ok (.iload 4, 2) := by decide +kernel
theorem dX7_tell_82 : decode cX7_tell 82 = .ok (.iaload, 1) := by decide +kernel
theorem dX7_tell_83 : decode cX7_tell 83 = .ok (.aload_n 0, 1) := by decide +kernel
theorem dX7_tell_84 : decode cX7_tell 84 = .ok (.getfield 11, 3) := by decide +kernel
theorem dX7_tell_87 : decode cX7_tell 87 = .ok (.iload_n 3, 1) := by decide +kernel
theorem dX7_tell_88 : decode cX7_tell 88 = .ok (.iaload, 1) := by decide +kernel
theorem dX7_tell_89 : decode cX7_tell 89 = .ok (.if_icmp .ge 8, 3) := by decide +kernel
theorem dX7_tell_92 : decode cX7_tell 92 = .ok (.iload 4, 2) := by decide +kernel
theorem dX7_tell_94 : decode cX7_tell 94 = .ok (.goto 4, 3) := by decide +kernel
theorem dX7_tell_97 : decode cX7_tell 97 = .ok (.iload_n 3, 1) := by decide +kernel
theorem dX7_tell_98 : decode cX7_tell 98 = .ok (.putfield 15, 3) := by decide +kernel
theorem dX7_tell_101 : decode cX7_tell 101 = .ok (.aload_n 0, 1) := by decide +kernel
theorem dX7_tell_102 : decode cX7_tell 102 = .ok (.getfield 15, 3) := by decide +kernel
theorem dX7_tell_105 : decode cX7_tell 105 = .ok (.ireturn, 1) := by decide +kernel
set_option maxRecDepth 20000 in
theorem ggX7_read_X7_aloneNow : GoodIn wsX7_read wsX7_aloneNow := goodIn_r _ [7, 2, 12, 13] (by decide +kernel) (by decide +kernel)
set_option maxRecDepth 20000 in
theorem gX7_read_X7_aloneNow : GoodIn wsX7_read (wsV RX7 19 RX7 yX7_aloneNow wsX7_aloneNow) := goodIn_app (goodIn_of _ (by decide +kernel)) ggX7_read_X7_aloneNow
set_option maxRecDepth 20000 in
theorem ggX7_read_X7_isOver : GoodIn wsX7_read wsX7_isOver := goodIn_r _ [11, 2, 3, 4, 5, 6, 7, 12, 13] (by decide +kernel) (by decide +kernel)
set_option maxRecDepth 20000 in
theorem gX7_read_X7_isOver : GoodIn wsX7_read (wsV RX7 23 RX7 yX7_isOver wsX7_isOver) := goodIn_app (goodIn_of _ (by decide +kernel)) ggX7_read_X7_isOver
theorem dX7_read_0 : decode cX7_read 0 = .ok (.iload_n 1, 1) := by decide +kernel
theorem dX7_read_1 : decode cX7_read 1 = .ok (.tableswitch 50 3 5 #[27, 32, 37], 27) := by decide +kernel
theorem dX7_read_28 : decode cX7_read 28 = .ok (.aload_n 0, 1) := by decide +kernel
theorem dX7_read_29 : decode cX7_read 29 = .ok (.invokevirtual 19, 3) := by decide +kernel
theorem dX7_read_32 : decode cX7_read 32 = .ok (.ireturn, 1) := by decide +kernel
theorem dX7_read_33 : decode cX7_read 33 = .ok (.aload_n 0, 1) := by decide +kernel
theorem dX7_read_34 : decode cX7_read 34 = .ok (.getfield 15, 3) := by decide +kernel
theorem dX7_read_37 : decode cX7_read 37 = .ok (.ireturn, 1) := by decide +kernel
theorem dX7_read_38 : decode cX7_read 38 = .ok (.aload_n 0, 1) := by decide +kernel
theorem dX7_read_39 : decode cX7_read 39 = .ok (.invokevirtual 23, 3) := by decide +kernel
theorem dX7_read_42 : decode cX7_read 42 = .ok (.ifCond .eq 7, 3) := by decide +kernel
theorem dX7_read_45 : decode cX7_read 45 = .ok (.iconst 1, 1) := by decide +kernel
theorem dX7_read_46 : decode cX7_read 46 = .ok (.goto 4, 3) := by decide +kernel
theorem dX7_read_49 : decode cX7_read 49 = .ok (.iconst 0, 1) := by decide +kernel
theorem dX7_read_50 : decode cX7_read 50 = .ok (.ireturn, 1) := by decide +kernel
theorem dX7_read_51 : decode cX7_read 51 = .ok (.iload_n 1, 1) := by decide +kernel
theorem dX7_read_52 : decode cX7_read 52 = .ok (.ifCond .lt 17, 3) := by decide +kernel
theorem dX7_read_55 : decode cX7_read 55 = .ok (.iload_n 1, 1) := by decide +kernel
theorem dX7_read_56 : decode cX7_read 56 = .ok (.iconst 3, 1) := by decide +kernel
theorem dX7_read_57 : decode cX7_read 57 = .ok (.if_icmp .ge 12, 3) := by decide +kernel
theorem dX7_read_60 : decode cX7_read 60 = .ok (.aload_n 0, 1) := by decide +kernel
theorem dX7_read_61 : decode cX7_read 61 = .ok (.getfield 11, 3) := by decide +kernel
theorem dX7_read_64 : decode cX7_read 64 = .ok (.iload_n 1, 1) := by decide +kernel
theorem dX7_read_65 : decode cX7_read 65 = .ok (.iaload, 1) := by decide +kernel
theorem dX7_read_66 : decode cX7_read 66 = .ok (.goto 5, 3) := by decide +kernel
theorem dX7_read_69 : decode cX7_read 69 = .ok (.bipush (-3), 2) := by decide +kernel
theorem dX7_read_71 : decode cX7_read 71 = .ok (.ireturn, 1) := by decide +kernel
theorem dX7_restart_0 : decode cX7_restart 0 = .ok (.iconst 0, 1) := by decide +kernel
theorem dX7_restart_1 : decode cX7_restart 1 = .ok (.istore_n 1, 1) := by decide +kernel
theorem dX7_restart_2 : decode cX7_restart 2 = .ok (.iconst 0, 1) := by decide +kernel
theorem dX7_restart_3 : decode cX7_restart 3 = .ok (.istore_n 2, 1) := by decide +kernel
theorem dX7_restart_4 : decode cX7_restart 4 = .ok (.iload_n 2, 1) := by decide +kernel
theorem dX7_restart_5 : decode cX7_restart 5 = .ok (.iconst 3, 1) := by decide +kernel
theorem dX7_restart_6 : decode cX7_restart 6 = .ok (.if_icmp .ge 25, 3) := by decide +kernel
theorem dX7_restart_9 : decode cX7_restart 9 = .ok (.iload_n 1, 1) := by decide +kernel
theorem dX7_restart_10 : decode cX7_restart 10 = .ok (.aload_n 0, 1) := by decide +kernel
theorem dX7_restart_11 : decode cX7_restart 11 = .ok (.getfield 11, 3) := by decide +kernel
theorem dX7_restart_14 : decode cX7_restart 14 = .ok (.iload_n 2, 1) := by decide +kernel
theorem dX7_restart_15 : decode cX7_restart 15 = .ok (.iaload, 1) := by decide +kernel
theorem dX7_restart_16 : decode cX7_restart 16 = .ok (.iadd, 1) := by decide +kernel
theorem dX7_restart_17 : decode cX7_restart 17 = .ok (.istore_n 1, 1) := by decide +kernel
theorem dX7_restart_18 : decode cX7_restart 18 = .ok (.aload_n 0, 1) := by decide +kernel
theorem dX7_restart_19 : decode cX7_restart 19 = .ok (.getfield 11, 3) := by decide +kernel
theorem dX7_restart_22 : decode cX7_restart 22 = .ok (.iload_n 2, 1) := by decide +kernel
theorem dX7_restart_23 : decode cX7_restart 23 = .ok (.iconst 0, 1) := by decide +kernel
theorem dX7_restart_24 : decode cX7_restart 24 = .ok (.iastore, 1) := by decide +kernel
theorem dX7_restart_25 : decode cX7_restart 25 = .ok (.iinc 2 1, 3) := by decide +kernel
theorem dX7_restart_28 : decode cX7_restart 28 = .ok (.goto (-24), 3) := by decide +kernel
theorem dX7_restart_31 : decode cX7_restart 31 = .ok (.aload_n 0, 1) := by decide +kernel
theorem dX7_restart_32 : decode cX7_restart 32 = .ok (.iconst 0, 1) := by decide +kernel
theorem dX7_restart_33 : decode cX7_restart 33 = .ok (.putfield 15, 3) := by decide +kernel
theorem dX7_restart_36 : decode cX7_restart 36 = .ok (.iload_n 1, 1) := by decide +kernel
theorem dX7_restart_37 : decode cX7_restart 37 = .ok (.ireturn, 1) := by decide +kernel
theorem dX7_aloneNow_0 : decode cX7_aloneNow 0 = .ok (.iconst 0, 1) := by decide +kernel
theorem dX7_aloneNow_1 : decode cX7_aloneNow 1 = .ok (.istore_n 1, 1) := by decide +kernel
theorem dX7_aloneNow_2 : decode cX7_aloneNow 2 = .ok (.iconst 1, 1) := by decide +kernel
theorem dX7_aloneNow_3 : decode cX7_aloneNow 3 = .ok (.istore_n 2, 1) := by decide +kernel
theorem dX7_aloneNow_4 : decode cX7_aloneNow 4 = .ok (.iload_n 2, 1) := by decide +kernel
theorem dX7_aloneNow_5 : decode cX7_aloneNow 5 = .ok (.iconst 3, 1) := by decide +kernel
theorem dX7_aloneNow_6 : decode cX7_aloneNow 6 = .ok (.if_icmp .ge 26, 3) := by decide +kernel
theorem dX7_aloneNow_9 : decode cX7_aloneNow 9 = .ok (.aload_n 0, 1) := by decide +kernel
theorem dX7_aloneNow_10 : decode cX7_aloneNow 10 = .ok (.getfield 11, 3) := by decide +kernel
theorem dX7_aloneNow_13 : decode cX7_aloneNow 13 = .ok (.iload_n 2, 1) := by decide +kernel
theorem dX7_aloneNow_14 : decode cX7_aloneNow 14 = .ok (.iaload, 1) := by decide +kernel
theorem dX7_aloneNow_15 : decode cX7_aloneNow 15 = .ok (.aload_n 0, 1) := by decide +kernel
theorem dX7_aloneNow_16 : decode cX7_aloneNow 16 = .ok (.getfield 11, 3) := by decide +kernel
theorem dX7_aloneNow_19 : decode cX7_aloneNow 19 = .ok (.iload_n 1, 1) := by decide +kernel
theorem dX7_aloneNow_20 : decode cX7_aloneNow 20 = .ok (.iaload, 1) := by decide +kernel
theorem dX7_aloneNow_21 : decode cX7_aloneNow 21 = .ok (.if_icmp .le 5, 3) := by decide +kernel
theorem dX7_aloneNow_24 : decode cX7_aloneNow 24 = .ok (.iload_n 2, 1) := by decide +kernel
theorem dX7_aloneNow_25 : decode cX7_aloneNow 25 = .ok (.istore_n 1, 1) := by decide +kernel
theorem dX7_aloneNow_26 : decode cX7_aloneNow 26 = .ok (.iinc 2 1, 3) := by decide +kernel
theorem dX7_aloneNow_29 : decode cX7_aloneNow 29 = .ok (.goto (-25), 3) := by decide +kernel
theorem dX7_aloneNow_32 : decode cX7_aloneNow 32 = .ok (.iload_n 1, 1) := by decide +kernel
theorem dX7_aloneNow_33 : decode cX7_aloneNow 33 = .ok (.ireturn, 1) := by decide +kernel
abbrev vwCl : List vw_C := [(RX0, TX0, 5), (RX1, TX1, 6), (RX3, TX3, 4), (RX4, TX4, 14), (RX5, TX5, 5), (RX6, TX6, 4), (RX7, TX7, 2), (RX8, TX8, 7), (RX9, TX9, 38)]
