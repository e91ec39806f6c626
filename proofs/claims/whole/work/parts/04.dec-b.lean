set_option maxRecDepth 20000 in
theorem ggX8_init_X0_init : GoodIn wsX8_init wsX0_init := goodIn_r _ [33, 34, 2, 3, 35, 36, 37, 38, 39, 40, 41, 102, 103, 104, 105, 106] (by decide +kernel) (by decide +kernel)
set_option maxRecDepth 20000 in
theorem gX8_init_X0_init_n9 : GoodIn wsX8_init (wsX0_init) := ggX8_init_X0_init
set_option maxRecDepth 20000 in
theorem ggX8_init_X6_init : GoodIn wsX8_init wsX6_init := goodIn_r _ [44, 45, 2, 3, 35, 46, 47, 48, 49, 50, 51, 52, 53, 114, 115, 116, 117] (by decide +kernel) (by decide +kernel)
set_option maxRecDepth 20000 in
theorem gX8_init_X6_init : GoodIn wsX8_init (wsX6_init) := ggX8_init_X6_init
set_option maxRecDepth 20000 in
theorem ggX8_init_X3_init : GoodIn wsX8_init wsX3_init := goodIn_r _ [56, 57, 2, 3, 35, 58, 59, 60, 61, 118, 119, 120, 121] (by decide +kernel) (by decide +kernel)
set_option maxRecDepth 20000 in
theorem gX8_init_X3_init : GoodIn wsX8_init (wsX3_init) := ggX8_init_X3_init
set_option maxRecDepth 20000 in
theorem ggX8_init_X7_init : GoodIn wsX8_init wsX7_init := goodIn_r _ [63, 64, 2, 3, 35, 65, 66, 122, 123] (by decide +kernel) (by decide +kernel)
set_option maxRecDepth 20000 in
theorem gX8_init_X7_init_n34 : GoodIn wsX8_init (wsX7_init) := ggX8_init_X7_init
set_option maxRecDepth 20000 in
theorem ggX8_init_X5_init : GoodIn wsX8_init wsX5_init := goodIn_r _ [68, 69, 2, 3, 35, 70, 71, 72, 73, 74, 124, 125, 126, 127, 128] (by decide +kernel) (by decide +kernel)
set_option maxRecDepth 20000 in
theorem gX8_init_X5_init_n41 : GoodIn wsX8_init (wsX5_init) := ggX8_init_X5_init
set_option maxRecDepth 20000 in
theorem ggX8_init_X1_init : GoodIn wsX8_init wsX1_init := goodIn_r _ [76, 77, 2, 3, 35, 78, 79, 80, 81, 82, 83, 129, 130, 131, 132, 133, 134] (by decide +kernel) (by decide +kernel)
set_option maxRecDepth 20000 in
theorem gX8_init_X1_init_n48 : GoodIn wsX8_init (wsX1_init) := ggX8_init_X1_init
set_option maxRecDepth 20000 in
theorem ggX8_init_X4_init : GoodIn wsX8_init wsX4_init := goodIn_r _ [85, 86, 2, 3, 87, 88, 35, 89, 90, 91, 92, 93, 94, 95, 96, 97, 98, 99, 100, 101, 135, 136, 137, 138, 139, 140, 141, 142, 143, 144, 145, 146, 147, 148] (by decide +kernel) (by decide +kernel)
set_option maxRecDepth 20000 in
theorem gX8_init_X4_init_n55 : GoodIn wsX8_init (wsX4_init) := ggX8_init_X4_init
theorem dX8_init_0 : decode cX8_init 0 = .ok (.aload_n 0, 1) := by decide +kernel
theorem dX8_init_1 : decode cX8_init 1 = .ok (.invokespecial 1, 3) := by decide +kernel
theorem dX8_init_4 : decode cX8_init 4 = .ok (.aload_n 0, 1) := by decide +kernel
theorem dX8_init_5 : decode cX8_init 5 = .ok (.new 7, 3) := by decide +kernel
theorem dX8_init_8 : decode cX8_init 8 = .ok (.dup, 1) := by decide +kernel
theorem dX8_init_9 : decode cX8_init 9 = .ok (.invokespecial 9, 3) := by decide +kernel
theorem dX8_init_12 : decode cX8_init 12 = .ok (.putfield 10, 3) := by decide +kernel
theorem dX8_init_15 : decode cX8_init 15 = .ok (.aload_n 0, 1) := by decide +kernel
theorem dX8_init_16 : decode cX8_init 16 = .ok (.new 16, 3) := by decide +kernel
theorem dX8_init_19 : decode cX8_init 19 = .ok (.dup, 1) := by decide +kernel
theorem dX8_init_20 : decode cX8_init 20 = .ok (.invokespecial 18, 3) := by decide +kernel
theorem dX8_init_23 : decode cX8_init 23 = .ok (.putfield 19, 3) := by decide +kernel
theorem dX8_init_26 : decode cX8_init 26 = .ok (.aload_n 0, 1) := by decide +kernel
theorem dX8_init_27 : decode cX8_init 27 = .ok (.new 23, 3) := by decide +kernel
theorem dX8_init_30 : decode cX8_init 30 = .ok (.dup, 1) := by decide +kernel
theorem dX8_init_31 : decode cX8_init 31 = .ok (.aload_n 0, 1) := by decide +kernel
theorem dX8_init_32 : decode cX8_init 32 = .ok (.getfield 10, 3) := by decide +kernel
theorem dX8_init_35 : decode cX8_init 35 = .ok (.aload_n 0, 1) := by decide +kernel
theorem dX8_init_36 : decode cX8_init 36 = .ok (.getfield 19, 3) := by decide +kernel
theorem dX8_init_39 : decode cX8_init 39 = .ok (.invokespecial 25, 3) := by decide +kernel
theorem dX8_init_42 : decode cX8_init 42 = .ok (.putfield 28, 3) := by decide +kernel
theorem dX8_init_45 : decode cX8_init 45 = .ok (.aload_n 0, 1) := by decide +kernel
theorem dX8_init_46 : decode cX8_init 46 = .ok (.new 32, 3) := by decide +kernel
theorem dX8_init_49 : decode cX8_init 49 = .ok (.dup, 1) := by decide +kernel
theorem dX8_init_50 : decode cX8_init 50 = .ok (.invokespecial 34, 3) := by decide +kernel
theorem dX8_init_53 : decode cX8_init 53 = .ok (.putfield 35, 3) := by decide +kernel
theorem dX8_init_56 : decode cX8_init 56 = .ok (.aload_n 0, 1) := by decide +kernel
theorem dX8_init_57 : decode cX8_init 57 = .ok (.new 39, 3) := by decide +kernel
theorem dX8_init_60 : decode cX8_init 60 = .ok (.dup, 1) := by decide +kernel
theorem dX8_init_61 : decode cX8_init 61 = .ok (.invokespecial 41, 3) := by decide +kernel
theorem dX8_init_64 : decode cX8_init 64 = .ok (.putfield 42, 3) := by decide +kernel
theorem dX8_init_67 : decode cX8_init 67 = .ok (.aload_n 0, 1) := by decide +kernel
theorem dX8_init_68 : decode cX8_init 68 = .ok (.new 46, 3) := by decide +kernel
theorem dX8_init_71 : decode cX8_init 71 = .ok (.dup, 1) := by decide +kernel
theorem dX8_init_72 : decode cX8_init 72 = .ok (.invokespecial 48, 3) := by decide +kernel
theorem dX8_init_75 : decode cX8_init 75 = .ok (.putfield 49, 3) := by decide +kernel
theorem dX8_init_78 : decode cX8_init 78 = .ok (.aload_n 0, 1) := by decide +kernel
theorem dX8_init_79 : decode cX8_init 79 = .ok (.new 53, 3) := by decide +kernel
theorem dX8_init_82 : decode cX8_init 82 = .ok (.dup, 1) := by decide +kernel
theorem dX8_init_83 : decode cX8_init 83 = .ok (.invokespecial 55, 3) := by decide +kernel
theorem dX8_init_86 : decode cX8_init 86 = .ok (.putfield 56, 3) := by decide +kernel
theorem dX8_init_89 : decode cX8_init 89 = .ok (.return_, 1) := by decide +kernel
set_option maxRecDepth 20000 in
theorem ggX8_kind_X8_isKind : GoodIn wsX8_kind wsX8_isKind := goodIn_r _ [5, 6, 7, 4, 8] (by decide +kernel) (by decide +kernel)
set_option maxRecDepth 20000 in
theorem gX8_kind_X8_isKind : GoodIn wsX8_kind (va_wsS RX8 60 yX8_isKind wsX8_isKind) := goodIn_app (goodIn_of _ (by decide +kernel)) ggX8_kind_X8_isKind
set_option maxRecDepth 20000 in
theorem ggX8_kind_X8_isWithin : GoodIn wsX8_kind wsX8_isWithin := goodIn_r _ [8] (by decide +kernel) (by decide +kernel)
set_option maxRecDepth 20000 in
theorem gX8_kind_X8_isWithin : GoodIn wsX8_kind (va_wsS RX8 64 yX8_isWithin wsX8_isWithin) := goodIn_app (goodIn_of _ (by decide +kernel)) ggX8_kind_X8_isWithin
set_option maxRecDepth 20000 in
theorem ggX8_kind_X0_setKind : GoodIn wsX8_kind wsX0_setKind := goodIn_r _ [13, 14, 15, 16, 17, 25, 26, 27, 28, 29] (by decide +kernel) (by decide +kernel)
set_option maxRecDepth 20000 in
theorem gX8_kind_X0_setKind : GoodIn wsX8_kind (wsV RX8 68 RX0 yX0_setKind wsX0_setKind) := goodIn_app (goodIn_of _ (by decide +kernel)) ggX8_kind_X0_setKind
theorem dX8_kind_0 : decode cX8_kind 0 = .ok (.iload_n 1, 1) := by decide +kernel
theorem dX8_kind_1 : decode cX8_kind 1 = .ok (.invokestatic 60, 3) := by decide +kernel
theorem dX8_kind_4 : decode cX8_kind 4 = .ok (.ifCond .ne 6, 3) := by decide +kernel
theorem dX8_kind_7 : decode cX8_kind 7 = .ok (.bipush (-2), 2) := by decide +kernel
theorem dX8_kind_9 : decode cX8_kind 9 = .ok (.ireturn, 1) := by decide +kernel
theorem dX8_kind_10 : decode cX8_kind 10 = .ok (.iload_n 2, 1) := by decide +kernel
theorem dX8_kind_11 : decode cX8_kind 11 = .ok (.bipush 10, 2) := by decide +kernel
theorem dX8_kind_13 : decode cX8_kind 13 = .ok (.bipush 60, 2) := by decide +kernel
theorem dX8_kind_15 : decode cX8_kind 15 = .ok (.invokestatic 64, 3) := by decide +kernel
theorem dX8_kind_18 : decode cX8_kind 18 = .ok (.ifCond .eq 24, 3) := by decide +kernel
theorem dX8_kind_21 : decode cX8_kind 21 = .ok (.iload_n 3, 1) := by decide +kernel
theorem dX8_kind_22 : decode cX8_kind 22 = .ok (.iconst 0, 1) := by decide +kernel
theorem dX8_kind_23 : decode cX8_kind 23 = .ok (.bipush 60, 2) := by decide +kernel
theorem dX8_kind_25 : decode cX8_kind 25 = .ok (.invokestatic 64, 3) := by decide +kernel
theorem dX8_kind_28 : decode cX8_kind 28 = .ok (.ifCond .eq 14, 3) := by decide +kernel
theorem dX8_kind_31 : decode cX8_kind 31 = .ok (.iload 4, 2) := by decide +kernel
theorem dX8_kind_33 : decode cX8_kind 33 = .ok (.iconst 1, 1) := by decide +kernel
theorem dX8_kind_34 : decode cX8_kind 34 = .ok (.bipush 6, 2) := by decide +kernel
theorem dX8_kind_36 : decode cX8_kind 36 = .ok (.invokestatic 64, 3) := by decide +kernel
theorem dX8_kind_39 : decode cX8_kind 39 = .ok (.ifCond .ne 6, 3) := by decide +kernel
theorem dX8_kind_42 : decode cX8_kind 42 = .ok (.bipush (-3), 2) := by decide +kernel
theorem dX8_kind_44 : decode cX8_kind 44 = .ok (.ireturn, 1) := by decide +kernel
theorem dX8_kind_45 : decode cX8_kind 45 = .ok (.aload_n 0, 1) := by decide +kernel
theorem dX8_kind_46 : decode cX8_kind 46 = .ok (.getfield 10, 3) := by decide +kernel
theorem dX8_kind_49 : decode cX8_kind 49 = .ok (.iload_n 1, 1) := by decide +kernel
theorem dX8_kind_50 : decode cX8_kind 50 = .ok (.iload_n 2, 1) := by decide +kernel
theorem dX8_kind_51 : decode cX8_kind 51 = .ok (.iload_n 3, 1) := by decide +kernel
theorem dX8_kind_52 : decode cX8_kind 52 = .ok (.iload 4, 2) := by decide +kernel
theorem dX8_kind_54 : decode cX8_kind 54 = .ok (.invokevirtual 68, 3) := by decide +kernel
theorem dX8_kind_57 : decode cX8_kind 57 = .ok (.iconst 1, 1) := by decide +kernel
theorem dX8_kind_58 : decode cX8_kind 58 = .ok (.ireturn, 1) := by decide +kernel
set_option maxRecDepth 20000 in
theorem ggX8_broken_X8_isWithin : GoodIn wsX8_broken wsX8_isWithin := goodIn_r _ [5] (by decide +kernel) (by decide +kernel)
set_option maxRecDepth 20000 in
theorem gX8_broken_X8_isWithin : GoodIn wsX8_broken (va_wsS RX8 64 yX8_isWithin wsX8_isWithin) := goodIn_app (goodIn_of _ (by decide +kernel)) ggX8_broken_X8_isWithin
set_option maxRecDepth 20000 in
theorem ggX8_broken_X0_setBroken : GoodIn wsX8_broken wsX0_setBroken := goodIn_r _ [10, 11, 12, 13, 14, 15, 16, 24, 25, 26, 27, 28] (by decide +kernel) (by decide +kernel)
set_option maxRecDepth 20000 in
theorem gX8_broken_X0_setBroken : GoodIn wsX8_broken (wsV RX8 72 RX0 yX0_setBroken wsX0_setBroken) := goodIn_app (goodIn_of _ (by decide +kernel)) ggX8_broken_X0_setBroken
theorem dX8_broken_0 : decode cX8_broken 0 = .ok (.iload_n 1, 1) := by decide +kernel
theorem dX8_broken_1 : decode cX8_broken 1 = .ok (.iconst 0, 1) := by decide +kernel
theorem dX8_broken_2 : decode cX8_broken 2 = .ok (.bipush 8, 2) := by decide +kernel
theorem dX8_broken_4 : decode cX8_broken 4 = .ok (.invokestatic 64, 3) := by decide +kernel
theorem dX8_broken_7 : decode cX8_broken 7 = .ok (.ifCond .ne 6, 3) := by decide +kernel
theorem dX8_broken_10 : decode cX8_broken 10 = .ok (.bipush (-3), 2) := by decide +kernel
theorem dX8_broken_12 : decode cX8_broken 12 = .ok (.ireturn, 1) := by decide +kernel
theorem dX8_broken_13 : decode cX8_broken 13 = .ok (.aload_n 0, 1) := by decide +kernel
theorem dX8_broken_14 : decode cX8_broken 14 = .ok (.getfield 10, 3) := by decide +kernel
theorem dX8_broken_17 : decode cX8_broken 17 = .ok (.iload_n 1, 1) := by decide +kernel
theorem dX8_broken_18 : decode cX8_broken 18 = .ok (.invokevirtual 72, 3) := by decide +kernel
theorem dX8_broken_21 : decode cX8_broken 21 = .ok (.ireturn, 1) := by decide +kernel
set_option maxRecDepth 20000 in
theorem ggX8_flight_X8_isKind : GoodIn wsX8_flight wsX8_isKind := goodIn_r _ [5, 6, 7, 4, 8] (by decide +kernel) (by decide +kernel)
set_option maxRecDepth 20000 in
theorem gX8_flight_X8_isKind : GoodIn wsX8_flight (va_wsS RX8 60 yX8_isKind wsX8_isKind) := goodIn_app (goodIn_of _ (by decide +kernel)) ggX8_flight_X8_isKind
set_option maxRecDepth 20000 in
theorem ggX8_flight_X8_isCell : GoodIn wsX8_flight wsX8_isCell := goodIn_r _ [11, 6, 7, 4, 8] (by decide +kernel) (by decide +kernel)
set_option maxRecDepth 20000 in
theorem gX8_flight_X8_isCell : GoodIn wsX8_flight (va_wsS RX8 76 yX8_isCell wsX8_isCell) := goodIn_app (goodIn_of _ (by decide +kernel)) ggX8_flight_X8_isCell
set_option maxRecDepth 20000 in
theorem ggX8_flight_X8_isWithin : GoodIn wsX8_flight wsX8_isWithin := goodIn_r _ [8] (by decide +kernel) (by decide +kernel)
set_option maxRecDepth 20000 in
theorem gX8_flight_X8_isWithin : GoodIn wsX8_flight (va_wsS RX8 64 yX8_isWithin wsX8_isWithin) := goodIn_app (goodIn_of _ (by decide +kernel)) ggX8_flight_X8_isWithin
set_option maxRecDepth 20000 in
theorem ggX8_flight_X0_pathOf : GoodIn wsX8_flight wsX0_pathOf := goodIn_r _ [16, 17, 18, 19, 20, 15, 21, 22, 23, 24, 25, 26, 27, 28, 29, 30, 31, 32, 33, 34, 35, 36, 37, 38, 39, 40, 41, 42, 43, 44, 45, 46, 47, 48, 49, 50, 51, 52, 53, 54, 55, 56, 57, 81, 82, 83, 84, 85] (by decide +kernel) (by decide +kernel)
set_option maxRecDepth 20000 in
theorem gX8_flight_X0_pathOf : GoodIn wsX8_flight (wsV RX8 79 RX0 yX0_pathOf wsX0_pathOf) := goodIn_app (goodIn_of _ (by decide +kernel)) ggX8_flight_X0_pathOf
set_option maxRecDepth 20000 in
theorem ggX8_flight_X0_landingOf : GoodIn wsX8_flight wsX0_landingOf := goodIn_r _ [60, 61] (by decide +kernel) (by decide +kernel)
set_option maxRecDepth 20000 in
theorem gX8_flight_X0_landingOf : GoodIn wsX8_flight (va_wsS RX8 83 yX0_landingOf wsX0_landingOf) := goodIn_app (goodIn_of _ (by decide +kernel)) ggX8_flight_X0_landingOf
set_option maxRecDepth 20000 in
theorem ggX8_flight_X0_isNet : GoodIn wsX8_flight wsX0_isNet := goodIn_r _ [64, 65, 66, 15, 67, 61] (by decide +kernel) (by decide +kernel)
set_option maxRecDepth 20000 in
theorem gX8_flight_X0_isNet : GoodIn wsX8_flight (va_wsS RX8 87 yX0_isNet wsX0_isNet) := goodIn_app (goodIn_of _ (by decide +kernel)) ggX8_flight_X0_isNet
set_option maxRecDepth 20000 in
theorem ggX8_flight_X0_cellAt : GoodIn wsX8_flight wsX0_cellAt := goodIn_r _ [70, 71, 72, 59, 15, 60, 61] (by decide +kernel) (by decide +kernel)
set_option maxRecDepth 20000 in
theorem gX8_flight_X0_cellAt : GoodIn wsX8_flight (va_wsS RX8 91 yX0_cellAt wsX0_cellAt) := goodIn_app (goodIn_of _ (by decide +kernel)) ggX8_flight_X0_cellAt
set_option maxRecDepth 20000 in
theorem ggX8_flight_X0_firstMetOf : GoodIn wsX8_flight wsX0_firstMetOf := goodIn_r _ [67, 61] (by decide +kernel) (by decide +kernel)
set_option maxRecDepth 20000 in
theorem gX8_flight_X0_firstMetOf : GoodIn wsX8_flight (va_wsS RX8 95 yX0_firstMetOf wsX0_firstMetOf) := goodIn_app (goodIn_of _ (by decide +kernel)) ggX8_flight_X0_firstMetOf
theorem dX8_flight_0 : decode cX8_flight 0 = .ok (.iload_n 1, 1) := by decide +kernel
theorem dX8_flight_1 : decode cX8_flight 1 = .ok (.invokestatic 60, 3) := by decide +kernel
theorem dX8_flight_4 : decode cX8_flight 4 = .ok (.ifCond .eq 17, 3) := by decide +kernel
theorem dX8_flight_7 : decode cX8_flight 7 = .ok (.iload_n 2, 1) := by decide +kernel
theorem dX8_flight_8 : decode cX8_flight 8 = .ok (.invokestatic 76, 3) := by decide +kernel
theorem dX8_flight_11 : decode cX8_flight 11 = .ok (.ifCond .eq 10, 3) := by decide +kernel
theorem dX8_flight_14 : decode cX8_flight 14 = .ok (.iload_n 3, 1) := by decide +kernel
theorem dX8_flight_15 : decode cX8_flight 15 = .ok (.invokestatic 76, 3) := by decide +kernel
theorem dX8_flight_18 : decode cX8_flight 18 = .ok (.ifCond .ne 6, 3) := by decide +kernel
theorem dX8_flight_21 : decode cX8_flight 21 = .ok (.bipush (-2), 2) := by decide +kernel
theorem dX8_flight_23 : decode cX8_flight 23 = .ok (.ireturn, 1) := by decide +kernel
theorem dX8_flight_24 : decode cX8_flight 24 = .ok (.iload 4, 2) := by decide +kernel
theorem dX8_flight_26 : decode cX8_flight 26 = .ok (.iconst 0, 1) := by decide +kernel
theorem dX8_flight_27 : decode cX8_flight 27 = .ok (.iconst 2, 1) := by decide +kernel
theorem dX8_flight_28 : decode cX8_flight 28 = .ok (.invokestatic 64, 3) := by decide +kernel
theorem dX8_flight_31 : decode cX8_flight 31 = .ok (.ifCond .ne 6, 3) := by decide +kernel
theorem dX8_flight_34 : decode cX8_flight 34 = .ok (.bipush (-3), 2) := by decide +kernel
theorem dX8_flight_36 : decode cX8_flight 36 = .ok (.ireturn, 1) := by decide +kernel
theorem dX8_flight_37 : decode cX8_flight 37 = .ok (.aload_n 0, 1) := by decide +kernel
theorem dX8_flight_38 : decode cX8_flight 38 = .ok (.getfield 10, 3) := by decide +kernel
theorem dX8_flight_41 : decode cX8_flight 41 = .ok (.iload_n 1, 1) := by decide +kernel
theorem dX8_flight_42 : decode cX8_flight 42 = .ok (.iload_n 2, 1) := by decide +kernel
theorem dX8_flight_43 : decode cX8_flight 43 = .ok (.iload_n 3, 1) := by decide +kernel
theorem dX8_flight_44 : decode cX8_flight 44 = .ok (.invokevirtual 79, 3) := by decide +kernel
theorem dX8_flight_47 : decode cX8_flight 47 = .ok (.lstore 5, 2) := by decide +kernel
theorem dX8_flight_49 : decode cX8_flight 49 = .ok (.lload 5, 2) := by decide +kernel
theorem dX8_flight_51 : decode cX8_flight 51 = .ok (.invokestatic 83, 3) := by decide +kernel
theorem dX8_flight_54 : decode cX8_flight 54 = .ok (.istore 7, 2) := by decide +kernel
theorem dX8_flight_56 : decode cX8_flight 56 = .ok (.iload 4, 2) := by decide +kernel
theorem dX8_flight_58 : decode cX8_flight 58 = .ok (.ifCond .ne 6, 3) := by decide +kernel
theorem dX8_flight_61 : decode cX8_flight 61 = .ok (.iload 7, 2) := by decide +kernel
theorem dX8_flight_63 : decode cX8_flight 63 = .ok (.ireturn, 1) := by decide +kernel
theorem dX8_flight_64 : decode cX8_flight 64 = .ok (.lload 5, 2) := by decide +kernel
theorem dX8_flight_66 : decode cX8_flight 66 = .ok (.invokestatic 87, 3) := by decide +kernel
theorem dX8_flight_69 : decode cX8_flight 69 = .ok (.ifCond .eq 5, 3) := by decide +kernel
theorem dX8_flight_72 : decode cX8_flight 72 = .ok (.iconst (-1), 1) := by decide +kernel
theorem dX8_flight_73 : decode cX8_flight 73 = .ok (.ireturn, 1) := by decide +kernel
theorem dX8_flight_74 : decode cX8_flight 74 = .ok (.iload 4, 2) := by decide +kernel
theorem dX8_flight_76 : decode cX8_flight 76 = .ok (.iconst 1, 1) := by decide +kernel
theorem dX8_flight_77 : decode cX8_flight 77 = .ok (.if_icmp .ne 13, 3) := by decide +kernel
theorem dX8_flight_80 : decode cX8_flight 80 = .ok (.lload 5, 2) := by decide +kernel
theorem dX8_flight_82 : decode cX8_flight 82 = .ok (.iload 7, 2) := by decide +kernel
theorem dX8_flight_84 : decode cX8_flight 84 = .ok (.invokestatic 91, 3) := by decide +kernel
theorem dX8_flight_87 : decode cX8_flight 87 = .ok (.goto 8, 3) := by decide +kernel
theorem dX8_flight_90 : decode cX8_flight 90 = .ok (.lload 5, 2) := by decide +kernel
theorem dX8_flight_92 : decode cX8_flight 92 = .ok (.invokestatic 95, 3) := by decide +kernel
theorem dX8_flight_95 : decode cX8_flight 95 = .ok (.ireturn, 1) := by decide +kernel
set_option maxRecDepth 20000 in
theorem ggX8_over_X8_isKind : GoodIn wsX8_over wsX8_isKind := goodIn_r _ [5, 6, 7, 4, 8] (by decide +kernel) (by decide +kernel)
set_option maxRecDepth 20000 in
theorem gX8_over_X8_isKind : GoodIn wsX8_over (va_wsS RX8 60 yX8_isKind wsX8_isKind) := goodIn_app (goodIn_of _ (by decide +kernel)) ggX8_over_X8_isKind
set_option maxRecDepth 20000 in
theorem ggX8_over_X8_isCell : GoodIn wsX8_over wsX8_isCell := goodIn_r _ [11, 6, 7, 4, 8] (by decide +kernel) (by decide +kernel)
set_option maxRecDepth 20000 in
theorem gX8_over_X8_isCell : GoodIn wsX8_over (va_wsS RX8 76 yX8_isCell wsX8_isCell) := goodIn_app (goodIn_of _ (by decide +kernel)) ggX8_over_X8_isCell
set_option maxRecDepth 20000 in
theorem ggX8_over_X8_isWithin : GoodIn wsX8_over wsX8_isWithin := goodIn_r _ [8] (by decide +kernel) (by decide +kernel)
set_option maxRecDepth 20000 in
theorem gX8_over_X8_isWithin : GoodIn wsX8_over (va_wsS RX8 64 yX8_isWithin wsX8_isWithin) := goodIn_app (goodIn_of _ (by decide +kernel)) ggX8_over_X8_isWithin
set_option maxRecDepth 20000 in
theorem ggX8_over_X0_placeBehind : GoodIn wsX8_over wsX0_placeBehind := goodIn_r _ [16, 17, 18, 19, 20, 21, 22, 23, 15, 24, 25, 26, 27, 28, 29, 30, 31, 32, 33, 34, 35, 36, 37, 38, 39, 40, 41, 42, 43, 44, 45, 46, 47, 48, 49, 50, 58, 59, 60, 61, 62] (by decide +kernel) (by decide +kernel)
set_option maxRecDepth 20000 in
theorem gX8_over_X0_placeBehind : GoodIn wsX8_over (wsV RX8 98 RX0 yX0_placeBehind wsX0_placeBehind) := goodIn_app (goodIn_of _ (by decide +kernel)) ggX8_over_X0_placeBehind
theorem dX8_over_0 : decode cX8_over 0 = .ok (.iload_n 1, 1) := by decide +kernel
theorem dX8_over_1 : decode cX8_over 1 = .ok (.invokestatic 60, 3) := by decide +kernel
theorem dX8_over_4 : decode cX8_over 4 = .ok (.ifCond .eq 17, 3) := by decide +kernel
theorem dX8_over_7 : decode cX8_over 7 = .ok (.iload_n 2, 1) := by decide +kernel
theorem dX8_over_8 : decode cX8_over 8 = .ok (.invokestatic 76, 3) := by decide +kernel
theorem dX8_over_11 : decode cX8_over 11 = .ok (.ifCond .eq 10, 3) := by decide +kernel
theorem dX8_over_14 : decode cX8_over 14 = .ok (.iload_n 3, 1) := by decide +kernel
theorem dX8_over_15 : decode cX8_over 15 = .ok (.invokestatic 76, 3) := by decide +kernel
theorem dX8_over_18 : decode cX8_over 18 = .ok (.ifCond .ne 6, 3) := by decide +kernel
theorem dX8_over_21 : decode cX8_over 21 = .ok (.bipush (-2), 2) := by decide +kernel
theorem dX8_over_23 : decode cX8_over 23 = .ok (.ireturn, 1) := by decide +kernel
theorem dX8_over_24 : decode cX8_over 24 = .ok (.iload 4, 2) := by decide +kernel
theorem dX8_over_26 : decode cX8_over 26 = .ok (.iconst 1, 1) := by decide +kernel
theorem dX8_over_27 : decode cX8_over 27 = .ok (.bipush 60, 2) := by decide +kernel
theorem dX8_over_29 : decode cX8_over 29 = .ok (.invokestatic 64, 3) := by decide +kernel
theorem dX8_over_32 : decode cX8_over 32 = .ok (.ifCond .ne 6, 3) := by decide +kernel
theorem dX8_over_35 : decode cX8_over 35 = .ok (.bipush (-3), 2) := by decide +kernel
theorem dX8_over_37 : decode cX8_over 37 = .ok (.ireturn, 1) := by decide +kernel
theorem dX8_over_38 : decode cX8_over 38 = .ok (.aload_n 0, 1) := by decide +kernel
theorem dX8_over_39 : decode cX8_over 39 = .ok (.getfield 10, 3) := by decide +kernel
theorem dX8_over_42 : decode cX8_over 42 = .ok (.iload_n 1, 1) := by decide +kernel
theorem dX8_over_43 : decode cX8_over 43 = .ok (.iload_n 2, 1) := by decide +kernel
theorem dX8_over_44 : decode cX8_over 44 = .ok (.iload_n 3, 1) := by decide +kernel
theorem dX8_over_45 : decode cX8_over 45 = .ok (.iload 4, 2) := by decide +kernel
theorem dX8_over_47 : decode cX8_over 47 = .ok (.invokevirtual 98, 3) := by decide +kernel
theorem dX8_over_50 : decode cX8_over 50 = .ok (.ireturn, 1) := by decide +kernel
set_option maxRecDepth 20000 in
theorem ggX8_player_X8_isPlayer : GoodIn wsX8_player wsX8_isPlayer := goodIn_r _ [5, 6, 7, 4, 8] (by decide +kernel) (by decide +kernel)
set_option maxRecDepth 20000 in
theorem gX8_player_X8_isPlayer : GoodIn wsX8_player (va_wsS RX8 102 yX8_isPlayer wsX8_isPlayer) := goodIn_app (goodIn_of _ (by decide +kernel)) ggX8_player_X8_isPlayer
set_option maxRecDepth 20000 in
theorem ggX8_player_X8_isWithin : GoodIn wsX8_player wsX8_isWithin := goodIn_r _ [8] (by decide +kernel) (by decide +kernel)
set_option maxRecDepth 20000 in
theorem gX8_player_X8_isWithin : GoodIn wsX8_player (va_wsS RX8 64 yX8_isWithin wsX8_isWithin) := goodIn_app (goodIn_of _ (by decide +kernel)) ggX8_player_X8_isWithin
set_option maxRecDepth 20000 in
theorem ggX8_player_X6_setPlayer : GoodIn wsX8_player wsX6_setPlayer := goodIn_r _ [13, 14, 15, 16, 17, 18, 12, 19, 20, 21, 22, 23, 24, 25, 33, 34, 35, 36] (by decide +kernel) (by decide +kernel)
set_option maxRecDepth 20000 in
theorem gX8_player_X6_setPlayer : GoodIn wsX8_player (wsV RX8 105 RX6 yX6_setPlayer wsX6_setPlayer) := goodIn_app (goodIn_of _ (by decide +kernel)) ggX8_player_X6_setPlayer
theorem dX8_player_0 : decode cX8_player 0 = .ok (.iload_n 1, 1) := by decide +kernel
theorem dX8_player_1 : decode cX8_player 1 = .ok (.invokestatic 102, 3) := by decide +kernel
theorem dX8_player_4 : decode cX8_player 4 = .ok (.ifCond .ne 6, 3) := by decide +kernel
theorem dX8_player_7 : decode cX8_player 7 = .ok (.bipush (-2), 2) := by decide +kernel
theorem dX8_player_9 : decode cX8_player 9 = .ok (.ireturn, 1) := by decide +kernel
theorem dX8_player_10 : decode cX8_player 10 = .ok (.iload_n 2, 1) := by decide +kernel
theorem dX8_player_11 : decode cX8_player 11 = .ok (.iconst 1, 1) := by decide +kernel
theorem dX8_player_12 : decode cX8_player 12 = .ok (.bipush 20, 2) := by decide +kernel
theorem dX8_player_14 : decode cX8_player 14 = .ok (.invokestatic 64, 3) := by decide +kernel
theorem dX8_player_17 : decode cX8_player 17 = .ok (.ifCond .eq 12, 3) := by decide +kernel
theorem dX8_player_20 : decode cX8_player 20 = .ok (.iload_n 3, 1) := by decide +kernel
theorem dX8_player_21 : decode cX8_player 21 = .ok (.iconst 0, 1) := by decide +kernel
theorem dX8_player_22 : decode cX8_player 22 = .ok (.iconst 2, 1) := by decide +kernel
theorem dX8_player_23 : decode cX8_player 23 = .ok (.invokestatic 64, 3) := by decide +kernel
theorem dX8_player_26 : decode cX8_player 26 = .ok (.ifCond .ne 6, 3) := by decide +kernel
theorem dX8_player_29 : decode cX8_player 29 = .ok (.bipush (-3), 2) := by decide +kernel
theorem dX8_player_31 : decode cX8_player 31 = .ok (.ireturn, 1) := by decide +kernel
theorem dX8_player_32 : decode cX8_player 32 = .ok (.aload_n 0, 1) := by decide +kernel
theorem dX8_player_33 : decode cX8_player 33 = .ok (.getfield 19, 3) := by decide +kernel
theorem dX8_player_36 : decode cX8_player 36 = .ok (.iload_n 1, 1) := by decide +kernel
theorem dX8_player_37 : decode cX8_player 37 = .ok (.iload_n 2, 1) := by decide +kernel
theorem dX8_player_38 : decode cX8_player 38 = .ok (.iload_n 3, 1) := by decide +kernel
theorem dX8_player_39 : decode cX8_player 39 = .ok (.invokevirtual 105, 3) := by decide +kernel
theorem dX8_player_42 : decode cX8_player 42 = .ok (.iconst 1, 1) := by decide +kernel
theorem dX8_player_43 : decode cX8_player 43 = .ok (.ireturn, 1) := by decide +kernel
set_option maxRecDepth 20000 in
theorem ggX8_run_X8_isPlayer : GoodIn wsX8_run wsX8_isPlayer := goodIn_r _ [5, 6, 7, 4, 8] (by decide +kernel) (by decide +kernel)
set_option maxRecDepth 20000 in
theorem gX8_run_X8_isPlayer : GoodIn wsX8_run (va_wsS RX8 102 yX8_isPlayer wsX8_isPlayer) := goodIn_app (goodIn_of _ (by decide +kernel)) ggX8_run_X8_isPlayer
set_option maxRecDepth 20000 in
theorem ggX8_run_X8_isWithin : GoodIn wsX8_run wsX8_isWithin := goodIn_r _ [8] (by decide +kernel) (by decide +kernel)
set_option maxRecDepth 20000 in
theorem gX8_run_X8_isWithin : GoodIn wsX8_run (va_wsS RX8 64 yX8_isWithin wsX8_isWithin) := goodIn_app (goodIn_of _ (by decide +kernel)) ggX8_run_X8_isWithin
set_option maxRecDepth 20000 in
theorem ggX8_run_X6_tire : GoodIn wsX8_run wsX6_tire := goodIn_r _ [13, 14, 15, 16, 17, 18, 19, 20, 21, 22, 23, 24, 12, 25, 26, 27, 35, 36, 37, 38] (by decide +kernel) (by decide +kernel)
set_option maxRecDepth 20000 in
theorem gX8_run_X6_tire : GoodIn wsX8_run (wsV RX8 109 RX6 yX6_tire wsX6_tire) := goodIn_app (goodIn_of _ (by decide +kernel)) ggX8_run_X6_tire
theorem dX8_run_0 : decode cX8_run 0 = .ok (.iload_n 1, 1) := by decide +kernel
theorem dX8_run_1 : decode cX8_run 1 = .ok (.invokestatic 102, 3) := by decide +kernel
theorem dX8_run_4 : decode cX8_run 4 = .ok (.ifCond .ne 6, 3) := by decide +kernel
theorem dX8_run_7 : decode cX8_run 7 = .ok (.bipush (-2), 2) := by decide +kernel
theorem dX8_run_9 : decode cX8_run 9 = .ok (.ireturn, 1) := by decide +kernel
theorem dX8_run_10 : decode cX8_run 10 = .ok (.iload_n 2, 1) := by decide +kernel
theorem dX8_run_11 : decode cX8_run 11 = .ok (.iconst 0, 1) := by decide +kernel
theorem dX8_run_12 : decode cX8_run 12 = .ok (.bipush 100, 2) := by decide +kernel
theorem dX8_run_14 : decode cX8_run 14 = .ok (.invokestatic 64, 3) := by decide +kernel
theorem dX8_run_17 : decode cX8_run 17 = .ok (.ifCond .ne 6, 3) := by decide +kernel
theorem dX8_run_20 : decode cX8_run 20 = .ok (.bipush (-3), 2) := by decide +kernel
theorem dX8_run_22 : decode cX8_run 22 = .ok (.ireturn, 1) := by decide +kernel
theorem dX8_run_23 : decode cX8_run 23 = .ok (.aload_n 0, 1) := by decide +kernel
theorem dX8_run_24 : decode cX8_run 24 = .ok (.getfield 19, 3) := by decide +kernel
theorem dX8_run_27 : decode cX8_run 27 = .ok (.iload_n 1, 1) := by decide +kernel
theorem dX8_run_28 : decode cX8_run 28 = .ok (.iload_n 2, 1) := by decide +kernel
theorem dX8_run_29 : decode cX8_run 29 = .ok (.invokevirtual 109, 3) := by decide +kernel
theorem dX8_run_32 : decode cX8_run 32 = .ok (.ireturn, 1) := by decide +kernel
set_option maxRecDepth 20000 in
theorem ggX8_rest_X8_isPlayer : GoodIn wsX8_rest wsX8_isPlayer := goodIn_r _ [5, 6, 7, 4, 8] (by decide +kernel) (by decide +kernel)
set_option maxRecDepth 20000 in
theorem gX8_rest_X8_isPlayer : GoodIn wsX8_rest (va_wsS RX8 102 yX8_isPlayer wsX8_isPlayer) := goodIn_app (goodIn_of _ (by decide +kernel)) ggX8_rest_X8_isPlayer
set_option maxRecDepth 20000 in
theorem ggX8_rest_X8_isWithin : GoodIn wsX8_rest wsX8_isWithin := goodIn_r _ [8] (by decide +kernel) (by decide +kernel)
set_option maxRecDepth 20000 in
theorem gX8_rest_X8_isWithin : GoodIn wsX8_rest (va_wsS RX8 64 yX8_isWithin wsX8_isWithin) := goodIn_app (goodIn_of _ (by decide +kernel)) ggX8_rest_X8_isWithin
set_option maxRecDepth 20000 in
theorem ggX8_rest_X6_tire : GoodIn wsX8_rest wsX6_tire := goodIn_r _ [13, 14, 15, 16, 17, 18, 19, 20, 21, 22, 23, 24, 12, 25, 26, 27, 35, 36, 37, 38] (by decide +kernel) (by decide +kernel)
set_option maxRecDepth 20000 in
theorem gX8_rest_X6_tire : GoodIn wsX8_rest (wsV RX8 109 RX6 yX6_tire wsX6_tire) := goodIn_app (goodIn_of _ (by decide +kernel)) ggX8_rest_X6_tire
theorem dX8_rest_0 : decode cX8_rest 0 = .ok (.iload_n 1, 1) := by decide +kernel
theorem dX8_rest_1 : decode cX8_rest 1 = .ok (.invokestatic 102, 3) := by decide +kernel
theorem dX8_rest_4 : decode cX8_rest 4 = .ok (.ifCond .ne 6, 3) := by decide +kernel
theorem dX8_rest_7 : decode cX8_rest 7 = .ok (.bipush (-2), 2) := by decide +kernel
theorem dX8_rest_9 : decode cX8_rest 9 = .ok (.ireturn, 1) := by decide +kernel
theorem dX8_rest_10 : decode cX8_rest 10 = .ok (.iload_n 2, 1) := by decide +kernel
theorem dX8_rest_11 : decode cX8_rest 11 = .ok (.iconst 0, 1) := by decide +kernel
theorem dX8_rest_12 : decode cX8_rest 12 = .ok (.bipush 100, 2) := by decide +kernel
theorem dX8_rest_14 : decode cX8_rest 14 = .ok (.invokestatic 64, 3) := by decide +kernel
theorem dX8_rest_17 : decode cX8_rest 17 = .ok (.ifCond .ne 6, 3) := by decide +kernel
theorem dX8_rest_20 : decode cX8_rest 20 = .ok (.bipush (-3), 2) := by decide +kernel
theorem dX8_rest_22 : decode cX8_rest 22 = .ok (.ireturn, 1) := by decide +kernel
theorem dX8_rest_23 : decode cX8_rest 23 = .ok (.aload_n 0, 1) := by decide +kernel
theorem dX8_rest_24 : decode cX8_rest 24 = .ok (.getfield 19, 3) := by decide +kernel
theorem dX8_rest_27 : decode cX8_rest 27 = .ok (.iload_n 1, 1) := by decide +kernel
theorem dX8_rest_28 : decode cX8_rest 28 = .ok (.iload_n 2, 1) := by decide +kernel
theorem dX8_rest_29 : decode cX8_rest 29 = .ok (.ineg, 1) := by decide +kernel
theorem dX8_rest_30 : decode cX8_rest 30 = .ok (.invokevirtual 109, 3) := by decide +kernel
theorem dX8_rest_33 : decode cX8_rest 33 = .ok (.ireturn, 1) := by decide +kernel
set_option maxRecDepth 20000 in
theorem ggX8_slack_X8_isPlayer : GoodIn wsX8_slack wsX8_isPlayer := goodIn_r _ [6, 7, 8, 5, 9] (by decide +kernel) (by decide +kernel)
set_option maxRecDepth 20000 in
theorem gX8_slack_X8_isPlayer : GoodIn wsX8_slack (va_wsS RX8 102 yX8_isPlayer wsX8_isPlayer) := goodIn_app (goodIn_of _ (by decide +kernel)) ggX8_slack_X8_isPlayer
set_option maxRecDepth 20000 in
theorem ggX8_slack_X8_isCell : GoodIn wsX8_slack wsX8_isCell := goodIn_r _ [12, 7, 8, 5, 9] (by decide +kernel) (by decide +kernel)
set_option maxRecDepth 20000 in
theorem gX8_slack_X8_isCell : GoodIn wsX8_slack (va_wsS RX8 76 yX8_isCell wsX8_isCell) := goodIn_app (goodIn_of _ (by decide +kernel)) ggX8_slack_X8_isCell
set_option maxRecDepth 20000 in
theorem ggX8_slack_X8_isKind : GoodIn wsX8_slack wsX8_isKind := goodIn_r _ [15, 7, 8, 5, 9] (by decide +kernel) (by decide +kernel)
set_option maxRecDepth 20000 in
theorem gX8_slack_X8_isKind : GoodIn wsX8_slack (va_wsS RX8 60 yX8_isKind wsX8_isKind) := goodIn_app (goodIn_of _ (by decide +kernel)) ggX8_slack_X8_isKind
set_option maxRecDepth 20000 in
theorem ggX8_slack_X0_pathOf : GoodIn wsX8_slack wsX0_pathOf := goodIn_r _ [20, 21, 22, 23, 24, 19, 25, 26, 27, 28, 29, 30, 31, 32, 33, 34, 35, 36, 37, 38, 39, 40, 41, 42, 43, 44, 45, 46, 47, 48, 49, 50, 51, 52, 53, 54, 55, 56, 57, 58, 59, 60, 61, 110, 111, 112, 113, 114] (by decide +kernel) (by decide +kernel)
set_option maxRecDepth 20000 in
theorem gX8_slack_X0_pathOf : GoodIn wsX8_slack (wsV RX8 79 RX0 yX0_pathOf wsX0_pathOf) := goodIn_app (goodIn_of _ (by decide +kernel)) ggX8_slack_X0_pathOf
set_option maxRecDepth 20000 in
theorem ggX8_slack_X3_slackFor : GoodIn wsX8_slack wsX3_slackFor := goodIn_r _ [66, 67, 68, 57, 29, 58, 69, 70, 19, 71, 72, 73, 74, 75, 76, 77, 78, 79, 80, 81, 82, 83, 84, 85, 86, 87, 88, 89, 90, 91, 92, 41, 93, 94, 37, 38, 95, 96, 40, 42, 97, 44, 45, 98, 99, 100, 101, 102, 115, 116, 117, 118, 119, 120, 121, 122] (by decide +kernel) (by decide +kernel)
set_option maxRecDepth 20000 in
theorem gX8_slack_X3_slackFor : GoodIn wsX8_slack (wsV RX8 113 RX3 yX3_slackFor wsX3_slackFor) := goodIn_app (goodIn_of _ (by decide +kernel)) ggX8_slack_X3_slackFor
theorem dX8_slack_0 : decode cX8_slack 0 = .ok (.iload_n 1, 1) := by decide +kernel
theorem dX8_slack_1 : decode cX8_slack 1 = .ok (.invokestatic 102, 3) := by decide +kernel
theorem dX8_slack_4 : decode cX8_slack 4 = .ok (.ifCond .eq 33, 3) := by decide +kernel
theorem dX8_slack_7 : decode cX8_slack 7 = .ok (.iload_n 2, 1) := by decide +kernel
theorem dX8_slack_8 : decode cX8_slack 8 = .ok (.invokestatic 76, 3) := by decide +kernel
theorem dX8_slack_11 : decode cX8_slack 11 = .ok (.ifCond .eq 26, 3) := by decide +kernel
theorem dX8_slack_14 : decode cX8_slack 14 = .ok (.iload_n 3, 1) := by decide +kernel
theorem dX8_slack_15 : decode cX8_slack 15 = .ok (.invokestatic 60, 3) := by decide +kernel
theorem dX8_slack_18 : decode cX8_slack 18 = .ok (.ifCond .eq 19, 3) := by decide +kernel
theorem dX8_slack_21 : decode cX8_slack 21 = .ok (.iload 4, 2) := by decide +kernel
theorem dX8_slack_23 : decode cX8_slack 23 = .ok (.invokestatic 76, 3) := by decide +kernel
theorem dX8_slack_26 : decode cX8_slack 26 = .ok (.ifCond .eq 11, 3) := by decide +kernel
theorem dX8_slack_29 : decode cX8_slack 29 = .ok (.iload 5, 2) := by decide +kernel
theorem dX8_slack_31 : decode cX8_slack 31 = .ok (.invokestatic 76, 3) := by decide +kernel
theorem dX8_slack_34 : decode cX8_slack 34 = .ok (.ifCond .ne 6, 3) := by decide +kernel
theorem dX8_slack_37 : decode cX8_slack 37 = .ok (.bipush (-102), 2) := by decide +kernel
theorem dX8_slack_39 : decode cX8_slack 39 = .ok (.ireturn, 1) := by decide +kernel
theorem dX8_slack_40 : decode cX8_slack 40 = .ok (.aload_n 0, 1) := by decide +kernel
theorem dX8_slack_41 : decode cX8_slack 41 = .ok (.getfield 28, 3) := by decide +kernel
theorem dX8_slack_44 : decode cX8_slack 44 = .ok (.iload_n 1, 1) := by decide +kernel
theorem dX8_slack_45 : decode cX8_slack 45 = .ok (.iload_n 2, 1) := by decide +kernel
theorem dX8_slack_46 : decode cX8_slack 46 = .ok (.aload_n 0, 1) := by decide +kernel
theorem dX8_slack_47 : decode cX8_slack 47 = .ok (.getfield 10, 3) := by decide +kernel
theorem dX8_slack_50 : decode cX8_slack 50 = .ok (.iload_n 3, 1) := by decide +kernel
theorem dX8_slack_51 : decode cX8_slack 51 = .ok (.iload 4, 2) := by decide +kernel
theorem dX8_slack_53 : decode cX8_slack 53 = .ok (.iload 5, 2) := by decide +kernel
theorem dX8_slack_55 : decode cX8_slack 55 = .ok (.invokevirtual 79, 3) := by decide +kernel
theorem dX8_slack_58 : decode cX8_slack 58 = .ok (.invokevirtual 113, 3) := by decide +kernel
theorem dX8_slack_61 : decode cX8_slack 61 = .ok (.ireturn, 1) := by decide +kernel
set_option maxRecDepth 20000 in
theorem ggX8_strike_X8_isCell : GoodIn wsX8_strike wsX8_isCell := goodIn_r _ [6, 7, 8, 5, 9] (by decide +kernel) (by decide +kernel)
set_option maxRecDepth 20000 in
theorem gX8_strike_X8_isCell : GoodIn wsX8_strike (va_wsS RX8 76 yX8_isCell wsX8_isCell) := goodIn_app (goodIn_of _ (by decide +kernel)) ggX8_strike_X8_isCell
set_option maxRecDepth 20000 in
theorem ggX8_strike_X8_isPlayer : GoodIn wsX8_strike wsX8_isPlayer := goodIn_r _ [12, 7, 8, 5, 9] (by decide +kernel) (by decide +kernel)
set_option maxRecDepth 20000 in
theorem gX8_strike_X8_isPlayer : GoodIn wsX8_strike (va_wsS RX8 102 yX8_isPlayer wsX8_isPlayer) := goodIn_app (goodIn_of _ (by decide +kernel)) ggX8_strike_X8_isPlayer
set_option maxRecDepth 20000 in
theorem ggX8_strike_X8_isWithin : GoodIn wsX8_strike wsX8_isWithin := goodIn_r _ [9] (by decide +kernel) (by decide +kernel)
set_option maxRecDepth 20000 in
theorem gX8_strike_X8_isWithin : GoodIn wsX8_strike (va_wsS RX8 64 yX8_isWithin wsX8_isWithin) := goodIn_app (goodIn_of _ (by decide +kernel)) ggX8_strike_X8_isWithin
set_option maxRecDepth 20000 in
theorem ggX8_strike_X0_workOutFrom : GoodIn wsX8_strike wsX0_workOutFrom := goodIn_r _ [17, 18, 19, 20, 16, 21, 22, 23, 24, 25, 26, 27, 28, 29, 30, 31, 32, 33, 34, 35, 36, 37, 38, 39, 40, 41, 42, 43, 44, 45, 46, 47, 48, 49, 50, 51, 52, 53, 54, 55, 56, 57, 58, 59, 60, 61, 62, 125, 126, 127, 128, 129] (by decide +kernel) (by decide +kernel)
set_option maxRecDepth 20000 in
theorem gX8_strike_X0_workOutFrom : GoodIn wsX8_strike (wsV RX8 117 RX0 yX0_workOutFrom wsX0_workOutFrom) := goodIn_app (goodIn_of _ (by decide +kernel)) ggX8_strike_X0_workOutFrom
set_option maxRecDepth 20000 in
theorem ggX8_strike_X3_bestStrike : GoodIn wsX8_strike wsX3_bestStrike := goodIn_r _ [67, 68, 69, 70, 71, 16, 72, 22, 73, 74, 75, 76, 77, 78, 79, 80, 81, 82, 66, 83, 84, 85, 58, 30, 59, 86, 87, 88, 89, 90, 91, 92, 93, 94, 95, 96, 97, 98, 99, 100, 101, 102, 42, 103, 104, 38, 39, 105, 106, 41, 43, 107, 45, 46, 108, 109, 110, 111, 112, 130, 131, 132, 133, 125, 126, 127, 128, 129, 134, 135, 136, 137] (by decide +kernel) (by decide +kernel)
set_option maxRecDepth 20000 in
theorem gX8_strike_X3_bestStrike : GoodIn wsX8_strike (wsV RX8 121 RX3 yX3_bestStrike wsX3_bestStrike) := goodIn_app (goodIn_of _ (by decide +kernel)) ggX8_strike_X3_bestStrike
set_option maxRecDepth 20000 in
theorem ggX8_strike_X3_leastSlack : GoodIn wsX8_strike wsX3_leastSlack := goodIn_r _ [116, 68, 117, 64, 65, 66, 67, 69, 70, 71, 16, 72, 22, 73, 74, 75, 76, 77, 78, 79, 80, 81, 82, 83, 84, 85, 58, 30, 59, 86, 87, 88, 89, 90, 91, 92, 93, 94, 95, 96, 97, 98, 99, 100, 101, 102, 42, 103, 104, 38, 39, 105, 106, 41, 43, 107, 45, 46, 108, 109, 110, 111, 112, 130, 131, 132, 133, 125, 126, 127, 128, 129, 134, 135, 136, 137] (by decide +kernel) (by decide +kernel)
set_option maxRecDepth 20000 in
theorem gX8_strike_X3_leastSlack : GoodIn wsX8_strike (wsV RX8 125 RX3 yX3_leastSlack wsX3_leastSlack) := goodIn_app (goodIn_of _ (by decide +kernel)) ggX8_strike_X3_leastSlack
theorem dX8_strike_0 : decode cX8_strike 0 = .ok (.iload_n 1, 1) := by decide +kernel
theorem dX8_strike_1 : decode cX8_strike 1 = .ok (.invokestatic 76, 3) := by decide +kernel
theorem dX8_strike_4 : decode cX8_strike 4 = .ok (.ifCond .eq 17, 3) := by decide +kernel
theorem dX8_strike_7 : decode cX8_strike 7 = .ok (.iload_n 2, 1) := by decide +kernel
theorem dX8_strike_8 : decode cX8_strike 8 = .ok (.invokestatic 102, 3) := by decide +kernel
theorem dX8_strike_11 : decode cX8_strike 11 = .ok (.ifCond .eq 10, 3) := by decide +kernel
theorem dX8_strike_14 : decode cX8_strike 14 = .ok (.iload_n 3, 1) := by decide +kernel
theorem dX8_strike_15 : decode cX8_strike 15 = .ok (.invokestatic 76, 3) := by decide +kernel
theorem dX8_strike_18 : decode cX8_strike 18 = .ok (.ifCond .ne 6, 3) := by decide +kernel
theorem dX8_strike_21 : decode cX8_strike 21 = .ok (.bipush (-102), 2) := by decide +kernel
theorem dX8_strike_23 : decode cX8_strike 23 = .ok (.ireturn, 1) := by decide +kernel
theorem dX8_strike_24 : decode cX8_strike 24 = .ok (.iload 4, 2) := by decide +kernel
theorem dX8_strike_26 : decode cX8_strike 26 = .ok (.iconst 0, 1) := by decide +kernel
theorem dX8_strike_27 : decode cX8_strike 27 = .ok (.iconst 1, 1) := by decide +kernel
theorem dX8_strike_28 : decode cX8_strike 28 = .ok (.invokestatic 64, 3) := by decide +kernel
theorem dX8_strike_31 : decode cX8_strike 31 = .ok (.ifCond .ne 6, 3) := by decide +kernel
theorem dX8_strike_34 : decode cX8_strike 34 = .ok (.bipush (-103), 2) := by decide +kernel
theorem dX8_strike_36 : decode cX8_strike 36 = .ok (.ireturn, 1) := by decide +kernel
theorem dX8_strike_37 : decode cX8_strike 37 = .ok (.aload_n 0, 1) := by decide +kernel
theorem dX8_strike_38 : decode cX8_strike 38 = .ok (.getfield 10, 3) := by decide +kernel
theorem dX8_strike_41 : decode cX8_strike 41 = .ok (.iload_n 1, 1) := by decide +kernel
theorem dX8_strike_42 : decode cX8_strike 42 = .ok (.invokevirtual 117, 3) := by decide +kernel
theorem dX8_strike_45 : decode cX8_strike 45 = .ok (.iload 4, 2) := by decide +kernel
theorem dX8_strike_47 : decode cX8_strike 47 = .ok (.ifCond .ne 16, 3) := by decide +kernel
theorem dX8_strike_50 : decode cX8_strike 50 = .ok (.aload_n 0, 1) := by decide +kernel
theorem dX8_strike_51 : decode cX8_strike 51 = .ok (.getfield 28, 3) := by decide +kernel
theorem dX8_strike_54 : decode cX8_strike 54 = .ok (.iload_n 1, 1) := by decide +kernel
theorem dX8_strike_55 : decode cX8_strike 55 = .ok (.iload_n 2, 1) := by decide +kernel
theorem dX8_strike_56 : decode cX8_strike 56 = .ok (.iload_n 3, 1) := by decide +kernel
theorem dX8_strike_57 : decode cX8_strike 57 = .ok (.invokevirtual 121, 3) := by decide +kernel
theorem dX8_strike_60 : decode cX8_strike 60 = .ok (.goto 13, 3) := by decide +kernel
theorem dX8_strike_63 : decode cX8_strike 63 = .ok (.aload_n 0, 1) := by decide +kernel
theorem dX8_strike_64 : decode cX8_strike 64 = .ok (.getfield 28, 3) := by decide +kernel
theorem dX8_strike_67 : decode cX8_strike 67 = .ok (.iload_n 1, 1) := by decide +kernel
theorem dX8_strike_68 : decode cX8_strike 68 = .ok (.iload_n 2, 1) := by decide +kernel
theorem dX8_strike_69 : decode cX8_strike 69 = .ok (.iload_n 3, 1) := by decide +kernel
theorem dX8_strike_70 : decode cX8_strike 70 = .ok (.invokevirtual 125, 3) := by decide +kernel
theorem dX8_strike_73 : decode cX8_strike 73 = .ok (.ireturn, 1) := by decide +kernel
set_option maxRecDepth 20000 in
theorem ggX8_stand_X8_isPlayer : GoodIn wsX8_stand wsX8_isPlayer := goodIn_r _ [6, 7, 8, 5, 9] (by decide +kernel) (by decide +kernel)
set_option maxRecDepth 20000 in
theorem gX8_stand_X8_isPlayer : GoodIn wsX8_stand (va_wsS RX8 102 yX8_isPlayer wsX8_isPlayer) := goodIn_app (goodIn_of _ (by decide +kernel)) ggX8_stand_X8_isPlayer
set_option maxRecDepth 20000 in
theorem ggX8_stand_X8_isCell : GoodIn wsX8_stand wsX8_isCell := goodIn_r _ [12, 7, 8, 5, 9] (by decide +kernel) (by decide +kernel)
set_option maxRecDepth 20000 in
theorem gX8_stand_X8_isCell : GoodIn wsX8_stand (va_wsS RX8 76 yX8_isCell wsX8_isCell) := goodIn_app (goodIn_of _ (by decide +kernel)) ggX8_stand_X8_isCell
set_option maxRecDepth 20000 in
theorem ggX8_stand_X8_isWithin : GoodIn wsX8_stand wsX8_isWithin := goodIn_r _ [9] (by decide +kernel) (by decide +kernel)
set_option maxRecDepth 20000 in
theorem gX8_stand_X8_isWithin : GoodIn wsX8_stand (va_wsS RX8 64 yX8_isWithin wsX8_isWithin) := goodIn_app (goodIn_of _ (by decide +kernel)) ggX8_stand_X8_isWithin
set_option maxRecDepth 20000 in
theorem ggX8_stand_X0_workOutFrom : GoodIn wsX8_stand wsX0_workOutFrom := goodIn_r _ [17, 18, 19, 20, 16, 21, 22, 23, 24, 25, 26, 27, 28, 29, 30, 31, 32, 33, 34, 35, 36, 37, 38, 39, 40, 41, 42, 43, 44, 45, 46, 47, 48, 49, 50, 51, 52, 53, 54, 55, 56, 57, 58, 59, 60, 61, 62, 129, 130, 131, 132, 133] (by decide +kernel) (by decide +kernel)
set_option maxRecDepth 20000 in
theorem gX8_stand_X0_workOutFrom : GoodIn wsX8_stand (wsV RX8 117 RX0 yX0_workOutFrom wsX0_workOutFrom) := goodIn_app (goodIn_of _ (by decide +kernel)) ggX8_stand_X0_workOutFrom
set_option maxRecDepth 20000 in
theorem ggX8_stand_X3_bestStand : GoodIn wsX8_stand wsX3_bestStand := goodIn_r _ [67, 68, 69, 70, 66, 71, 72, 73, 74, 75, 76, 77, 78, 79, 16, 80, 22, 81, 82, 83, 84, 85, 86, 87, 88, 89, 90, 91, 92, 93, 58, 30, 59, 94, 95, 96, 97, 98, 99, 100, 101, 102, 103, 104, 105, 106, 107, 108, 109, 110, 42, 111, 112, 38, 39, 113, 114, 41, 43, 115, 45, 46, 116, 117, 118, 119, 120, 134, 135, 136, 137, 129, 130, 131, 132, 133, 138, 139, 140, 141] (by decide +kernel) (by decide +kernel)
set_option maxRecDepth 20000 in
theorem gX8_stand_X3_bestStand : GoodIn wsX8_stand (wsV RX8 128 RX3 yX3_bestStand wsX3_bestStand) := goodIn_app (goodIn_of _ (by decide +kernel)) ggX8_stand_X3_bestStand
set_option maxRecDepth 20000 in
theorem ggX8_stand_X3_leastSlack : GoodIn wsX8_stand wsX3_leastSlack := goodIn_r _ [71, 72, 73, 74, 75, 66, 76, 77, 78, 79, 16, 80, 22, 81, 82, 83, 84, 85, 86, 87, 88, 89, 90, 91, 92, 93, 58, 30, 59, 94, 95, 96, 97, 98, 99, 100, 101, 102, 103, 104, 105, 106, 107, 108, 109, 110, 42, 111, 112, 38, 39, 113, 114, 41, 43, 115, 45, 46, 116, 117, 118, 119, 120, 134, 135, 136, 137, 129, 130, 131, 132, 133, 138, 139, 140, 141] (by decide +kernel) (by decide +kernel)
set_option maxRecDepth 20000 in
theorem gX8_stand_X3_leastSlack : GoodIn wsX8_stand (wsV RX8 125 RX3 yX3_leastSlack wsX3_leastSlack) := goodIn_app (goodIn_of _ (by decide +kernel)) ggX8_stand_X3_leastSlack
theorem dX8_stand_0 : decode cX8_stand 0 = .ok (.iload_n 1, 1) := by decide +kernel
theorem dX8_stand_1 : decode cX8_stand 1 = .ok (.invokestatic 102, 3) := by decide +kernel
theorem dX8_stand_4 : decode cX8_stand 4 = .ok (.ifCond .eq 10, 3) := by decide +kernel
theorem dX8_stand_7 : decode cX8_stand 7 = .ok (.iload_n 2, 1) := by decide +kernel
theorem dX8_stand_8 : decode cX8_stand 8 = .ok (.invokestatic 76, 3) := by decide +kernel
theorem dX8_stand_11 : decode cX8_stand 11 = .ok (.ifCond .ne 6, 3) := by decide +kernel
theorem dX8_stand_14 : decode cX8_stand 14 = .ok (.bipush (-102), 2) := by decide +kernel
theorem dX8_stand_16 : decode cX8_stand 16 = .ok (.ireturn, 1) := by decide +kernel
theorem dX8_stand_17 : decode cX8_stand 17 = .ok (.iload_n 3, 1) := by decide +kernel
theorem dX8_stand_18 : decode cX8_stand 18 = .ok (.iconst 0, 1) := by decide +kernel
theorem dX8_stand_19 : decode cX8_stand 19 = .ok (.iconst 1, 1) := by decide +kernel
theorem dX8_stand_20 : decode cX8_stand 20 = .ok (.invokestatic 64, 3) := by decide +kernel
theorem dX8_stand_23 : decode cX8_stand 23 = .ok (.ifCond .ne 6, 3) := by decide +kernel
theorem dX8_stand_26 : decode cX8_stand 26 = .ok (.bipush (-103), 2) := by decide +kernel
theorem dX8_stand_28 : decode cX8_stand 28 = .ok (.ireturn, 1) := by decide +kernel
theorem dX8_stand_29 : decode cX8_stand 29 = .ok (.aload_n 0, 1) := by decide +kernel
theorem dX8_stand_30 : decode cX8_stand 30 = .ok (.getfield 10, 3) := by decide +kernel
theorem dX8_stand_33 : decode cX8_stand 33 = .ok (.iload_n 2, 1) := by decide +kernel
theorem dX8_stand_34 : decode cX8_stand 34 = .ok (.invokevirtual 117, 3) := by decide +kernel
theorem dX8_stand_37 : decode cX8_stand 37 = .ok (.aload_n 0, 1) := by decide +kernel
theorem dX8_stand_38 : decode cX8_stand 38 = .ok (.getfield 28, 3) := by decide +kernel
theorem dX8_stand_41 : decode cX8_stand 41 = .ok (.iload_n 1, 1) := by decide +kernel
theorem dX8_stand_42 : decode cX8_stand 42 = .ok (.iload_n 2, 1) := by decide +kernel
theorem dX8_stand_43 : decode cX8_stand 43 = .ok (.invokevirtual 128, 3) := by decide +kernel
theorem dX8_stand_46 : decode cX8_stand 46 = .ok (.istore 4, 2) := by decide +kernel
theorem dX8_stand_48 : decode cX8_stand 48 = .ok (.iload_n 3, 1) := by decide +kernel
theorem dX8_stand_49 : decode cX8_stand 49 = .ok (.ifCond .ne 6, 3) := by decide +kernel
theorem dX8_stand_52 : decode cX8_stand 52 = .ok (.iload 4, 2) := by decide +kernel
theorem dX8_stand_54 : decode cX8_stand 54 = .ok (.ireturn, 1) := by decide +kernel
theorem dX8_stand_55 : decode cX8_stand 55 = .ok (.iload 4, 2) := by decide +kernel
theorem dX8_stand_57 : decode cX8_stand 57 = .ok (.iconst (-1), 1) := by decide +kernel
theorem dX8_stand_58 : decode cX8_stand 58 = .ok (.if_icmp .ne 8, 3) := by decide +kernel
theorem dX8_stand_61 : decode cX8_stand 61 = .ok (.bipush (-100), 2) := by decide +kernel
theorem dX8_stand_63 : decode cX8_stand 63 = .ok (.goto 14, 3) := by decide +kernel
theorem dX8_stand_66 : decode cX8_stand 66 = .ok (.aload_n 0, 1) := by decide +kernel
theorem dX8_stand_67 : decode cX8_stand 67 = .ok (.getfield 28, 3) := by decide +kernel
theorem dX8_stand_70 : decode cX8_stand 70 = .ok (.iload_n 2, 1) := by decide +kernel
theorem dX8_stand_71 : decode cX8_stand 71 = .ok (.iload_n 1, 1) := by decide +kernel
theorem dX8_stand_72 : decode cX8_stand 72 = .ok (.iload 4, 2) := by decide +kernel
theorem dX8_stand_74 : decode cX8_stand 74 = .ok (.invokevirtual 125, 3) := by decide +kernel
theorem dX8_stand_77 : decode cX8_stand 77 = .ok (.ireturn, 1) := by decide +kernel
set_option maxRecDepth 20000 in
theorem ggX8_wins_X8_isPlayer : GoodIn wsX8_wins wsX8_isPlayer := goodIn_r _ [5, 6, 7, 4, 8] (by decide +kernel) (by decide +kernel)
set_option maxRecDepth 20000 in
theorem gX8_wins_X8_isPlayer : GoodIn wsX8_wins (va_wsS RX8 102 yX8_isPlayer wsX8_isPlayer) := goodIn_app (goodIn_of _ (by decide +kernel)) ggX8_wins_X8_isPlayer
set_option maxRecDepth 20000 in
theorem ggX8_wins_X8_isCell : GoodIn wsX8_wins wsX8_isCell := goodIn_r _ [11, 6, 7, 4, 8] (by decide +kernel) (by decide +kernel)
set_option maxRecDepth 20000 in
theorem gX8_wins_X8_isCell : GoodIn wsX8_wins (va_wsS RX8 76 yX8_isCell wsX8_isCell) := goodIn_app (goodIn_of _ (by decide +kernel)) ggX8_wins_X8_isCell
set_option maxRecDepth 20000 in
theorem ggX8_wins_X8_isWithin : GoodIn wsX8_wins wsX8_isWithin := goodIn_r _ [8] (by decide +kernel) (by decide +kernel)
set_option maxRecDepth 20000 in
theorem gX8_wins_X8_isWithin : GoodIn wsX8_wins (va_wsS RX8 64 yX8_isWithin wsX8_isWithin) := goodIn_app (goodIn_of _ (by decide +kernel)) ggX8_wins_X8_isWithin
set_option maxRecDepth 20000 in
theorem ggX8_wins_X3_canForce : GoodIn wsX8_wins wsX3_canForce := goodIn_r _ [16, 17, 18, 19, 20, 21, 22, 23, 24, 25, 26, 27, 28, 29, 30, 31, 32, 33, 34, 35, 36, 37, 38, 39, 40, 41, 42, 43, 44, 45, 46, 47, 48, 49, 50, 51, 52, 53, 54, 55, 56, 57, 58, 59, 60, 61, 62, 63, 64, 65, 66, 67, 68, 69, 70, 71, 15, 72, 73, 74, 75, 76, 77, 78, 79, 80, 81, 82, 83, 84, 85, 86, 87, 88, 89, 90, 91, 92, 93, 94, 95, 96, 97, 98, 99, 100, 101, 102, 103, 104, 105, 106, 107, 108, 109, 110, 111, 112, 113, 114, 115, 116, 117, 118, 119, 120, 121, 122, 123, 124, 125, 126, 127, 128, 129, 130, 131, 139, 140, 141, 142, 143, 144, 145, 146, 147, 148, 149, 150, 151] (by decide +kernel) (by decide +kernel)
set_option maxRecDepth 20000 in
theorem gX8_wins_X3_canForce : GoodIn wsX8_wins (wsV RX8 131 RX3 yX3_canForce wsX3_canForce) := goodIn_app (goodIn_of _ (by decide +kernel)) ggX8_wins_X3_canForce
theorem dX8_wins_0 : decode cX8_wins 0 = .ok (.iload_n 1, 1) := by decide +kernel
theorem dX8_wins_1 : decode cX8_wins 1 = .ok (.invokestatic 102, 3) := by decide +kernel
theorem dX8_wins_4 : decode cX8_wins 4 = .ok (.ifCond .eq 25, 3) := by decide +kernel
theorem dX8_wins_7 : decode cX8_wins 7 = .ok (.iload_n 2, 1) := by decide +kernel
theorem dX8_wins_8 : decode cX8_wins 8 = .ok (.invokestatic 102, 3) := by decide +kernel
theorem dX8_wins_11 : decode cX8_wins 11 = .ok (.ifCond .eq 18, 3) := by decide +kernel
theorem dX8_wins_14 : decode cX8_wins 14 = .ok (.iload_n 3, 1) := by decide +kernel
theorem dX8_wins_15 : decode cX8_wins 15 = .ok (.invokestatic 76, 3) := by decide +kernel
theorem dX8_wins_18 : decode cX8_wins 18 = .ok (.ifCond .eq 11, 3) := by decide +kernel
theorem dX8_wins_21 : decode cX8_wins 21 = .ok (.iload 4, 2) := by decide +kernel
theorem dX8_wins_23 : decode cX8_wins 23 = .ok (.invokestatic 76, 3) := by decide +kernel
theorem dX8_wins_26 : decode cX8_wins 26 = .ok (.ifCond .ne 6, 3) := by decide +kernel
theorem dX8_wins_29 : decode cX8_wins 29 = .ok (.bipush (-2), 2) := by decide +kernel
theorem dX8_wins_31 : decode cX8_wins 31 = .ok (.ireturn, 1) := by decide +kernel
theorem dX8_wins_32 : decode cX8_wins 32 = .ok (.iload 5, 2) := by decide +kernel
theorem dX8_wins_34 : decode cX8_wins 34 = .ok (.iconst 1, 1) := by decide +kernel
theorem dX8_wins_35 : decode cX8_wins 35 = .ok (.iconst 4, 1) := by decide +kernel
theorem dX8_wins_36 : decode cX8_wins 36 = .ok (.invokestatic 64, 3) := by decide +kernel
theorem dX8_wins_39 : decode cX8_wins 39 = .ok (.ifCond .eq 8, 3) := by decide +kernel
theorem dX8_wins_42 : decode cX8_wins 42 = .ok (.iload_n 1, 1) := by decide +kernel
theorem dX8_wins_43 : decode cX8_wins 43 = .ok (.iload_n 2, 1) := by decide +kernel
theorem dX8_wins_44 : decode cX8_wins 44 = .ok (.if_icmp .ne 6, 3) := by decide +kernel
theorem dX8_wins_47 : decode cX8_wins 47 = .ok (.bipush (-3), 2) := by decide +kernel
theorem dX8_wins_49 : decode cX8_wins 49 = .ok (.ireturn, 1) := by decide +kernel
theorem dX8_wins_50 : decode cX8_wins 50 = .ok (.aload_n 0, 1) := by decide +kernel
theorem dX8_wins_51 : decode cX8_wins 51 = .ok (.getfield 28, 3) := by decide +kernel
theorem dX8_wins_54 : decode cX8_wins 54 = .ok (.iload_n 1, 1) := by decide +kernel
theorem dX8_wins_55 : decode cX8_wins 55 = .ok (.iload_n 2, 1) := by decide +kernel
theorem dX8_wins_56 : decode cX8_wins 56 = .ok (.iload_n 3, 1) := by decide +kernel
theorem dX8_wins_57 : decode cX8_wins 57 = .ok (.iload 4, 2) := by decide +kernel
theorem dX8_wins_59 : decode cX8_wins 59 = .ok (.iload 5, 2) := by decide +kernel
theorem dX8_wins_61 : decode cX8_wins 61 = .ok (.invokevirtual 131, 3) := by decide +kernel
theorem dX8_wins_64 : decode cX8_wins 64 = .ok (.ifCond .eq 7, 3) := by decide +kernel
theorem dX8_wins_67 : decode cX8_wins 67 = .ok (.iconst 1, 1) := by decide +kernel
theorem dX8_wins_68 : decode cX8_wins 68 = .ok (.goto 4, 3) := by decide +kernel
theorem dX8_wins_71 : decode cX8_wins 71 = .ok (.iconst 0, 1) := by decide +kernel
theorem dX8_wins_72 : decode cX8_wins 72 = .ok (.ireturn, 1) := by decide +kernel
set_option maxRecDepth 20000 in
theorem ggX8_rally_X8_isWithin : GoodIn wsX8_rally wsX8_isWithin := goodIn_r _ [5] (by decide +kernel) (by decide +kernel)
set_option maxRecDepth 20000 in
theorem gX8_rally_X8_isWithin : GoodIn wsX8_rally (va_wsS RX8 64 yX8_isWithin wsX8_isWithin) := goodIn_app (goodIn_of _ (by decide +kernel)) ggX8_rally_X8_isWithin
set_option maxRecDepth 20000 in
theorem ggX8_rally_X7_isOver : GoodIn wsX8_rally wsX7_isOver := goodIn_r _ [10, 11, 12, 13, 14, 9, 15, 28, 29] (by decide +kernel) (by decide +kernel)
set_option maxRecDepth 20000 in
theorem gX8_rally_X7_isOver : GoodIn wsX8_rally (wsV RX8 135 RX7 yX7_isOver wsX7_isOver) := goodIn_app (goodIn_of _ (by decide +kernel)) ggX8_rally_X7_isOver
set_option maxRecDepth 20000 in
theorem ggX8_rally_X7_tell : GoodIn wsX8_rally wsX7_tell := goodIn_r _ [19, 11, 20, 12, 13, 14, 9, 15, 28, 29] (by decide +kernel) (by decide +kernel)
set_option maxRecDepth 20000 in
theorem gX8_rally_X7_tell : GoodIn wsX8_rally (wsV RX8 139 RX7 yX7_tell wsX7_tell) := goodIn_app (goodIn_of _ (by decide +kernel)) ggX8_rally_X7_tell
theorem dX8_rally_0 : decode cX8_rally 0 = .ok (.iload_n 1, 1) := by decide +kernel
theorem dX8_rally_1 : decode cX8_rally 1 = .ok (.iconst 0, 1) := by decide +kernel
theorem dX8_rally_2 : decode cX8_rally 2 = .ok (.iconst 2, 1) := by decide +kernel
theorem dX8_rally_3 : decode cX8_rally 3 = .ok (.invokestatic 64, 3) := by decide +kernel
theorem dX8_rally_6 : decode cX8_rally 6 = .ok (.ifCond .ne 6, 3) := by decide +kernel
theorem dX8_rally_9 : decode cX8_rally 9 = .ok (.bipush (-3), 2) := by decide +kernel
theorem dX8_rally_11 : decode cX8_rally 11 = .ok (.ireturn, 1) := by decide +kernel
theorem dX8_rally_12 : decode cX8_rally 12 = .ok (.aload_n 0, 1) := by decide +kernel
theorem dX8_rally_13 : decode cX8_rally 13 = .ok (.getfield 35, 3) := by decide +kernel
theorem dX8_rally_16 : decode cX8_rally 16 = .ok (.invokevirtual 135, 3) := by decide +kernel
theorem dX8_rally_19 : decode cX8_rally 19 = .ok (.ifCond .eq 6, 3) := by decide +kernel
theorem dX8_rally_22 : decode cX8_rally 22 = .ok (.bipush (-4), 2) := by decide +kernel
theorem dX8_rally_24 : decode cX8_rally 24 = .ok (.ireturn, 1) := by decide +kernel
theorem dX8_rally_25 : decode cX8_rally 25 = .ok (.aload_n 0, 1) := by decide +kernel
theorem dX8_rally_26 : decode cX8_rally 26 = .ok (.getfield 35, 3) := by decide +kernel
theorem dX8_rally_29 : decode cX8_rally 29 = .ok (.iload_n 1, 1) := by decide +kernel
theorem dX8_rally_30 : decode cX8_rally 30 = .ok (.invokevirtual 139, 3) := by decide +kernel
theorem dX8_rally_33 : decode cX8_rally 33 = .ok (.ireturn, 1) := by decide +kernel
set_option maxRecDepth 20000 in
theorem ggX8_three_X8_isWithin : GoodIn wsX8_three wsX8_isWithin := goodIn_r _ [5] (by decide +kernel) (by decide +kernel)
set_option maxRecDepth 20000 in
theorem gX8_three_X8_isWithin : GoodIn wsX8_three (va_wsS RX8 64 yX8_isWithin wsX8_isWithin) := goodIn_app (goodIn_of _ (by decide +kernel)) ggX8_three_X8_isWithin
set_option maxRecDepth 20000 in
theorem ggX8_three_X7_read : GoodIn wsX8_three wsX7_read := goodIn_r _ [10, 11, 12, 13, 14, 15, 9, 16, 17, 18, 19, 20, 28, 29] (by decide +kernel) (by decide +kernel)
set_option maxRecDepth 20000 in
theorem gX8_three_X7_read : GoodIn wsX8_three (wsV RX8 142 RX7 yX7_read wsX7_read) := goodIn_app (goodIn_of _ (by decide +kernel)) ggX8_three_X7_read
theorem dX8_three_0 : decode cX8_three 0 = .ok (.iload_n 1, 1) := by decide +kernel
theorem dX8_three_1 : decode cX8_three 1 = .ok (.iconst 0, 1) := by decide +kernel
theorem dX8_three_2 : decode cX8_three 2 = .ok (.iconst 5, 1) := by decide +kernel
theorem dX8_three_3 : decode cX8_three 3 = .ok (.invokestatic 64, 3) := by decide +kernel
theorem dX8_three_6 : decode cX8_three 6 = .ok (.ifCond .ne 6, 3) := by decide +kernel
theorem dX8_three_9 : decode cX8_three 9 = .ok (.bipush (-3), 2) := by decide +kernel
theorem dX8_three_11 : decode cX8_three 11 = .ok (.ireturn, 1) := by decide +kernel
theorem dX8_three_12 : decode cX8_three 12 = .ok (.aload_n 0, 1) := by decide +kernel
theorem dX8_three_13 : decode cX8_three 13 = .ok (.getfield 35, 3) := by decide +kernel
theorem dX8_three_16 : decode cX8_three 16 = .ok (.iload_n 1, 1) := by decide +kernel
theorem dX8_three_17 : decode cX8_three 17 = .ok (.invokevirtual 142, 3) := by decide +kernel
theorem dX8_three_20 : decode cX8_three 20 = .ok (.ireturn, 1) := by decide +kernel
set_option maxRecDepth 20000 in
theorem ggX8_again_X7_restart : GoodIn wsX8_again wsX7_restart := goodIn_r _ [6, 7, 8, 16, 17] (by decide +kernel) (by decide +kernel)
set_option maxRecDepth 20000 in
theorem gX8_again_X7_restart : GoodIn wsX8_again (wsV RX8 145 RX7 yX7_restart wsX7_restart) := goodIn_app (goodIn_of _ (by decide +kernel)) ggX8_again_X7_restart
theorem dX8_again_0 : decode cX8_again 0 = .ok (.aload_n 0, 1) := by decide +kernel
theorem dX8_again_1 : decode cX8_again 1 = .ok (.getfield 35, 3) := by decide +kernel
theorem dX8_again_4 : decode cX8_again 4 = .ok (.invokevirtual 145, 3) := by decide +kernel
theorem dX8_again_7 : decode cX8_again 7 = .ok (.ireturn, 1) := by decide +kernel
set_option maxRecDepth 20000 in
theorem ggX8_note_X8_isWithin : GoodIn wsX8_note wsX8_isWithin := goodIn_r _ [5] (by decide +kernel) (by decide +kernel)
set_option maxRecDepth 20000 in
theorem gX8_note_X8_isWithin : GoodIn wsX8_note (va_wsS RX8 64 yX8_isWithin wsX8_isWithin) := goodIn_app (goodIn_of _ (by decide +kernel)) ggX8_note_X8_isWithin
set_option maxRecDepth 20000 in
theorem ggX8_note_X5_add : GoodIn wsX8_note wsX5_add := goodIn_r _ [10, 11, 12, 13, 14, 15, 23, 24, 25, 26, 27] (by decide +kernel) (by decide +kernel)
set_option maxRecDepth 20000 in
theorem gX8_note_X5_add : GoodIn wsX8_note (wsV RX8 149 RX5 yX5_add wsX5_add) := goodIn_app (goodIn_of _ (by decide +kernel)) ggX8_note_X5_add
theorem dX8_note_0 : decode cX8_note 0 = .ok (.iload_n 1, 1) := by decide +kernel
theorem dX8_note_1 : decode cX8_note 1 = .ok (.iconst (-1), 1) := by decide +kernel
theorem dX8_note_2 : decode cX8_note 2 = .ok (.iconst 3, 1) := by decide +kernel
theorem dX8_note_3 : decode cX8_note 3 = .ok (.invokestatic 64, 3) := by decide +kernel
theorem dX8_note_6 : decode cX8_note 6 = .ok (.ifCond .eq 12, 3) := by decide +kernel
theorem dX8_note_9 : decode cX8_note 9 = .ok (.iload_n 2, 1) := by decide +kernel
theorem dX8_note_10 : decode cX8_note 10 = .ok (.iconst (-1), 1) := by decide +kernel
theorem dX8_note_11 : decode cX8_note 11 = .ok (.iconst 3, 1) := by decide +kernel
theorem dX8_note_12 : decode cX8_note 12 = .ok (.invokestatic 64, 3) := by decide +kernel
theorem dX8_note_15 : decode cX8_note 15 = .ok (.ifCond .ne 6, 3) := by decide +kernel
theorem dX8_note_18 : decode cX8_note 18 = .ok (.bipush (-3), 2) := by decide +kernel
theorem dX8_note_20 : decode cX8_note 20 = .ok (.ireturn, 1) := by decide +kernel
theorem dX8_note_21 : decode cX8_note 21 = .ok (.aload_n 0, 1) := by decide +kernel
theorem dX8_note_22 : decode cX8_note 22 = .ok (.getfield 42, 3) := by decide +kernel
theorem dX8_note_25 : decode cX8_note 25 = .ok (.iload_n 1, 1) := by decide +kernel
theorem dX8_note_26 : decode cX8_note 26 = .ok (.iload_n 2, 1) := by decide +kernel
theorem dX8_note_27 : decode cX8_note 27 = .ok (.iload_n 3, 1) := by decide +kernel
theorem dX8_note_28 : decode cX8_note 28 = .ok (.invokevirtual 149, 3) := by decide +kernel
theorem dX8_note_31 : decode cX8_note 31 = .ok (.ireturn, 1) := by decide +kernel
set_option maxRecDepth 20000 in
theorem ggX8_tally_X8_isZone : GoodIn wsX8_tally wsX8_isZone := goodIn_r _ [5, 6, 7, 4, 8] (by decide +kernel) (by decide +kernel)
set_option maxRecDepth 20000 in
theorem gX8_tally_X8_isZone : GoodIn wsX8_tally (va_wsS RX8 153 yX8_isZone wsX8_isZone) := goodIn_app (goodIn_of _ (by decide +kernel)) ggX8_tally_X8_isZone
set_option maxRecDepth 20000 in
theorem ggX8_tally_X8_isKind : GoodIn wsX8_tally wsX8_isKind := goodIn_r _ [11, 6, 7, 4, 8] (by decide +kernel) (by decide +kernel)
set_option maxRecDepth 20000 in
theorem gX8_tally_X8_isKind : GoodIn wsX8_tally (va_wsS RX8 60 yX8_isKind wsX8_isKind) := goodIn_app (goodIn_of _ (by decide +kernel)) ggX8_tally_X8_isKind
set_option maxRecDepth 20000 in
theorem ggX8_tally_X8_isWithin : GoodIn wsX8_tally wsX8_isWithin := goodIn_r _ [8] (by decide +kernel) (by decide +kernel)
set_option maxRecDepth 20000 in
theorem gX8_tally_X8_isWithin : GoodIn wsX8_tally (va_wsS RX8 64 yX8_isWithin wsX8_isWithin) := goodIn_app (goodIn_of _ (by decide +kernel)) ggX8_tally_X8_isWithin
set_option maxRecDepth 20000 in
theorem ggX8_tally_X5_read : GoodIn wsX8_tally wsX5_read := goodIn_r _ [16, 17, 18, 19, 20, 28, 29, 30, 31, 32] (by decide +kernel) (by decide +kernel)
set_option maxRecDepth 20000 in
theorem gX8_tally_X5_read : GoodIn wsX8_tally (wsV RX8 156 RX5 yX5_read wsX5_read) := goodIn_app (goodIn_of _ (by decide +kernel)) ggX8_tally_X5_read
theorem dX8_tally_0 : decode cX8_tally 0 = .ok (.iload_n 1, 1) := by decide +kernel
theorem dX8_tally_1 : decode cX8_tally 1 = .ok (.invokestatic 153, 3) := by decide +kernel
theorem dX8_tally_4 : decode cX8_tally 4 = .ok (.ifCond .eq 10, 3) := by decide +kernel
theorem dX8_tally_7 : decode cX8_tally 7 = .ok (.iload_n 2, 1) := by decide +kernel
theorem dX8_tally_8 : decode cX8_tally 8 = .ok (.invokestatic 60, 3) := by decide +kernel
theorem dX8_tally_11 : decode cX8_tally 11 = .ok (.ifCond .ne 6, 3) := by decide +kernel
theorem dX8_tally_14 : decode cX8_tally 14 = .ok (.bipush (-2), 2) := by decide +kernel
theorem dX8_tally_16 : decode cX8_tally 16 = .ok (.ireturn, 1) := by decide +kernel
theorem dX8_tally_17 : decode cX8_tally 17 = .ok (.iload_n 3, 1) := by decide +kernel
theorem dX8_tally_18 : decode cX8_tally 18 = .ok (.iconst 0, 1) := by decide +kernel
theorem dX8_tally_19 : decode cX8_tally 19 = .ok (.iconst 3, 1) := by decide +kernel
theorem dX8_tally_20 : decode cX8_tally 20 = .ok (.invokestatic 64, 3) := by decide +kernel
theorem dX8_tally_23 : decode cX8_tally 23 = .ok (.ifCond .ne 6, 3) := by decide +kernel
theorem dX8_tally_26 : decode cX8_tally 26 = .ok (.bipush (-3), 2) := by decide +kernel
theorem dX8_tally_28 : decode cX8_tally 28 = .ok (.ireturn, 1) := by decide +kernel
theorem dX8_tally_29 : decode cX8_tally 29 = .ok (.aload_n 0, 1) := by decide +kernel
theorem dX8_tally_30 : decode cX8_tally 30 = .ok (.getfield 42, 3) := by decide +kernel
theorem dX8_tally_33 : decode cX8_tally 33 = .ok (.iload_n 1, 1) := by decide +kernel
theorem dX8_tally_34 : decode cX8_tally 34 = .ok (.iload_n 2, 1) := by decide +kernel
theorem dX8_tally_35 : decode cX8_tally 35 = .ok (.iload_n 3, 1) := by decide +kernel
theorem dX8_tally_36 : decode cX8_tally 36 = .ok (.invokevirtual 156, 3) := by decide +kernel
theorem dX8_tally_39 : decode cX8_tally 39 = .ok (.ireturn, 1) := by decide +kernel
set_option maxRecDepth 20000 in
theorem ggX8_habit_X8_isZone : GoodIn wsX8_habit wsX8_isZone := goodIn_r _ [5, 6, 7, 4, 8] (by decide +kernel) (by decide +kernel)
set_option maxRecDepth 20000 in
theorem gX8_habit_X8_isZone : GoodIn wsX8_habit (va_wsS RX8 153 yX8_isZone wsX8_isZone) := goodIn_app (goodIn_of _ (by decide +kernel)) ggX8_habit_X8_isZone
set_option maxRecDepth 20000 in
theorem ggX8_habit_X8_isKind : GoodIn wsX8_habit wsX8_isKind := goodIn_r _ [11, 6, 7, 4, 8] (by decide +kernel) (by decide +kernel)
set_option maxRecDepth 20000 in
theorem gX8_habit_X8_isKind : GoodIn wsX8_habit (va_wsS RX8 60 yX8_isKind wsX8_isKind) := goodIn_app (goodIn_of _ (by decide +kernel)) ggX8_habit_X8_isKind
set_option maxRecDepth 20000 in
theorem ggX8_habit_X5_isPastChance : GoodIn wsX8_habit wsX5_isPastChance := goodIn_r _ [16, 17, 18, 19, 20, 21, 22, 23, 24, 25, 26, 27, 28, 15, 29, 30, 31, 32, 33, 34, 35, 43, 44, 45, 46, 47] (by decide +kernel) (by decide +kernel)
set_option maxRecDepth 20000 in
theorem gX8_habit_X5_isPastChance : GoodIn wsX8_habit (wsV RX8 158 RX5 yX5_isPastChance wsX5_isPastChance) := goodIn_app (goodIn_of _ (by decide +kernel)) ggX8_habit_X5_isPastChance
theorem dX8_habit_0 : decode cX8_habit 0 = .ok (.iload_n 1, 1) := by decide +kernel
theorem dX8_habit_1 : decode cX8_habit 1 = .ok (.invokestatic 153, 3) := by decide +kernel
theorem dX8_habit_4 : decode cX8_habit 4 = .ok (.ifCond .eq 10, 3) := by decide +kernel
theorem dX8_habit_7 : decode cX8_habit 7 = .ok (.iload_n 2, 1) := by decide +kernel
theorem dX8_habit_8 : decode cX8_habit 8 = .ok (.invokestatic 60, 3) := by decide +kernel
theorem dX8_habit_11 : decode cX8_habit 11 = .ok (.ifCond .ne 6, 3) := by decide +kernel
theorem dX8_habit_14 : decode cX8_habit 14 = .ok (.bipush (-2), 2) := by decide +kernel
theorem dX8_habit_16 : decode cX8_habit 16 = .ok (.ireturn, 1) := by decide +kernel
theorem dX8_habit_17 : decode cX8_habit 17 = .ok (.aload_n 0, 1) := by decide +kernel
theorem dX8_habit_18 : decode cX8_habit 18 = .ok (.getfield 42, 3) := by decide +kernel
theorem dX8_habit_21 : decode cX8_habit 21 = .ok (.iload_n 1, 1) := by decide +kernel
theorem dX8_habit_22 : decode cX8_habit 22 = .ok (.iload_n 2, 1) := by decide +kernel
theorem dX8_habit_23 : decode cX8_habit 23 = .ok (.invokevirtual 158, 3) := by decide +kernel
theorem dX8_habit_26 : decode cX8_habit 26 = .ok (.ifCond .eq 7, 3) := by decide +kernel
theorem dX8_habit_29 : decode cX8_habit 29 = .ok (.iconst 1, 1) := by decide +kernel
theorem dX8_habit_30 : decode cX8_habit 30 = .ok (.goto 4, 3) := by decide +kernel
theorem dX8_habit_33 : decode cX8_habit 33 = .ok (.iconst 0, 1) := by decide +kernel
theorem dX8_habit_34 : decode cX8_habit 34 = .ok (.ireturn, 1) := by decide +kernel
set_option maxRecDepth 20000 in
theorem ggX8_strongest_X5_strongestHabit : GoodIn wsX8_strongest wsX5_strongestHabit := goodIn_r _ [6, 7, 8, 9, 10, 11, 5, 12, 13, 14, 15, 16, 17, 18, 19, 20, 21, 22, 23, 24, 25, 26, 27, 28, 29, 37, 38, 39, 40, 41] (by decide +kernel) (by decide +kernel)
set_option maxRecDepth 20000 in
theorem gX8_strongest_X5_strongestHabit : GoodIn wsX8_strongest (wsV RX8 162 RX5 yX5_strongestHabit wsX5_strongestHabit) := goodIn_app (goodIn_of _ (by decide +kernel)) ggX8_strongest_X5_strongestHabit
theorem dX8_strongest_0 : decode cX8_strongest 0 = .ok (.aload_n 0, 1) := by decide +kernel
theorem dX8_strongest_1 : decode cX8_strongest 1 = .ok (.getfield 42, 3) := by decide +kernel
theorem dX8_strongest_4 : decode cX8_strongest 4 = .ok (.invokevirtual 162, 3) := by decide +kernel
theorem dX8_strongest_7 : decode cX8_strongest 7 = .ok (.ireturn, 1) := by decide +kernel
set_option maxRecDepth 20000 in
theorem ggX8_cost_X8_isWithin : GoodIn wsX8_cost wsX8_isWithin := goodIn_r _ [5] (by decide +kernel) (by decide +kernel)
set_option maxRecDepth 20000 in
theorem gX8_cost_X8_isWithin : GoodIn wsX8_cost (va_wsS RX8 64 yX8_isWithin wsX8_isWithin) := goodIn_app (goodIn_of _ (by decide +kernel)) ggX8_cost_X8_isWithin
set_option maxRecDepth 20000 in
theorem ggX8_cost_X1_setPrice : GoodIn wsX8_cost wsX1_setPrice := goodIn_r _ [10, 11, 24, 25, 26, 27, 28, 29] (by decide +kernel) (by decide +kernel)
set_option maxRecDepth 20000 in
theorem gX8_cost_X1_setPrice : GoodIn wsX8_cost (wsV RX8 165 RX1 yX1_setPrice wsX1_setPrice) := goodIn_app (goodIn_of _ (by decide +kernel)) ggX8_cost_X1_setPrice
set_option maxRecDepth 20000 in
theorem ggX8_cost_X1_setLoss : GoodIn wsX8_cost wsX1_setLoss := goodIn_r _ [15, 16, 24, 25, 26, 27, 28, 29] (by decide +kernel) (by decide +kernel)
set_option maxRecDepth 20000 in
theorem gX8_cost_X1_setLoss : GoodIn wsX8_cost (wsV RX8 168 RX1 yX1_setLoss wsX1_setLoss) := goodIn_app (goodIn_of _ (by decide +kernel)) ggX8_cost_X1_setLoss
theorem dX8_cost_0 : decode cX8_cost 0 = .ok (.iload_n 1, 1) := by decide +kernel
theorem dX8_cost_1 : decode cX8_cost 1 = .ok (.iconst 0, 1) := by decide +kernel
theorem dX8_cost_2 : decode cX8_cost 2 = .ok (.iconst 1, 1) := by decide +kernel
theorem dX8_cost_3 : decode cX8_cost 3 = .ok (.invokestatic 64, 3) := by decide +kernel
theorem dX8_cost_6 : decode cX8_cost 6 = .ok (.ifCond .ne 6, 3) := by decide +kernel
theorem dX8_cost_9 : decode cX8_cost 9 = .ok (.bipush (-3), 2) := by decide +kernel
theorem dX8_cost_11 : decode cX8_cost 11 = .ok (.ireturn, 1) := by decide +kernel
theorem dX8_cost_12 : decode cX8_cost 12 = .ok (.iload_n 1, 1) := by decide +kernel
theorem dX8_cost_13 : decode cX8_cost 13 = .ok (.ifCond .ne 28, 3) := by decide +kernel
theorem dX8_cost_16 : decode cX8_cost 16 = .ok (.iload_n 2, 1) := by decide +kernel
theorem dX8_cost_17 : decode cX8_cost 17 = .ok (.iconst 1, 1) := by decide +kernel
theorem dX8_cost_18 : decode cX8_cost 18 = .ok (.sipush 999, 3) := by decide +kernel
theorem dX8_cost_21 : decode cX8_cost 21 = .ok (.invokestatic 64, 3) := by decide +kernel
theorem dX8_cost_24 : decode cX8_cost 24 = .ok (.ifCond .eq 14, 3) := by decide +kernel
theorem dX8_cost_27 : decode cX8_cost 27 = .ok (.aload_n 0, 1) := by decide +kernel
theorem dX8_cost_28 : decode cX8_cost 28 = .ok (.getfield 49, 3) := by decide +kernel
theorem dX8_cost_31 : decode cX8_cost 31 = .ok (.iload_n 2, 1) := by decide +kernel
theorem dX8_cost_32 : decode cX8_cost 32 = .ok (.invokevirtual 165, 3) := by decide +kernel
theorem dX8_cost_35 : decode cX8_cost 35 = .ok (.goto 5, 3) := by decide +kernel
theorem dX8_cost_38 : decode cX8_cost 38 = .ok (.bipush (-3), 2) := by decide +kernel
theorem dX8_cost_40 : decode cX8_cost 40 = .ok (.ireturn, 1) := by decide +kernel
theorem dX8_cost_41 : decode cX8_cost 41 = .ok (.iload_n 2, 1) := by decide +kernel
theorem dX8_cost_42 : decode cX8_cost 42 = .ok (.iconst 0, 1) := by decide +kernel
theorem dX8_cost_43 : decode cX8_cost 43 = .ok (.bipush 99, 2) := by decide +kernel
theorem dX8_cost_45 : decode cX8_cost 45 = .ok (.invokestatic 64, 3) := by decide +kernel
theorem dX8_cost_48 : decode cX8_cost 48 = .ok (.ifCond .eq 14, 3) := by decide +kernel
theorem dX8_cost_51 : decode cX8_cost 51 = .ok (.aload_n 0, 1) := by decide +kernel
theorem dX8_cost_52 : decode cX8_cost 52 = .ok (.getfield 49, 3) := by decide +kernel
theorem dX8_cost_55 : decode cX8_cost 55 = .ok (.iload_n 2, 1) := by decide +kernel
theorem dX8_cost_56 : decode cX8_cost 56 = .ok (.invokevirtual 168, 3) := by decide +kernel
theorem dX8_cost_59 : decode cX8_cost 59 = .ok (.goto 5, 3) := by decide +kernel
theorem dX8_cost_62 : decode cX8_cost 62 = .ok (.bipush (-3), 2) := by decide +kernel
theorem dX8_cost_64 : decode cX8_cost 64 = .ok (.ireturn, 1) := by decide +kernel
set_option maxRecDepth 20000 in
theorem ggX8_wear_X8_isKind : GoodIn wsX8_wear wsX8_isKind := goodIn_r _ [5, 6, 7, 4, 8] (by decide +kernel) (by decide +kernel)
set_option maxRecDepth 20000 in
theorem gX8_wear_X8_isKind : GoodIn wsX8_wear (va_wsS RX8 60 yX8_isKind wsX8_isKind) := goodIn_app (goodIn_of _ (by decide +kernel)) ggX8_wear_X8_isKind
set_option maxRecDepth 20000 in
theorem ggX8_wear_X8_isWithin : GoodIn wsX8_wear wsX8_isWithin := goodIn_r _ [8] (by decide +kernel) (by decide +kernel)
set_option maxRecDepth 20000 in
theorem gX8_wear_X8_isWithin : GoodIn wsX8_wear (va_wsS RX8 64 yX8_isWithin wsX8_isWithin) := goodIn_app (goodIn_of _ (by decide +kernel)) ggX8_wear_X8_isWithin
set_option maxRecDepth 20000 in
theorem ggX8_wear_X1_setWear : GoodIn wsX8_wear wsX1_setWear := goodIn_r _ [13, 14, 22, 23, 24, 25, 26, 27] (by decide +kernel) (by decide +kernel)
set_option maxRecDepth 20000 in
theorem gX8_wear_X1_setWear : GoodIn wsX8_wear (wsV RX8 171 RX1 yX1_setWear wsX1_setWear) := goodIn_app (goodIn_of _ (by decide +kernel)) ggX8_wear_X1_setWear
theorem dX8_wear_0 : decode cX8_wear 0 = .ok (.iload_n 1, 1) := by decide +kernel
theorem dX8_wear_1 : decode cX8_wear 1 = .ok (.invokestatic 60, 3) := by decide +kernel
theorem dX8_wear_4 : decode cX8_wear 4 = .ok (.ifCond .ne 6, 3) := by decide +kernel
theorem dX8_wear_7 : decode cX8_wear 7 = .ok (.bipush (-2), 2) := by decide +kernel
theorem dX8_wear_9 : decode cX8_wear 9 = .ok (.ireturn, 1) := by decide +kernel
theorem dX8_wear_10 : decode cX8_wear 10 = .ok (.iload_n 2, 1) := by decide +kernel
theorem dX8_wear_11 : decode cX8_wear 11 = .ok (.iconst 0, 1) := by decide +kernel
theorem dX8_wear_12 : decode cX8_wear 12 = .ok (.bipush 9, 2) := by decide +kernel
theorem dX8_wear_14 : decode cX8_wear 14 = .ok (.invokestatic 64, 3) := by decide +kernel
theorem dX8_wear_17 : decode cX8_wear 17 = .ok (.ifCond .ne 6, 3) := by decide +kernel
theorem dX8_wear_20 : decode cX8_wear 20 = .ok (.bipush (-3), 2) := by decide +kernel
theorem dX8_wear_22 : decode cX8_wear 22 = .ok (.ireturn, 1) := by decide +kernel
theorem dX8_wear_23 : decode cX8_wear 23 = .ok (.aload_n 0, 1) := by decide +kernel
theorem dX8_wear_24 : decode cX8_wear 24 = .ok (.getfield 49, 3) := by decide +kernel
theorem dX8_wear_27 : decode cX8_wear 27 = .ok (.iload_n 1, 1) := by decide +kernel
theorem dX8_wear_28 : decode cX8_wear 28 = .ok (.iload_n 2, 1) := by decide +kernel
theorem dX8_wear_29 : decode cX8_wear 29 = .ok (.invokevirtual 171, 3) := by decide +kernel
theorem dX8_wear_32 : decode cX8_wear 32 = .ok (.ireturn, 1) := by decide +kernel
set_option maxRecDepth 20000 in
theorem ggX8_plan_X8_isKind : GoodIn wsX8_plan wsX8_isKind := goodIn_r _ [5, 6, 7, 4, 8] (by decide +kernel) (by decide +kernel)
set_option maxRecDepth 20000 in
theorem gX8_plan_X8_isKind : GoodIn wsX8_plan (va_wsS RX8 60 yX8_isKind wsX8_isKind) := goodIn_app (goodIn_of _ (by decide +kernel)) ggX8_plan_X8_isKind
set_option maxRecDepth 20000 in
theorem ggX8_plan_X1_add : GoodIn wsX8_plan wsX1_add := goodIn_r _ [13, 14, 15, 23, 24, 25, 26, 27, 28] (by decide +kernel) (by decide +kernel)
set_option maxRecDepth 20000 in
theorem gX8_plan_X1_add : GoodIn wsX8_plan (wsV RX8 174 RX1 yX1_add wsX1_add) := goodIn_app (goodIn_of _ (by decide +kernel)) ggX8_plan_X1_add
theorem dX8_plan_0 : decode cX8_plan 0 = .ok (.iload_n 1, 1) := by decide +kernel
theorem dX8_plan_1 : decode cX8_plan 1 = .ok (.invokestatic 60, 3) := by decide +kernel
theorem dX8_plan_4 : decode cX8_plan 4 = .ok (.ifCond .ne 6, 3) := by decide +kernel
theorem dX8_plan_7 : decode cX8_plan 7 = .ok (.bipush (-2), 2) := by decide +kernel
theorem dX8_plan_9 : decode cX8_plan 9 = .ok (.ireturn, 1) := by decide +kernel
theorem dX8_plan_10 : decode cX8_plan 10 = .ok (.aload_n 0, 1) := by decide +kernel
theorem dX8_plan_11 : decode cX8_plan 11 = .ok (.getfield 49, 3) := by decide +kernel
theorem dX8_plan_14 : decode cX8_plan 14 = .ok (.iload_n 1, 1) := by decide +kernel
theorem dX8_plan_15 : decode cX8_plan 15 = .ok (.invokevirtual 174, 3) := by decide +kernel
theorem dX8_plan_18 : decode cX8_plan 18 = .ok (.ireturn, 1) := by decide +kernel
set_option maxRecDepth 20000 in
theorem ggX8_unplan_X1_clear : GoodIn wsX8_unplan wsX1_clear := goodIn_r _ [6, 7, 15, 16, 17, 18, 19, 20] (by decide +kernel) (by decide +kernel)
set_option maxRecDepth 20000 in
theorem gX8_unplan_X1_clear : GoodIn wsX8_unplan (wsV RX8 176 RX1 yX1_clear wsX1_clear) := goodIn_app (goodIn_of _ (by decide +kernel)) ggX8_unplan_X1_clear
theorem dX8_unplan_0 : decode cX8_unplan 0 = .ok (.aload_n 0, 1) := by decide +kernel
theorem dX8_unplan_1 : decode cX8_unplan 1 = .ok (.getfield 49, 3) := by decide +kernel
theorem dX8_unplan_4 : decode cX8_unplan 4 = .ok (.invokevirtual 176, 3) := by decide +kernel
theorem dX8_unplan_7 : decode cX8_unplan 7 = .ok (.ireturn, 1) := by decide +kernel
set_option maxRecDepth 20000 in
theorem ggX8_costs_X8_isWithin : GoodIn wsX8_costs wsX8_isWithin := goodIn_r _ [5] (by decide +kernel) (by decide +kernel)
set_option maxRecDepth 20000 in
theorem gX8_costs_X8_isWithin : GoodIn wsX8_costs (va_wsS RX8 64 yX8_isWithin wsX8_isWithin) := goodIn_app (goodIn_of _ (by decide +kernel)) ggX8_costs_X8_isWithin
set_option maxRecDepth 20000 in
theorem ggX8_costs_X1_isEmpty : GoodIn wsX8_costs wsX1_isEmpty := goodIn_r _ [10, 11, 36, 37, 38, 39, 40, 41] (by decide +kernel) (by decide +kernel)
set_option maxRecDepth 20000 in
theorem gX8_costs_X1_isEmpty : GoodIn wsX8_costs (wsV RX8 179 RX1 yX1_isEmpty wsX1_isEmpty) := goodIn_app (goodIn_of _ (by decide +kernel)) ggX8_costs_X1_isEmpty
set_option maxRecDepth 20000 in
theorem ggX8_costs_X1_wholeCost : GoodIn wsX8_costs wsX1_wholeCost := goodIn_r _ [15, 16, 17, 18, 19, 9, 20, 21, 22, 23, 24, 25, 26, 27, 28, 11, 36, 37, 38, 39, 40, 41] (by decide +kernel) (by decide +kernel)
set_option maxRecDepth 20000 in
theorem gX8_costs_X1_wholeCost : GoodIn wsX8_costs (wsV RX8 182 RX1 yX1_wholeCost wsX1_wholeCost) := goodIn_app (goodIn_of _ (by decide +kernel)) ggX8_costs_X1_wholeCost
theorem dX8_costs_0 : decode cX8_costs 0 = .ok (.iload_n 1, 1) := by decide +kernel
theorem dX8_costs_1 : decode cX8_costs 1 = .ok (.iconst 1, 1) := by decide +kernel
theorem dX8_costs_2 : decode cX8_costs 2 = .ok (.bipush 120, 2) := by decide +kernel
theorem dX8_costs_4 : decode cX8_costs 4 = .ok (.invokestatic 64, 3) := by decide +kernel
theorem dX8_costs_7 : decode cX8_costs 7 = .ok (.ifCond .ne 6, 3) := by decide +kernel
theorem dX8_costs_10 : decode cX8_costs 10 = .ok (.bipush (-3), 2) := by decide +kernel
theorem dX8_costs_12 : decode cX8_costs 12 = .ok (.ireturn, 1) := by decide +kernel
theorem dX8_costs_13 : decode cX8_costs 13 = .ok (.aload_n 0, 1) := by decide +kernel
theorem dX8_costs_14 : decode cX8_costs 14 = .ok (.getfield 49, 3) := by decide +kernel
theorem dX8_costs_17 : decode cX8_costs 17 = .ok (.invokevirtual 179, 3) := by decide +kernel
theorem dX8_costs_20 : decode cX8_costs 20 = .ok (.ifCond .eq 6, 3) := by decide +kernel
theorem dX8_costs_23 : decode cX8_costs 23 = .ok (.bipush (-4), 2) := by decide +kernel
theorem dX8_costs_25 : decode cX8_costs 25 = .ok (.ireturn, 1) := by decide +kernel
theorem dX8_costs_26 : decode cX8_costs 26 = .ok (.aload_n 0, 1) := by decide +kernel
theorem dX8_costs_27 : decode cX8_costs 27 = .ok (.getfield 49, 3) := by decide +kernel
theorem dX8_costs_30 : decode cX8_costs 30 = .ok (.iload_n 1, 1) := by decide +kernel
theorem dX8_costs_31 : decode cX8_costs 31 = .ok (.invokevirtual 182, 3) := by decide +kernel
theorem dX8_costs_34 : decode cX8_costs 34 = .ok (.ireturn, 1) := by decide +kernel
set_option maxRecDepth 20000 in
theorem ggX8_change_X1_isEmpty : GoodIn wsX8_change wsX1_isEmpty := goodIn_r _ [6, 7, 32, 33, 34, 35, 36, 37] (by decide +kernel) (by decide +kernel)
set_option maxRecDepth 20000 in
theorem gX8_change_X1_isEmpty : GoodIn wsX8_change (wsV RX8 179 RX1 yX1_isEmpty wsX1_isEmpty) := goodIn_app (goodIn_of _ (by decide +kernel)) ggX8_change_X1_isEmpty
set_option maxRecDepth 20000 in
theorem ggX8_change_X1_bestChange : GoodIn wsX8_change wsX1_bestChange := goodIn_r _ [11, 12, 13, 14, 15, 5, 16, 17, 18, 19, 20, 21, 22, 23, 24, 7, 32, 33, 34, 35, 36, 37] (by decide +kernel) (by decide +kernel)
set_option maxRecDepth 20000 in
theorem gX8_change_X1_bestChange : GoodIn wsX8_change (wsV RX8 185 RX1 yX1_bestChange wsX1_bestChange) := goodIn_app (goodIn_of _ (by decide +kernel)) ggX8_change_X1_bestChange
theorem dX8_change_0 : decode cX8_change 0 = .ok (.aload_n 0, 1) := by decide +kernel
theorem dX8_change_1 : decode cX8_change 1 = .ok (.getfield 49, 3) := by decide +kernel
theorem dX8_change_4 : decode cX8_change 4 = .ok (.invokevirtual 179, 3) := by decide +kernel
theorem dX8_change_7 : decode cX8_change 7 = .ok (.ifCond .eq 6, 3) := by decide +kernel
theorem dX8_change_10 : decode cX8_change 10 = .ok (.bipush (-4), 2) := by decide +kernel
theorem dX8_change_12 : decode cX8_change 12 = .ok (.ireturn, 1) := by decide +kernel
theorem dX8_change_13 : decode cX8_change 13 = .ok (.aload_n 0, 1) := by decide +kernel
theorem dX8_change_14 : decode cX8_change 14 = .ok (.getfield 49, 3) := by decide +kernel
theorem dX8_change_17 : decode cX8_change 17 = .ok (.invokevirtual 185, 3) := by decide +kernel
theorem dX8_change_20 : decode cX8_change 20 = .ok (.ireturn, 1) := by decide +kernel
set_option maxRecDepth 20000 in
theorem ggX8_courts_X8_isWithin : GoodIn wsX8_courts wsX8_isWithin := goodIn_r _ [5] (by decide +kernel) (by decide +kernel)
set_option maxRecDepth 20000 in
theorem gX8_courts_X8_isWithin : GoodIn wsX8_courts (va_wsS RX8 64 yX8_isWithin wsX8_isWithin) := goodIn_app (goodIn_of _ (by decide +kernel)) ggX8_courts_X8_isWithin
set_option maxRecDepth 20000 in
theorem ggX8_courts_X4_setCourts : GoodIn wsX8_courts wsX4_setCourts := goodIn_r _ [10, 11, 12, 20, 21, 22, 23, 24, 25, 26, 27, 28, 29, 30, 31, 32, 33] (by decide +kernel) (by decide +kernel)
set_option maxRecDepth 20000 in
theorem gX8_courts_X4_setCourts : GoodIn wsX8_courts (wsV RX8 188 RX4 yX4_setCourts wsX4_setCourts) := goodIn_app (goodIn_of _ (by decide +kernel)) ggX8_courts_X4_setCourts
theorem dX8_courts_0 : decode cX8_courts 0 = .ok (.iload_n 1, 1) := by decide +kernel
theorem dX8_courts_1 : decode cX8_courts 1 = .ok (.iconst 1, 1) := by decide +kernel
theorem dX8_courts_2 : decode cX8_courts 2 = .ok (.iconst 4, 1) := by decide +kernel
theorem dX8_courts_3 : decode cX8_courts 3 = .ok (.invokestatic 64, 3) := by decide +kernel
theorem dX8_courts_6 : decode cX8_courts 6 = .ok (.ifCond .ne 6, 3) := by decide +kernel
theorem dX8_courts_9 : decode cX8_courts 9 = .ok (.bipush (-3), 2) := by decide +kernel
theorem dX8_courts_11 : decode cX8_courts 11 = .ok (.ireturn, 1) := by decide +kernel
theorem dX8_courts_12 : decode cX8_courts 12 = .ok (.aload_n 0, 1) := by decide +kernel
theorem dX8_courts_13 : decode cX8_courts 13 = .ok (.getfield 56, 3) := by decide +kernel
theorem dX8_courts_16 : decode cX8_courts 16 = .ok (.iload_n 1, 1) := by decide +kernel
theorem dX8_courts_17 : decode cX8_courts 17 = .ok (.invokevirtual 188, 3) := by decide +kernel
theorem dX8_courts_20 : decode cX8_courts 20 = .ok (.ireturn, 1) := by decide +kernel
set_option maxRecDepth 20000 in
theorem ggX8_come_X8_isPlayer : GoodIn wsX8_come wsX8_isPlayer := goodIn_r _ [5, 6, 7, 4, 8] (by decide +kernel) (by decide +kernel)
set_option maxRecDepth 20000 in
theorem gX8_come_X8_isPlayer : GoodIn wsX8_come (va_wsS RX8 102 yX8_isPlayer wsX8_isPlayer) := goodIn_app (goodIn_of _ (by decide +kernel)) ggX8_come_X8_isPlayer
set_option maxRecDepth 20000 in
theorem ggX8_come_X8_isWithin : GoodIn wsX8_come wsX8_isWithin := goodIn_r _ [8] (by decide +kernel) (by decide +kernel)
set_option maxRecDepth 20000 in
theorem gX8_come_X8_isWithin : GoodIn wsX8_come (va_wsS RX8 64 yX8_isWithin wsX8_isWithin) := goodIn_app (goodIn_of _ (by decide +kernel)) ggX8_come_X8_isWithin
set_option maxRecDepth 20000 in
theorem ggX8_come_X4_isThere : GoodIn wsX8_come wsX4_isThere := goodIn_r _ [13, 14, 30, 31, 32, 33, 34, 35, 36, 37, 38, 39, 40, 41, 42, 43] (by decide +kernel) (by decide +kernel)
set_option maxRecDepth 20000 in
theorem gX8_come_X4_isThere : GoodIn wsX8_come (wsV RX8 191 RX4 yX4_isThere wsX4_isThere) := goodIn_app (goodIn_of _ (by decide +kernel)) ggX8_come_X4_isThere
set_option maxRecDepth 20000 in
theorem ggX8_come_X4_enter : GoodIn wsX8_come wsX4_enter := goodIn_r _ [18, 14, 19, 20, 21, 22, 30, 31, 32, 33, 34, 35, 36, 37, 38, 39, 40, 41, 42, 43] (by decide +kernel) (by decide +kernel)
set_option maxRecDepth 20000 in
theorem gX8_come_X4_enter : GoodIn wsX8_come (wsV RX8 194 RX4 yX4_enter wsX4_enter) := goodIn_app (goodIn_of _ (by decide +kernel)) ggX8_come_X4_enter
theorem dX8_come_0 : decode cX8_come 0 = .ok (.iload_n 1, 1) := by decide +kernel
theorem dX8_come_1 : decode cX8_come 1 = .ok (.invokestatic 102, 3) := by decide +kernel
theorem dX8_come_4 : decode cX8_come 4 = .ok (.ifCond .ne 6, 3) := by decide +kernel
theorem dX8_come_7 : decode cX8_come 7 = .ok (.bipush (-2), 2) := by decide +kernel
theorem dX8_come_9 : decode cX8_come 9 = .ok (.ireturn, 1) := by decide +kernel
theorem dX8_come_10 : decode cX8_come 10 = .ok (.iload_n 2, 1) := by decide +kernel
theorem dX8_come_11 : decode cX8_come 11 = .ok (.iconst 0, 1) := by decide +kernel
theorem dX8_come_12 : decode cX8_come 12 = .ok (.bipush 99, 2) := by decide +kernel
theorem dX8_come_14 : decode cX8_come 14 = .ok (.invokestatic 64, 3) := by decide +kernel
theorem dX8_come_17 : decode cX8_come 17 = .ok (.ifCond .ne 6, 3) := by decide +kernel
theorem dX8_come_20 : decode cX8_come 20 = .ok (.bipush (-3), 2) := by decide +kernel
theorem dX8_come_22 : decode cX8_come 22 = .ok (.ireturn, 1) := by decide +kernel
theorem dX8_come_23 : decode cX8_come 23 = .ok (.aload_n 0, 1) := by decide +kernel
theorem dX8_come_24 : decode cX8_come 24 = .ok (.getfield 56, 3) := by decide +kernel
theorem dX8_come_27 : decode cX8_come 27 = .ok (.iload_n 1, 1) := by decide +kernel
theorem dX8_come_28 : decode cX8_come 28 = .ok (.invokevirtual 191, 3) := by decide +kernel
theorem dX8_come_31 : decode cX8_come 31 = .ok (.ifCond .eq 6, 3) := by decide +kernel
theorem dX8_come_34 : decode cX8_come 34 = .ok (.bipush (-4), 2) := by decide +kernel
theorem dX8_come_36 : decode cX8_come 36 = .ok (.ireturn, 1) := by decide +kernel
theorem dX8_come_37 : decode cX8_come 37 = .ok (.aload_n 0, 1) := by decide +kernel
theorem dX8_come_38 : decode cX8_come 38 = .ok (.getfield 56, 3) := by decide +kernel
theorem dX8_come_41 : decode cX8_come 41 = .ok (.iload_n 1, 1) := by decide +kernel
theorem dX8_come_42 : decode cX8_come 42 = .ok (.iload_n 2, 1) := by decide +kernel
theorem dX8_come_43 : decode cX8_come 43 = .ok (.invokevirtual 194, 3) := by decide +kernel
theorem dX8_come_46 : decode cX8_come 46 = .ok (.ireturn, 1) := by decide +kernel
set_option maxRecDepth 20000 in
theorem ggX8_leave_X8_isPlayer : GoodIn wsX8_leave wsX8_isPlayer := goodIn_r _ [5, 6, 7, 4, 8] (by decide +kernel) (by decide +kernel)
set_option maxRecDepth 20000 in
theorem gX8_leave_X8_isPlayer : GoodIn wsX8_leave (va_wsS RX8 102 yX8_isPlayer wsX8_isPlayer) := goodIn_app (goodIn_of _ (by decide +kernel)) ggX8_leave_X8_isPlayer
set_option maxRecDepth 20000 in
theorem ggX8_leave_X4_isThere : GoodIn wsX8_leave wsX4_isThere := goodIn_r _ [13, 14, 28, 29, 30, 31, 32, 33, 34, 35, 36, 37, 38, 39, 40, 41] (by decide +kernel) (by decide +kernel)
set_option maxRecDepth 20000 in
theorem gX8_leave_X4_isThere : GoodIn wsX8_leave (wsV RX8 191 RX4 yX4_isThere wsX4_isThere) := goodIn_app (goodIn_of _ (by decide +kernel)) ggX8_leave_X4_isThere
set_option maxRecDepth 20000 in
theorem ggX8_leave_X4_exit : GoodIn wsX8_leave wsX4_exit := goodIn_r _ [18, 14, 19, 20, 28, 29, 30, 31, 32, 33, 34, 35, 36, 37, 38, 39, 40, 41] (by decide +kernel) (by decide +kernel)
set_option maxRecDepth 20000 in
theorem gX8_leave_X4_exit : GoodIn wsX8_leave (wsV RX8 197 RX4 yX4_exit wsX4_exit) := goodIn_app (goodIn_of _ (by decide +kernel)) ggX8_leave_X4_exit
theorem dX8_leave_0 : decode cX8_leave 0 = .ok (.iload_n 1, 1) := by decide +kernel
theorem dX8_leave_1 : decode cX8_leave 1 = .ok (.invokestatic 102, 3) := by decide +kernel
theorem dX8_leave_4 : decode cX8_leave 4 = .ok (.ifCond .ne 6, 3) := by decide +kernel
theorem dX8_leave_7 : decode cX8_leave 7 = .ok (.bipush (-2), 2) := by decide +kernel
theorem dX8_leave_9 : decode cX8_leave 9 = .ok (.ireturn, 1) := by decide +kernel
theorem dX8_leave_10 : decode cX8_leave 10 = .ok (.aload_n 0, 1) := by decide +kernel
theorem dX8_leave_11 : decode cX8_leave 11 = .ok (.getfield 56, 3) := by decide +kernel
theorem dX8_leave_14 : decode cX8_leave 14 = .ok (.iload_n 1, 1) := by decide +kernel
theorem dX8_leave_15 : decode cX8_leave 15 = .ok (.invokevirtual 191, 3) := by decide +kernel
theorem dX8_leave_18 : decode cX8_leave 18 = .ok (.ifCond .ne 6, 3) := by decide +kernel
theorem dX8_leave_21 : decode cX8_leave 21 = .ok (.bipush (-4), 2) := by decide +kernel
theorem dX8_leave_23 : decode cX8_leave 23 = .ok (.ireturn, 1) := by decide +kernel
theorem dX8_leave_24 : decode cX8_leave 24 = .ok (.aload_n 0, 1) := by decide +kernel
theorem dX8_leave_25 : decode cX8_leave 25 = .ok (.getfield 56, 3) := by decide +kernel
theorem dX8_leave_28 : decode cX8_leave 28 = .ok (.iload_n 1, 1) := by decide +kernel
theorem dX8_leave_29 : decode cX8_leave 29 = .ok (.invokevirtual 197, 3) := by decide +kernel
theorem dX8_leave_32 : decode cX8_leave 32 = .ok (.ireturn, 1) := by decide +kernel
set_option maxRecDepth 20000 in
theorem ggX8_against_X8_isPlayer : GoodIn wsX8_against wsX8_isPlayer := goodIn_r _ [5, 6, 7, 4, 8] (by decide +kernel) (by decide +kernel)
set_option maxRecDepth 20000 in
theorem gX8_against_X8_isPlayer : GoodIn wsX8_against (va_wsS RX8 102 yX8_isPlayer wsX8_isPlayer) := goodIn_app (goodIn_of _ (by decide +kernel)) ggX8_against_X8_isPlayer
set_option maxRecDepth 20000 in
theorem ggX8_against_X4_mateOf : GoodIn wsX8_against wsX4_mateOf := goodIn_r _ [13, 14, 15, 16, 17, 12, 18, 19, 20, 21, 22, 23, 24, 25, 26, 27, 28, 29, 30, 31, 32, 33, 34, 35, 36, 37, 38, 39, 40, 41, 42, 43, 44, 45, 46, 47, 48, 49, 50, 51, 52, 53, 54, 55, 56, 57, 58, 59, 60, 61, 62, 63, 64, 65, 73, 74, 75, 76, 77, 78, 79, 80, 81, 82, 83, 84, 85, 86] (by decide +kernel) (by decide +kernel)
set_option maxRecDepth 20000 in
theorem gX8_against_X4_mateOf : GoodIn wsX8_against (wsV RX8 200 RX4 yX4_mateOf wsX4_mateOf) := goodIn_app (goodIn_of _ (by decide +kernel)) ggX8_against_X4_mateOf
theorem dX8_against_0 : decode cX8_against 0 = .ok (.iload_n 1, 1) := by decide +kernel
theorem dX8_against_1 : decode cX8_against 1 = .ok (.invokestatic 102, 3) := by decide +kernel
theorem dX8_against_4 : decode cX8_against 4 = .ok (.ifCond .ne 6, 3) := by decide +kernel
theorem dX8_against_7 : decode cX8_against 7 = .ok (.bipush (-2), 2) := by decide +kernel
theorem dX8_against_9 : decode cX8_against 9 = .ok (.ireturn, 1) := by decide +kernel
theorem dX8_against_10 : decode cX8_against 10 = .ok (.aload_n 0, 1) := by decide +kernel
theorem dX8_against_11 : decode cX8_against 11 = .ok (.getfield 56, 3) := by decide +kernel
theorem dX8_against_14 : decode cX8_against 14 = .ok (.iload_n 1, 1) := by decide +kernel
theorem dX8_against_15 : decode cX8_against 15 = .ok (.invokevirtual 200, 3) := by decide +kernel
theorem dX8_against_18 : decode cX8_against 18 = .ok (.ireturn, 1) := by decide +kernel
set_option maxRecDepth 20000 in
theorem ggX8_round_X8_isWithin : GoodIn wsX8_round wsX8_isWithin := goodIn_r _ [5] (by decide +kernel) (by decide +kernel)
set_option maxRecDepth 20000 in
theorem gX8_round_X8_isWithin : GoodIn wsX8_round (va_wsS RX8 64 yX8_isWithin wsX8_isWithin) := goodIn_app (goodIn_of _ (by decide +kernel)) ggX8_round_X8_isWithin
set_option maxRecDepth 20000 in
theorem ggX8_round_X4_readRound : GoodIn wsX8_round wsX4_readRound := goodIn_r _ [10, 11, 12, 13, 14, 15, 16, 9, 17, 18, 19, 20, 21, 22, 23, 24, 25, 26, 27, 28, 29, 30, 31, 32, 33, 34, 35, 36, 37, 38, 39, 40, 41, 42, 43, 44, 45, 46, 47, 48, 49, 50, 51, 52, 53, 54, 55, 56, 57, 58, 59, 60, 61, 62, 70, 71, 72, 73, 74, 75, 76, 77, 78, 79, 80, 81, 82, 83] (by decide +kernel) (by decide +kernel)
set_option maxRecDepth 20000 in
theorem gX8_round_X4_readRound : GoodIn wsX8_round (wsV RX8 203 RX4 yX4_readRound wsX4_readRound) := goodIn_app (goodIn_of _ (by decide +kernel)) ggX8_round_X4_readRound
theorem dX8_round_0 : decode cX8_round 0 = .ok (.iload_n 1, 1) := by decide +kernel
theorem dX8_round_1 : decode cX8_round 1 = .ok (.iconst 0, 1) := by decide +kernel
theorem dX8_round_2 : decode cX8_round 2 = .ok (.iconst 3, 1) := by decide +kernel
theorem dX8_round_3 : decode cX8_round 3 = .ok (.invokestatic 64, 3) := by decide +kernel
theorem dX8_round_6 : decode cX8_round 6 = .ok (.ifCond .ne 6, 3) := by decide +kernel
theorem dX8_round_9 : decode cX8_round 9 = .ok (.bipush (-3), 2) := by decide +kernel
theorem dX8_round_11 : decode cX8_round 11 = .ok (.ireturn, 1) := by decide +kernel
theorem dX8_round_12 : decode cX8_round 12 = .ok (.aload_n 0, 1) := by decide +kernel
theorem dX8_round_13 : decode cX8_round 13 = .ok (.getfield 56, 3) := by decide +kernel
theorem dX8_round_16 : decode cX8_round 16 = .ok (.iload_n 1, 1) := by decide +kernel
theorem dX8_round_17 : decode cX8_round 17 = .ok (.invokevirtual 203, 3) := by decide +kernel
theorem dX8_round_20 : decode cX8_round 20 = .ok (.ireturn, 1) := by decide +kernel
set_option maxRecDepth 20000 in
theorem ggX8_played_X4_playRound : GoodIn wsX8_played wsX4_playRound := goodIn_r _ [6, 7, 8, 9, 10, 11, 12, 13, 14, 15, 5, 16, 17, 18, 19, 20, 21, 22, 23, 24, 25, 26, 27, 28, 29, 30, 31, 32, 33, 34, 35, 36, 37, 38, 39, 40, 41, 42, 43, 44, 45, 46, 47, 48, 49, 50, 51, 52, 53, 54, 55, 56, 57, 58, 59, 67, 68, 69, 70, 71, 72, 73, 74, 75, 76, 77, 78, 79, 80] (by decide +kernel) (by decide +kernel)
set_option maxRecDepth 20000 in
theorem gX8_played_X4_playRound : GoodIn wsX8_played (wsV RX8 206 RX4 yX4_playRound wsX4_playRound) := goodIn_app (goodIn_of _ (by decide +kernel)) ggX8_played_X4_playRound
theorem dX8_played_0 : decode cX8_played 0 = .ok (.aload_n 0, 1) := by decide +kernel
theorem dX8_played_1 : decode cX8_played 1 = .ok (.getfield 56, 3) := by decide +kernel
theorem dX8_played_4 : decode cX8_played 4 = .ok (.invokevirtual 206, 3) := by decide +kernel
theorem dX8_played_7 : decode cX8_played 7 = .ok (.ireturn, 1) := by decide +kernel
set_option maxRecDepth 20000 in
theorem ggX8_had_X8_isPlayer : GoodIn wsX8_had wsX8_isPlayer := goodIn_r _ [5, 6, 7, 4, 8] (by decide +kernel) (by decide +kernel)
set_option maxRecDepth 20000 in
theorem gX8_had_X8_isPlayer : GoodIn wsX8_had (va_wsS RX8 102 yX8_isPlayer wsX8_isPlayer) := goodIn_app (goodIn_of _ (by decide +kernel)) ggX8_had_X8_isPlayer
set_option maxRecDepth 20000 in
theorem ggX8_had_X4_gamesOfBoth : GoodIn wsX8_had wsX4_gamesOfBoth := goodIn_r _ [13, 14, 22, 23, 24, 25, 26, 27, 28, 29, 30, 31, 32, 33, 34, 35] (by decide +kernel) (by decide +kernel)
set_option maxRecDepth 20000 in
theorem gX8_had_X4_gamesOfBoth : GoodIn wsX8_had (wsV RX8 209 RX4 yX4_gamesOfBoth wsX4_gamesOfBoth) := goodIn_app (goodIn_of _ (by decide +kernel)) ggX8_had_X4_gamesOfBoth
theorem dX8_had_0 : decode cX8_had 0 = .ok (.iload_n 1, 1) := by decide +kernel
theorem dX8_had_1 : decode cX8_had 1 = .ok (.invokestatic 102, 3) := by decide +kernel
theorem dX8_had_4 : decode cX8_had 4 = .ok (.ifCond .eq 15, 3) := by decide +kernel
theorem dX8_had_7 : decode cX8_had 7 = .ok (.iload_n 2, 1) := by decide +kernel
theorem dX8_had_8 : decode cX8_had 8 = .ok (.invokestatic 102, 3) := by decide +kernel
theorem dX8_had_11 : decode cX8_had 11 = .ok (.ifCond .eq 8, 3) := by decide +kernel
theorem dX8_had_14 : decode cX8_had 14 = .ok (.iload_n 1, 1) := by decide +kernel
theorem dX8_had_15 : decode cX8_had 15 = .ok (.iload_n 2, 1) := by decide +kernel
theorem dX8_had_16 : decode cX8_had 16 = .ok (.if_icmp .ne 6, 3) := by decide +kernel
theorem dX8_had_19 : decode cX8_had 19 = .ok (.bipush (-2), 2) := by decide +kernel
theorem dX8_had_21 : decode cX8_had 21 = .ok (.ireturn, 1) := by decide +kernel
theorem dX8_had_22 : decode cX8_had 22 = .ok (.aload_n 0, 1) := by decide +kernel
theorem dX8_had_23 : decode cX8_had 23 = .ok (.getfield 56, 3) := by decide +kernel
theorem dX8_had_26 : decode cX8_had 26 = .ok (.iload_n 1, 1) := by decide +kernel
theorem dX8_had_27 : decode cX8_had 27 = .ok (.iload_n 2, 1) := by decide +kernel
theorem dX8_had_28 : decode cX8_had 28 = .ok (.invokevirtual 209, 3) := by decide +kernel
theorem dX8_had_31 : decode cX8_had 31 = .ok (.ireturn, 1) := by decide +kernel
set_option maxRecDepth 20000 in
theorem ggX8_of_X8_isPlayer : GoodIn wsX8_of wsX8_isPlayer := goodIn_r _ [6, 7, 8, 5, 9] (by decide +kernel) (by decide +kernel)
set_option maxRecDepth 20000 in
theorem gX8_of_X8_isPlayer : GoodIn wsX8_of (va_wsS RX8 102 yX8_isPlayer wsX8_isPlayer) := goodIn_app (goodIn_of _ (by decide +kernel)) ggX8_of_X8_isPlayer
set_option maxRecDepth 20000 in
theorem ggX8_of_X6_strideOf : GoodIn wsX8_of wsX6_strideOf := goodIn_r _ [14, 15, 45, 46, 47, 48] (by decide +kernel) (by decide +kernel)
set_option maxRecDepth 20000 in
theorem gX8_of_X6_strideOf : GoodIn wsX8_of (wsV RX8 212 RX6 yX6_strideOf wsX6_strideOf) := goodIn_app (goodIn_of _ (by decide +kernel)) ggX8_of_X6_strideOf
set_option maxRecDepth 20000 in
theorem ggX8_of_X6_tiredOf : GoodIn wsX8_of wsX6_tiredOf := goodIn_r _ [19, 20, 45, 46, 47, 48] (by decide +kernel) (by decide +kernel)
set_option maxRecDepth 20000 in
theorem gX8_of_X6_tiredOf : GoodIn wsX8_of (wsV RX8 215 RX6 yX6_tiredOf wsX6_tiredOf) := goodIn_app (goodIn_of _ (by decide +kernel)) ggX8_of_X6_tiredOf
set_option maxRecDepth 20000 in
theorem ggX8_of_X4_waitedOf : GoodIn wsX8_of wsX4_waitedOf := goodIn_r _ [25, 26, 27, 49, 50, 51, 52, 53, 54, 55, 56, 57, 58, 59, 60, 61, 62] (by decide +kernel) (by decide +kernel)
set_option maxRecDepth 20000 in
theorem gX8_of_X4_waitedOf : GoodIn wsX8_of (wsV RX8 218 RX4 yX4_waitedOf wsX4_waitedOf) := goodIn_app (goodIn_of _ (by decide +kernel)) ggX8_of_X4_waitedOf
set_option maxRecDepth 20000 in
theorem ggX8_of_X4_gradeOf : GoodIn wsX8_of wsX4_gradeOf := goodIn_r _ [31, 26, 32, 49, 50, 51, 52, 53, 54, 55, 56, 57, 58, 59, 60, 61, 62] (by decide +kernel) (by decide +kernel)
set_option maxRecDepth 20000 in
theorem gX8_of_X4_gradeOf : GoodIn wsX8_of (wsV RX8 221 RX4 yX4_gradeOf wsX4_gradeOf) := goodIn_app (goodIn_of _ (by decide +kernel)) ggX8_of_X4_gradeOf
set_option maxRecDepth 20000 in
theorem ggX8_of_X4_gamesOf : GoodIn wsX8_of wsX4_gamesOf := goodIn_r _ [36, 37, 49, 50, 51, 52, 53, 54, 55, 56, 57, 58, 59, 60, 61, 62] (by decide +kernel) (by decide +kernel)
set_option maxRecDepth 20000 in
theorem gX8_of_X4_gamesOf : GoodIn wsX8_of (wsV RX8 224 RX4 yX4_gamesOf wsX4_gamesOf) := goodIn_app (goodIn_of _ (by decide +kernel)) ggX8_of_X4_gamesOf
theorem dX8_of_0 : decode cX8_of 0 = .ok (.iload_n 1, 1) := by decide +kernel
theorem dX8_of_1 : decode cX8_of 1 = .ok (.invokestatic 102, 3) := by decide +kernel
theorem dX8_of_4 : decode cX8_of 4 = .ok (.ifCond .ne 6, 3) := by decide +kernel
theorem dX8_of_7 : decode cX8_of 7 = .ok (.bipush (-2), 2) := by decide +kernel
theorem dX8_of_9 : decode cX8_of 9 = .ok (.ireturn, 1) := by decide +kernel
theorem dX8_of_10 : decode cX8_of 10 = .ok (.iload_n 2, 1) := by decide +kernel
theorem dX8_of_11 : decode cX8_of 11 = .ok (.tableswitch 78 0 4 #[33, 42, 51, 60, 69], 33) := by decide +kernel
theorem dX8_of_44 : decode cX8_of 44 = .ok (.aload_n 0, 1) := by decide +kernel
theorem dX8_of_45 : decode cX8_of 45 = .ok (.getfield 19, 3) := by decide +kernel
theorem dX8_of_48 : decode cX8_of 48 = .ok (.iload_n 1, 1) := by decide +kernel
theorem dX8_of_49 : decode cX8_of 49 = .ok (.invokevirtual 212, 3) := by decide +kernel
theorem dX8_of_52 : decode cX8_of 52 = .ok (.ireturn, 1) := by decide +kernel
theorem dX8_of_53 : decode cX8_of 53 = .ok (.aload_n 0, 1) := by decide +kernel
theorem dX8_of_54 : decode cX8_of 54 = .ok (.getfield 19, 3) := by decide +kernel
theorem dX8_of_57 : decode cX8_of 57 = .ok (.iload_n 1, 1) := by decide +kernel
theorem dX8_of_58 : decode cX8_of 58 = .ok (.invokevirtual 215, 3) := by decide +kernel
theorem dX8_of_61 : decode cX8_of 61 = .ok (.ireturn, 1) := by decide +kernel
theorem dX8_of_62 : decode cX8_of 62 = .ok (.aload_n 0, 1) := by decide +kernel
theorem dX8_of_63 : decode cX8_of 63 = .ok (.getfield 56, 3) := by decide +kernel
theorem dX8_of_66 : decode cX8_of 66 = .ok (.iload_n 1, 1) := by decide +kernel
theorem dX8_of_67 : decode cX8_of 67 = .ok (.invokevirtual 218, 3) := by decide +kernel
theorem dX8_of_70 : decode cX8_of 70 = .ok (.ireturn, 1) := by decide +kernel
theorem dX8_of_71 : decode cX8_of 71 = .ok (.aload_n 0, 1) := by decide +kernel
theorem dX8_of_72 : decode cX8_of 72 = .ok (.getfield 56, 3) := by decide +kernel
theorem dX8_of_75 : decode cX8_of 75 = .ok (.iload_n 1, 1) := by decide +kernel
theorem dX8_of_76 : decode cX8_of 76 = .ok (.invokevirtual 221, 3) := by decide +kernel
theorem dX8_of_79 : decode cX8_of 79 = .ok (.ireturn, 1) := by decide +kernel
theorem dX8_of_80 : decode cX8_of 80 = .ok (.aload_n 0, 1) := by decide +kernel
theorem dX8_of_81 : decode cX8_of 81 = .ok (.getfield 56, 3) := by decide +kernel
theorem dX8_of_84 : decode cX8_of 84 = .ok (.iload_n 1, 1) := by decide +kernel
theorem dX8_of_85 : decode cX8_of 85 = .ok (.invokevirtual 224, 3) := by decide +kernel
theorem dX8_of_88 : decode cX8_of 88 = .ok (.ireturn, 1) := by decide +kernel
theorem dX8_of_89 : decode cX8_of 89 = .ok (.bipush (-3), 2) := by decide +kernel
theorem dX8_of_91 : decode cX8_of 91 = .ok (.ireturn, 1) := by decide +kernel
set_option maxRecDepth 20000 in
theorem ggX8_count_X5_size : GoodIn wsX8_count wsX5_size := goodIn_r _ [8, 9, 43, 44, 45, 46, 47] (by decide +kernel) (by decide +kernel)
set_option maxRecDepth 20000 in
theorem gX8_count_X5_size : GoodIn wsX8_count (wsV RX8 227 RX5 yX5_size wsX5_size) := goodIn_app (goodIn_of _ (by decide +kernel)) ggX8_count_X5_size
set_option maxRecDepth 20000 in
theorem ggX8_count_X5_triedHabits : GoodIn wsX8_count wsX5_triedHabits := goodIn_r _ [13, 14, 15, 16, 17, 7, 18, 43, 44, 45, 46, 47] (by decide +kernel) (by decide +kernel)
set_option maxRecDepth 20000 in
theorem gX8_count_X5_triedHabits : GoodIn wsX8_count (wsV RX8 230 RX5 yX5_triedHabits wsX5_triedHabits) := goodIn_app (goodIn_of _ (by decide +kernel)) ggX8_count_X5_triedHabits
set_option maxRecDepth 20000 in
theorem ggX8_count_X4_thereNow : GoodIn wsX8_count wsX4_thereNow := goodIn_r _ [23, 24, 48, 49, 50, 51, 52, 53, 54, 55, 56, 57, 58, 59, 60, 61] (by decide +kernel) (by decide +kernel)
set_option maxRecDepth 20000 in
theorem gX8_count_X4_thereNow : GoodIn wsX8_count (wsV RX8 233 RX4 yX4_thereNow wsX4_thereNow) := goodIn_app (goodIn_of _ (by decide +kernel)) ggX8_count_X4_thereNow
set_option maxRecDepth 20000 in
theorem ggX8_count_X4_roundsPlayed : GoodIn wsX8_count wsX4_roundsPlayed := goodIn_r _ [28, 29, 48, 49, 50, 51, 52, 53, 54, 55, 56, 57, 58, 59, 60, 61] (by decide +kernel) (by decide +kernel)
set_option maxRecDepth 20000 in
theorem gX8_count_X4_roundsPlayed : GoodIn wsX8_count (wsV RX8 236 RX4 yX4_roundsPlayed wsX4_roundsPlayed) := goodIn_app (goodIn_of _ (by decide +kernel)) ggX8_count_X4_roundsPlayed
set_option maxRecDepth 20000 in
theorem ggX8_count_X1_size : GoodIn wsX8_count wsX1_size := goodIn_r _ [34, 35, 62, 63, 64, 65, 66, 67] (by decide +kernel) (by decide +kernel)
set_option maxRecDepth 20000 in
theorem gX8_count_X1_size : GoodIn wsX8_count (wsV RX8 239 RX1 yX1_size wsX1_size) := goodIn_app (goodIn_of _ (by decide +kernel)) ggX8_count_X1_size
theorem dX8_count_0 : decode cX8_count 0 = .ok (.iload_n 1, 1) := by decide +kernel
theorem dX8_count_1 : decode cX8_count 1 = .ok (.tableswitch 75 0 4 #[35, 43, 51, 59, 67], 35) := by decide +kernel
theorem dX8_count_36 : decode cX8_count 36 = .ok (.aload_n 0, 1) := by decide +kernel
theorem dX8_count_37 : decode cX8_count 37 = .ok (.getfield 42, 3) := by decide +kernel
theorem dX8_count_40 : decode cX8_count 40 = .ok (.invokevirtual 227, 3) := by decide +kernel
theorem dX8_count_43 : decode cX8_count 43 = .ok (.ireturn, 1) := by decide +kernel
theorem dX8_count_44 : decode cX8_count 44 = .ok (.aload_n 0, 1) := by decide +kernel
theorem dX8_count_45 : decode cX8_count 45 = .ok (.getfield 42, 3) := by decide +kernel
theorem dX8_count_48 : decode cX8_count 48 = .ok (.invokevirtual 230, 3) := by decide +kernel
theorem dX8_count_51 : decode cX8_count 51 = .ok (.ireturn, 1) := by decide +kernel
theorem dX8_count_52 : decode cX8_count 52 = .ok (.aload_n 0, 1) := by decide +kernel
theorem dX8_count_53 : decode cX8_count 53 = .ok (.getfield 56, 3) := by decide +kernel
theorem dX8_count_56 : decode cX8_count 56 = .ok (.invokevirtual 233, 3) := by decide +kernel
theorem dX8_count_59 : decode cX8_count 59 = .ok (.ireturn, 1) := by decide +kernel
theorem dX8_count_60 : decode cX8_count 60 = .ok (.aload_n 0, 1) := by decide +kernel
theorem dX8_count_61 : decode cX8_count 61 = .ok (.getfield 56, 3) := by decide +kernel
theorem dX8_count_64 : decode cX8_count 64 = .ok (.invokevirtual 236, 3) := by decide +kernel
theorem dX8_count_67 : decode cX8_count 67 = .ok (.ireturn, 1) := by decide +kernel
theorem dX8_count_68 : decode cX8_count 68 = .ok (.aload_n 0, 1) := by decide +kernel
theorem dX8_count_69 : decode cX8_count 69 = .ok (.getfield 49, 3) := by decide +kernel
theorem dX8_count_72 : decode cX8_count 72 = .ok (.invokevirtual 239, 3) := by decide +kernel
theorem dX8_count_75 : decode cX8_count 75 = .ok (.ireturn, 1) := by decide +kernel
theorem dX8_count_76 : decode cX8_count 76 = .ok (.bipush (-3), 2) := by decide +kernel
theorem dX8_count_78 : decode cX8_count 78 = .ok (.ireturn, 1) := by decide +kernel
theorem dX8_isWithin_0 : decode cX8_isWithin 0 = .ok (.iload_n 0, 1) := by decide +kernel
theorem dX8_isWithin_1 : decode cX8_isWithin 1 = .ok (.iload_n 1, 1) := by decide +kernel
theorem dX8_isWithin_2 : decode cX8_isWithin 2 = .ok (.if_icmp .lt 12, 3) := by decide +kernel
theorem dX8_isWithin_5 : decode cX8_isWithin 5 = .ok (.iload_n 0, 1) := by decide +kernel
theorem dX8_isWithin_6 : decode cX8_isWithin 6 = .ok (.iload_n 2, 1) := by decide +kernel
theorem dX8_isWithin_7 : decode cX8_isWithin 7 = .ok (.if_icmp .gt 7, 3) := by decide +kernel
theorem dX8_isWithin_10 : decode cX8_isWithin 10 = .ok (.iconst 1, 1) := by decide +kernel
theorem dX8_isWithin_11 : decode cX8_isWithin 11 = .ok (.goto 4, 3) := by decide +kernel
theorem dX8_isWithin_14 : decode cX8_isWithin 14 = .ok (.iconst 0, 1) := by decide +kernel
theorem dX8_isWithin_15 : decode cX8_isWithin 15 = .ok (.ireturn, 1) := by decide +kernel
set_option maxRecDepth 20000 in
theorem ggX8_isCell_X8_isWithin : GoodIn wsX8_isCell wsX8_isWithin := goodIn_r _ [4] (by decide +kernel) (by decide +kernel)
set_option maxRecDepth 20000 in
theorem gX8_isCell_X8_isWithin : GoodIn wsX8_isCell (va_wsS RX8 64 yX8_isWithin wsX8_isWithin) := goodIn_app (goodIn_of _ (by decide +kernel)) ggX8_isCell_X8_isWithin
theorem dX8_isCell_0 : decode cX8_isCell 0 = .ok (.iload_n 0, 1) := by decide +kernel
theorem dX8_isCell_1 : decode cX8_isCell 1 = .ok (.iconst 0, 1) := by decide +kernel
theorem dX8_isCell_2 : decode cX8_isCell 2 = .ok (.bipush 15, 2) := by decide +kernel
theorem dX8_isCell_4 : decode cX8_isCell 4 = .ok (.invokestatic 64, 3) := by decide +kernel
theorem dX8_isCell_7 : decode cX8_isCell 7 = .ok (.ireturn, 1) := by decide +kernel
set_option maxRecDepth 20000 in
theorem ggX8_isKind_X8_isWithin : GoodIn wsX8_isKind wsX8_isWithin := goodIn_r _ [4] (by decide +kernel) (by decide +kernel)
set_option maxRecDepth 20000 in
theorem gX8_isKind_X8_isWithin : GoodIn wsX8_isKind (va_wsS RX8 64 yX8_isWithin wsX8_isWithin) := goodIn_app (goodIn_of _ (by decide +kernel)) ggX8_isKind_X8_isWithin
theorem dX8_isKind_0 : decode cX8_isKind 0 = .ok (.iload_n 0, 1) := by decide +kernel
theorem dX8_isKind_1 : decode cX8_isKind 1 = .ok (.iconst 0, 1) := by decide +kernel
theorem dX8_isKind_2 : decode cX8_isKind 2 = .ok (.iconst 3, 1) := by decide +kernel
theorem dX8_isKind_3 : decode cX8_isKind 3 = .ok (.invokestatic 64, 3) := by decide +kernel
theorem dX8_isKind_6 : decode cX8_isKind 6 = .ok (.ireturn, 1) := by decide +kernel
set_option maxRecDepth 20000 in
theorem ggX8_isZone_X8_isWithin : GoodIn wsX8_isZone wsX8_isWithin := goodIn_r _ [4] (by decide +kernel) (by decide +kernel)
set_option maxRecDepth 20000 in
theorem gX8_isZone_X8_isWithin : GoodIn wsX8_isZone (va_wsS RX8 64 yX8_isWithin wsX8_isWithin) := goodIn_app (goodIn_of _ (by decide +kernel)) ggX8_isZone_X8_isWithin
theorem dX8_isZone_0 : decode cX8_isZone 0 = .ok (.iload_n 0, 1) := by decide +kernel
theorem dX8_isZone_1 : decode cX8_isZone 1 = .ok (.iconst 0, 1) := by decide +kernel
theorem dX8_isZone_2 : decode cX8_isZone 2 = .ok (.iconst 3, 1) := by decide +kernel
theorem dX8_isZone_3 : decode cX8_isZone 3 = .ok (.invokestatic 64, 3) := by decide +kernel
theorem dX8_isZone_6 : decode cX8_isZone 6 = .ok (.ireturn, 1) := by decide +kernel
set_option maxRecDepth 20000 in
theorem ggX8_isPlayer_X8_isWithin : GoodIn wsX8_isPlayer wsX8_isWithin := goodIn_r _ [4] (by decide +kernel) (by decide +kernel)
set_option maxRecDepth 20000 in
theorem gX8_isPlayer_X8_isWithin : GoodIn wsX8_isPlayer (va_wsS RX8 64 yX8_isWithin wsX8_isWithin) := goodIn_app (goodIn_of _ (by decide +kernel)) ggX8_isPlayer_X8_isWithin
theorem dX8_isPlayer_0 : decode cX8_isPlayer 0 = .ok (.iload_n 0, 1) := by decide +kernel
theorem dX8_isPlayer_1 : decode cX8_isPlayer 1 = .ok (.iconst 0, 1) := by decide +kernel
theorem dX8_isPlayer_2 : decode cX8_isPlayer 2 = .ok (.bipush 7, 2) := by decide +kernel
theorem dX8_isPlayer_4 : decode cX8_isPlayer 4 = .ok (.invokestatic 64, 3) := by decide +kernel
theorem dX8_isPlayer_7 : decode cX8_isPlayer 7 = .ok (.ireturn, 1) := by decide +kernel
