set_option maxRecDepth 20000 in
theorem lk_dX12_firstTouch_67 : th_dr cX12_firstTouch 67 = 21 :: 4 :: 21 :: 5 :: 182 :: 0 :: 178 :: 153 :: 0 :: 6 :: 21 :: 5 :: 172 :: 132 :: 5 :: 1 :: 167 :: 255 :: 176 :: 2 :: 172 :: th_dr cX12_firstTouch 88 := rfl
theorem bl_dX12_firstTouch_67 : decode cX12_firstTouch 67 = .ok (.iload 4, 2) ∧ decode cX12_firstTouch 69 = .ok (.iload 5, 2) ∧ decode cX12_firstTouch 71 = .ok (.invokevirtual 178, 3) ∧ decode cX12_firstTouch 74 = .ok (.ifCond .eq 6, 3) ∧ decode cX12_firstTouch 77 = .ok (.iload 5, 2) ∧ decode cX12_firstTouch 79 = .ok (.ireturn, 1) ∧ decode cX12_firstTouch 80 = .ok (.iinc 5 1, 3) ∧ decode cX12_firstTouch 83 = .ok (.goto (-80), 3) ∧ decode cX12_firstTouch 86 = .ok (.iconst (-1), 1) ∧ decode cX12_firstTouch 87 = .ok (.ireturn, 1) := op_21 lk_dX12_firstTouch_67 fun e => op_21 e fun e => op_182 e fun e => op_153p e rfl fun e => op_21 e fun e => op_172 e fun e => op_132p e rfl fun e => op_167n e rfl rfl fun e => op_2 e fun e => (op_172 e fun _ => True.intro).1
theorem dX12_firstTouch_67 : decode cX12_firstTouch 67 = .ok (.iload 4, 2) := bl_dX12_firstTouch_67.1
theorem dX12_firstTouch_69 : decode cX12_firstTouch 69 = .ok (.iload 5, 2) := bl_dX12_firstTouch_67.2.1
theorem dX12_firstTouch_71 : decode cX12_firstTouch 71 = .ok (.invokevirtual 178, 3) := bl_dX12_firstTouch_67.2.2.1
theorem dX12_firstTouch_74 : decode cX12_firstTouch 74 = .ok (.ifCond .eq 6, 3) := bl_dX12_firstTouch_67.2.2.2.1
theorem dX12_firstTouch_77 : decode cX12_firstTouch 77 = .ok (.iload 5, 2) := bl_dX12_firstTouch_67.2.2.2.2.1
theorem dX12_firstTouch_79 : decode cX12_firstTouch 79 = .ok (.ireturn, 1) := bl_dX12_firstTouch_67.2.2.2.2.2.1
theorem dX12_firstTouch_80 : decode cX12_firstTouch 80 = .ok (.iinc 5 1, 3) := bl_dX12_firstTouch_67.2.2.2.2.2.2.1
theorem dX12_firstTouch_83 : decode cX12_firstTouch 83 = .ok (.goto (-80), 3) := bl_dX12_firstTouch_67.2.2.2.2.2.2.2.1
theorem dX12_firstTouch_86 : decode cX12_firstTouch 86 = .ok (.iconst (-1), 1) := bl_dX12_firstTouch_67.2.2.2.2.2.2.2.2.1
theorem dX12_firstTouch_87 : decode cX12_firstTouch 87 = .ok (.ireturn, 1) := bl_dX12_firstTouch_67.2.2.2.2.2.2.2.2.2
set_option maxRecDepth 20000 in
theorem ggX12_touch_X12_isBoat : GoodIn wsX12_touch wsX12_isBoat := goodIn_q _ [(6, 4), (5, 1), (10, 1), (69, 38)] rfl gdwsX12_isBoat
set_option maxRecDepth 20000 in
theorem gX12_touch_X12_isBoat : GoodIn wsX12_touch (wsV RX12 125 RX12 yX12_isBoat wsX12_isBoat) := goodIn_app (goodIn_q _ [(2, 4)] rfl rfl) ggX12_touch_X12_isBoat
set_option maxRecDepth 20000 in
theorem ggX12_touch_X12_isBuoy : GoodIn wsX12_touch wsX12_isBuoy := goodIn_q _ [(14, 2), (8, 2), (5, 1), (10, 1), (69, 38)] rfl gdwsX12_isBuoy
set_option maxRecDepth 20000 in
theorem gX12_touch_X12_isBuoy : GoodIn wsX12_touch (wsV RX12 139 RX12 yX12_isBuoy wsX12_isBuoy) := goodIn_app (goodIn_q _ [(11, 3), (5, 1)] rfl rfl) ggX12_touch_X12_isBuoy
set_option maxRecDepth 20000 in
theorem ggX12_touch_X12_finding : GoodIn wsX12_touch wsX12_finding := goodIn_q _ [(19, 3), (69, 38)] rfl gdwsX12_finding
set_option maxRecDepth 20000 in
theorem gX12_touch_X12_finding : GoodIn wsX12_touch (wsV RX12 120 RX12 yX12_finding wsX12_finding) := goodIn_app (goodIn_q _ [(16, 3), (5, 1)] rfl rfl) ggX12_touch_X12_finding
set_option maxRecDepth 20000 in
theorem gdwsX12_firstTouch : wsX12_firstTouch.all goodWord = true := by decide +kernel
set_option maxRecDepth 20000 in
theorem ggX12_touch_X12_firstTouch : GoodIn wsX12_touch wsX12_firstTouch := goodIn_q _ [(25, 5), (5, 1), (30, 77)] rfl gdwsX12_firstTouch
set_option maxRecDepth 20000 in
theorem gX12_touch_X12_firstTouch : GoodIn wsX12_touch (wsV RX12 182 RX12 yX12_firstTouch wsX12_firstTouch) := goodIn_app (goodIn_q _ [(22, 3), (5, 1)] rfl rfl) ggX12_touch_X12_firstTouch
theorem lk_dX12_touch_0 : th_dr cX12_touch 0 = 42 :: 27 :: 182 :: 0 :: 125 :: 153 :: 0 :: 39 :: 42 :: 28 :: 182 :: 0 :: 139 :: 153 :: 0 :: 31 :: 42 :: 29 :: 182 :: 0 :: 125 :: 153 :: 0 :: 23 :: 42 :: 21 :: 4 :: 182 :: 0 :: 139 :: 153 :: 0 :: 14 :: th_dr cX12_touch 33 := rfl
theorem bl_dX12_touch_0 : decode cX12_touch 0 = .ok (.aload_n 0, 1) ∧ decode cX12_touch 1 = .ok (.iload_n 1, 1) ∧ decode cX12_touch 2 = .ok (.invokevirtual 125, 3) ∧ decode cX12_touch 5 = .ok (.ifCond .eq 39, 3) ∧ decode cX12_touch 8 = .ok (.aload_n 0, 1) ∧ decode cX12_touch 9 = .ok (.iload_n 2, 1) ∧ decode cX12_touch 10 = .ok (.invokevirtual 139, 3) ∧ decode cX12_touch 13 = .ok (.ifCond .eq 31, 3) ∧ decode cX12_touch 16 = .ok (.aload_n 0, 1) ∧ decode cX12_touch 17 = .ok (.iload_n 3, 1) ∧ decode cX12_touch 18 = .ok (.invokevirtual 125, 3) ∧ decode cX12_touch 21 = .ok (.ifCond .eq 23, 3) ∧ decode cX12_touch 24 = .ok (.aload_n 0, 1) ∧ decode cX12_touch 25 = .ok (.iload 4, 2) ∧ decode cX12_touch 27 = .ok (.invokevirtual 139, 3) ∧ decode cX12_touch 30 = .ok (.ifCond .eq 14, 3) := op_42 lk_dX12_touch_0 fun e => op_27 e fun e => op_182 e fun e => op_153p e rfl fun e => op_42 e fun e => op_28 e fun e => op_182 e fun e => op_153p e rfl fun e => op_42 e fun e => op_29 e fun e => op_182 e fun e => op_153p e rfl fun e => op_42 e fun e => op_21 e fun e => op_182 e fun e => (op_153p e rfl fun _ => True.intro).1
theorem dX12_touch_0 : decode cX12_touch 0 = .ok (.aload_n 0, 1) := bl_dX12_touch_0.1
theorem dX12_touch_1 : decode cX12_touch 1 = .ok (.iload_n 1, 1) := bl_dX12_touch_0.2.1
theorem dX12_touch_2 : decode cX12_touch 2 = .ok (.invokevirtual 125, 3) := bl_dX12_touch_0.2.2.1
theorem dX12_touch_5 : decode cX12_touch 5 = .ok (.ifCond .eq 39, 3) := bl_dX12_touch_0.2.2.2.1
theorem dX12_touch_8 : decode cX12_touch 8 = .ok (.aload_n 0, 1) := bl_dX12_touch_0.2.2.2.2.1
theorem dX12_touch_9 : decode cX12_touch 9 = .ok (.iload_n 2, 1) := bl_dX12_touch_0.2.2.2.2.2.1
theorem dX12_touch_10 : decode cX12_touch 10 = .ok (.invokevirtual 139, 3) := bl_dX12_touch_0.2.2.2.2.2.2.1
theorem dX12_touch_13 : decode cX12_touch 13 = .ok (.ifCond .eq 31, 3) := bl_dX12_touch_0.2.2.2.2.2.2.2.1
theorem dX12_touch_16 : decode cX12_touch 16 = .ok (.aload_n 0, 1) := bl_dX12_touch_0.2.2.2.2.2.2.2.2.1
theorem dX12_touch_17 : decode cX12_touch 17 = .ok (.iload_n 3, 1) := bl_dX12_touch_0.2.2.2.2.2.2.2.2.2.1
theorem dX12_touch_18 : decode cX12_touch 18 = .ok (.invokevirtual 125, 3) := bl_dX12_touch_0.2.2.2.2.2.2.2.2.2.2.1
theorem dX12_touch_21 : decode cX12_touch 21 = .ok (.ifCond .eq 23, 3) := bl_dX12_touch_0.2.2.2.2.2.2.2.2.2.2.2.1
theorem dX12_touch_24 : decode cX12_touch 24 = .ok (.aload_n 0, 1) := bl_dX12_touch_0.2.2.2.2.2.2.2.2.2.2.2.2.1
theorem dX12_touch_25 : decode cX12_touch 25 = .ok (.iload 4, 2) := bl_dX12_touch_0.2.2.2.2.2.2.2.2.2.2.2.2.2.1
theorem dX12_touch_27 : decode cX12_touch 27 = .ok (.invokevirtual 139, 3) := bl_dX12_touch_0.2.2.2.2.2.2.2.2.2.2.2.2.2.2.1
theorem dX12_touch_30 : decode cX12_touch 30 = .ok (.ifCond .eq 14, 3) := bl_dX12_touch_0.2.2.2.2.2.2.2.2.2.2.2.2.2.2.2
theorem lk_dX12_touch_33 : th_dr cX12_touch 33 = 27 :: 29 :: 159 :: 0 :: 9 :: 28 :: 21 :: 4 :: 160 :: 0 :: 10 :: 42 :: 18 :: 119 :: 182 :: 0 :: 120 :: 172 :: 42 :: 27 :: 28 :: 29 :: 21 :: 4 :: 182 :: 0 :: 182 :: th_dr cX12_touch 60 := rfl
theorem bl_dX12_touch_33 : decode cX12_touch 33 = .ok (.iload_n 1, 1) ∧ decode cX12_touch 34 = .ok (.iload_n 3, 1) ∧ decode cX12_touch 35 = .ok (.if_icmp .eq 9, 3) ∧ decode cX12_touch 38 = .ok (.iload_n 2, 1) ∧ decode cX12_touch 39 = .ok (.iload 4, 2) ∧ decode cX12_touch 41 = .ok (.if_icmp .ne 10, 3) ∧ decode cX12_touch 44 = .ok (.aload_n 0, 1) ∧ decode cX12_touch 45 = .ok (.ldc 119, 2) ∧ decode cX12_touch 47 = .ok (.invokevirtual 120, 3) ∧ decode cX12_touch 50 = .ok (.ireturn, 1) ∧ decode cX12_touch 51 = .ok (.aload_n 0, 1) ∧ decode cX12_touch 52 = .ok (.iload_n 1, 1) ∧ decode cX12_touch 53 = .ok (.iload_n 2, 1) ∧ decode cX12_touch 54 = .ok (.iload_n 3, 1) ∧ decode cX12_touch 55 = .ok (.iload 4, 2) ∧ decode cX12_touch 57 = .ok (.invokevirtual 182, 3) := op_27 lk_dX12_touch_33 fun e => op_29 e fun e => op_159p e rfl fun e => op_28 e fun e => op_21 e fun e => op_160p e rfl fun e => op_42 e fun e => op_18 e fun e => op_182 e fun e => op_172 e fun e => op_42 e fun e => op_27 e fun e => op_28 e fun e => op_29 e fun e => op_21 e fun e => (op_182 e fun _ => True.intro).1
theorem dX12_touch_33 : decode cX12_touch 33 = .ok (.iload_n 1, 1) := bl_dX12_touch_33.1
theorem dX12_touch_34 : decode cX12_touch 34 = .ok (.iload_n 3, 1) := bl_dX12_touch_33.2.1
theorem dX12_touch_35 : decode cX12_touch 35 = .ok (.if_icmp .eq 9, 3) := bl_dX12_touch_33.2.2.1
theorem dX12_touch_38 : decode cX12_touch 38 = .ok (.iload_n 2, 1) := bl_dX12_touch_33.2.2.2.1
theorem dX12_touch_39 : decode cX12_touch 39 = .ok (.iload 4, 2) := bl_dX12_touch_33.2.2.2.2.1
theorem dX12_touch_41 : decode cX12_touch 41 = .ok (.if_icmp .ne 10, 3) := bl_dX12_touch_33.2.2.2.2.2.1
theorem dX12_touch_44 : decode cX12_touch 44 = .ok (.aload_n 0, 1) := bl_dX12_touch_33.2.2.2.2.2.2.1
theorem dX12_touch_45 : decode cX12_touch 45 = .ok (.ldc 119, 2) := bl_dX12_touch_33.2.2.2.2.2.2.2.1
theorem dX12_touch_47 : decode cX12_touch 47 = .ok (.invokevirtual 120, 3) := bl_dX12_touch_33.2.2.2.2.2.2.2.2.1
theorem dX12_touch_50 : decode cX12_touch 50 = .ok (.ireturn, 1) := bl_dX12_touch_33.2.2.2.2.2.2.2.2.2.1
theorem dX12_touch_51 : decode cX12_touch 51 = .ok (.aload_n 0, 1) := bl_dX12_touch_33.2.2.2.2.2.2.2.2.2.2.1
theorem dX12_touch_52 : decode cX12_touch 52 = .ok (.iload_n 1, 1) := bl_dX12_touch_33.2.2.2.2.2.2.2.2.2.2.2.1
theorem dX12_touch_53 : decode cX12_touch 53 = .ok (.iload_n 2, 1) := bl_dX12_touch_33.2.2.2.2.2.2.2.2.2.2.2.2.1
theorem dX12_touch_54 : decode cX12_touch 54 = .ok (.iload_n 3, 1) := bl_dX12_touch_33.2.2.2.2.2.2.2.2.2.2.2.2.2.1
theorem dX12_touch_55 : decode cX12_touch 55 = .ok (.iload 4, 2) := bl_dX12_touch_33.2.2.2.2.2.2.2.2.2.2.2.2.2.2.1
theorem dX12_touch_57 : decode cX12_touch 57 = .ok (.invokevirtual 182, 3) := bl_dX12_touch_33.2.2.2.2.2.2.2.2.2.2.2.2.2.2.2
set_option maxRecDepth 20000 in
theorem lk_dX12_touch_60 : th_dr cX12_touch 60 = 172 :: th_dr cX12_touch 61 := rfl
theorem dX12_touch_60 : decode cX12_touch 60 = .ok (.ireturn, 1) := (op_172 lk_dX12_touch_60 fun _ => True.intro).1
set_option maxRecDepth 20000 in
theorem ggX12_mayLie_X12_canFit : GoodIn wsX12_mayLie wsX12_canFit := goodIn_q _ [(6, 7), (55, 38)] rfl gdwsX12_canFit
set_option maxRecDepth 20000 in
theorem gX12_mayLie_X12_canFit : GoodIn wsX12_mayLie (wsV RX12 155 RX12 yX12_canFit wsX12_canFit) := goodIn_app (goodIn_q _ [(2, 4)] rfl rfl) ggX12_mayLie_X12_canFit
set_option maxRecDepth 20000 in
theorem ggX12_mayLie_X12_firstTouch : GoodIn wsX12_mayLie wsX12_firstTouch := goodIn_q _ [(16, 1), (12, 1), (17, 3), (5, 1), (20, 14), (11, 1), (10, 1), (34, 7), (7, 1), (9, 1), (41, 52)] rfl gdwsX12_firstTouch
set_option maxRecDepth 20000 in
theorem gX12_mayLie_X12_firstTouch : GoodIn wsX12_mayLie (wsV RX12 182 RX12 yX12_firstTouch wsX12_firstTouch) := goodIn_app (goodIn_q _ [(13, 3), (5, 1)] rfl rfl) ggX12_mayLie_X12_firstTouch
theorem lk_dX12_mayLie_0 : th_dr cX12_mayLie 0 = 42 :: 27 :: 28 :: 182 :: 0 :: 155 :: 154 :: 0 :: 5 :: 3 :: 172 :: 3 :: 54 :: 4 :: 21 :: 4 :: 42 :: 180 :: 0 :: 116 :: 162 :: 0 :: 47 :: 21 :: 4 :: 27 :: 159 :: 0 :: 35 :: th_dr cX12_mayLie 29 := rfl
theorem bl_dX12_mayLie_0 : decode cX12_mayLie 0 = .ok (.aload_n 0, 1) ∧ decode cX12_mayLie 1 = .ok (.iload_n 1, 1) ∧ decode cX12_mayLie 2 = .ok (.iload_n 2, 1) ∧ decode cX12_mayLie 3 = .ok (.invokevirtual 155, 3) ∧ decode cX12_mayLie 6 = .ok (.ifCond .ne 5, 3) ∧ decode cX12_mayLie 9 = .ok (.iconst 0, 1) ∧ decode cX12_mayLie 10 = .ok (.ireturn, 1) ∧ decode cX12_mayLie 11 = .ok (.iconst 0, 1) ∧ decode cX12_mayLie 12 = .ok (.istore 4, 2) ∧ decode cX12_mayLie 14 = .ok (.iload 4, 2) ∧ decode cX12_mayLie 16 = .ok (.aload_n 0, 1) ∧ decode cX12_mayLie 17 = .ok (.getfield 116, 3) ∧ decode cX12_mayLie 20 = .ok (.if_icmp .ge 47, 3) ∧ decode cX12_mayLie 23 = .ok (.iload 4, 2) ∧ decode cX12_mayLie 25 = .ok (.iload_n 1, 1) ∧ decode cX12_mayLie 26 = .ok (.if_icmp .eq 35, 3) := op_42 lk_dX12_mayLie_0 fun e => op_27 e fun e => op_28 e fun e => op_182 e fun e => op_154p e rfl fun e => op_3 e fun e => op_172 e fun e => op_3 e fun e => op_54 e fun e => op_21 e fun e => op_42 e fun e => op_180 e fun e => op_162p e rfl fun e => op_21 e fun e => op_27 e fun e => (op_159p e rfl fun _ => True.intro).1
theorem dX12_mayLie_0 : decode cX12_mayLie 0 = .ok (.aload_n 0, 1) := bl_dX12_mayLie_0.1
theorem dX12_mayLie_1 : decode cX12_mayLie 1 = .ok (.iload_n 1, 1) := bl_dX12_mayLie_0.2.1
theorem dX12_mayLie_2 : decode cX12_mayLie 2 = .ok (.iload_n 2, 1) := bl_dX12_mayLie_0.2.2.1
theorem dX12_mayLie_3 : decode cX12_mayLie 3 = .ok (.invokevirtual 155, 3) := bl_dX12_mayLie_0.2.2.2.1
theorem dX12_mayLie_6 : decode cX12_mayLie 6 = .ok (.ifCond .ne 5, 3) := bl_dX12_mayLie_0.2.2.2.2.1
theorem dX12_mayLie_9 : decode cX12_mayLie 9 = .ok (.iconst 0, 1) := bl_dX12_mayLie_0.2.2.2.2.2.1
theorem dX12_mayLie_10 : decode cX12_mayLie 10 = .ok (.ireturn, 1) := bl_dX12_mayLie_0.2.2.2.2.2.2.1
theorem dX12_mayLie_11 : decode cX12_mayLie 11 = .ok (.iconst 0, 1) := bl_dX12_mayLie_0.2.2.2.2.2.2.2.1
theorem dX12_mayLie_12 : decode cX12_mayLie 12 = .ok (.istore 4, 2) := bl_dX12_mayLie_0.2.2.2.2.2.2.2.2.1
theorem dX12_mayLie_14 : decode cX12_mayLie 14 = .ok (.iload 4, 2) := bl_dX12_mayLie_0.2.2.2.2.2.2.2.2.2.1
theorem dX12_mayLie_16 : decode cX12_mayLie 16 = .ok (.aload_n 0, 1) := bl_dX12_mayLie_0.2.2.2.2.2.2.2.2.2.2.1
theorem dX12_mayLie_17 : decode cX12_mayLie 17 = .ok (.getfield 116, 3) := bl_dX12_mayLie_0.2.2.2.2.2.2.2.2.2.2.2.1
theorem dX12_mayLie_20 : decode cX12_mayLie 20 = .ok (.if_icmp .ge 47, 3) := bl_dX12_mayLie_0.2.2.2.2.2.2.2.2.2.2.2.2.1
theorem dX12_mayLie_23 : decode cX12_mayLie 23 = .ok (.iload 4, 2) := bl_dX12_mayLie_0.2.2.2.2.2.2.2.2.2.2.2.2.2.1
theorem dX12_mayLie_25 : decode cX12_mayLie 25 = .ok (.iload_n 1, 1) := bl_dX12_mayLie_0.2.2.2.2.2.2.2.2.2.2.2.2.2.2.1
theorem dX12_mayLie_26 : decode cX12_mayLie 26 = .ok (.if_icmp .eq 35, 3) := bl_dX12_mayLie_0.2.2.2.2.2.2.2.2.2.2.2.2.2.2.2
theorem lk_dX12_mayLie_29 : th_dr cX12_mayLie 29 = 45 :: 21 :: 4 :: 46 :: 155 :: 0 :: 28 :: 45 :: 21 :: 4 :: 46 :: 28 :: 159 :: 0 :: 18 :: 42 :: 27 :: 28 :: 21 :: 4 :: 45 :: 21 :: 4 :: 46 :: th_dr cX12_mayLie 53 := rfl
theorem bl_dX12_mayLie_29 : decode cX12_mayLie 29 = .ok (.aload_n 3, 1) ∧ decode cX12_mayLie 30 = .ok (.iload 4, 2) ∧ decode cX12_mayLie 32 = .ok (.iaload, 1) ∧ decode cX12_mayLie 33 = .ok (.ifCond .lt 28, 3) ∧ decode cX12_mayLie 36 = .ok (.aload_n 3, 1) ∧ decode cX12_mayLie 37 = .ok (.iload 4, 2) ∧ decode cX12_mayLie 39 = .ok (.iaload, 1) ∧ decode cX12_mayLie 40 = .ok (.iload_n 2, 1) ∧ decode cX12_mayLie 41 = .ok (.if_icmp .eq 18, 3) ∧ decode cX12_mayLie 44 = .ok (.aload_n 0, 1) ∧ decode cX12_mayLie 45 = .ok (.iload_n 1, 1) ∧ decode cX12_mayLie 46 = .ok (.iload_n 2, 1) ∧ decode cX12_mayLie 47 = .ok (.iload 4, 2) ∧ decode cX12_mayLie 49 = .ok (.aload_n 3, 1) ∧ decode cX12_mayLie 50 = .ok (.iload 4, 2) ∧ decode cX12_mayLie 52 = .ok (.iaload, 1) := op_45 lk_dX12_mayLie_29 fun e => op_21 e fun e => op_46 e fun e => op_155p e rfl fun e => op_45 e fun e => op_21 e fun e => op_46 e fun e => op_28 e fun e => op_159p e rfl fun e => op_42 e fun e => op_27 e fun e => op_28 e fun e => op_21 e fun e => op_45 e fun e => op_21 e fun e => (op_46 e fun _ => True.intro).1
theorem dX12_mayLie_29 : decode cX12_mayLie 29 = .ok (.aload_n 3, 1) := bl_dX12_mayLie_29.1
theorem dX12_mayLie_30 : decode cX12_mayLie 30 = .ok (.iload 4, 2) := bl_dX12_mayLie_29.2.1
theorem dX12_mayLie_32 : decode cX12_mayLie 32 = .ok (.iaload, 1) := bl_dX12_mayLie_29.2.2.1
theorem dX12_mayLie_33 : decode cX12_mayLie 33 = .ok (.ifCond .lt 28, 3) := bl_dX12_mayLie_29.2.2.2.1
theorem dX12_mayLie_36 : decode cX12_mayLie 36 = .ok (.aload_n 3, 1) := bl_dX12_mayLie_29.2.2.2.2.1
theorem dX12_mayLie_37 : decode cX12_mayLie 37 = .ok (.iload 4, 2) := bl_dX12_mayLie_29.2.2.2.2.2.1
theorem dX12_mayLie_39 : decode cX12_mayLie 39 = .ok (.iaload, 1) := bl_dX12_mayLie_29.2.2.2.2.2.2.1
theorem dX12_mayLie_40 : decode cX12_mayLie 40 = .ok (.iload_n 2, 1) := bl_dX12_mayLie_29.2.2.2.2.2.2.2.1
theorem dX12_mayLie_41 : decode cX12_mayLie 41 = .ok (.if_icmp .eq 18, 3) := bl_dX12_mayLie_29.2.2.2.2.2.2.2.2.1
theorem dX12_mayLie_44 : decode cX12_mayLie 44 = .ok (.aload_n 0, 1) := bl_dX12_mayLie_29.2.2.2.2.2.2.2.2.2.1
theorem dX12_mayLie_45 : decode cX12_mayLie 45 = .ok (.iload_n 1, 1) := bl_dX12_mayLie_29.2.2.2.2.2.2.2.2.2.2.1
theorem dX12_mayLie_46 : decode cX12_mayLie 46 = .ok (.iload_n 2, 1) := bl_dX12_mayLie_29.2.2.2.2.2.2.2.2.2.2.2.1
theorem dX12_mayLie_47 : decode cX12_mayLie 47 = .ok (.iload 4, 2) := bl_dX12_mayLie_29.2.2.2.2.2.2.2.2.2.2.2.2.1
theorem dX12_mayLie_49 : decode cX12_mayLie 49 = .ok (.aload_n 3, 1) := bl_dX12_mayLie_29.2.2.2.2.2.2.2.2.2.2.2.2.2.1
theorem dX12_mayLie_50 : decode cX12_mayLie 50 = .ok (.iload 4, 2) := bl_dX12_mayLie_29.2.2.2.2.2.2.2.2.2.2.2.2.2.2.1
theorem dX12_mayLie_52 : decode cX12_mayLie 52 = .ok (.iaload, 1) := bl_dX12_mayLie_29.2.2.2.2.2.2.2.2.2.2.2.2.2.2.2
set_option maxRecDepth 20000 in
theorem lk_dX12_mayLie_53 : th_dr cX12_mayLie 53 = 182 :: 0 :: 182 :: 155 :: 0 :: 5 :: 3 :: 172 :: 132 :: 4 :: 1 :: 167 :: 255 :: 206 :: 4 :: 172 :: th_dr cX12_mayLie 69 := rfl
theorem bl_dX12_mayLie_53 : decode cX12_mayLie 53 = .ok (.invokevirtual 182, 3) ∧ decode cX12_mayLie 56 = .ok (.ifCond .lt 5, 3) ∧ decode cX12_mayLie 59 = .ok (.iconst 0, 1) ∧ decode cX12_mayLie 60 = .ok (.ireturn, 1) ∧ decode cX12_mayLie 61 = .ok (.iinc 4 1, 3) ∧ decode cX12_mayLie 64 = .ok (.goto (-50), 3) ∧ decode cX12_mayLie 67 = .ok (.iconst 1, 1) ∧ decode cX12_mayLie 68 = .ok (.ireturn, 1) := op_182 lk_dX12_mayLie_53 fun e => op_155p e rfl fun e => op_3 e fun e => op_172 e fun e => op_132p e rfl fun e => op_167n e rfl rfl fun e => op_4 e fun e => (op_172 e fun _ => True.intro).1
theorem dX12_mayLie_53 : decode cX12_mayLie 53 = .ok (.invokevirtual 182, 3) := bl_dX12_mayLie_53.1
theorem dX12_mayLie_56 : decode cX12_mayLie 56 = .ok (.ifCond .lt 5, 3) := bl_dX12_mayLie_53.2.1
theorem dX12_mayLie_59 : decode cX12_mayLie 59 = .ok (.iconst 0, 1) := bl_dX12_mayLie_53.2.2.1
theorem dX12_mayLie_60 : decode cX12_mayLie 60 = .ok (.ireturn, 1) := bl_dX12_mayLie_53.2.2.2.1
theorem dX12_mayLie_61 : decode cX12_mayLie 61 = .ok (.iinc 4 1, 3) := bl_dX12_mayLie_53.2.2.2.2.1
theorem dX12_mayLie_64 : decode cX12_mayLie 64 = .ok (.goto (-50), 3) := bl_dX12_mayLie_53.2.2.2.2.2.1
theorem dX12_mayLie_67 : decode cX12_mayLie 67 = .ok (.iconst 1, 1) := bl_dX12_mayLie_53.2.2.2.2.2.2.1
theorem dX12_mayLie_68 : decode cX12_mayLie 68 = .ok (.ireturn, 1) := bl_dX12_mayLie_53.2.2.2.2.2.2.2
theorem lk_dX12_lies_0 : th_dr cX12_lies 0 = 42 :: 180 :: 0 :: 40 :: 27 :: 28 :: 79 :: 42 :: 180 :: 0 :: 28 :: 28 :: 27 :: 79 :: 177 :: th_dr cX12_lies 15 := rfl
theorem bl_dX12_lies_0 : decode cX12_lies 0 = .ok (.aload_n 0, 1) ∧ decode cX12_lies 1 = .ok (.getfield 40, 3) ∧ decode cX12_lies 4 = .ok (.iload_n 1, 1) ∧ decode cX12_lies 5 = .ok (.iload_n 2, 1) ∧ decode cX12_lies 6 = .ok (.iastore, 1) ∧ decode cX12_lies 7 = .ok (.aload_n 0, 1) ∧ decode cX12_lies 8 = .ok (.getfield 28, 3) ∧ decode cX12_lies 11 = .ok (.iload_n 2, 1) ∧ decode cX12_lies 12 = .ok (.iload_n 1, 1) ∧ decode cX12_lies 13 = .ok (.iastore, 1) ∧ decode cX12_lies 14 = .ok (.return_, 1) := op_42 lk_dX12_lies_0 fun e => op_180 e fun e => op_27 e fun e => op_28 e fun e => op_79 e fun e => op_42 e fun e => op_180 e fun e => op_28 e fun e => op_27 e fun e => op_79 e fun e => (op_177 e fun _ => True.intro).1
theorem dX12_lies_0 : decode cX12_lies 0 = .ok (.aload_n 0, 1) := bl_dX12_lies_0.1
theorem dX12_lies_1 : decode cX12_lies 1 = .ok (.getfield 40, 3) := bl_dX12_lies_0.2.1
theorem dX12_lies_4 : decode cX12_lies 4 = .ok (.iload_n 1, 1) := bl_dX12_lies_0.2.2.1
theorem dX12_lies_5 : decode cX12_lies 5 = .ok (.iload_n 2, 1) := bl_dX12_lies_0.2.2.2.1
theorem dX12_lies_6 : decode cX12_lies 6 = .ok (.iastore, 1) := bl_dX12_lies_0.2.2.2.2.1
theorem dX12_lies_7 : decode cX12_lies 7 = .ok (.aload_n 0, 1) := bl_dX12_lies_0.2.2.2.2.2.1
theorem dX12_lies_8 : decode cX12_lies 8 = .ok (.getfield 28, 3) := bl_dX12_lies_0.2.2.2.2.2.2.1
theorem dX12_lies_11 : decode cX12_lies 11 = .ok (.iload_n 2, 1) := bl_dX12_lies_0.2.2.2.2.2.2.2.1
theorem dX12_lies_12 : decode cX12_lies 12 = .ok (.iload_n 1, 1) := bl_dX12_lies_0.2.2.2.2.2.2.2.2.1
theorem dX12_lies_13 : decode cX12_lies 13 = .ok (.iastore, 1) := bl_dX12_lies_0.2.2.2.2.2.2.2.2.2.1
theorem dX12_lies_14 : decode cX12_lies 14 = .ok (.return_, 1) := bl_dX12_lies_0.2.2.2.2.2.2.2.2.2.2
set_option maxRecDepth 20000 in
theorem ggX12_moor_X12_isBoat : GoodIn wsX12_moor wsX12_isBoat := goodIn_q _ [(10, 4), (9, 1), (14, 1), (96, 38)] rfl gdwsX12_isBoat
set_option maxRecDepth 20000 in
theorem gX12_moor_X12_isBoat : GoodIn wsX12_moor (wsV RX12 125 RX12 yX12_isBoat wsX12_isBoat) := goodIn_app (goodIn_q _ [(6, 4)] rfl rfl) ggX12_moor_X12_isBoat
set_option maxRecDepth 20000 in
theorem ggX12_moor_X12_isBuoy : GoodIn wsX12_moor wsX12_isBuoy := goodIn_q _ [(18, 2), (12, 2), (9, 1), (14, 1), (96, 38)] rfl gdwsX12_isBuoy
set_option maxRecDepth 20000 in
theorem gX12_moor_X12_isBuoy : GoodIn wsX12_moor (wsV RX12 139 RX12 yX12_isBuoy wsX12_isBuoy) := goodIn_app (goodIn_q _ [(15, 3), (9, 1)] rfl rfl) ggX12_moor_X12_isBuoy
set_option maxRecDepth 20000 in
theorem ggX12_moor_X12_finding : GoodIn wsX12_moor wsX12_finding := goodIn_q _ [(23, 3), (96, 38)] rfl gdwsX12_finding
set_option maxRecDepth 20000 in
theorem gX12_moor_X12_finding : GoodIn wsX12_moor (wsV RX12 120 RX12 yX12_finding wsX12_finding) := goodIn_app (goodIn_q _ [(20, 3), (9, 1)] rfl rfl) ggX12_moor_X12_finding
set_option maxRecDepth 20000 in
theorem gdwsX12_mayLie : wsX12_mayLie.all goodWord = true := by decide +kernel
set_option maxRecDepth 20000 in
theorem ggX12_moor_X12_mayLie : GoodIn wsX12_moor wsX12_mayLie := goodIn_q _ [(29, 1), (11, 1), (30, 3), (9, 1), (33, 49), (96, 38)] rfl gdwsX12_mayLie
set_option maxRecDepth 20000 in
theorem gX12_moor_X12_mayLie : GoodIn wsX12_moor (wsV RX12 187 RX12 yX12_mayLie wsX12_mayLie) := goodIn_app (goodIn_q _ [(26, 3), (9, 1)] rfl rfl) ggX12_moor_X12_mayLie
set_option maxRecDepth 20000 in
theorem gdwsX12_lies : wsX12_lies.all goodWord = true := by decide +kernel
set_option maxRecDepth 20000 in
theorem ggX12_moor_X12_lies : GoodIn wsX12_moor wsX12_lies := goodIn_q _ [(85, 1), (2, 2), (96, 38)] rfl gdwsX12_lies
set_option maxRecDepth 20000 in
theorem gX12_moor_X12_lies : GoodIn wsX12_moor (wsV RX12 192 RX12 yX12_lies wsX12_lies) := goodIn_app (goodIn_q _ [(82, 3), (9, 1)] rfl rfl) ggX12_moor_X12_lies
set_option maxRecDepth 20000 in
theorem ggX12_moor_X12_placeOnList : GoodIn wsX12_moor wsX12_placeOnList := goodIn_q _ [(89, 3), (96, 38)] rfl gdwsX12_placeOnList
set_option maxRecDepth 20000 in
theorem gX12_moor_X12_placeOnList : GoodIn wsX12_moor (wsV RX12 136 RX12 yX12_placeOnList wsX12_placeOnList) := goodIn_app (goodIn_q _ [(86, 3), (9, 1)] rfl rfl) ggX12_moor_X12_placeOnList
set_option maxRecDepth 20000 in
theorem gdwsX12_goesOff : wsX12_goesOff.all goodWord = true := by decide +kernel
set_option maxRecDepth 20000 in
theorem ggX12_moor_X12_goesOff : GoodIn wsX12_moor wsX12_goesOff := goodIn_q _ [(95, 1), (90, 2), (96, 38)] rfl gdwsX12_goesOff
set_option maxRecDepth 20000 in
theorem gX12_moor_X12_goesOff : GoodIn wsX12_moor (wsV RX12 196 RX12 yX12_goesOff wsX12_goesOff) := goodIn_app (goodIn_q _ [(92, 3), (9, 1)] rfl rfl) ggX12_moor_X12_goesOff
theorem lk_dX12_moor_0 : th_dr cX12_moor 0 = 42 :: 27 :: 182 :: 0 :: 125 :: 153 :: 0 :: 11 :: 42 :: 28 :: 182 :: 0 :: 139 :: 154 :: 0 :: 10 :: 42 :: 18 :: 119 :: 182 :: 0 :: 120 :: 172 :: 42 :: 180 :: 0 :: 40 :: 27 :: 46 :: th_dr cX12_moor 29 := rfl
theorem bl_dX12_moor_0 : decode cX12_moor 0 = .ok (.aload_n 0, 1) ∧ decode cX12_moor 1 = .ok (.iload_n 1, 1) ∧ decode cX12_moor 2 = .ok (.invokevirtual 125, 3) ∧ decode cX12_moor 5 = .ok (.ifCond .eq 11, 3) ∧ decode cX12_moor 8 = .ok (.aload_n 0, 1) ∧ decode cX12_moor 9 = .ok (.iload_n 2, 1) ∧ decode cX12_moor 10 = .ok (.invokevirtual 139, 3) ∧ decode cX12_moor 13 = .ok (.ifCond .ne 10, 3) ∧ decode cX12_moor 16 = .ok (.aload_n 0, 1) ∧ decode cX12_moor 17 = .ok (.ldc 119, 2) ∧ decode cX12_moor 19 = .ok (.invokevirtual 120, 3) ∧ decode cX12_moor 22 = .ok (.ireturn, 1) ∧ decode cX12_moor 23 = .ok (.aload_n 0, 1) ∧ decode cX12_moor 24 = .ok (.getfield 40, 3) ∧ decode cX12_moor 27 = .ok (.iload_n 1, 1) ∧ decode cX12_moor 28 = .ok (.iaload, 1) := op_42 lk_dX12_moor_0 fun e => op_27 e fun e => op_182 e fun e => op_153p e rfl fun e => op_42 e fun e => op_28 e fun e => op_182 e fun e => op_154p e rfl fun e => op_42 e fun e => op_18 e fun e => op_182 e fun e => op_172 e fun e => op_42 e fun e => op_180 e fun e => op_27 e fun e => (op_46 e fun _ => True.intro).1
theorem dX12_moor_0 : decode cX12_moor 0 = .ok (.aload_n 0, 1) := bl_dX12_moor_0.1
theorem dX12_moor_1 : decode cX12_moor 1 = .ok (.iload_n 1, 1) := bl_dX12_moor_0.2.1
theorem dX12_moor_2 : decode cX12_moor 2 = .ok (.invokevirtual 125, 3) := bl_dX12_moor_0.2.2.1
theorem dX12_moor_5 : decode cX12_moor 5 = .ok (.ifCond .eq 11, 3) := bl_dX12_moor_0.2.2.2.1
theorem dX12_moor_8 : decode cX12_moor 8 = .ok (.aload_n 0, 1) := bl_dX12_moor_0.2.2.2.2.1
theorem dX12_moor_9 : decode cX12_moor 9 = .ok (.iload_n 2, 1) := bl_dX12_moor_0.2.2.2.2.2.1
theorem dX12_moor_10 : decode cX12_moor 10 = .ok (.invokevirtual 139, 3) := bl_dX12_moor_0.2.2.2.2.2.2.1
theorem dX12_moor_13 : decode cX12_moor 13 = .ok (.ifCond .ne 10, 3) := bl_dX12_moor_0.2.2.2.2.2.2.2.1
theorem dX12_moor_16 : decode cX12_moor 16 = .ok (.aload_n 0, 1) := bl_dX12_moor_0.2.2.2.2.2.2.2.2.1
theorem dX12_moor_17 : decode cX12_moor 17 = .ok (.ldc 119, 2) := bl_dX12_moor_0.2.2.2.2.2.2.2.2.2.1
theorem dX12_moor_19 : decode cX12_moor 19 = .ok (.invokevirtual 120, 3) := bl_dX12_moor_0.2.2.2.2.2.2.2.2.2.2.1
theorem dX12_moor_22 : decode cX12_moor 22 = .ok (.ireturn, 1) := bl_dX12_moor_0.2.2.2.2.2.2.2.2.2.2.2.1
theorem dX12_moor_23 : decode cX12_moor 23 = .ok (.aload_n 0, 1) := bl_dX12_moor_0.2.2.2.2.2.2.2.2.2.2.2.2.1
theorem dX12_moor_24 : decode cX12_moor 24 = .ok (.getfield 40, 3) := bl_dX12_moor_0.2.2.2.2.2.2.2.2.2.2.2.2.2.1
theorem dX12_moor_27 : decode cX12_moor 27 = .ok (.iload_n 1, 1) := bl_dX12_moor_0.2.2.2.2.2.2.2.2.2.2.2.2.2.2.1
theorem dX12_moor_28 : decode cX12_moor 28 = .ok (.iaload, 1) := bl_dX12_moor_0.2.2.2.2.2.2.2.2.2.2.2.2.2.2.2
theorem lk_dX12_moor_29 : th_dr cX12_moor 29 = 156 :: 0 :: 12 :: 42 :: 180 :: 0 :: 28 :: 28 :: 46 :: 155 :: 0 :: 10 :: 42 :: 18 :: 186 :: 182 :: 0 :: 120 :: 172 :: 42 :: 27 :: 28 :: 42 :: 180 :: 0 :: 40 :: 182 :: 0 :: 187 :: th_dr cX12_moor 58 := rfl
theorem bl_dX12_moor_29 : decode cX12_moor 29 = .ok (.ifCond .ge 12, 3) ∧ decode cX12_moor 32 = .ok (.aload_n 0, 1) ∧ decode cX12_moor 33 = .ok (.getfield 28, 3) ∧ decode cX12_moor 36 = .ok (.iload_n 2, 1) ∧ decode cX12_moor 37 = .ok (.iaload, 1) ∧ decode cX12_moor 38 = .ok (.ifCond .lt 10, 3) ∧ decode cX12_moor 41 = .ok (.aload_n 0, 1) ∧ decode cX12_moor 42 = .ok (.ldc 186, 2) ∧ decode cX12_moor 44 = .ok (.invokevirtual 120, 3) ∧ decode cX12_moor 47 = .ok (.ireturn, 1) ∧ decode cX12_moor 48 = .ok (.aload_n 0, 1) ∧ decode cX12_moor 49 = .ok (.iload_n 1, 1) ∧ decode cX12_moor 50 = .ok (.iload_n 2, 1) ∧ decode cX12_moor 51 = .ok (.aload_n 0, 1) ∧ decode cX12_moor 52 = .ok (.getfield 40, 3) ∧ decode cX12_moor 55 = .ok (.invokevirtual 187, 3) := op_156p lk_dX12_moor_29 rfl fun e => op_42 e fun e => op_180 e fun e => op_28 e fun e => op_46 e fun e => op_155p e rfl fun e => op_42 e fun e => op_18 e fun e => op_182 e fun e => op_172 e fun e => op_42 e fun e => op_27 e fun e => op_28 e fun e => op_42 e fun e => op_180 e fun e => (op_182 e fun _ => True.intro).1
theorem dX12_moor_29 : decode cX12_moor 29 = .ok (.ifCond .ge 12, 3) := bl_dX12_moor_29.1
theorem dX12_moor_32 : decode cX12_moor 32 = .ok (.aload_n 0, 1) := bl_dX12_moor_29.2.1
theorem dX12_moor_33 : decode cX12_moor 33 = .ok (.getfield 28, 3) := bl_dX12_moor_29.2.2.1
theorem dX12_moor_36 : decode cX12_moor 36 = .ok (.iload_n 2, 1) := bl_dX12_moor_29.2.2.2.1
theorem dX12_moor_37 : decode cX12_moor 37 = .ok (.iaload, 1) := bl_dX12_moor_29.2.2.2.2.1
theorem dX12_moor_38 : decode cX12_moor 38 = .ok (.ifCond .lt 10, 3) := bl_dX12_moor_29.2.2.2.2.2.1
theorem dX12_moor_41 : decode cX12_moor 41 = .ok (.aload_n 0, 1) := bl_dX12_moor_29.2.2.2.2.2.2.1
theorem dX12_moor_42 : decode cX12_moor 42 = .ok (.ldc 186, 2) := bl_dX12_moor_29.2.2.2.2.2.2.2.1
theorem dX12_moor_44 : decode cX12_moor 44 = .ok (.invokevirtual 120, 3) := bl_dX12_moor_29.2.2.2.2.2.2.2.2.1
theorem dX12_moor_47 : decode cX12_moor 47 = .ok (.ireturn, 1) := bl_dX12_moor_29.2.2.2.2.2.2.2.2.2.1
theorem dX12_moor_48 : decode cX12_moor 48 = .ok (.aload_n 0, 1) := bl_dX12_moor_29.2.2.2.2.2.2.2.2.2.2.1
theorem dX12_moor_49 : decode cX12_moor 49 = .ok (.iload_n 1, 1) := bl_dX12_moor_29.2.2.2.2.2.2.2.2.2.2.2.1
theorem dX12_moor_50 : decode cX12_moor 50 = .ok (.iload_n 2, 1) := bl_dX12_moor_29.2.2.2.2.2.2.2.2.2.2.2.2.1
theorem dX12_moor_51 : decode cX12_moor 51 = .ok (.aload_n 0, 1) := bl_dX12_moor_29.2.2.2.2.2.2.2.2.2.2.2.2.2.1
theorem dX12_moor_52 : decode cX12_moor 52 = .ok (.getfield 40, 3) := bl_dX12_moor_29.2.2.2.2.2.2.2.2.2.2.2.2.2.2.1
theorem dX12_moor_55 : decode cX12_moor 55 = .ok (.invokevirtual 187, 3) := bl_dX12_moor_29.2.2.2.2.2.2.2.2.2.2.2.2.2.2.2
set_option maxRecDepth 20000 in
theorem lk_dX12_moor_58 : th_dr cX12_moor 58 = 154 :: 0 :: 10 :: 42 :: 18 :: 191 :: 182 :: 0 :: 120 :: 172 :: 42 :: 27 :: 28 :: 182 :: 0 :: 192 :: 42 :: 27 :: 182 :: 0 :: 136 :: 155 :: 0 :: 12 :: 42 :: 42 :: 27 :: th_dr cX12_moor 85 := rfl
theorem bl_dX12_moor_58 : decode cX12_moor 58 = .ok (.ifCond .ne 10, 3) ∧ decode cX12_moor 61 = .ok (.aload_n 0, 1) ∧ decode cX12_moor 62 = .ok (.ldc 191, 2) ∧ decode cX12_moor 64 = .ok (.invokevirtual 120, 3) ∧ decode cX12_moor 67 = .ok (.ireturn, 1) ∧ decode cX12_moor 68 = .ok (.aload_n 0, 1) ∧ decode cX12_moor 69 = .ok (.iload_n 1, 1) ∧ decode cX12_moor 70 = .ok (.iload_n 2, 1) ∧ decode cX12_moor 71 = .ok (.invokevirtual 192, 3) ∧ decode cX12_moor 74 = .ok (.aload_n 0, 1) ∧ decode cX12_moor 75 = .ok (.iload_n 1, 1) ∧ decode cX12_moor 76 = .ok (.invokevirtual 136, 3) ∧ decode cX12_moor 79 = .ok (.ifCond .lt 12, 3) ∧ decode cX12_moor 82 = .ok (.aload_n 0, 1) ∧ decode cX12_moor 83 = .ok (.aload_n 0, 1) ∧ decode cX12_moor 84 = .ok (.iload_n 1, 1) := op_154p lk_dX12_moor_58 rfl fun e => op_42 e fun e => op_18 e fun e => op_182 e fun e => op_172 e fun e => op_42 e fun e => op_27 e fun e => op_28 e fun e => op_182 e fun e => op_42 e fun e => op_27 e fun e => op_182 e fun e => op_155p e rfl fun e => op_42 e fun e => op_42 e fun e => (op_27 e fun _ => True.intro).1
theorem dX12_moor_58 : decode cX12_moor 58 = .ok (.ifCond .ne 10, 3) := bl_dX12_moor_58.1
theorem dX12_moor_61 : decode cX12_moor 61 = .ok (.aload_n 0, 1) := bl_dX12_moor_58.2.1
theorem dX12_moor_62 : decode cX12_moor 62 = .ok (.ldc 191, 2) := bl_dX12_moor_58.2.2.1
theorem dX12_moor_64 : decode cX12_moor 64 = .ok (.invokevirtual 120, 3) := bl_dX12_moor_58.2.2.2.1
theorem dX12_moor_67 : decode cX12_moor 67 = .ok (.ireturn, 1) := bl_dX12_moor_58.2.2.2.2.1
theorem dX12_moor_68 : decode cX12_moor 68 = .ok (.aload_n 0, 1) := bl_dX12_moor_58.2.2.2.2.2.1
theorem dX12_moor_69 : decode cX12_moor 69 = .ok (.iload_n 1, 1) := bl_dX12_moor_58.2.2.2.2.2.2.1
theorem dX12_moor_70 : decode cX12_moor 70 = .ok (.iload_n 2, 1) := bl_dX12_moor_58.2.2.2.2.2.2.2.1
theorem dX12_moor_71 : decode cX12_moor 71 = .ok (.invokevirtual 192, 3) := bl_dX12_moor_58.2.2.2.2.2.2.2.2.1
theorem dX12_moor_74 : decode cX12_moor 74 = .ok (.aload_n 0, 1) := bl_dX12_moor_58.2.2.2.2.2.2.2.2.2.1
theorem dX12_moor_75 : decode cX12_moor 75 = .ok (.iload_n 1, 1) := bl_dX12_moor_58.2.2.2.2.2.2.2.2.2.2.1
theorem dX12_moor_76 : decode cX12_moor 76 = .ok (.invokevirtual 136, 3) := bl_dX12_moor_58.2.2.2.2.2.2.2.2.2.2.2.1
theorem dX12_moor_79 : decode cX12_moor 79 = .ok (.ifCond .lt 12, 3) := bl_dX12_moor_58.2.2.2.2.2.2.2.2.2.2.2.2.1
theorem dX12_moor_82 : decode cX12_moor 82 = .ok (.aload_n 0, 1) := bl_dX12_moor_58.2.2.2.2.2.2.2.2.2.2.2.2.2.1
theorem dX12_moor_83 : decode cX12_moor 83 = .ok (.aload_n 0, 1) := bl_dX12_moor_58.2.2.2.2.2.2.2.2.2.2.2.2.2.2.1
theorem dX12_moor_84 : decode cX12_moor 84 = .ok (.iload_n 1, 1) := bl_dX12_moor_58.2.2.2.2.2.2.2.2.2.2.2.2.2.2.2
set_option maxRecDepth 20000 in
theorem lk_dX12_moor_85 : th_dr cX12_moor 85 = 182 :: 0 :: 136 :: 182 :: 0 :: 196 :: 4 :: 172 :: th_dr cX12_moor 93 := rfl
theorem bl_dX12_moor_85 : decode cX12_moor 85 = .ok (.invokevirtual 136, 3) ∧ decode cX12_moor 88 = .ok (.invokevirtual 196, 3) ∧ decode cX12_moor 91 = .ok (.iconst 1, 1) ∧ decode cX12_moor 92 = .ok (.ireturn, 1) := op_182 lk_dX12_moor_85 fun e => op_182 e fun e => op_4 e fun e => (op_172 e fun _ => True.intro).1
theorem dX12_moor_85 : decode cX12_moor 85 = .ok (.invokevirtual 136, 3) := bl_dX12_moor_85.1
theorem dX12_moor_88 : decode cX12_moor 88 = .ok (.invokevirtual 196, 3) := bl_dX12_moor_85.2.1
theorem dX12_moor_91 : decode cX12_moor 91 = .ok (.iconst 1, 1) := bl_dX12_moor_85.2.2.1
theorem dX12_moor_92 : decode cX12_moor 92 = .ok (.ireturn, 1) := bl_dX12_moor_85.2.2.2
set_option maxRecDepth 20000 in
theorem ggX12_leave_X12_isBoat : GoodIn wsX12_leave wsX12_isBoat := goodIn_q _ [(9, 4), (8, 1), (13, 1), (20, 38)] rfl gdwsX12_isBoat
set_option maxRecDepth 20000 in
theorem gX12_leave_X12_isBoat : GoodIn wsX12_leave (wsV RX12 125 RX12 yX12_isBoat wsX12_isBoat) := goodIn_app (goodIn_q _ [(5, 4)] rfl rfl) ggX12_leave_X12_isBoat
set_option maxRecDepth 20000 in
theorem ggX12_leave_X12_finding : GoodIn wsX12_leave wsX12_finding := goodIn_q _ [(17, 41)] rfl gdwsX12_finding
set_option maxRecDepth 20000 in
theorem gX12_leave_X12_finding : GoodIn wsX12_leave (wsV RX12 120 RX12 yX12_finding wsX12_finding) := goodIn_app (goodIn_q _ [(14, 3), (8, 1)] rfl rfl) ggX12_leave_X12_finding
theorem lk_dX12_leave_0 : th_dr cX12_leave 0 = 42 :: 27 :: 182 :: 0 :: 125 :: 154 :: 0 :: 10 :: 42 :: 18 :: 119 :: 182 :: 0 :: 120 :: 172 :: 42 :: 180 :: 0 :: 40 :: 27 :: 46 :: 156 :: 0 :: 10 :: 42 :: 18 :: 186 :: 182 :: 0 :: 120 :: th_dr cX12_leave 30 := rfl
theorem bl_dX12_leave_0 : decode cX12_leave 0 = .ok (.aload_n 0, 1) ∧ decode cX12_leave 1 = .ok (.iload_n 1, 1) ∧ decode cX12_leave 2 = .ok (.invokevirtual 125, 3) ∧ decode cX12_leave 5 = .ok (.ifCond .ne 10, 3) ∧ decode cX12_leave 8 = .ok (.aload_n 0, 1) ∧ decode cX12_leave 9 = .ok (.ldc 119, 2) ∧ decode cX12_leave 11 = .ok (.invokevirtual 120, 3) ∧ decode cX12_leave 14 = .ok (.ireturn, 1) ∧ decode cX12_leave 15 = .ok (.aload_n 0, 1) ∧ decode cX12_leave 16 = .ok (.getfield 40, 3) ∧ decode cX12_leave 19 = .ok (.iload_n 1, 1) ∧ decode cX12_leave 20 = .ok (.iaload, 1) ∧ decode cX12_leave 21 = .ok (.ifCond .ge 10, 3) ∧ decode cX12_leave 24 = .ok (.aload_n 0, 1) ∧ decode cX12_leave 25 = .ok (.ldc 186, 2) ∧ decode cX12_leave 27 = .ok (.invokevirtual 120, 3) := op_42 lk_dX12_leave_0 fun e => op_27 e fun e => op_182 e fun e => op_154p e rfl fun e => op_42 e fun e => op_18 e fun e => op_182 e fun e => op_172 e fun e => op_42 e fun e => op_180 e fun e => op_27 e fun e => op_46 e fun e => op_156p e rfl fun e => op_42 e fun e => op_18 e fun e => (op_182 e fun _ => True.intro).1
theorem dX12_leave_0 : decode cX12_leave 0 = .ok (.aload_n 0, 1) := bl_dX12_leave_0.1
theorem dX12_leave_1 : decode cX12_leave 1 = .ok (.iload_n 1, 1) := bl_dX12_leave_0.2.1
theorem dX12_leave_2 : decode cX12_leave 2 = .ok (.invokevirtual 125, 3) := bl_dX12_leave_0.2.2.1
theorem dX12_leave_5 : decode cX12_leave 5 = .ok (.ifCond .ne 10, 3) := bl_dX12_leave_0.2.2.2.1
theorem dX12_leave_8 : decode cX12_leave 8 = .ok (.aload_n 0, 1) := bl_dX12_leave_0.2.2.2.2.1
theorem dX12_leave_9 : decode cX12_leave 9 = .ok (.ldc 119, 2) := bl_dX12_leave_0.2.2.2.2.2.1
theorem dX12_leave_11 : decode cX12_leave 11 = .ok (.invokevirtual 120, 3) := bl_dX12_leave_0.2.2.2.2.2.2.1
theorem dX12_leave_14 : decode cX12_leave 14 = .ok (.ireturn, 1) := bl_dX12_leave_0.2.2.2.2.2.2.2.1
theorem dX12_leave_15 : decode cX12_leave 15 = .ok (.aload_n 0, 1) := bl_dX12_leave_0.2.2.2.2.2.2.2.2.1
theorem dX12_leave_16 : decode cX12_leave 16 = .ok (.getfield 40, 3) := bl_dX12_leave_0.2.2.2.2.2.2.2.2.2.1
theorem dX12_leave_19 : decode cX12_leave 19 = .ok (.iload_n 1, 1) := bl_dX12_leave_0.2.2.2.2.2.2.2.2.2.2.1
theorem dX12_leave_20 : decode cX12_leave 20 = .ok (.iaload, 1) := bl_dX12_leave_0.2.2.2.2.2.2.2.2.2.2.2.1
theorem dX12_leave_21 : decode cX12_leave 21 = .ok (.ifCond .ge 10, 3) := bl_dX12_leave_0.2.2.2.2.2.2.2.2.2.2.2.2.1
theorem dX12_leave_24 : decode cX12_leave 24 = .ok (.aload_n 0, 1) := bl_dX12_leave_0.2.2.2.2.2.2.2.2.2.2.2.2.2.1
theorem dX12_leave_25 : decode cX12_leave 25 = .ok (.ldc 186, 2) := bl_dX12_leave_0.2.2.2.2.2.2.2.2.2.2.2.2.2.2.1
theorem dX12_leave_27 : decode cX12_leave 27 = .ok (.invokevirtual 120, 3) := bl_dX12_leave_0.2.2.2.2.2.2.2.2.2.2.2.2.2.2.2
theorem lk_dX12_leave_30 : th_dr cX12_leave 30 = 172 :: 42 :: 180 :: 0 :: 40 :: 27 :: 46 :: 61 :: 42 :: 180 :: 0 :: 40 :: 27 :: 2 :: 79 :: 42 :: 180 :: 0 :: 28 :: 28 :: 2 :: 79 :: th_dr cX12_leave 52 := rfl
theorem bl_dX12_leave_30 : decode cX12_leave 30 = .ok (.ireturn, 1) ∧ decode cX12_leave 31 = .ok (.aload_n 0, 1) ∧ decode cX12_leave 32 = .ok (.getfield 40, 3) ∧ decode cX12_leave 35 = .ok (.iload_n 1, 1) ∧ decode cX12_leave 36 = .ok (.iaload, 1) ∧ decode cX12_leave 37 = .ok (.istore_n 2, 1) ∧ decode cX12_leave 38 = .ok (.aload_n 0, 1) ∧ decode cX12_leave 39 = .ok (.getfield 40, 3) ∧ decode cX12_leave 42 = .ok (.iload_n 1, 1) ∧ decode cX12_leave 43 = .ok (.iconst (-1), 1) ∧ decode cX12_leave 44 = .ok (.iastore, 1) ∧ decode cX12_leave 45 = .ok (.aload_n 0, 1) ∧ decode cX12_leave 46 = .ok (.getfield 28, 3) ∧ decode cX12_leave 49 = .ok (.iload_n 2, 1) ∧ decode cX12_leave 50 = .ok (.iconst (-1), 1) ∧ decode cX12_leave 51 = .ok (.iastore, 1) := op_172 lk_dX12_leave_30 fun e => op_42 e fun e => op_180 e fun e => op_27 e fun e => op_46 e fun e => op_61 e fun e => op_42 e fun e => op_180 e fun e => op_27 e fun e => op_2 e fun e => op_79 e fun e => op_42 e fun e => op_180 e fun e => op_28 e fun e => op_2 e fun e => (op_79 e fun _ => True.intro).1
theorem dX12_leave_30 : decode cX12_leave 30 = .ok (.ireturn, 1) := bl_dX12_leave_30.1
theorem dX12_leave_31 : decode cX12_leave 31 = .ok (.aload_n 0, 1) := bl_dX12_leave_30.2.1
theorem dX12_leave_32 : decode cX12_leave 32 = .ok (.getfield 40, 3) := bl_dX12_leave_30.2.2.1
theorem dX12_leave_35 : decode cX12_leave 35 = .ok (.iload_n 1, 1) := bl_dX12_leave_30.2.2.2.1
theorem dX12_leave_36 : decode cX12_leave 36 = .ok (.iaload, 1) := bl_dX12_leave_30.2.2.2.2.1
theorem dX12_leave_37 : decode cX12_leave 37 = .ok (.istore_n 2, 1) := bl_dX12_leave_30.2.2.2.2.2.1
theorem dX12_leave_38 : decode cX12_leave 38 = .ok (.aload_n 0, 1) := bl_dX12_leave_30.2.2.2.2.2.2.1
theorem dX12_leave_39 : decode cX12_leave 39 = .ok (.getfield 40, 3) := bl_dX12_leave_30.2.2.2.2.2.2.2.1
theorem dX12_leave_42 : decode cX12_leave 42 = .ok (.iload_n 1, 1) := bl_dX12_leave_30.2.2.2.2.2.2.2.2.1
theorem dX12_leave_43 : decode cX12_leave 43 = .ok (.iconst (-1), 1) := bl_dX12_leave_30.2.2.2.2.2.2.2.2.2.1
theorem dX12_leave_44 : decode cX12_leave 44 = .ok (.iastore, 1) := bl_dX12_leave_30.2.2.2.2.2.2.2.2.2.2.1
theorem dX12_leave_45 : decode cX12_leave 45 = .ok (.aload_n 0, 1) := bl_dX12_leave_30.2.2.2.2.2.2.2.2.2.2.2.1
theorem dX12_leave_46 : decode cX12_leave 46 = .ok (.getfield 28, 3) := bl_dX12_leave_30.2.2.2.2.2.2.2.2.2.2.2.2.1
theorem dX12_leave_49 : decode cX12_leave 49 = .ok (.iload_n 2, 1) := bl_dX12_leave_30.2.2.2.2.2.2.2.2.2.2.2.2.2.1
theorem dX12_leave_50 : decode cX12_leave 50 = .ok (.iconst (-1), 1) := bl_dX12_leave_30.2.2.2.2.2.2.2.2.2.2.2.2.2.2.1
theorem dX12_leave_51 : decode cX12_leave 51 = .ok (.iastore, 1) := bl_dX12_leave_30.2.2.2.2.2.2.2.2.2.2.2.2.2.2.2
theorem lk_dX12_leave_52 : th_dr cX12_leave 52 = 28 :: 172 :: th_dr cX12_leave 54 := rfl
theorem bl_dX12_leave_52 : decode cX12_leave 52 = .ok (.iload_n 2, 1) ∧ decode cX12_leave 53 = .ok (.ireturn, 1) := op_28 lk_dX12_leave_52 fun e => (op_172 e fun _ => True.intro).1
theorem dX12_leave_52 : decode cX12_leave 52 = .ok (.iload_n 2, 1) := bl_dX12_leave_52.1
theorem dX12_leave_53 : decode cX12_leave 53 = .ok (.ireturn, 1) := bl_dX12_leave_52.2
set_option maxRecDepth 20000 in
theorem ggX12_findMay_X12_mayLie : GoodIn wsX12_findMay wsX12_mayLie := goodIn_q _ [(12, 5), (11, 1), (17, 49), (70, 38)] rfl gdwsX12_mayLie
set_option maxRecDepth 20000 in
theorem gX12_findMay_X12_mayLie : GoodIn wsX12_findMay (wsV RX12 187 RX12 yX12_mayLie wsX12_mayLie) := goodIn_app (goodIn_q _ [(8, 4)] rfl rfl) ggX12_findMay_X12_mayLie
set_option maxRecDepth 20000 in
theorem gdwsX12_touchingOf : wsX12_touchingOf.all goodWord = true := by decide +kernel
set_option maxRecDepth 20000 in
theorem ggX12_findMay_X12_touchingOf : GoodIn wsX12_findMay wsX12_touchingOf := goodIn_q _ [(69, 1), (3, 1), (2, 1), (5, 1), (24, 3), (11, 1), (27, 1), (23, 1), (28, 17), (22, 1), (21, 1), (45, 7), (18, 1), (20, 1), (52, 14), (70, 38)] rfl gdwsX12_touchingOf
set_option maxRecDepth 20000 in
theorem gX12_findMay_X12_touchingOf : GoodIn wsX12_findMay (wsV RX12 203 RX12 yX12_touchingOf wsX12_touchingOf) := goodIn_app (goodIn_q _ [(66, 3), (11, 1)] rfl rfl) ggX12_findMay_X12_touchingOf
theorem lk_dX12_findMay_0 : th_dr cX12_findMay 0 = 3 :: 60 :: 27 :: 42 :: 180 :: 0 :: 200 :: 162 :: 0 :: 75 :: 42 :: 180 :: 0 :: 83 :: 27 :: 3 :: 79 :: 3 :: 61 :: 28 :: 42 :: 180 :: 0 :: 109 :: th_dr cX12_findMay 24 := rfl
theorem bl_dX12_findMay_0 : decode cX12_findMay 0 = .ok (.iconst 0, 1) ∧ decode cX12_findMay 1 = .ok (.istore_n 1, 1) ∧ decode cX12_findMay 2 = .ok (.iload_n 1, 1) ∧ decode cX12_findMay 3 = .ok (.aload_n 0, 1) ∧ decode cX12_findMay 4 = .ok (.getfield 200, 3) ∧ decode cX12_findMay 7 = .ok (.if_icmp .ge 75, 3) ∧ decode cX12_findMay 10 = .ok (.aload_n 0, 1) ∧ decode cX12_findMay 11 = .ok (.getfield 83, 3) ∧ decode cX12_findMay 14 = .ok (.iload_n 1, 1) ∧ decode cX12_findMay 15 = .ok (.iconst 0, 1) ∧ decode cX12_findMay 16 = .ok (.iastore, 1) ∧ decode cX12_findMay 17 = .ok (.iconst 0, 1) ∧ decode cX12_findMay 18 = .ok (.istore_n 2, 1) ∧ decode cX12_findMay 19 = .ok (.iload_n 2, 1) ∧ decode cX12_findMay 20 = .ok (.aload_n 0, 1) ∧ decode cX12_findMay 21 = .ok (.getfield 109, 3) := op_3 lk_dX12_findMay_0 fun e => op_60 e fun e => op_27 e fun e => op_42 e fun e => op_180 e fun e => op_162p e rfl fun e => op_42 e fun e => op_180 e fun e => op_27 e fun e => op_3 e fun e => op_79 e fun e => op_3 e fun e => op_61 e fun e => op_28 e fun e => op_42 e fun e => (op_180 e fun _ => True.intro).1
theorem dX12_findMay_0 : decode cX12_findMay 0 = .ok (.iconst 0, 1) := bl_dX12_findMay_0.1
theorem dX12_findMay_1 : decode cX12_findMay 1 = .ok (.istore_n 1, 1) := bl_dX12_findMay_0.2.1
theorem dX12_findMay_2 : decode cX12_findMay 2 = .ok (.iload_n 1, 1) := bl_dX12_findMay_0.2.2.1
theorem dX12_findMay_3 : decode cX12_findMay 3 = .ok (.aload_n 0, 1) := bl_dX12_findMay_0.2.2.2.1
theorem dX12_findMay_4 : decode cX12_findMay 4 = .ok (.getfield 200, 3) := bl_dX12_findMay_0.2.2.2.2.1
theorem dX12_findMay_7 : decode cX12_findMay 7 = .ok (.if_icmp .ge 75, 3) := bl_dX12_findMay_0.2.2.2.2.2.1
theorem dX12_findMay_10 : decode cX12_findMay 10 = .ok (.aload_n 0, 1) := bl_dX12_findMay_0.2.2.2.2.2.2.1
theorem dX12_findMay_11 : decode cX12_findMay 11 = .ok (.getfield 83, 3) := bl_dX12_findMay_0.2.2.2.2.2.2.2.1
theorem dX12_findMay_14 : decode cX12_findMay 14 = .ok (.iload_n 1, 1) := bl_dX12_findMay_0.2.2.2.2.2.2.2.2.1
theorem dX12_findMay_15 : decode cX12_findMay 15 = .ok (.iconst 0, 1) := bl_dX12_findMay_0.2.2.2.2.2.2.2.2.2.1
theorem dX12_findMay_16 : decode cX12_findMay 16 = .ok (.iastore, 1) := bl_dX12_findMay_0.2.2.2.2.2.2.2.2.2.2.1
theorem dX12_findMay_17 : decode cX12_findMay 17 = .ok (.iconst 0, 1) := bl_dX12_findMay_0.2.2.2.2.2.2.2.2.2.2.2.1
theorem dX12_findMay_18 : decode cX12_findMay 18 = .ok (.istore_n 2, 1) := bl_dX12_findMay_0.2.2.2.2.2.2.2.2.2.2.2.2.1
theorem dX12_findMay_19 : decode cX12_findMay 19 = .ok (.iload_n 2, 1) := bl_dX12_findMay_0.2.2.2.2.2.2.2.2.2.2.2.2.2.1
theorem dX12_findMay_20 : decode cX12_findMay 20 = .ok (.aload_n 0, 1) := bl_dX12_findMay_0.2.2.2.2.2.2.2.2.2.2.2.2.2.2.1
theorem dX12_findMay_21 : decode cX12_findMay 21 = .ok (.getfield 109, 3) := bl_dX12_findMay_0.2.2.2.2.2.2.2.2.2.2.2.2.2.2.2
theorem lk_dX12_findMay_24 : th_dr cX12_findMay 24 = 162 :: 0 :: 52 :: 42 :: 180 :: 0 :: 83 :: 27 :: 92 :: 46 :: 42 :: 180 :: 0 :: 28 :: 28 :: 46 :: 156 :: 0 :: 27 :: 42 :: 42 :: 180 :: 0 :: 80 :: 27 :: 46 :: th_dr cX12_findMay 50 := rfl
theorem bl_dX12_findMay_24 : decode cX12_findMay 24 = .ok (.if_icmp .ge 52, 3) ∧ decode cX12_findMay 27 = .ok (.aload_n 0, 1) ∧ decode cX12_findMay 28 = .ok (.getfield 83, 3) ∧ decode cX12_findMay 31 = .ok (.iload_n 1, 1) ∧ decode cX12_findMay 32 = .ok (.dup2, 1) ∧ decode cX12_findMay 33 = .ok (.iaload, 1) ∧ decode cX12_findMay 34 = .ok (.aload_n 0, 1) ∧ decode cX12_findMay 35 = .ok (.getfield 28, 3) ∧ decode cX12_findMay 38 = .ok (.iload_n 2, 1) ∧ decode cX12_findMay 39 = .ok (.iaload, 1) ∧ decode cX12_findMay 40 = .ok (.ifCond .ge 27, 3) ∧ decode cX12_findMay 43 = .ok (.aload_n 0, 1) ∧ decode cX12_findMay 44 = .ok (.aload_n 0, 1) ∧ decode cX12_findMay 45 = .ok (.getfield 80, 3) ∧ decode cX12_findMay 48 = .ok (.iload_n 1, 1) ∧ decode cX12_findMay 49 = .ok (.iaload, 1) := op_162p lk_dX12_findMay_24 rfl fun e => op_42 e fun e => op_180 e fun e => op_27 e fun e => op_92 e fun e => op_46 e fun e => op_42 e fun e => op_180 e fun e => op_28 e fun e => op_46 e fun e => op_156p e rfl fun e => op_42 e fun e => op_42 e fun e => op_180 e fun e => op_27 e fun e => (op_46 e fun _ => True.intro).1
theorem dX12_findMay_24 : decode cX12_findMay 24 = .ok (.if_icmp .ge 52, 3) := bl_dX12_findMay_24.1
theorem dX12_findMay_27 : decode cX12_findMay 27 = .ok (.aload_n 0, 1) := bl_dX12_findMay_24.2.1
theorem dX12_findMay_28 : decode cX12_findMay 28 = .ok (.getfield 83, 3) := bl_dX12_findMay_24.2.2.1
theorem dX12_findMay_31 : decode cX12_findMay 31 = .ok (.iload_n 1, 1) := bl_dX12_findMay_24.2.2.2.1
theorem dX12_findMay_32 : decode cX12_findMay 32 = .ok (.dup2, 1) := bl_dX12_findMay_24.2.2.2.2.1
theorem dX12_findMay_33 : decode cX12_findMay 33 = .ok (.iaload, 1) := bl_dX12_findMay_24.2.2.2.2.2.1
theorem dX12_findMay_34 : decode cX12_findMay 34 = .ok (.aload_n 0, 1) := bl_dX12_findMay_24.2.2.2.2.2.2.1
theorem dX12_findMay_35 : decode cX12_findMay 35 = .ok (.getfield 28, 3) := bl_dX12_findMay_24.2.2.2.2.2.2.2.1
theorem dX12_findMay_38 : decode cX12_findMay 38 = .ok (.iload_n 2, 1) := bl_dX12_findMay_24.2.2.2.2.2.2.2.2.1
theorem dX12_findMay_39 : decode cX12_findMay 39 = .ok (.iaload, 1) := bl_dX12_findMay_24.2.2.2.2.2.2.2.2.2.1
theorem dX12_findMay_40 : decode cX12_findMay 40 = .ok (.ifCond .ge 27, 3) := bl_dX12_findMay_24.2.2.2.2.2.2.2.2.2.2.1
theorem dX12_findMay_43 : decode cX12_findMay 43 = .ok (.aload_n 0, 1) := bl_dX12_findMay_24.2.2.2.2.2.2.2.2.2.2.2.1
theorem dX12_findMay_44 : decode cX12_findMay 44 = .ok (.aload_n 0, 1) := bl_dX12_findMay_24.2.2.2.2.2.2.2.2.2.2.2.2.1
theorem dX12_findMay_45 : decode cX12_findMay 45 = .ok (.getfield 80, 3) := bl_dX12_findMay_24.2.2.2.2.2.2.2.2.2.2.2.2.2.1
theorem dX12_findMay_48 : decode cX12_findMay 48 = .ok (.iload_n 1, 1) := bl_dX12_findMay_24.2.2.2.2.2.2.2.2.2.2.2.2.2.2.1
theorem dX12_findMay_49 : decode cX12_findMay 49 = .ok (.iaload, 1) := bl_dX12_findMay_24.2.2.2.2.2.2.2.2.2.2.2.2.2.2.2
set_option maxRecDepth 20000 in
theorem lk_dX12_findMay_50 : th_dr cX12_findMay 50 = 28 :: 42 :: 180 :: 0 :: 40 :: 182 :: 0 :: 187 :: 153 :: 0 :: 9 :: 4 :: 28 :: 120 :: 167 :: 0 :: 4 :: 3 :: 128 :: 79 :: 132 :: 2 :: 1 :: 167 :: 255 :: 202 :: 132 :: 1 :: 1 :: 167 :: 255 :: 179 :: th_dr cX12_findMay 82 := rfl
theorem bl_dX12_findMay_50 : decode cX12_findMay 50 = .ok (.iload_n 2, 1) ∧ decode cX12_findMay 51 = .ok (.aload_n 0, 1) ∧ decode cX12_findMay 52 = .ok (.getfield 40, 3) ∧ decode cX12_findMay 55 = .ok (.invokevirtual 187, 3) ∧ decode cX12_findMay 58 = .ok (.ifCond .eq 9, 3) ∧ decode cX12_findMay 61 = .ok (.iconst 1, 1) ∧ decode cX12_findMay 62 = .ok (.iload_n 2, 1) ∧ decode cX12_findMay 63 = .ok (.ishl, 1) ∧ decode cX12_findMay 64 = .ok (.goto 4, 3) ∧ decode cX12_findMay 67 = .ok (.iconst 0, 1) ∧ decode cX12_findMay 68 = .ok (.ior, 1) ∧ decode cX12_findMay 69 = .ok (.iastore, 1) ∧ decode cX12_findMay 70 = .ok (.iinc 2 1, 3) ∧ decode cX12_findMay 73 = .ok (.goto (-54), 3) ∧ decode cX12_findMay 76 = .ok (.iinc 1 1, 3) ∧ decode cX12_findMay 79 = .ok (.goto (-77), 3) := op_28 lk_dX12_findMay_50 fun e => op_42 e fun e => op_180 e fun e => op_182 e fun e => op_153p e rfl fun e => op_4 e fun e => op_28 e fun e => op_120 e fun e => op_167p e rfl fun e => op_3 e fun e => op_128 e fun e => op_79 e fun e => op_132p e rfl fun e => op_167n e rfl rfl fun e => op_132p e rfl fun e => (op_167n e rfl rfl fun _ => True.intro).1
theorem dX12_findMay_50 : decode cX12_findMay 50 = .ok (.iload_n 2, 1) := bl_dX12_findMay_50.1
theorem dX12_findMay_51 : decode cX12_findMay 51 = .ok (.aload_n 0, 1) := bl_dX12_findMay_50.2.1
theorem dX12_findMay_52 : decode cX12_findMay 52 = .ok (.getfield 40, 3) := bl_dX12_findMay_50.2.2.1
theorem dX12_findMay_55 : decode cX12_findMay 55 = .ok (.invokevirtual 187, 3) := bl_dX12_findMay_50.2.2.2.1
theorem dX12_findMay_58 : decode cX12_findMay 58 = .ok (.ifCond .eq 9, 3) := bl_dX12_findMay_50.2.2.2.2.1
theorem dX12_findMay_61 : decode cX12_findMay 61 = .ok (.iconst 1, 1) := bl_dX12_findMay_50.2.2.2.2.2.1
theorem dX12_findMay_62 : decode cX12_findMay 62 = .ok (.iload_n 2, 1) := bl_dX12_findMay_50.2.2.2.2.2.2.1
theorem dX12_findMay_63 : decode cX12_findMay 63 = .ok (.ishl, 1) := bl_dX12_findMay_50.2.2.2.2.2.2.2.1
theorem dX12_findMay_64 : decode cX12_findMay 64 = .ok (.goto 4, 3) := bl_dX12_findMay_50.2.2.2.2.2.2.2.2.1
theorem dX12_findMay_67 : decode cX12_findMay 67 = .ok (.iconst 0, 1) := bl_dX12_findMay_50.2.2.2.2.2.2.2.2.2.1
theorem dX12_findMay_68 : decode cX12_findMay 68 = .ok (.ior, 1) := bl_dX12_findMay_50.2.2.2.2.2.2.2.2.2.2.1
theorem dX12_findMay_69 : decode cX12_findMay 69 = .ok (.iastore, 1) := bl_dX12_findMay_50.2.2.2.2.2.2.2.2.2.2.2.1
theorem dX12_findMay_70 : decode cX12_findMay 70 = .ok (.iinc 2 1, 3) := bl_dX12_findMay_50.2.2.2.2.2.2.2.2.2.2.2.2.1
theorem dX12_findMay_73 : decode cX12_findMay 73 = .ok (.goto (-54), 3) := bl_dX12_findMay_50.2.2.2.2.2.2.2.2.2.2.2.2.2.1
theorem dX12_findMay_76 : decode cX12_findMay 76 = .ok (.iinc 1 1, 3) := bl_dX12_findMay_50.2.2.2.2.2.2.2.2.2.2.2.2.2.2.1
theorem dX12_findMay_79 : decode cX12_findMay 79 = .ok (.goto (-77), 3) := bl_dX12_findMay_50.2.2.2.2.2.2.2.2.2.2.2.2.2.2.2
set_option maxRecDepth 20000 in
theorem lk_dX12_findMay_82 : th_dr cX12_findMay 82 = 3 :: 60 :: 27 :: 42 :: 180 :: 0 :: 200 :: 162 :: 0 :: 78 :: 3 :: 61 :: 28 :: 42 :: 180 :: 0 :: 109 :: 162 :: 0 :: 62 :: 3 :: 62 :: 29 :: 27 :: th_dr cX12_findMay 106 := rfl
theorem bl_dX12_findMay_82 : decode cX12_findMay 82 = .ok (.iconst 0, 1) ∧ decode cX12_findMay 83 = .ok (.istore_n 1, 1) ∧ decode cX12_findMay 84 = .ok (.iload_n 1, 1) ∧ decode cX12_findMay 85 = .ok (.aload_n 0, 1) ∧ decode cX12_findMay 86 = .ok (.getfield 200, 3) ∧ decode cX12_findMay 89 = .ok (.if_icmp .ge 78, 3) ∧ decode cX12_findMay 92 = .ok (.iconst 0, 1) ∧ decode cX12_findMay 93 = .ok (.istore_n 2, 1) ∧ decode cX12_findMay 94 = .ok (.iload_n 2, 1) ∧ decode cX12_findMay 95 = .ok (.aload_n 0, 1) ∧ decode cX12_findMay 96 = .ok (.getfield 109, 3) ∧ decode cX12_findMay 99 = .ok (.if_icmp .ge 62, 3) ∧ decode cX12_findMay 102 = .ok (.iconst 0, 1) ∧ decode cX12_findMay 103 = .ok (.istore_n 3, 1) ∧ decode cX12_findMay 104 = .ok (.iload_n 3, 1) ∧ decode cX12_findMay 105 = .ok (.iload_n 1, 1) := op_3 lk_dX12_findMay_82 fun e => op_60 e fun e => op_27 e fun e => op_42 e fun e => op_180 e fun e => op_162p e rfl fun e => op_3 e fun e => op_61 e fun e => op_28 e fun e => op_42 e fun e => op_180 e fun e => op_162p e rfl fun e => op_3 e fun e => op_62 e fun e => op_29 e fun e => (op_27 e fun _ => True.intro).1
theorem dX12_findMay_82 : decode cX12_findMay 82 = .ok (.iconst 0, 1) := bl_dX12_findMay_82.1
theorem dX12_findMay_83 : decode cX12_findMay 83 = .ok (.istore_n 1, 1) := bl_dX12_findMay_82.2.1
theorem dX12_findMay_84 : decode cX12_findMay 84 = .ok (.iload_n 1, 1) := bl_dX12_findMay_82.2.2.1
theorem dX12_findMay_85 : decode cX12_findMay 85 = .ok (.aload_n 0, 1) := bl_dX12_findMay_82.2.2.2.1
theorem dX12_findMay_86 : decode cX12_findMay 86 = .ok (.getfield 200, 3) := bl_dX12_findMay_82.2.2.2.2.1
theorem dX12_findMay_89 : decode cX12_findMay 89 = .ok (.if_icmp .ge 78, 3) := bl_dX12_findMay_82.2.2.2.2.2.1
theorem dX12_findMay_92 : decode cX12_findMay 92 = .ok (.iconst 0, 1) := bl_dX12_findMay_82.2.2.2.2.2.2.1
theorem dX12_findMay_93 : decode cX12_findMay 93 = .ok (.istore_n 2, 1) := bl_dX12_findMay_82.2.2.2.2.2.2.2.1
theorem dX12_findMay_94 : decode cX12_findMay 94 = .ok (.iload_n 2, 1) := bl_dX12_findMay_82.2.2.2.2.2.2.2.2.1
theorem dX12_findMay_95 : decode cX12_findMay 95 = .ok (.aload_n 0, 1) := bl_dX12_findMay_82.2.2.2.2.2.2.2.2.2.1
theorem dX12_findMay_96 : decode cX12_findMay 96 = .ok (.getfield 109, 3) := bl_dX12_findMay_82.2.2.2.2.2.2.2.2.2.2.1
theorem dX12_findMay_99 : decode cX12_findMay 99 = .ok (.if_icmp .ge 62, 3) := bl_dX12_findMay_82.2.2.2.2.2.2.2.2.2.2.2.1
theorem dX12_findMay_102 : decode cX12_findMay 102 = .ok (.iconst 0, 1) := bl_dX12_findMay_82.2.2.2.2.2.2.2.2.2.2.2.2.1
theorem dX12_findMay_103 : decode cX12_findMay 103 = .ok (.istore_n 3, 1) := bl_dX12_findMay_82.2.2.2.2.2.2.2.2.2.2.2.2.2.1
theorem dX12_findMay_104 : decode cX12_findMay 104 = .ok (.iload_n 3, 1) := bl_dX12_findMay_82.2.2.2.2.2.2.2.2.2.2.2.2.2.2.1
theorem dX12_findMay_105 : decode cX12_findMay 105 = .ok (.iload_n 1, 1) := bl_dX12_findMay_82.2.2.2.2.2.2.2.2.2.2.2.2.2.2.2
set_option maxRecDepth 20000 in
theorem lk_dX12_findMay_106 : th_dr cX12_findMay 106 = 162 :: 0 :: 49 :: 42 :: 180 :: 0 :: 92 :: 8 :: 16 :: 12 :: 27 :: 104 :: 28 :: 96 :: 104 :: 29 :: 96 :: 42 :: 180 :: 0 :: 83 :: 27 :: 46 :: th_dr cX12_findMay 129 := rfl
theorem bl_dX12_findMay_106 : decode cX12_findMay 106 = .ok (.if_icmp .ge 49, 3) ∧ decode cX12_findMay 109 = .ok (.aload_n 0, 1) ∧ decode cX12_findMay 110 = .ok (.getfield 92, 3) ∧ decode cX12_findMay 113 = .ok (.iconst 5, 1) ∧ decode cX12_findMay 114 = .ok (.bipush 12, 2) ∧ decode cX12_findMay 116 = .ok (.iload_n 1, 1) ∧ decode cX12_findMay 117 = .ok (.imul, 1) ∧ decode cX12_findMay 118 = .ok (.iload_n 2, 1) ∧ decode cX12_findMay 119 = .ok (.iadd, 1) ∧ decode cX12_findMay 120 = .ok (.imul, 1) ∧ decode cX12_findMay 121 = .ok (.iload_n 3, 1) ∧ decode cX12_findMay 122 = .ok (.iadd, 1) ∧ decode cX12_findMay 123 = .ok (.aload_n 0, 1) ∧ decode cX12_findMay 124 = .ok (.getfield 83, 3) ∧ decode cX12_findMay 127 = .ok (.iload_n 1, 1) ∧ decode cX12_findMay 128 = .ok (.iaload, 1) := op_162p lk_dX12_findMay_106 rfl fun e => op_42 e fun e => op_180 e fun e => op_8 e fun e => op_16p e rfl fun e => op_27 e fun e => op_104 e fun e => op_28 e fun e => op_96 e fun e => op_104 e fun e => op_29 e fun e => op_96 e fun e => op_42 e fun e => op_180 e fun e => op_27 e fun e => (op_46 e fun _ => True.intro).1
theorem dX12_findMay_106 : decode cX12_findMay 106 = .ok (.if_icmp .ge 49, 3) := bl_dX12_findMay_106.1
theorem dX12_findMay_109 : decode cX12_findMay 109 = .ok (.aload_n 0, 1) := bl_dX12_findMay_106.2.1
theorem dX12_findMay_110 : decode cX12_findMay 110 = .ok (.getfield 92, 3) := bl_dX12_findMay_106.2.2.1
theorem dX12_findMay_113 : decode cX12_findMay 113 = .ok (.iconst 5, 1) := bl_dX12_findMay_106.2.2.2.1
theorem dX12_findMay_114 : decode cX12_findMay 114 = .ok (.bipush 12, 2) := bl_dX12_findMay_106.2.2.2.2.1
theorem dX12_findMay_116 : decode cX12_findMay 116 = .ok (.iload_n 1, 1) := bl_dX12_findMay_106.2.2.2.2.2.1
theorem dX12_findMay_117 : decode cX12_findMay 117 = .ok (.imul, 1) := bl_dX12_findMay_106.2.2.2.2.2.2.1
theorem dX12_findMay_118 : decode cX12_findMay 118 = .ok (.iload_n 2, 1) := bl_dX12_findMay_106.2.2.2.2.2.2.2.1
theorem dX12_findMay_119 : decode cX12_findMay 119 = .ok (.iadd, 1) := bl_dX12_findMay_106.2.2.2.2.2.2.2.2.1
theorem dX12_findMay_120 : decode cX12_findMay 120 = .ok (.imul, 1) := bl_dX12_findMay_106.2.2.2.2.2.2.2.2.2.1
theorem dX12_findMay_121 : decode cX12_findMay 121 = .ok (.iload_n 3, 1) := bl_dX12_findMay_106.2.2.2.2.2.2.2.2.2.2.1
theorem dX12_findMay_122 : decode cX12_findMay 122 = .ok (.iadd, 1) := bl_dX12_findMay_106.2.2.2.2.2.2.2.2.2.2.2.1
theorem dX12_findMay_123 : decode cX12_findMay 123 = .ok (.aload_n 0, 1) := bl_dX12_findMay_106.2.2.2.2.2.2.2.2.2.2.2.2.1
theorem dX12_findMay_124 : decode cX12_findMay 124 = .ok (.getfield 83, 3) := bl_dX12_findMay_106.2.2.2.2.2.2.2.2.2.2.2.2.2.1
theorem dX12_findMay_127 : decode cX12_findMay 127 = .ok (.iload_n 1, 1) := bl_dX12_findMay_106.2.2.2.2.2.2.2.2.2.2.2.2.2.2.1
theorem dX12_findMay_128 : decode cX12_findMay 128 = .ok (.iaload, 1) := bl_dX12_findMay_106.2.2.2.2.2.2.2.2.2.2.2.2.2.2.2
set_option maxRecDepth 20000 in
theorem lk_dX12_findMay_129 : th_dr cX12_findMay 129 = 28 :: 122 :: 4 :: 126 :: 4 :: 160 :: 0 :: 13 :: 42 :: 27 :: 28 :: 29 :: 182 :: 0 :: 203 :: 167 :: 0 :: 4 :: 3 :: 79 :: 132 :: 3 :: 1 :: 167 :: 255 :: 208 :: th_dr cX12_findMay 155 := rfl
theorem bl_dX12_findMay_129 : decode cX12_findMay 129 = .ok (.iload_n 2, 1) ∧ decode cX12_findMay 130 = .ok (.ishr, 1) ∧ decode cX12_findMay 131 = .ok (.iconst 1, 1) ∧ decode cX12_findMay 132 = .ok (.iand, 1) ∧ decode cX12_findMay 133 = .ok (.iconst 1, 1) ∧ decode cX12_findMay 134 = .ok (.if_icmp .ne 13, 3) ∧ decode cX12_findMay 137 = .ok (.aload_n 0, 1) ∧ decode cX12_findMay 138 = .ok (.iload_n 1, 1) ∧ decode cX12_findMay 139 = .ok (.iload_n 2, 1) ∧ decode cX12_findMay 140 = .ok (.iload_n 3, 1) ∧ decode cX12_findMay 141 = .ok (.invokevirtual 203, 3) ∧ decode cX12_findMay 144 = .ok (.goto 4, 3) ∧ decode cX12_findMay 147 = .ok (.iconst 0, 1) ∧ decode cX12_findMay 148 = .ok (.iastore, 1) ∧ decode cX12_findMay 149 = .ok (.iinc 3 1, 3) ∧ decode cX12_findMay 152 = .ok (.goto (-48), 3) := op_28 lk_dX12_findMay_129 fun e => op_122 e fun e => op_4 e fun e => op_126 e fun e => op_4 e fun e => op_160p e rfl fun e => op_42 e fun e => op_27 e fun e => op_28 e fun e => op_29 e fun e => op_182 e fun e => op_167p e rfl fun e => op_3 e fun e => op_79 e fun e => op_132p e rfl fun e => (op_167n e rfl rfl fun _ => True.intro).1
theorem dX12_findMay_129 : decode cX12_findMay 129 = .ok (.iload_n 2, 1) := bl_dX12_findMay_129.1
theorem dX12_findMay_130 : decode cX12_findMay 130 = .ok (.ishr, 1) := bl_dX12_findMay_129.2.1
theorem dX12_findMay_131 : decode cX12_findMay 131 = .ok (.iconst 1, 1) := bl_dX12_findMay_129.2.2.1
theorem dX12_findMay_132 : decode cX12_findMay 132 = .ok (.iand, 1) := bl_dX12_findMay_129.2.2.2.1
theorem dX12_findMay_133 : decode cX12_findMay 133 = .ok (.iconst 1, 1) := bl_dX12_findMay_129.2.2.2.2.1
theorem dX12_findMay_134 : decode cX12_findMay 134 = .ok (.if_icmp .ne 13, 3) := bl_dX12_findMay_129.2.2.2.2.2.1
theorem dX12_findMay_137 : decode cX12_findMay 137 = .ok (.aload_n 0, 1) := bl_dX12_findMay_129.2.2.2.2.2.2.1
theorem dX12_findMay_138 : decode cX12_findMay 138 = .ok (.iload_n 1, 1) := bl_dX12_findMay_129.2.2.2.2.2.2.2.1
theorem dX12_findMay_139 : decode cX12_findMay 139 = .ok (.iload_n 2, 1) := bl_dX12_findMay_129.2.2.2.2.2.2.2.2.1
theorem dX12_findMay_140 : decode cX12_findMay 140 = .ok (.iload_n 3, 1) := bl_dX12_findMay_129.2.2.2.2.2.2.2.2.2.1
theorem dX12_findMay_141 : decode cX12_findMay 141 = .ok (.invokevirtual 203, 3) := bl_dX12_findMay_129.2.2.2.2.2.2.2.2.2.2.1
theorem dX12_findMay_144 : decode cX12_findMay 144 = .ok (.goto 4, 3) := bl_dX12_findMay_129.2.2.2.2.2.2.2.2.2.2.2.1
theorem dX12_findMay_147 : decode cX12_findMay 147 = .ok (.iconst 0, 1) := bl_dX12_findMay_129.2.2.2.2.2.2.2.2.2.2.2.2.1
theorem dX12_findMay_148 : decode cX12_findMay 148 = .ok (.iastore, 1) := bl_dX12_findMay_129.2.2.2.2.2.2.2.2.2.2.2.2.2.1
theorem dX12_findMay_149 : decode cX12_findMay 149 = .ok (.iinc 3 1, 3) := bl_dX12_findMay_129.2.2.2.2.2.2.2.2.2.2.2.2.2.2.1
theorem dX12_findMay_152 : decode cX12_findMay 152 = .ok (.goto (-48), 3) := bl_dX12_findMay_129.2.2.2.2.2.2.2.2.2.2.2.2.2.2.2
set_option maxRecDepth 20000 in
theorem lk_dX12_findMay_155 : th_dr cX12_findMay 155 = 132 :: 2 :: 1 :: 167 :: 255 :: 192 :: 132 :: 1 :: 1 :: 167 :: 255 :: 176 :: 177 :: th_dr cX12_findMay 168 := rfl
theorem bl_dX12_findMay_155 : decode cX12_findMay 155 = .ok (.iinc 2 1, 3) ∧ decode cX12_findMay 158 = .ok (.goto (-64), 3) ∧ decode cX12_findMay 161 = .ok (.iinc 1 1, 3) ∧ decode cX12_findMay 164 = .ok (.goto (-80), 3) ∧ decode cX12_findMay 167 = .ok (.return_, 1) := op_132p lk_dX12_findMay_155 rfl fun e => op_167n e rfl rfl fun e => op_132p e rfl fun e => op_167n e rfl rfl fun e => (op_177 e fun _ => True.intro).1
theorem dX12_findMay_155 : decode cX12_findMay 155 = .ok (.iinc 2 1, 3) := bl_dX12_findMay_155.1
theorem dX12_findMay_158 : decode cX12_findMay 158 = .ok (.goto (-64), 3) := bl_dX12_findMay_155.2.1
theorem dX12_findMay_161 : decode cX12_findMay 161 = .ok (.iinc 1 1, 3) := bl_dX12_findMay_155.2.2.1
theorem dX12_findMay_164 : decode cX12_findMay 164 = .ok (.goto (-80), 3) := bl_dX12_findMay_155.2.2.2.1
theorem dX12_findMay_167 : decode cX12_findMay 167 = .ok (.return_, 1) := bl_dX12_findMay_155.2.2.2.2
set_option maxRecDepth 20000 in
theorem ggX12_touchingOf_X12_firstTouch : GoodIn wsX12_touchingOf wsX12_firstTouch := goodIn_q _ [(8, 5), (7, 1), (13, 77)] rfl gdwsX12_firstTouch
set_option maxRecDepth 20000 in
theorem gX12_touchingOf_X12_firstTouch : GoodIn wsX12_touchingOf (wsV RX12 182 RX12 yX12_firstTouch wsX12_firstTouch) := goodIn_app (goodIn_q _ [(4, 4)] rfl rfl) ggX12_touchingOf_X12_firstTouch
theorem lk_dX12_touchingOf_0 : th_dr cX12_touchingOf 0 = 4 :: 28 :: 120 :: 54 :: 4 :: 3 :: 54 :: 5 :: 21 :: 5 :: 42 :: 180 :: 0 :: 109 :: 162 :: 0 :: 77 :: 21 :: 5 :: 28 :: 159 :: 0 :: 44 :: 42 :: 180 :: 0 :: 83 :: 29 :: th_dr cX12_touchingOf 28 := rfl
theorem bl_dX12_touchingOf_0 : decode cX12_touchingOf 0 = .ok (.iconst 1, 1) ∧ decode cX12_touchingOf 1 = .ok (.iload_n 2, 1) ∧ decode cX12_touchingOf 2 = .ok (.ishl, 1) ∧ decode cX12_touchingOf 3 = .ok (.istore 4, 2) ∧ decode cX12_touchingOf 5 = .ok (.iconst 0, 1) ∧ decode cX12_touchingOf 6 = .ok (.istore 5, 2) ∧ decode cX12_touchingOf 8 = .ok (.iload 5, 2) ∧ decode cX12_touchingOf 10 = .ok (.aload_n 0, 1) ∧ decode cX12_touchingOf 11 = .ok (.getfield 109, 3) ∧ decode cX12_touchingOf 14 = .ok (.if_icmp .ge 77, 3) ∧ decode cX12_touchingOf 17 = .ok (.iload 5, 2) ∧ decode cX12_touchingOf 19 = .ok (.iload_n 2, 1) ∧ decode cX12_touchingOf 20 = .ok (.if_icmp .eq 44, 3) ∧ decode cX12_touchingOf 23 = .ok (.aload_n 0, 1) ∧ decode cX12_touchingOf 24 = .ok (.getfield 83, 3) ∧ decode cX12_touchingOf 27 = .ok (.iload_n 3, 1) := op_4 lk_dX12_touchingOf_0 fun e => op_28 e fun e => op_120 e fun e => op_54 e fun e => op_3 e fun e => op_54 e fun e => op_21 e fun e => op_42 e fun e => op_180 e fun e => op_162p e rfl fun e => op_21 e fun e => op_28 e fun e => op_159p e rfl fun e => op_42 e fun e => op_180 e fun e => (op_29 e fun _ => True.intro).1
theorem dX12_touchingOf_0 : decode cX12_touchingOf 0 = .ok (.iconst 1, 1) := bl_dX12_touchingOf_0.1
theorem dX12_touchingOf_1 : decode cX12_touchingOf 1 = .ok (.iload_n 2, 1) := bl_dX12_touchingOf_0.2.1
theorem dX12_touchingOf_2 : decode cX12_touchingOf 2 = .ok (.ishl, 1) := bl_dX12_touchingOf_0.2.2.1
theorem dX12_touchingOf_3 : decode cX12_touchingOf 3 = .ok (.istore 4, 2) := bl_dX12_touchingOf_0.2.2.2.1
theorem dX12_touchingOf_5 : decode cX12_touchingOf 5 = .ok (.iconst 0, 1) := bl_dX12_touchingOf_0.2.2.2.2.1
theorem dX12_touchingOf_6 : decode cX12_touchingOf 6 = .ok (.istore 5, 2) := bl_dX12_touchingOf_0.2.2.2.2.2.1
theorem dX12_touchingOf_8 : decode cX12_touchingOf 8 = .ok (.iload 5, 2) := bl_dX12_touchingOf_0.2.2.2.2.2.2.1
theorem dX12_touchingOf_10 : decode cX12_touchingOf 10 = .ok (.aload_n 0, 1) := bl_dX12_touchingOf_0.2.2.2.2.2.2.2.1
theorem dX12_touchingOf_11 : decode cX12_touchingOf 11 = .ok (.getfield 109, 3) := bl_dX12_touchingOf_0.2.2.2.2.2.2.2.2.1
theorem dX12_touchingOf_14 : decode cX12_touchingOf 14 = .ok (.if_icmp .ge 77, 3) := bl_dX12_touchingOf_0.2.2.2.2.2.2.2.2.2.1
theorem dX12_touchingOf_17 : decode cX12_touchingOf 17 = .ok (.iload 5, 2) := bl_dX12_touchingOf_0.2.2.2.2.2.2.2.2.2.2.1
theorem dX12_touchingOf_19 : decode cX12_touchingOf 19 = .ok (.iload_n 2, 1) := bl_dX12_touchingOf_0.2.2.2.2.2.2.2.2.2.2.2.1
theorem dX12_touchingOf_20 : decode cX12_touchingOf 20 = .ok (.if_icmp .eq 44, 3) := bl_dX12_touchingOf_0.2.2.2.2.2.2.2.2.2.2.2.2.1
theorem dX12_touchingOf_23 : decode cX12_touchingOf 23 = .ok (.aload_n 0, 1) := bl_dX12_touchingOf_0.2.2.2.2.2.2.2.2.2.2.2.2.2.1
theorem dX12_touchingOf_24 : decode cX12_touchingOf 24 = .ok (.getfield 83, 3) := bl_dX12_touchingOf_0.2.2.2.2.2.2.2.2.2.2.2.2.2.2.1
theorem dX12_touchingOf_27 : decode cX12_touchingOf 27 = .ok (.iload_n 3, 1) := bl_dX12_touchingOf_0.2.2.2.2.2.2.2.2.2.2.2.2.2.2.2
theorem lk_dX12_touchingOf_28 : th_dr cX12_touchingOf 28 = 46 :: 21 :: 5 :: 122 :: 4 :: 126 :: 4 :: 160 :: 0 :: 29 :: 42 :: 42 :: 180 :: 0 :: 80 :: 27 :: 46 :: 28 :: 42 :: 180 :: 0 :: 80 :: 29 :: th_dr cX12_touchingOf 51 := rfl
theorem bl_dX12_touchingOf_28 : decode cX12_touchingOf 28 = .ok (.iaload, 1) ∧ decode cX12_touchingOf 29 = .ok (.iload 5, 2) ∧ decode cX12_touchingOf 31 = .ok (.ishr, 1) ∧ decode cX12_touchingOf 32 = .ok (.iconst 1, 1) ∧ decode cX12_touchingOf 33 = .ok (.iand, 1) ∧ decode cX12_touchingOf 34 = .ok (.iconst 1, 1) ∧ decode cX12_touchingOf 35 = .ok (.if_icmp .ne 29, 3) ∧ decode cX12_touchingOf 38 = .ok (.aload_n 0, 1) ∧ decode cX12_touchingOf 39 = .ok (.aload_n 0, 1) ∧ decode cX12_touchingOf 40 = .ok (.getfield 80, 3) ∧ decode cX12_touchingOf 43 = .ok (.iload_n 1, 1) ∧ decode cX12_touchingOf 44 = .ok (.iaload, 1) ∧ decode cX12_touchingOf 45 = .ok (.iload_n 2, 1) ∧ decode cX12_touchingOf 46 = .ok (.aload_n 0, 1) ∧ decode cX12_touchingOf 47 = .ok (.getfield 80, 3) ∧ decode cX12_touchingOf 50 = .ok (.iload_n 3, 1) := op_46 lk_dX12_touchingOf_28 fun e => op_21 e fun e => op_122 e fun e => op_4 e fun e => op_126 e fun e => op_4 e fun e => op_160p e rfl fun e => op_42 e fun e => op_42 e fun e => op_180 e fun e => op_27 e fun e => op_46 e fun e => op_28 e fun e => op_42 e fun e => op_180 e fun e => (op_29 e fun _ => True.intro).1
theorem dX12_touchingOf_28 : decode cX12_touchingOf 28 = .ok (.iaload, 1) := bl_dX12_touchingOf_28.1
theorem dX12_touchingOf_29 : decode cX12_touchingOf 29 = .ok (.iload 5, 2) := bl_dX12_touchingOf_28.2.1
theorem dX12_touchingOf_31 : decode cX12_touchingOf 31 = .ok (.ishr, 1) := bl_dX12_touchingOf_28.2.2.1
theorem dX12_touchingOf_32 : decode cX12_touchingOf 32 = .ok (.iconst 1, 1) := bl_dX12_touchingOf_28.2.2.2.1
theorem dX12_touchingOf_33 : decode cX12_touchingOf 33 = .ok (.iand, 1) := bl_dX12_touchingOf_28.2.2.2.2.1
theorem dX12_touchingOf_34 : decode cX12_touchingOf 34 = .ok (.iconst 1, 1) := bl_dX12_touchingOf_28.2.2.2.2.2.1
theorem dX12_touchingOf_35 : decode cX12_touchingOf 35 = .ok (.if_icmp .ne 29, 3) := bl_dX12_touchingOf_28.2.2.2.2.2.2.1
theorem dX12_touchingOf_38 : decode cX12_touchingOf 38 = .ok (.aload_n 0, 1) := bl_dX12_touchingOf_28.2.2.2.2.2.2.2.1
theorem dX12_touchingOf_39 : decode cX12_touchingOf 39 = .ok (.aload_n 0, 1) := bl_dX12_touchingOf_28.2.2.2.2.2.2.2.2.1
theorem dX12_touchingOf_40 : decode cX12_touchingOf 40 = .ok (.getfield 80, 3) := bl_dX12_touchingOf_28.2.2.2.2.2.2.2.2.2.1
theorem dX12_touchingOf_43 : decode cX12_touchingOf 43 = .ok (.iload_n 1, 1) := bl_dX12_touchingOf_28.2.2.2.2.2.2.2.2.2.2.1
theorem dX12_touchingOf_44 : decode cX12_touchingOf 44 = .ok (.iaload, 1) := bl_dX12_touchingOf_28.2.2.2.2.2.2.2.2.2.2.2.1
theorem dX12_touchingOf_45 : decode cX12_touchingOf 45 = .ok (.iload_n 2, 1) := bl_dX12_touchingOf_28.2.2.2.2.2.2.2.2.2.2.2.2.1
theorem dX12_touchingOf_46 : decode cX12_touchingOf 46 = .ok (.aload_n 0, 1) := bl_dX12_touchingOf_28.2.2.2.2.2.2.2.2.2.2.2.2.2.1
theorem dX12_touchingOf_47 : decode cX12_touchingOf 47 = .ok (.getfield 80, 3) := bl_dX12_touchingOf_28.2.2.2.2.2.2.2.2.2.2.2.2.2.2.1
theorem dX12_touchingOf_50 : decode cX12_touchingOf 50 = .ok (.iload_n 3, 1) := bl_dX12_touchingOf_28.2.2.2.2.2.2.2.2.2.2.2.2.2.2.2
set_option maxRecDepth 20000 in
theorem lk_dX12_touchingOf_51 : th_dr cX12_touchingOf 51 = 46 :: 21 :: 5 :: 182 :: 0 :: 182 :: 155 :: 0 :: 7 :: 4 :: 167 :: 0 :: 4 :: 3 :: 54 :: 6 :: 21 :: 4 :: 21 :: 6 :: 153 :: 0 :: 10 :: 4 :: 21 :: 5 :: 120 :: 167 :: 0 :: 4 :: 3 :: th_dr cX12_touchingOf 82 := rfl
theorem bl_dX12_touchingOf_51 : decode cX12_touchingOf 51 = .ok (.iaload, 1) ∧ decode cX12_touchingOf 52 = .ok (.iload 5, 2) ∧ decode cX12_touchingOf 54 = .ok (.invokevirtual 182, 3) ∧ decode cX12_touchingOf 57 = .ok (.ifCond .lt 7, 3) ∧ decode cX12_touchingOf 60 = .ok (.iconst 1, 1) ∧ decode cX12_touchingOf 61 = .ok (.goto 4, 3) ∧ decode cX12_touchingOf 64 = .ok (.iconst 0, 1) ∧ decode cX12_touchingOf 65 = .ok (.istore 6, 2) ∧ decode cX12_touchingOf 67 = .ok (.iload 4, 2) ∧ decode cX12_touchingOf 69 = .ok (.iload 6, 2) ∧ decode cX12_touchingOf 71 = .ok (.ifCond .eq 10, 3) ∧ decode cX12_touchingOf 74 = .ok (.iconst 1, 1) ∧ decode cX12_touchingOf 75 = .ok (.iload 5, 2) ∧ decode cX12_touchingOf 77 = .ok (.ishl, 1) ∧ decode cX12_touchingOf 78 = .ok (.goto 4, 3) ∧ decode cX12_touchingOf 81 = .ok (.iconst 0, 1) := op_46 lk_dX12_touchingOf_51 fun e => op_21 e fun e => op_182 e fun e => op_155p e rfl fun e => op_4 e fun e => op_167p e rfl fun e => op_3 e fun e => op_54 e fun e => op_21 e fun e => op_21 e fun e => op_153p e rfl fun e => op_4 e fun e => op_21 e fun e => op_120 e fun e => op_167p e rfl fun e => (op_3 e fun _ => True.intro).1
theorem dX12_touchingOf_51 : decode cX12_touchingOf 51 = .ok (.iaload, 1) := bl_dX12_touchingOf_51.1
theorem dX12_touchingOf_52 : decode cX12_touchingOf 52 = .ok (.iload 5, 2) := bl_dX12_touchingOf_51.2.1
theorem dX12_touchingOf_54 : decode cX12_touchingOf 54 = .ok (.invokevirtual 182, 3) := bl_dX12_touchingOf_51.2.2.1
theorem dX12_touchingOf_57 : decode cX12_touchingOf 57 = .ok (.ifCond .lt 7, 3) := bl_dX12_touchingOf_51.2.2.2.1
theorem dX12_touchingOf_60 : decode cX12_touchingOf 60 = .ok (.iconst 1, 1) := bl_dX12_touchingOf_51.2.2.2.2.1
theorem dX12_touchingOf_61 : decode cX12_touchingOf 61 = .ok (.goto 4, 3) := bl_dX12_touchingOf_51.2.2.2.2.2.1
theorem dX12_touchingOf_64 : decode cX12_touchingOf 64 = .ok (.iconst 0, 1) := bl_dX12_touchingOf_51.2.2.2.2.2.2.1
theorem dX12_touchingOf_65 : decode cX12_touchingOf 65 = .ok (.istore 6, 2) := bl_dX12_touchingOf_51.2.2.2.2.2.2.2.1
theorem dX12_touchingOf_67 : decode cX12_touchingOf 67 = .ok (.iload 4, 2) := bl_dX12_touchingOf_51.2.2.2.2.2.2.2.2.1
theorem dX12_touchingOf_69 : decode cX12_touchingOf 69 = .ok (.iload 6, 2) := bl_dX12_touchingOf_51.2.2.2.2.2.2.2.2.2.1
theorem dX12_touchingOf_71 : decode cX12_touchingOf 71 = .ok (.ifCond .eq 10, 3) := bl_dX12_touchingOf_51.2.2.2.2.2.2.2.2.2.2.1
theorem dX12_touchingOf_74 : decode cX12_touchingOf 74 = .ok (.iconst 1, 1) := bl_dX12_touchingOf_51.2.2.2.2.2.2.2.2.2.2.2.1
theorem dX12_touchingOf_75 : decode cX12_touchingOf 75 = .ok (.iload 5, 2) := bl_dX12_touchingOf_51.2.2.2.2.2.2.2.2.2.2.2.2.1
theorem dX12_touchingOf_77 : decode cX12_touchingOf 77 = .ok (.ishl, 1) := bl_dX12_touchingOf_51.2.2.2.2.2.2.2.2.2.2.2.2.2.1
theorem dX12_touchingOf_78 : decode cX12_touchingOf 78 = .ok (.goto 4, 3) := bl_dX12_touchingOf_51.2.2.2.2.2.2.2.2.2.2.2.2.2.2.1
theorem dX12_touchingOf_81 : decode cX12_touchingOf 81 = .ok (.iconst 0, 1) := bl_dX12_touchingOf_51.2.2.2.2.2.2.2.2.2.2.2.2.2.2.2
set_option maxRecDepth 20000 in
theorem lk_dX12_touchingOf_82 : th_dr cX12_touchingOf 82 = 128 :: 54 :: 4 :: 132 :: 5 :: 1 :: 167 :: 255 :: 176 :: 21 :: 4 :: 172 :: th_dr cX12_touchingOf 94 := rfl
theorem bl_dX12_touchingOf_82 : decode cX12_touchingOf 82 = .ok (.ior, 1) ∧ decode cX12_touchingOf 83 = .ok (.istore 4, 2) ∧ decode cX12_touchingOf 85 = .ok (.iinc 5 1, 3) ∧ decode cX12_touchingOf 88 = .ok (.goto (-80), 3) ∧ decode cX12_touchingOf 91 = .ok (.iload 4, 2) ∧ decode cX12_touchingOf 93 = .ok (.ireturn, 1) := op_128 lk_dX12_touchingOf_82 fun e => op_54 e fun e => op_132p e rfl fun e => op_167n e rfl rfl fun e => op_21 e fun e => (op_172 e fun _ => True.intro).1
theorem dX12_touchingOf_82 : decode cX12_touchingOf 82 = .ok (.ior, 1) := bl_dX12_touchingOf_82.1
theorem dX12_touchingOf_83 : decode cX12_touchingOf 83 = .ok (.istore 4, 2) := bl_dX12_touchingOf_82.2.1
theorem dX12_touchingOf_85 : decode cX12_touchingOf 85 = .ok (.iinc 5 1, 3) := bl_dX12_touchingOf_82.2.2.1
theorem dX12_touchingOf_88 : decode cX12_touchingOf 88 = .ok (.goto (-80), 3) := bl_dX12_touchingOf_82.2.2.2.1
theorem dX12_touchingOf_91 : decode cX12_touchingOf 91 = .ok (.iload 4, 2) := bl_dX12_touchingOf_82.2.2.2.2.1
theorem dX12_touchingOf_93 : decode cX12_touchingOf 93 = .ok (.ireturn, 1) := bl_dX12_touchingOf_82.2.2.2.2.2
theorem lk_dX12_canHave_0 : th_dr cX12_canHave 0 = 42 :: 180 :: 0 :: 83 :: 27 :: 46 :: 28 :: 122 :: 4 :: 126 :: 4 :: 160 :: 0 :: 7 :: 4 :: 167 :: 0 :: 4 :: 3 :: 62 :: 3 :: 54 :: 4 :: th_dr cX12_canHave 23 := rfl
theorem bl_dX12_canHave_0 : decode cX12_canHave 0 = .ok (.aload_n 0, 1) ∧ decode cX12_canHave 1 = .ok (.getfield 83, 3) ∧ decode cX12_canHave 4 = .ok (.iload_n 1, 1) ∧ decode cX12_canHave 5 = .ok (.iaload, 1) ∧ decode cX12_canHave 6 = .ok (.iload_n 2, 1) ∧ decode cX12_canHave 7 = .ok (.ishr, 1) ∧ decode cX12_canHave 8 = .ok (.iconst 1, 1) ∧ decode cX12_canHave 9 = .ok (.iand, 1) ∧ decode cX12_canHave 10 = .ok (.iconst 1, 1) ∧ decode cX12_canHave 11 = .ok (.if_icmp .ne 7, 3) ∧ decode cX12_canHave 14 = .ok (.iconst 1, 1) ∧ decode cX12_canHave 15 = .ok (.goto 4, 3) ∧ decode cX12_canHave 18 = .ok (.iconst 0, 1) ∧ decode cX12_canHave 19 = .ok (.istore_n 3, 1) ∧ decode cX12_canHave 20 = .ok (.iconst 0, 1) ∧ decode cX12_canHave 21 = .ok (.istore 4, 2) := op_42 lk_dX12_canHave_0 fun e => op_180 e fun e => op_27 e fun e => op_46 e fun e => op_28 e fun e => op_122 e fun e => op_4 e fun e => op_126 e fun e => op_4 e fun e => op_160p e rfl fun e => op_4 e fun e => op_167p e rfl fun e => op_3 e fun e => op_62 e fun e => op_3 e fun e => (op_54 e fun _ => True.intro).1
theorem dX12_canHave_0 : decode cX12_canHave 0 = .ok (.aload_n 0, 1) := bl_dX12_canHave_0.1
theorem dX12_canHave_1 : decode cX12_canHave 1 = .ok (.getfield 83, 3) := bl_dX12_canHave_0.2.1
theorem dX12_canHave_4 : decode cX12_canHave 4 = .ok (.iload_n 1, 1) := bl_dX12_canHave_0.2.2.1
theorem dX12_canHave_5 : decode cX12_canHave 5 = .ok (.iaload, 1) := bl_dX12_canHave_0.2.2.2.1
theorem dX12_canHave_6 : decode cX12_canHave 6 = .ok (.iload_n 2, 1) := bl_dX12_canHave_0.2.2.2.2.1
theorem dX12_canHave_7 : decode cX12_canHave 7 = .ok (.ishr, 1) := bl_dX12_canHave_0.2.2.2.2.2.1
theorem dX12_canHave_8 : decode cX12_canHave 8 = .ok (.iconst 1, 1) := bl_dX12_canHave_0.2.2.2.2.2.2.1
theorem dX12_canHave_9 : decode cX12_canHave 9 = .ok (.iand, 1) := bl_dX12_canHave_0.2.2.2.2.2.2.2.1
theorem dX12_canHave_10 : decode cX12_canHave 10 = .ok (.iconst 1, 1) := bl_dX12_canHave_0.2.2.2.2.2.2.2.2.1
theorem dX12_canHave_11 : decode cX12_canHave 11 = .ok (.if_icmp .ne 7, 3) := bl_dX12_canHave_0.2.2.2.2.2.2.2.2.2.1
theorem dX12_canHave_14 : decode cX12_canHave 14 = .ok (.iconst 1, 1) := bl_dX12_canHave_0.2.2.2.2.2.2.2.2.2.2.1
theorem dX12_canHave_15 : decode cX12_canHave 15 = .ok (.goto 4, 3) := bl_dX12_canHave_0.2.2.2.2.2.2.2.2.2.2.2.1
theorem dX12_canHave_18 : decode cX12_canHave 18 = .ok (.iconst 0, 1) := bl_dX12_canHave_0.2.2.2.2.2.2.2.2.2.2.2.2.1
theorem dX12_canHave_19 : decode cX12_canHave 19 = .ok (.istore_n 3, 1) := bl_dX12_canHave_0.2.2.2.2.2.2.2.2.2.2.2.2.2.1
theorem dX12_canHave_20 : decode cX12_canHave 20 = .ok (.iconst 0, 1) := bl_dX12_canHave_0.2.2.2.2.2.2.2.2.2.2.2.2.2.2.1
theorem dX12_canHave_21 : decode cX12_canHave 21 = .ok (.istore 4, 2) := bl_dX12_canHave_0.2.2.2.2.2.2.2.2.2.2.2.2.2.2.2
theorem lk_dX12_canHave_23 : th_dr cX12_canHave 23 = 21 :: 4 :: 27 :: 162 :: 0 :: 60 :: 29 :: 153 :: 0 :: 56 :: 42 :: 180 :: 0 :: 86 :: 21 :: 4 :: 46 :: 16 :: 12 :: 159 :: 0 :: 32 :: 42 :: 180 :: 0 :: 92 :: 8 :: 16 :: 12 :: 27 :: th_dr cX12_canHave 53 := rfl
theorem bl_dX12_canHave_23 : decode cX12_canHave 23 = .ok (.iload 4, 2) ∧ decode cX12_canHave 25 = .ok (.iload_n 1, 1) ∧ decode cX12_canHave 26 = .ok (.if_icmp .ge 60, 3) ∧ decode cX12_canHave 29 = .ok (.iload_n 3, 1) ∧ decode cX12_canHave 30 = .ok (.ifCond .eq 56, 3) ∧ decode cX12_canHave 33 = .ok (.aload_n 0, 1) ∧ decode cX12_canHave 34 = .ok (.getfield 86, 3) ∧ decode cX12_canHave 37 = .ok (.iload 4, 2) ∧ decode cX12_canHave 39 = .ok (.iaload, 1) ∧ decode cX12_canHave 40 = .ok (.bipush 12, 2) ∧ decode cX12_canHave 42 = .ok (.if_icmp .eq 32, 3) ∧ decode cX12_canHave 45 = .ok (.aload_n 0, 1) ∧ decode cX12_canHave 46 = .ok (.getfield 92, 3) ∧ decode cX12_canHave 49 = .ok (.iconst 5, 1) ∧ decode cX12_canHave 50 = .ok (.bipush 12, 2) ∧ decode cX12_canHave 52 = .ok (.iload_n 1, 1) := op_21 lk_dX12_canHave_23 fun e => op_27 e fun e => op_162p e rfl fun e => op_29 e fun e => op_153p e rfl fun e => op_42 e fun e => op_180 e fun e => op_21 e fun e => op_46 e fun e => op_16p e rfl fun e => op_159p e rfl fun e => op_42 e fun e => op_180 e fun e => op_8 e fun e => op_16p e rfl fun e => (op_27 e fun _ => True.intro).1
theorem dX12_canHave_23 : decode cX12_canHave 23 = .ok (.iload 4, 2) := bl_dX12_canHave_23.1
theorem dX12_canHave_25 : decode cX12_canHave 25 = .ok (.iload_n 1, 1) := bl_dX12_canHave_23.2.1
theorem dX12_canHave_26 : decode cX12_canHave 26 = .ok (.if_icmp .ge 60, 3) := bl_dX12_canHave_23.2.2.1
theorem dX12_canHave_29 : decode cX12_canHave 29 = .ok (.iload_n 3, 1) := bl_dX12_canHave_23.2.2.2.1
theorem dX12_canHave_30 : decode cX12_canHave 30 = .ok (.ifCond .eq 56, 3) := bl_dX12_canHave_23.2.2.2.2.1
theorem dX12_canHave_33 : decode cX12_canHave 33 = .ok (.aload_n 0, 1) := bl_dX12_canHave_23.2.2.2.2.2.1
theorem dX12_canHave_34 : decode cX12_canHave 34 = .ok (.getfield 86, 3) := bl_dX12_canHave_23.2.2.2.2.2.2.1
theorem dX12_canHave_37 : decode cX12_canHave 37 = .ok (.iload 4, 2) := bl_dX12_canHave_23.2.2.2.2.2.2.2.1
theorem dX12_canHave_39 : decode cX12_canHave 39 = .ok (.iaload, 1) := bl_dX12_canHave_23.2.2.2.2.2.2.2.2.1
theorem dX12_canHave_40 : decode cX12_canHave 40 = .ok (.bipush 12, 2) := bl_dX12_canHave_23.2.2.2.2.2.2.2.2.2.1
theorem dX12_canHave_42 : decode cX12_canHave 42 = .ok (.if_icmp .eq 32, 3) := bl_dX12_canHave_23.2.2.2.2.2.2.2.2.2.2.1
theorem dX12_canHave_45 : decode cX12_canHave 45 = .ok (.aload_n 0, 1) := bl_dX12_canHave_23.2.2.2.2.2.2.2.2.2.2.2.1
theorem dX12_canHave_46 : decode cX12_canHave 46 = .ok (.getfield 92, 3) := bl_dX12_canHave_23.2.2.2.2.2.2.2.2.2.2.2.2.1
theorem dX12_canHave_49 : decode cX12_canHave 49 = .ok (.iconst 5, 1) := bl_dX12_canHave_23.2.2.2.2.2.2.2.2.2.2.2.2.2.1
theorem dX12_canHave_50 : decode cX12_canHave 50 = .ok (.bipush 12, 2) := bl_dX12_canHave_23.2.2.2.2.2.2.2.2.2.2.2.2.2.2.1
theorem dX12_canHave_52 : decode cX12_canHave 52 = .ok (.iload_n 1, 1) := bl_dX12_canHave_23.2.2.2.2.2.2.2.2.2.2.2.2.2.2.2
set_option maxRecDepth 20000 in
theorem lk_dX12_canHave_53 : th_dr cX12_canHave 53 = 104 :: 28 :: 96 :: 104 :: 21 :: 4 :: 96 :: 46 :: 42 :: 180 :: 0 :: 86 :: 21 :: 4 :: 46 :: 122 :: 4 :: 126 :: 154 :: 0 :: 7 :: 4 :: th_dr cX12_canHave 75 := rfl
theorem bl_dX12_canHave_53 : decode cX12_canHave 53 = .ok (.imul, 1) ∧ decode cX12_canHave 54 = .ok (.iload_n 2, 1) ∧ decode cX12_canHave 55 = .ok (.iadd, 1) ∧ decode cX12_canHave 56 = .ok (.imul, 1) ∧ decode cX12_canHave 57 = .ok (.iload 4, 2) ∧ decode cX12_canHave 59 = .ok (.iadd, 1) ∧ decode cX12_canHave 60 = .ok (.iaload, 1) ∧ decode cX12_canHave 61 = .ok (.aload_n 0, 1) ∧ decode cX12_canHave 62 = .ok (.getfield 86, 3) ∧ decode cX12_canHave 65 = .ok (.iload 4, 2) ∧ decode cX12_canHave 67 = .ok (.iaload, 1) ∧ decode cX12_canHave 68 = .ok (.ishr, 1) ∧ decode cX12_canHave 69 = .ok (.iconst 1, 1) ∧ decode cX12_canHave 70 = .ok (.iand, 1) ∧ decode cX12_canHave 71 = .ok (.ifCond .ne 7, 3) ∧ decode cX12_canHave 74 = .ok (.iconst 1, 1) := op_104 lk_dX12_canHave_53 fun e => op_28 e fun e => op_96 e fun e => op_104 e fun e => op_21 e fun e => op_96 e fun e => op_46 e fun e => op_42 e fun e => op_180 e fun e => op_21 e fun e => op_46 e fun e => op_122 e fun e => op_4 e fun e => op_126 e fun e => op_154p e rfl fun e => (op_4 e fun _ => True.intro).1
theorem dX12_canHave_53 : decode cX12_canHave 53 = .ok (.imul, 1) := bl_dX12_canHave_53.1
theorem dX12_canHave_54 : decode cX12_canHave 54 = .ok (.iload_n 2, 1) := bl_dX12_canHave_53.2.1
theorem dX12_canHave_55 : decode cX12_canHave 55 = .ok (.iadd, 1) := bl_dX12_canHave_53.2.2.1
theorem dX12_canHave_56 : decode cX12_canHave 56 = .ok (.imul, 1) := bl_dX12_canHave_53.2.2.2.1
theorem dX12_canHave_57 : decode cX12_canHave 57 = .ok (.iload 4, 2) := bl_dX12_canHave_53.2.2.2.2.1
theorem dX12_canHave_59 : decode cX12_canHave 59 = .ok (.iadd, 1) := bl_dX12_canHave_53.2.2.2.2.2.1
theorem dX12_canHave_60 : decode cX12_canHave 60 = .ok (.iaload, 1) := bl_dX12_canHave_53.2.2.2.2.2.2.1
theorem dX12_canHave_61 : decode cX12_canHave 61 = .ok (.aload_n 0, 1) := bl_dX12_canHave_53.2.2.2.2.2.2.2.1
theorem dX12_canHave_62 : decode cX12_canHave 62 = .ok (.getfield 86, 3) := bl_dX12_canHave_53.2.2.2.2.2.2.2.2.1
theorem dX12_canHave_65 : decode cX12_canHave 65 = .ok (.iload 4, 2) := bl_dX12_canHave_53.2.2.2.2.2.2.2.2.2.1
theorem dX12_canHave_67 : decode cX12_canHave 67 = .ok (.iaload, 1) := bl_dX12_canHave_53.2.2.2.2.2.2.2.2.2.2.1
theorem dX12_canHave_68 : decode cX12_canHave 68 = .ok (.ishr, 1) := bl_dX12_canHave_53.2.2.2.2.2.2.2.2.2.2.2.1
theorem dX12_canHave_69 : decode cX12_canHave 69 = .ok (.iconst 1, 1) := bl_dX12_canHave_53.2.2.2.2.2.2.2.2.2.2.2.2.1
theorem dX12_canHave_70 : decode cX12_canHave 70 = .ok (.iand, 1) := bl_dX12_canHave_53.2.2.2.2.2.2.2.2.2.2.2.2.2.1
theorem dX12_canHave_71 : decode cX12_canHave 71 = .ok (.ifCond .ne 7, 3) := bl_dX12_canHave_53.2.2.2.2.2.2.2.2.2.2.2.2.2.2.1
theorem dX12_canHave_74 : decode cX12_canHave 74 = .ok (.iconst 1, 1) := bl_dX12_canHave_53.2.2.2.2.2.2.2.2.2.2.2.2.2.2.2
set_option maxRecDepth 20000 in
theorem lk_dX12_canHave_75 : th_dr cX12_canHave 75 = 167 :: 0 :: 4 :: 3 :: 62 :: 132 :: 4 :: 1 :: 167 :: 255 :: 196 :: 29 :: 172 :: th_dr cX12_canHave 88 := rfl
theorem bl_dX12_canHave_75 : decode cX12_canHave 75 = .ok (.goto 4, 3) ∧ decode cX12_canHave 78 = .ok (.iconst 0, 1) ∧ decode cX12_canHave 79 = .ok (.istore_n 3, 1) ∧ decode cX12_canHave 80 = .ok (.iinc 4 1, 3) ∧ decode cX12_canHave 83 = .ok (.goto (-60), 3) ∧ decode cX12_canHave 86 = .ok (.iload_n 3, 1) ∧ decode cX12_canHave 87 = .ok (.ireturn, 1) := op_167p lk_dX12_canHave_75 rfl fun e => op_3 e fun e => op_62 e fun e => op_132p e rfl fun e => op_167n e rfl rfl fun e => op_29 e fun e => (op_172 e fun _ => True.intro).1
theorem dX12_canHave_75 : decode cX12_canHave 75 = .ok (.goto 4, 3) := bl_dX12_canHave_75.1
theorem dX12_canHave_78 : decode cX12_canHave 78 = .ok (.iconst 0, 1) := bl_dX12_canHave_75.2.1
theorem dX12_canHave_79 : decode cX12_canHave 79 = .ok (.istore_n 3, 1) := bl_dX12_canHave_75.2.2.1
theorem dX12_canHave_80 : decode cX12_canHave 80 = .ok (.iinc 4 1, 3) := bl_dX12_canHave_75.2.2.2.1
theorem dX12_canHave_83 : decode cX12_canHave 83 = .ok (.goto (-60), 3) := bl_dX12_canHave_75.2.2.2.2.1
theorem dX12_canHave_86 : decode cX12_canHave 86 = .ok (.iload_n 3, 1) := bl_dX12_canHave_75.2.2.2.2.2.1
theorem dX12_canHave_87 : decode cX12_canHave 87 = .ok (.ireturn, 1) := bl_dX12_canHave_75.2.2.2.2.2.2
set_option maxRecDepth 20000 in
theorem gdwsX12_canHave : wsX12_canHave.all goodWord = true := by decide +kernel
set_option maxRecDepth 20000 in
theorem ggX12_findMost_X12_canHave : GoodIn wsX12_findMost wsX12_canHave := goodIn_q _ [(9, 2), (2, 1), (11, 39)] rfl gdwsX12_canHave
set_option maxRecDepth 20000 in
theorem gX12_findMost_X12_canHave : GoodIn wsX12_findMost (wsV RX12 209 RX12 yX12_canHave wsX12_canHave) := goodIn_app (goodIn_q _ [(5, 4)] rfl rfl) ggX12_findMost_X12_canHave
theorem lk_dX12_findMost_0 : th_dr cX12_findMost 0 = 42 :: 2 :: 181 :: 0 :: 206 :: 3 :: 60 :: 3 :: 61 :: 42 :: 180 :: 0 :: 86 :: 3 :: 2 :: 79 :: 27 :: 155 :: 0 :: 219 :: 27 :: 42 :: th_dr cX12_findMost 22 := rfl
theorem bl_dX12_findMost_0 : decode cX12_findMost 0 = .ok (.aload_n 0, 1) ∧ decode cX12_findMost 1 = .ok (.iconst (-1), 1) ∧ decode cX12_findMost 2 = .ok (.putfield 206, 3) ∧ decode cX12_findMost 5 = .ok (.iconst 0, 1) ∧ decode cX12_findMost 6 = .ok (.istore_n 1, 1) ∧ decode cX12_findMost 7 = .ok (.iconst 0, 1) ∧ decode cX12_findMost 8 = .ok (.istore_n 2, 1) ∧ decode cX12_findMost 9 = .ok (.aload_n 0, 1) ∧ decode cX12_findMost 10 = .ok (.getfield 86, 3) ∧ decode cX12_findMost 13 = .ok (.iconst 0, 1) ∧ decode cX12_findMost 14 = .ok (.iconst (-1), 1) ∧ decode cX12_findMost 15 = .ok (.iastore, 1) ∧ decode cX12_findMost 16 = .ok (.iload_n 1, 1) ∧ decode cX12_findMost 17 = .ok (.ifCond .lt 219, 3) ∧ decode cX12_findMost 20 = .ok (.iload_n 1, 1) ∧ decode cX12_findMost 21 = .ok (.aload_n 0, 1) := op_42 lk_dX12_findMost_0 fun e => op_2 e fun e => op_181 e fun e => op_3 e fun e => op_60 e fun e => op_3 e fun e => op_61 e fun e => op_42 e fun e => op_180 e fun e => op_3 e fun e => op_2 e fun e => op_79 e fun e => op_27 e fun e => op_155p e rfl fun e => op_27 e fun e => (op_42 e fun _ => True.intro).1
theorem dX12_findMost_0 : decode cX12_findMost 0 = .ok (.aload_n 0, 1) := bl_dX12_findMost_0.1
theorem dX12_findMost_1 : decode cX12_findMost 1 = .ok (.iconst (-1), 1) := bl_dX12_findMost_0.2.1
theorem dX12_findMost_2 : decode cX12_findMost 2 = .ok (.putfield 206, 3) := bl_dX12_findMost_0.2.2.1
theorem dX12_findMost_5 : decode cX12_findMost 5 = .ok (.iconst 0, 1) := bl_dX12_findMost_0.2.2.2.1
theorem dX12_findMost_6 : decode cX12_findMost 6 = .ok (.istore_n 1, 1) := bl_dX12_findMost_0.2.2.2.2.1
theorem dX12_findMost_7 : decode cX12_findMost 7 = .ok (.iconst 0, 1) := bl_dX12_findMost_0.2.2.2.2.2.1
theorem dX12_findMost_8 : decode cX12_findMost 8 = .ok (.istore_n 2, 1) := bl_dX12_findMost_0.2.2.2.2.2.2.1
theorem dX12_findMost_9 : decode cX12_findMost 9 = .ok (.aload_n 0, 1) := bl_dX12_findMost_0.2.2.2.2.2.2.2.1
theorem dX12_findMost_10 : decode cX12_findMost 10 = .ok (.getfield 86, 3) := bl_dX12_findMost_0.2.2.2.2.2.2.2.2.1
theorem dX12_findMost_13 : decode cX12_findMost 13 = .ok (.iconst 0, 1) := bl_dX12_findMost_0.2.2.2.2.2.2.2.2.2.1
theorem dX12_findMost_14 : decode cX12_findMost 14 = .ok (.iconst (-1), 1) := bl_dX12_findMost_0.2.2.2.2.2.2.2.2.2.2.1
theorem dX12_findMost_15 : decode cX12_findMost 15 = .ok (.iastore, 1) := bl_dX12_findMost_0.2.2.2.2.2.2.2.2.2.2.2.1
theorem dX12_findMost_16 : decode cX12_findMost 16 = .ok (.iload_n 1, 1) := bl_dX12_findMost_0.2.2.2.2.2.2.2.2.2.2.2.2.1
theorem dX12_findMost_17 : decode cX12_findMost 17 = .ok (.ifCond .lt 219, 3) := bl_dX12_findMost_0.2.2.2.2.2.2.2.2.2.2.2.2.2.1
theorem dX12_findMost_20 : decode cX12_findMost 20 = .ok (.iload_n 1, 1) := bl_dX12_findMost_0.2.2.2.2.2.2.2.2.2.2.2.2.2.2.1
theorem dX12_findMost_21 : decode cX12_findMost 21 = .ok (.aload_n 0, 1) := bl_dX12_findMost_0.2.2.2.2.2.2.2.2.2.2.2.2.2.2.2
theorem lk_dX12_findMost_22 : th_dr cX12_findMost 22 = 180 :: 0 :: 200 :: 160 :: 0 :: 65 :: 28 :: 42 :: 180 :: 0 :: 206 :: 164 :: 0 :: 51 :: 42 :: 28 :: 181 :: 0 :: 206 :: 3 :: 62 :: 29 :: 42 :: 180 :: 0 :: 200 :: 162 :: 0 :: 36 :: 42 :: th_dr cX12_findMost 52 := rfl
theorem bl_dX12_findMost_22 : decode cX12_findMost 22 = .ok (.getfield 200, 3) ∧ decode cX12_findMost 25 = .ok (.if_icmp .ne 65, 3) ∧ decode cX12_findMost 28 = .ok (.iload_n 2, 1) ∧ decode cX12_findMost 29 = .ok (.aload_n 0, 1) ∧ decode cX12_findMost 30 = .ok (.getfield 206, 3) ∧ decode cX12_findMost 33 = .ok (.if_icmp .le 51, 3) ∧ decode cX12_findMost 36 = .ok (.aload_n 0, 1) ∧ decode cX12_findMost 37 = .ok (.iload_n 2, 1) ∧ decode cX12_findMost 38 = .ok (.putfield 206, 3) ∧ decode cX12_findMost 41 = .ok (.iconst 0, 1) ∧ decode cX12_findMost 42 = .ok (.istore_n 3, 1) ∧ decode cX12_findMost 43 = .ok (.iload_n 3, 1) ∧ decode cX12_findMost 44 = .ok (.aload_n 0, 1) ∧ decode cX12_findMost 45 = .ok (.getfield 200, 3) ∧ decode cX12_findMost 48 = .ok (.if_icmp .ge 36, 3) ∧ decode cX12_findMost 51 = .ok (.aload_n 0, 1) := op_180 lk_dX12_findMost_22 fun e => op_160p e rfl fun e => op_28 e fun e => op_42 e fun e => op_180 e fun e => op_164p e rfl fun e => op_42 e fun e => op_28 e fun e => op_181 e fun e => op_3 e fun e => op_62 e fun e => op_29 e fun e => op_42 e fun e => op_180 e fun e => op_162p e rfl fun e => (op_42 e fun _ => True.intro).1
theorem dX12_findMost_22 : decode cX12_findMost 22 = .ok (.getfield 200, 3) := bl_dX12_findMost_22.1
theorem dX12_findMost_25 : decode cX12_findMost 25 = .ok (.if_icmp .ne 65, 3) := bl_dX12_findMost_22.2.1
theorem dX12_findMost_28 : decode cX12_findMost 28 = .ok (.iload_n 2, 1) := bl_dX12_findMost_22.2.2.1
theorem dX12_findMost_29 : decode cX12_findMost 29 = .ok (.aload_n 0, 1) := bl_dX12_findMost_22.2.2.2.1
theorem dX12_findMost_30 : decode cX12_findMost 30 = .ok (.getfield 206, 3) := bl_dX12_findMost_22.2.2.2.2.1
theorem dX12_findMost_33 : decode cX12_findMost 33 = .ok (.if_icmp .le 51, 3) := bl_dX12_findMost_22.2.2.2.2.2.1
theorem dX12_findMost_36 : decode cX12_findMost 36 = .ok (.aload_n 0, 1) := bl_dX12_findMost_22.2.2.2.2.2.2.1
theorem dX12_findMost_37 : decode cX12_findMost 37 = .ok (.iload_n 2, 1) := bl_dX12_findMost_22.2.2.2.2.2.2.2.1
theorem dX12_findMost_38 : decode cX12_findMost 38 = .ok (.putfield 206, 3) := bl_dX12_findMost_22.2.2.2.2.2.2.2.2.1
theorem dX12_findMost_41 : decode cX12_findMost 41 = .ok (.iconst 0, 1) := bl_dX12_findMost_22.2.2.2.2.2.2.2.2.2.1
theorem dX12_findMost_42 : decode cX12_findMost 42 = .ok (.istore_n 3, 1) := bl_dX12_findMost_22.2.2.2.2.2.2.2.2.2.2.1
theorem dX12_findMost_43 : decode cX12_findMost 43 = .ok (.iload_n 3, 1) := bl_dX12_findMost_22.2.2.2.2.2.2.2.2.2.2.2.1
theorem dX12_findMost_44 : decode cX12_findMost 44 = .ok (.aload_n 0, 1) := bl_dX12_findMost_22.2.2.2.2.2.2.2.2.2.2.2.2.1
theorem dX12_findMost_45 : decode cX12_findMost 45 = .ok (.getfield 200, 3) := bl_dX12_findMost_22.2.2.2.2.2.2.2.2.2.2.2.2.2.1
theorem dX12_findMost_48 : decode cX12_findMost 48 = .ok (.if_icmp .ge 36, 3) := bl_dX12_findMost_22.2.2.2.2.2.2.2.2.2.2.2.2.2.2.1
theorem dX12_findMost_51 : decode cX12_findMost 51 = .ok (.aload_n 0, 1) := bl_dX12_findMost_22.2.2.2.2.2.2.2.2.2.2.2.2.2.2.2
set_option maxRecDepth 20000 in
theorem lk_dX12_findMost_52 : th_dr cX12_findMost 52 = 180 :: 0 :: 89 :: 29 :: 42 :: 180 :: 0 :: 86 :: 29 :: 46 :: 16 :: 12 :: 160 :: 0 :: 7 :: 2 :: 167 :: 0 :: 9 :: 42 :: 180 :: 0 :: 86 :: 29 :: 46 :: 79 :: 132 :: 3 :: 1 :: th_dr cX12_findMost 81 := rfl
theorem bl_dX12_findMost_52 : decode cX12_findMost 52 = .ok (.getfield 89, 3) ∧ decode cX12_findMost 55 = .ok (.iload_n 3, 1) ∧ decode cX12_findMost 56 = .ok (.aload_n 0, 1) ∧ decode cX12_findMost 57 = .ok (.getfield 86, 3) ∧ decode cX12_findMost 60 = .ok (.iload_n 3, 1) ∧ decode cX12_findMost 61 = .ok (.iaload, 1) ∧ decode cX12_findMost 62 = .ok (.bipush 12, 2) ∧ decode cX12_findMost 64 = .ok (.if_icmp .ne 7, 3) ∧ decode cX12_findMost 67 = .ok (.iconst (-1), 1) ∧ decode cX12_findMost 68 = .ok (.goto 9, 3) ∧ decode cX12_findMost 71 = .ok (.aload_n 0, 1) ∧ decode cX12_findMost 72 = .ok (.getfield 86, 3) ∧ decode cX12_findMost 75 = .ok (.iload_n 3, 1) ∧ decode cX12_findMost 76 = .ok (.iaload, 1) ∧ decode cX12_findMost 77 = .ok (.iastore, 1) ∧ decode cX12_findMost 78 = .ok (.iinc 3 1, 3) := op_180 lk_dX12_findMost_52 fun e => op_29 e fun e => op_42 e fun e => op_180 e fun e => op_29 e fun e => op_46 e fun e => op_16p e rfl fun e => op_160p e rfl fun e => op_2 e fun e => op_167p e rfl fun e => op_42 e fun e => op_180 e fun e => op_29 e fun e => op_46 e fun e => op_79 e fun e => (op_132p e rfl fun _ => True.intro).1
theorem dX12_findMost_52 : decode cX12_findMost 52 = .ok (.getfield 89, 3) := bl_dX12_findMost_52.1
theorem dX12_findMost_55 : decode cX12_findMost 55 = .ok (.iload_n 3, 1) := bl_dX12_findMost_52.2.1
theorem dX12_findMost_56 : decode cX12_findMost 56 = .ok (.aload_n 0, 1) := bl_dX12_findMost_52.2.2.1
theorem dX12_findMost_57 : decode cX12_findMost 57 = .ok (.getfield 86, 3) := bl_dX12_findMost_52.2.2.2.1
theorem dX12_findMost_60 : decode cX12_findMost 60 = .ok (.iload_n 3, 1) := bl_dX12_findMost_52.2.2.2.2.1
theorem dX12_findMost_61 : decode cX12_findMost 61 = .ok (.iaload, 1) := bl_dX12_findMost_52.2.2.2.2.2.1
theorem dX12_findMost_62 : decode cX12_findMost 62 = .ok (.bipush 12, 2) := bl_dX12_findMost_52.2.2.2.2.2.2.1
theorem dX12_findMost_64 : decode cX12_findMost 64 = .ok (.if_icmp .ne 7, 3) := bl_dX12_findMost_52.2.2.2.2.2.2.2.1
theorem dX12_findMost_67 : decode cX12_findMost 67 = .ok (.iconst (-1), 1) := bl_dX12_findMost_52.2.2.2.2.2.2.2.2.1
theorem dX12_findMost_68 : decode cX12_findMost 68 = .ok (.goto 9, 3) := bl_dX12_findMost_52.2.2.2.2.2.2.2.2.2.1
theorem dX12_findMost_71 : decode cX12_findMost 71 = .ok (.aload_n 0, 1) := bl_dX12_findMost_52.2.2.2.2.2.2.2.2.2.2.1
theorem dX12_findMost_72 : decode cX12_findMost 72 = .ok (.getfield 86, 3) := bl_dX12_findMost_52.2.2.2.2.2.2.2.2.2.2.2.1
theorem dX12_findMost_75 : decode cX12_findMost 75 = .ok (.iload_n 3, 1) := bl_dX12_findMost_52.2.2.2.2.2.2.2.2.2.2.2.2.1
theorem dX12_findMost_76 : decode cX12_findMost 76 = .ok (.iaload, 1) := bl_dX12_findMost_52.2.2.2.2.2.2.2.2.2.2.2.2.2.1
theorem dX12_findMost_77 : decode cX12_findMost 77 = .ok (.iastore, 1) := bl_dX12_findMost_52.2.2.2.2.2.2.2.2.2.2.2.2.2.2.1
theorem dX12_findMost_78 : decode cX12_findMost 78 = .ok (.iinc 3 1, 3) := bl_dX12_findMost_52.2.2.2.2.2.2.2.2.2.2.2.2.2.2.2
set_option maxRecDepth 20000 in
theorem lk_dX12_findMost_81 : th_dr cX12_findMost 81 = 167 :: 255 :: 218 :: 132 :: 1 :: 255 :: 167 :: 255 :: 185 :: 28 :: 42 :: 180 :: 0 :: 86 :: 27 :: 46 :: 155 :: 0 :: 18 :: 42 :: 180 :: 0 :: 86 :: 27 :: 46 :: 16 :: 12 :: 162 :: 0 :: 7 :: 4 :: th_dr cX12_findMost 112 := rfl
theorem bl_dX12_findMost_81 : decode cX12_findMost 81 = .ok (.goto (-38), 3) ∧ decode cX12_findMost 84 = .ok (.iinc 1 (-1), 3) ∧ decode cX12_findMost 87 = .ok (.goto (-71), 3) ∧ decode cX12_findMost 90 = .ok (.iload_n 2, 1) ∧ decode cX12_findMost 91 = .ok (.aload_n 0, 1) ∧ decode cX12_findMost 92 = .ok (.getfield 86, 3) ∧ decode cX12_findMost 95 = .ok (.iload_n 1, 1) ∧ decode cX12_findMost 96 = .ok (.iaload, 1) ∧ decode cX12_findMost 97 = .ok (.ifCond .lt 18, 3) ∧ decode cX12_findMost 100 = .ok (.aload_n 0, 1) ∧ decode cX12_findMost 101 = .ok (.getfield 86, 3) ∧ decode cX12_findMost 104 = .ok (.iload_n 1, 1) ∧ decode cX12_findMost 105 = .ok (.iaload, 1) ∧ decode cX12_findMost 106 = .ok (.bipush 12, 2) ∧ decode cX12_findMost 108 = .ok (.if_icmp .ge 7, 3) ∧ decode cX12_findMost 111 = .ok (.iconst 1, 1) := op_167n lk_dX12_findMost_81 rfl rfl fun e => op_132n e rfl rfl fun e => op_167n e rfl rfl fun e => op_28 e fun e => op_42 e fun e => op_180 e fun e => op_27 e fun e => op_46 e fun e => op_155p e rfl fun e => op_42 e fun e => op_180 e fun e => op_27 e fun e => op_46 e fun e => op_16p e rfl fun e => op_162p e rfl fun e => (op_4 e fun _ => True.intro).1
theorem dX12_findMost_81 : decode cX12_findMost 81 = .ok (.goto (-38), 3) := bl_dX12_findMost_81.1
theorem dX12_findMost_84 : decode cX12_findMost 84 = .ok (.iinc 1 (-1), 3) := bl_dX12_findMost_81.2.1
theorem dX12_findMost_87 : decode cX12_findMost 87 = .ok (.goto (-71), 3) := bl_dX12_findMost_81.2.2.1
theorem dX12_findMost_90 : decode cX12_findMost 90 = .ok (.iload_n 2, 1) := bl_dX12_findMost_81.2.2.2.1
theorem dX12_findMost_91 : decode cX12_findMost 91 = .ok (.aload_n 0, 1) := bl_dX12_findMost_81.2.2.2.2.1
theorem dX12_findMost_92 : decode cX12_findMost 92 = .ok (.getfield 86, 3) := bl_dX12_findMost_81.2.2.2.2.2.1
theorem dX12_findMost_95 : decode cX12_findMost 95 = .ok (.iload_n 1, 1) := bl_dX12_findMost_81.2.2.2.2.2.2.1
theorem dX12_findMost_96 : decode cX12_findMost 96 = .ok (.iaload, 1) := bl_dX12_findMost_81.2.2.2.2.2.2.2.1
theorem dX12_findMost_97 : decode cX12_findMost 97 = .ok (.ifCond .lt 18, 3) := bl_dX12_findMost_81.2.2.2.2.2.2.2.2.1
theorem dX12_findMost_100 : decode cX12_findMost 100 = .ok (.aload_n 0, 1) := bl_dX12_findMost_81.2.2.2.2.2.2.2.2.2.1
theorem dX12_findMost_101 : decode cX12_findMost 101 = .ok (.getfield 86, 3) := bl_dX12_findMost_81.2.2.2.2.2.2.2.2.2.2.1
theorem dX12_findMost_104 : decode cX12_findMost 104 = .ok (.iload_n 1, 1) := bl_dX12_findMost_81.2.2.2.2.2.2.2.2.2.2.2.1
theorem dX12_findMost_105 : decode cX12_findMost 105 = .ok (.iaload, 1) := bl_dX12_findMost_81.2.2.2.2.2.2.2.2.2.2.2.2.1
theorem dX12_findMost_106 : decode cX12_findMost 106 = .ok (.bipush 12, 2) := bl_dX12_findMost_81.2.2.2.2.2.2.2.2.2.2.2.2.2.1
theorem dX12_findMost_108 : decode cX12_findMost 108 = .ok (.if_icmp .ge 7, 3) := bl_dX12_findMost_81.2.2.2.2.2.2.2.2.2.2.2.2.2.2.1
theorem dX12_findMost_111 : decode cX12_findMost 111 = .ok (.iconst 1, 1) := bl_dX12_findMost_81.2.2.2.2.2.2.2.2.2.2.2.2.2.2.2
set_option maxRecDepth 20000 in
theorem lk_dX12_findMost_112 : th_dr cX12_findMost 112 = 167 :: 0 :: 4 :: 3 :: 100 :: 61 :: 28 :: 42 :: 180 :: 0 :: 200 :: 96 :: 27 :: 100 :: 42 :: 180 :: 0 :: 206 :: 163 :: 0 :: 9 :: 132 :: 1 :: 255 :: 167 :: 255 :: 136 :: 42 :: th_dr cX12_findMost 140 := rfl
theorem bl_dX12_findMost_112 : decode cX12_findMost 112 = .ok (.goto 4, 3) ∧ decode cX12_findMost 115 = .ok (.iconst 0, 1) ∧ decode cX12_findMost 116 = .ok (.isub, 1) ∧ decode cX12_findMost 117 = .ok (.istore_n 2, 1) ∧ decode cX12_findMost 118 = .ok (.iload_n 2, 1) ∧ decode cX12_findMost 119 = .ok (.aload_n 0, 1) ∧ decode cX12_findMost 120 = .ok (.getfield 200, 3) ∧ decode cX12_findMost 123 = .ok (.iadd, 1) ∧ decode cX12_findMost 124 = .ok (.iload_n 1, 1) ∧ decode cX12_findMost 125 = .ok (.isub, 1) ∧ decode cX12_findMost 126 = .ok (.aload_n 0, 1) ∧ decode cX12_findMost 127 = .ok (.getfield 206, 3) ∧ decode cX12_findMost 130 = .ok (.if_icmp .gt 9, 3) ∧ decode cX12_findMost 133 = .ok (.iinc 1 (-1), 3) ∧ decode cX12_findMost 136 = .ok (.goto (-120), 3) ∧ decode cX12_findMost 139 = .ok (.aload_n 0, 1) := op_167p lk_dX12_findMost_112 rfl fun e => op_3 e fun e => op_100 e fun e => op_61 e fun e => op_28 e fun e => op_42 e fun e => op_180 e fun e => op_96 e fun e => op_27 e fun e => op_100 e fun e => op_42 e fun e => op_180 e fun e => op_163p e rfl fun e => op_132n e rfl rfl fun e => op_167n e rfl rfl fun e => (op_42 e fun _ => True.intro).1
theorem dX12_findMost_112 : decode cX12_findMost 112 = .ok (.goto 4, 3) := bl_dX12_findMost_112.1
theorem dX12_findMost_115 : decode cX12_findMost 115 = .ok (.iconst 0, 1) := bl_dX12_findMost_112.2.1
theorem dX12_findMost_116 : decode cX12_findMost 116 = .ok (.isub, 1) := bl_dX12_findMost_112.2.2.1
theorem dX12_findMost_117 : decode cX12_findMost 117 = .ok (.istore_n 2, 1) := bl_dX12_findMost_112.2.2.2.1
theorem dX12_findMost_118 : decode cX12_findMost 118 = .ok (.iload_n 2, 1) := bl_dX12_findMost_112.2.2.2.2.1
theorem dX12_findMost_119 : decode cX12_findMost 119 = .ok (.aload_n 0, 1) := bl_dX12_findMost_112.2.2.2.2.2.1
theorem dX12_findMost_120 : decode cX12_findMost 120 = .ok (.getfield 200, 3) := bl_dX12_findMost_112.2.2.2.2.2.2.1
theorem dX12_findMost_123 : decode cX12_findMost 123 = .ok (.iadd, 1) := bl_dX12_findMost_112.2.2.2.2.2.2.2.1
theorem dX12_findMost_124 : decode cX12_findMost 124 = .ok (.iload_n 1, 1) := bl_dX12_findMost_112.2.2.2.2.2.2.2.2.1
theorem dX12_findMost_125 : decode cX12_findMost 125 = .ok (.isub, 1) := bl_dX12_findMost_112.2.2.2.2.2.2.2.2.2.1
theorem dX12_findMost_126 : decode cX12_findMost 126 = .ok (.aload_n 0, 1) := bl_dX12_findMost_112.2.2.2.2.2.2.2.2.2.2.1
theorem dX12_findMost_127 : decode cX12_findMost 127 = .ok (.getfield 206, 3) := bl_dX12_findMost_112.2.2.2.2.2.2.2.2.2.2.2.1
theorem dX12_findMost_130 : decode cX12_findMost 130 = .ok (.if_icmp .gt 9, 3) := bl_dX12_findMost_112.2.2.2.2.2.2.2.2.2.2.2.2.1
theorem dX12_findMost_133 : decode cX12_findMost 133 = .ok (.iinc 1 (-1), 3) := bl_dX12_findMost_112.2.2.2.2.2.2.2.2.2.2.2.2.2.1
theorem dX12_findMost_136 : decode cX12_findMost 136 = .ok (.goto (-120), 3) := bl_dX12_findMost_112.2.2.2.2.2.2.2.2.2.2.2.2.2.2.1
theorem dX12_findMost_139 : decode cX12_findMost 139 = .ok (.aload_n 0, 1) := bl_dX12_findMost_112.2.2.2.2.2.2.2.2.2.2.2.2.2.2.2
set_option maxRecDepth 20000 in
theorem lk_dX12_findMost_140 : th_dr cX12_findMost 140 = 180 :: 0 :: 86 :: 27 :: 92 :: 46 :: 4 :: 96 :: 79 :: 42 :: 180 :: 0 :: 86 :: 27 :: 46 :: 16 :: 12 :: 162 :: 0 :: 30 :: 42 :: 27 :: 42 :: th_dr cX12_findMost 163 := rfl
theorem bl_dX12_findMost_140 : decode cX12_findMost 140 = .ok (.getfield 86, 3) ∧ decode cX12_findMost 143 = .ok (.iload_n 1, 1) ∧ decode cX12_findMost 144 = .ok (.dup2, 1) ∧ decode cX12_findMost 145 = .ok (.iaload, 1) ∧ decode cX12_findMost 146 = .ok (.iconst 1, 1) ∧ decode cX12_findMost 147 = .ok (.iadd, 1) ∧ decode cX12_findMost 148 = .ok (.iastore, 1) ∧ decode cX12_findMost 149 = .ok (.aload_n 0, 1) ∧ decode cX12_findMost 150 = .ok (.getfield 86, 3) ∧ decode cX12_findMost 153 = .ok (.iload_n 1, 1) ∧ decode cX12_findMost 154 = .ok (.iaload, 1) ∧ decode cX12_findMost 155 = .ok (.bipush 12, 2) ∧ decode cX12_findMost 157 = .ok (.if_icmp .ge 30, 3) ∧ decode cX12_findMost 160 = .ok (.aload_n 0, 1) ∧ decode cX12_findMost 161 = .ok (.iload_n 1, 1) ∧ decode cX12_findMost 162 = .ok (.aload_n 0, 1) := op_180 lk_dX12_findMost_140 fun e => op_27 e fun e => op_92 e fun e => op_46 e fun e => op_4 e fun e => op_96 e fun e => op_79 e fun e => op_42 e fun e => op_180 e fun e => op_27 e fun e => op_46 e fun e => op_16p e rfl fun e => op_162p e rfl fun e => op_42 e fun e => op_27 e fun e => (op_42 e fun _ => True.intro).1
theorem dX12_findMost_140 : decode cX12_findMost 140 = .ok (.getfield 86, 3) := bl_dX12_findMost_140.1
theorem dX12_findMost_143 : decode cX12_findMost 143 = .ok (.iload_n 1, 1) := bl_dX12_findMost_140.2.1
theorem dX12_findMost_144 : decode cX12_findMost 144 = .ok (.dup2, 1) := bl_dX12_findMost_140.2.2.1
theorem dX12_findMost_145 : decode cX12_findMost 145 = .ok (.iaload, 1) := bl_dX12_findMost_140.2.2.2.1
theorem dX12_findMost_146 : decode cX12_findMost 146 = .ok (.iconst 1, 1) := bl_dX12_findMost_140.2.2.2.2.1
theorem dX12_findMost_147 : decode cX12_findMost 147 = .ok (.iadd, 1) := bl_dX12_findMost_140.2.2.2.2.2.1
theorem dX12_findMost_148 : decode cX12_findMost 148 = .ok (.iastore, 1) := bl_dX12_findMost_140.2.2.2.2.2.2.1
theorem dX12_findMost_149 : decode cX12_findMost 149 = .ok (.aload_n 0, 1) := bl_dX12_findMost_140.2.2.2.2.2.2.2.1
theorem dX12_findMost_150 : decode cX12_findMost 150 = .ok (.getfield 86, 3) := bl_dX12_findMost_140.2.2.2.2.2.2.2.2.1
theorem dX12_findMost_153 : decode cX12_findMost 153 = .ok (.iload_n 1, 1) := bl_dX12_findMost_140.2.2.2.2.2.2.2.2.2.1
theorem dX12_findMost_154 : decode cX12_findMost 154 = .ok (.iaload, 1) := bl_dX12_findMost_140.2.2.2.2.2.2.2.2.2.2.1
theorem dX12_findMost_155 : decode cX12_findMost 155 = .ok (.bipush 12, 2) := bl_dX12_findMost_140.2.2.2.2.2.2.2.2.2.2.2.1
theorem dX12_findMost_157 : decode cX12_findMost 157 = .ok (.if_icmp .ge 30, 3) := bl_dX12_findMost_140.2.2.2.2.2.2.2.2.2.2.2.2.1
theorem dX12_findMost_160 : decode cX12_findMost 160 = .ok (.aload_n 0, 1) := bl_dX12_findMost_140.2.2.2.2.2.2.2.2.2.2.2.2.2.1
theorem dX12_findMost_161 : decode cX12_findMost 161 = .ok (.iload_n 1, 1) := bl_dX12_findMost_140.2.2.2.2.2.2.2.2.2.2.2.2.2.2.1
theorem dX12_findMost_162 : decode cX12_findMost 162 = .ok (.aload_n 0, 1) := bl_dX12_findMost_140.2.2.2.2.2.2.2.2.2.2.2.2.2.2.2
set_option maxRecDepth 20000 in
theorem lk_dX12_findMost_163 : th_dr cX12_findMost 163 = 180 :: 0 :: 86 :: 27 :: 46 :: 182 :: 0 :: 209 :: 154 :: 0 :: 16 :: 42 :: 180 :: 0 :: 86 :: 27 :: 92 :: 46 :: 4 :: 96 :: 79 :: 167 :: 255 :: 221 :: 42 :: 180 :: 0 :: 86 :: th_dr cX12_findMost 191 := rfl
theorem bl_dX12_findMost_163 : decode cX12_findMost 163 = .ok (.getfield 86, 3) ∧ decode cX12_findMost 166 = .ok (.iload_n 1, 1) ∧ decode cX12_findMost 167 = .ok (.iaload, 1) ∧ decode cX12_findMost 168 = .ok (.invokevirtual 209, 3) ∧ decode cX12_findMost 171 = .ok (.ifCond .ne 16, 3) ∧ decode cX12_findMost 174 = .ok (.aload_n 0, 1) ∧ decode cX12_findMost 175 = .ok (.getfield 86, 3) ∧ decode cX12_findMost 178 = .ok (.iload_n 1, 1) ∧ decode cX12_findMost 179 = .ok (.dup2, 1) ∧ decode cX12_findMost 180 = .ok (.iaload, 1) ∧ decode cX12_findMost 181 = .ok (.iconst 1, 1) ∧ decode cX12_findMost 182 = .ok (.iadd, 1) ∧ decode cX12_findMost 183 = .ok (.iastore, 1) ∧ decode cX12_findMost 184 = .ok (.goto (-35), 3) ∧ decode cX12_findMost 187 = .ok (.aload_n 0, 1) ∧ decode cX12_findMost 188 = .ok (.getfield 86, 3) := op_180 lk_dX12_findMost_163 fun e => op_27 e fun e => op_46 e fun e => op_182 e fun e => op_154p e rfl fun e => op_42 e fun e => op_180 e fun e => op_27 e fun e => op_92 e fun e => op_46 e fun e => op_4 e fun e => op_96 e fun e => op_79 e fun e => op_167n e rfl rfl fun e => op_42 e fun e => (op_180 e fun _ => True.intro).1
theorem dX12_findMost_163 : decode cX12_findMost 163 = .ok (.getfield 86, 3) := bl_dX12_findMost_163.1
theorem dX12_findMost_166 : decode cX12_findMost 166 = .ok (.iload_n 1, 1) := bl_dX12_findMost_163.2.1
theorem dX12_findMost_167 : decode cX12_findMost 167 = .ok (.iaload, 1) := bl_dX12_findMost_163.2.2.1
theorem dX12_findMost_168 : decode cX12_findMost 168 = .ok (.invokevirtual 209, 3) := bl_dX12_findMost_163.2.2.2.1
theorem dX12_findMost_171 : decode cX12_findMost 171 = .ok (.ifCond .ne 16, 3) := bl_dX12_findMost_163.2.2.2.2.1
theorem dX12_findMost_174 : decode cX12_findMost 174 = .ok (.aload_n 0, 1) := bl_dX12_findMost_163.2.2.2.2.2.1
theorem dX12_findMost_175 : decode cX12_findMost 175 = .ok (.getfield 86, 3) := bl_dX12_findMost_163.2.2.2.2.2.2.1
theorem dX12_findMost_178 : decode cX12_findMost 178 = .ok (.iload_n 1, 1) := bl_dX12_findMost_163.2.2.2.2.2.2.2.1
theorem dX12_findMost_179 : decode cX12_findMost 179 = .ok (.dup2, 1) := bl_dX12_findMost_163.2.2.2.2.2.2.2.2.1
theorem dX12_findMost_180 : decode cX12_findMost 180 = .ok (.iaload, 1) := bl_dX12_findMost_163.2.2.2.2.2.2.2.2.2.1
theorem dX12_findMost_181 : decode cX12_findMost 181 = .ok (.iconst 1, 1) := bl_dX12_findMost_163.2.2.2.2.2.2.2.2.2.2.1
theorem dX12_findMost_182 : decode cX12_findMost 182 = .ok (.iadd, 1) := bl_dX12_findMost_163.2.2.2.2.2.2.2.2.2.2.2.1
theorem dX12_findMost_183 : decode cX12_findMost 183 = .ok (.iastore, 1) := bl_dX12_findMost_163.2.2.2.2.2.2.2.2.2.2.2.2.1
theorem dX12_findMost_184 : decode cX12_findMost 184 = .ok (.goto (-35), 3) := bl_dX12_findMost_163.2.2.2.2.2.2.2.2.2.2.2.2.2.1
theorem dX12_findMost_187 : decode cX12_findMost 187 = .ok (.aload_n 0, 1) := bl_dX12_findMost_163.2.2.2.2.2.2.2.2.2.2.2.2.2.2.1
theorem dX12_findMost_188 : decode cX12_findMost 188 = .ok (.getfield 86, 3) := bl_dX12_findMost_163.2.2.2.2.2.2.2.2.2.2.2.2.2.2.2
set_option maxRecDepth 20000 in
theorem lk_dX12_findMost_191 : th_dr cX12_findMost 191 = 27 :: 46 :: 16 :: 12 :: 164 :: 0 :: 9 :: 132 :: 1 :: 255 :: 167 :: 255 :: 71 :: 28 :: 42 :: 180 :: 0 :: 86 :: 27 :: 46 :: 16 :: 12 :: 162 :: 0 :: 7 :: 4 :: 167 :: 0 :: 4 :: 3 :: th_dr cX12_findMost 221 := rfl
theorem bl_dX12_findMost_191 : decode cX12_findMost 191 = .ok (.iload_n 1, 1) ∧ decode cX12_findMost 192 = .ok (.iaload, 1) ∧ decode cX12_findMost 193 = .ok (.bipush 12, 2) ∧ decode cX12_findMost 195 = .ok (.if_icmp .le 9, 3) ∧ decode cX12_findMost 198 = .ok (.iinc 1 (-1), 3) ∧ decode cX12_findMost 201 = .ok (.goto (-185), 3) ∧ decode cX12_findMost 204 = .ok (.iload_n 2, 1) ∧ decode cX12_findMost 205 = .ok (.aload_n 0, 1) ∧ decode cX12_findMost 206 = .ok (.getfield 86, 3) ∧ decode cX12_findMost 209 = .ok (.iload_n 1, 1) ∧ decode cX12_findMost 210 = .ok (.iaload, 1) ∧ decode cX12_findMost 211 = .ok (.bipush 12, 2) ∧ decode cX12_findMost 213 = .ok (.if_icmp .ge 7, 3) ∧ decode cX12_findMost 216 = .ok (.iconst 1, 1) ∧ decode cX12_findMost 217 = .ok (.goto 4, 3) ∧ decode cX12_findMost 220 = .ok (.iconst 0, 1) := op_27 lk_dX12_findMost_191 fun e => op_46 e fun e => op_16p e rfl fun e => op_164p e rfl fun e => op_132n e rfl rfl fun e => op_167n e rfl rfl fun e => op_28 e fun e => op_42 e fun e => op_180 e fun e => op_27 e fun e => op_46 e fun e => op_16p e rfl fun e => op_162p e rfl fun e => op_4 e fun e => op_167p e rfl fun e => (op_3 e fun _ => True.intro).1
theorem dX12_findMost_191 : decode cX12_findMost 191 = .ok (.iload_n 1, 1) := bl_dX12_findMost_191.1
theorem dX12_findMost_192 : decode cX12_findMost 192 = .ok (.iaload, 1) := bl_dX12_findMost_191.2.1
theorem dX12_findMost_193 : decode cX12_findMost 193 = .ok (.bipush 12, 2) := bl_dX12_findMost_191.2.2.1
theorem dX12_findMost_195 : decode cX12_findMost 195 = .ok (.if_icmp .le 9, 3) := bl_dX12_findMost_191.2.2.2.1
theorem dX12_findMost_198 : decode cX12_findMost 198 = .ok (.iinc 1 (-1), 3) := bl_dX12_findMost_191.2.2.2.2.1
theorem dX12_findMost_201 : decode cX12_findMost 201 = .ok (.goto (-185), 3) := bl_dX12_findMost_191.2.2.2.2.2.1
theorem dX12_findMost_204 : decode cX12_findMost 204 = .ok (.iload_n 2, 1) := bl_dX12_findMost_191.2.2.2.2.2.2.1
theorem dX12_findMost_205 : decode cX12_findMost 205 = .ok (.aload_n 0, 1) := bl_dX12_findMost_191.2.2.2.2.2.2.2.1
theorem dX12_findMost_206 : decode cX12_findMost 206 = .ok (.getfield 86, 3) := bl_dX12_findMost_191.2.2.2.2.2.2.2.2.1
theorem dX12_findMost_209 : decode cX12_findMost 209 = .ok (.iload_n 1, 1) := bl_dX12_findMost_191.2.2.2.2.2.2.2.2.2.1
theorem dX12_findMost_210 : decode cX12_findMost 210 = .ok (.iaload, 1) := bl_dX12_findMost_191.2.2.2.2.2.2.2.2.2.2.1
theorem dX12_findMost_211 : decode cX12_findMost 211 = .ok (.bipush 12, 2) := bl_dX12_findMost_191.2.2.2.2.2.2.2.2.2.2.2.1
theorem dX12_findMost_213 : decode cX12_findMost 213 = .ok (.if_icmp .ge 7, 3) := bl_dX12_findMost_191.2.2.2.2.2.2.2.2.2.2.2.2.1
theorem dX12_findMost_216 : decode cX12_findMost 216 = .ok (.iconst 1, 1) := bl_dX12_findMost_191.2.2.2.2.2.2.2.2.2.2.2.2.2.1
theorem dX12_findMost_217 : decode cX12_findMost 217 = .ok (.goto 4, 3) := bl_dX12_findMost_191.2.2.2.2.2.2.2.2.2.2.2.2.2.2.1
theorem dX12_findMost_220 : decode cX12_findMost 220 = .ok (.iconst 0, 1) := bl_dX12_findMost_191.2.2.2.2.2.2.2.2.2.2.2.2.2.2.2
set_option maxRecDepth 20000 in
theorem lk_dX12_findMost_221 : th_dr cX12_findMost 221 = 96 :: 61 :: 132 :: 1 :: 1 :: 42 :: 180 :: 0 :: 86 :: 27 :: 2 :: 79 :: 167 :: 255 :: 39 :: 177 :: th_dr cX12_findMost 237 := rfl
theorem bl_dX12_findMost_221 : decode cX12_findMost 221 = .ok (.iadd, 1) ∧ decode cX12_findMost 222 = .ok (.istore_n 2, 1) ∧ decode cX12_findMost 223 = .ok (.iinc 1 1, 3) ∧ decode cX12_findMost 226 = .ok (.aload_n 0, 1) ∧ decode cX12_findMost 227 = .ok (.getfield 86, 3) ∧ decode cX12_findMost 230 = .ok (.iload_n 1, 1) ∧ decode cX12_findMost 231 = .ok (.iconst (-1), 1) ∧ decode cX12_findMost 232 = .ok (.iastore, 1) ∧ decode cX12_findMost 233 = .ok (.goto (-217), 3) ∧ decode cX12_findMost 236 = .ok (.return_, 1) := op_96 lk_dX12_findMost_221 fun e => op_61 e fun e => op_132p e rfl fun e => op_42 e fun e => op_180 e fun e => op_27 e fun e => op_2 e fun e => op_79 e fun e => op_167n e rfl rfl fun e => (op_177 e fun _ => True.intro).1
theorem dX12_findMost_221 : decode cX12_findMost 221 = .ok (.iadd, 1) := bl_dX12_findMost_221.1
theorem dX12_findMost_222 : decode cX12_findMost 222 = .ok (.istore_n 2, 1) := bl_dX12_findMost_221.2.1
theorem dX12_findMost_223 : decode cX12_findMost 223 = .ok (.iinc 1 1, 3) := bl_dX12_findMost_221.2.2.1
theorem dX12_findMost_226 : decode cX12_findMost 226 = .ok (.aload_n 0, 1) := bl_dX12_findMost_221.2.2.2.1
theorem dX12_findMost_227 : decode cX12_findMost 227 = .ok (.getfield 86, 3) := bl_dX12_findMost_221.2.2.2.2.1
theorem dX12_findMost_230 : decode cX12_findMost 230 = .ok (.iload_n 1, 1) := bl_dX12_findMost_221.2.2.2.2.2.1
theorem dX12_findMost_231 : decode cX12_findMost 231 = .ok (.iconst (-1), 1) := bl_dX12_findMost_221.2.2.2.2.2.2.1
theorem dX12_findMost_232 : decode cX12_findMost 232 = .ok (.iastore, 1) := bl_dX12_findMost_221.2.2.2.2.2.2.2.1
theorem dX12_findMost_233 : decode cX12_findMost 233 = .ok (.goto (-217), 3) := bl_dX12_findMost_221.2.2.2.2.2.2.2.2.1
theorem dX12_findMost_236 : decode cX12_findMost 236 = .ok (.return_, 1) := bl_dX12_findMost_221.2.2.2.2.2.2.2.2.2
set_option maxRecDepth 20000 in
theorem ggX12_most_X12_finding : GoodIn wsX12_most wsX12_finding := goodIn_q _ [(13, 3), (96, 38)] rfl gdwsX12_finding
set_option maxRecDepth 20000 in
theorem gX12_most_X12_finding : GoodIn wsX12_most (wsV RX12 120 RX12 yX12_finding wsX12_finding) := goodIn_app (goodIn_q _ [(9, 4)] rfl rfl) ggX12_most_X12_finding
set_option maxRecDepth 20000 in
theorem ggX12_most_X12_within : GoodIn wsX12_most wsX12_within := goodIn_q _ [(18, 1)] rfl gdwsX12_within
set_option maxRecDepth 20000 in
theorem gX12_most_X12_within : GoodIn wsX12_most (va_wsS RX12 112 yX12_within wsX12_within) := goodIn_app (goodIn_q _ [(16, 2), (12, 1)] rfl rfl) ggX12_most_X12_within
set_option maxRecDepth 20000 in
theorem gdwsX12_findMay : wsX12_findMay.all goodWord = true := by decide +kernel
set_option maxRecDepth 20000 in
theorem ggX12_most_X12_findMay : GoodIn wsX12_most wsX12_findMay := goodIn_q _ [(22, 1), (6, 1), (23, 3), (3, 2), (26, 4), (12, 1), (30, 1), (1, 1), (31, 56), (96, 38)] rfl gdwsX12_findMay
set_option maxRecDepth 20000 in
theorem gX12_most_X12_findMay : GoodIn wsX12_most (wsV RX12 212 RX12 yX12_findMay wsX12_findMay) := goodIn_app (goodIn_q _ [(19, 3), (12, 1)] rfl rfl) ggX12_most_X12_findMay
set_option maxRecDepth 20000 in
theorem gdwsX12_findMost : wsX12_findMost.all goodWord = true := by decide +kernel
set_option maxRecDepth 20000 in
theorem ggX12_most_X12_findMost : GoodIn wsX12_most wsX12_findMost := goodIn_q _ [(90, 1), (7, 1), (91, 1), (6, 1), (8, 1), (92, 3), (12, 1), (95, 1), (23, 1), (26, 1), (96, 38)] rfl gdwsX12_findMost
set_option maxRecDepth 20000 in
theorem gX12_most_X12_findMost : GoodIn wsX12_most (wsV RX12 215 RX12 yX12_findMost wsX12_findMost) := goodIn_app (goodIn_q _ [(87, 3), (12, 1)] rfl rfl) ggX12_most_X12_findMost
theorem lk_dX12_most_0 : th_dr cX12_most 0 = 27 :: 155 :: 0 :: 13 :: 27 :: 4 :: 42 :: 180 :: 0 :: 116 :: 120 :: 161 :: 0 :: 10 :: 42 :: 18 :: 119 :: 182 :: 0 :: 120 :: 172 :: 3 :: 62 :: 4 :: 54 :: 4 :: th_dr cX12_most 26 := rfl
theorem bl_dX12_most_0 : decode cX12_most 0 = .ok (.iload_n 1, 1) ∧ decode cX12_most 1 = .ok (.ifCond .lt 13, 3) ∧ decode cX12_most 4 = .ok (.iload_n 1, 1) ∧ decode cX12_most 5 = .ok (.iconst 1, 1) ∧ decode cX12_most 6 = .ok (.aload_n 0, 1) ∧ decode cX12_most 7 = .ok (.getfield 116, 3) ∧ decode cX12_most 10 = .ok (.ishl, 1) ∧ decode cX12_most 11 = .ok (.if_icmp .lt 10, 3) ∧ decode cX12_most 14 = .ok (.aload_n 0, 1) ∧ decode cX12_most 15 = .ok (.ldc 119, 2) ∧ decode cX12_most 17 = .ok (.invokevirtual 120, 3) ∧ decode cX12_most 20 = .ok (.ireturn, 1) ∧ decode cX12_most 21 = .ok (.iconst 0, 1) ∧ decode cX12_most 22 = .ok (.istore_n 3, 1) ∧ decode cX12_most 23 = .ok (.iconst 1, 1) ∧ decode cX12_most 24 = .ok (.istore 4, 2) := op_27 lk_dX12_most_0 fun e => op_155p e rfl fun e => op_27 e fun e => op_4 e fun e => op_42 e fun e => op_180 e fun e => op_120 e fun e => op_161p e rfl fun e => op_42 e fun e => op_18 e fun e => op_182 e fun e => op_172 e fun e => op_3 e fun e => op_62 e fun e => op_4 e fun e => (op_54 e fun _ => True.intro).1
theorem dX12_most_0 : decode cX12_most 0 = .ok (.iload_n 1, 1) := bl_dX12_most_0.1
theorem dX12_most_1 : decode cX12_most 1 = .ok (.ifCond .lt 13, 3) := bl_dX12_most_0.2.1
theorem dX12_most_4 : decode cX12_most 4 = .ok (.iload_n 1, 1) := bl_dX12_most_0.2.2.1
theorem dX12_most_5 : decode cX12_most 5 = .ok (.iconst 1, 1) := bl_dX12_most_0.2.2.2.1
theorem dX12_most_6 : decode cX12_most 6 = .ok (.aload_n 0, 1) := bl_dX12_most_0.2.2.2.2.1
theorem dX12_most_7 : decode cX12_most 7 = .ok (.getfield 116, 3) := bl_dX12_most_0.2.2.2.2.2.1
theorem dX12_most_10 : decode cX12_most 10 = .ok (.ishl, 1) := bl_dX12_most_0.2.2.2.2.2.2.1
theorem dX12_most_11 : decode cX12_most 11 = .ok (.if_icmp .lt 10, 3) := bl_dX12_most_0.2.2.2.2.2.2.2.1
theorem dX12_most_14 : decode cX12_most 14 = .ok (.aload_n 0, 1) := bl_dX12_most_0.2.2.2.2.2.2.2.2.1
theorem dX12_most_15 : decode cX12_most 15 = .ok (.ldc 119, 2) := bl_dX12_most_0.2.2.2.2.2.2.2.2.2.1
theorem dX12_most_17 : decode cX12_most 17 = .ok (.invokevirtual 120, 3) := bl_dX12_most_0.2.2.2.2.2.2.2.2.2.2.1
theorem dX12_most_20 : decode cX12_most 20 = .ok (.ireturn, 1) := bl_dX12_most_0.2.2.2.2.2.2.2.2.2.2.2.1
theorem dX12_most_21 : decode cX12_most 21 = .ok (.iconst 0, 1) := bl_dX12_most_0.2.2.2.2.2.2.2.2.2.2.2.2.1
theorem dX12_most_22 : decode cX12_most 22 = .ok (.istore_n 3, 1) := bl_dX12_most_0.2.2.2.2.2.2.2.2.2.2.2.2.2.1
theorem dX12_most_23 : decode cX12_most 23 = .ok (.iconst 1, 1) := bl_dX12_most_0.2.2.2.2.2.2.2.2.2.2.2.2.2.2.1
theorem dX12_most_24 : decode cX12_most 24 = .ok (.istore 4, 2) := bl_dX12_most_0.2.2.2.2.2.2.2.2.2.2.2.2.2.2.2
theorem lk_dX12_most_26 : th_dr cX12_most 26 = 3 :: 54 :: 5 :: 21 :: 5 :: 42 :: 180 :: 0 :: 116 :: 162 :: 0 :: 57 :: 27 :: 21 :: 5 :: 122 :: 4 :: 126 :: 4 :: 160 :: 0 :: 41 :: 29 :: 8 :: 162 :: 0 :: 11 :: th_dr cX12_most 53 := rfl
theorem bl_dX12_most_26 : decode cX12_most 26 = .ok (.iconst 0, 1) ∧ decode cX12_most 27 = .ok (.istore 5, 2) ∧ decode cX12_most 29 = .ok (.iload 5, 2) ∧ decode cX12_most 31 = .ok (.aload_n 0, 1) ∧ decode cX12_most 32 = .ok (.getfield 116, 3) ∧ decode cX12_most 35 = .ok (.if_icmp .ge 57, 3) ∧ decode cX12_most 38 = .ok (.iload_n 1, 1) ∧ decode cX12_most 39 = .ok (.iload 5, 2) ∧ decode cX12_most 41 = .ok (.ishr, 1) ∧ decode cX12_most 42 = .ok (.iconst 1, 1) ∧ decode cX12_most 43 = .ok (.iand, 1) ∧ decode cX12_most 44 = .ok (.iconst 1, 1) ∧ decode cX12_most 45 = .ok (.if_icmp .ne 41, 3) ∧ decode cX12_most 48 = .ok (.iload_n 3, 1) ∧ decode cX12_most 49 = .ok (.iconst 5, 1) ∧ decode cX12_most 50 = .ok (.if_icmp .ge 11, 3) := op_3 lk_dX12_most_26 fun e => op_54 e fun e => op_21 e fun e => op_42 e fun e => op_180 e fun e => op_162p e rfl fun e => op_27 e fun e => op_21 e fun e => op_122 e fun e => op_4 e fun e => op_126 e fun e => op_4 e fun e => op_160p e rfl fun e => op_29 e fun e => op_8 e fun e => (op_162p e rfl fun _ => True.intro).1
theorem dX12_most_26 : decode cX12_most 26 = .ok (.iconst 0, 1) := bl_dX12_most_26.1
theorem dX12_most_27 : decode cX12_most 27 = .ok (.istore 5, 2) := bl_dX12_most_26.2.1
theorem dX12_most_29 : decode cX12_most 29 = .ok (.iload 5, 2) := bl_dX12_most_26.2.2.1
theorem dX12_most_31 : decode cX12_most 31 = .ok (.aload_n 0, 1) := bl_dX12_most_26.2.2.2.1
theorem dX12_most_32 : decode cX12_most 32 = .ok (.getfield 116, 3) := bl_dX12_most_26.2.2.2.2.1
theorem dX12_most_35 : decode cX12_most 35 = .ok (.if_icmp .ge 57, 3) := bl_dX12_most_26.2.2.2.2.2.1
theorem dX12_most_38 : decode cX12_most 38 = .ok (.iload_n 1, 1) := bl_dX12_most_26.2.2.2.2.2.2.1
theorem dX12_most_39 : decode cX12_most 39 = .ok (.iload 5, 2) := bl_dX12_most_26.2.2.2.2.2.2.2.1
theorem dX12_most_41 : decode cX12_most 41 = .ok (.ishr, 1) := bl_dX12_most_26.2.2.2.2.2.2.2.2.1
theorem dX12_most_42 : decode cX12_most 42 = .ok (.iconst 1, 1) := bl_dX12_most_26.2.2.2.2.2.2.2.2.2.1
theorem dX12_most_43 : decode cX12_most 43 = .ok (.iand, 1) := bl_dX12_most_26.2.2.2.2.2.2.2.2.2.2.1
theorem dX12_most_44 : decode cX12_most 44 = .ok (.iconst 1, 1) := bl_dX12_most_26.2.2.2.2.2.2.2.2.2.2.2.1
theorem dX12_most_45 : decode cX12_most 45 = .ok (.if_icmp .ne 41, 3) := bl_dX12_most_26.2.2.2.2.2.2.2.2.2.2.2.2.1
theorem dX12_most_48 : decode cX12_most 48 = .ok (.iload_n 3, 1) := bl_dX12_most_26.2.2.2.2.2.2.2.2.2.2.2.2.2.1
theorem dX12_most_49 : decode cX12_most 49 = .ok (.iconst 5, 1) := bl_dX12_most_26.2.2.2.2.2.2.2.2.2.2.2.2.2.2.1
theorem dX12_most_50 : decode cX12_most 50 = .ok (.if_icmp .ge 11, 3) := bl_dX12_most_26.2.2.2.2.2.2.2.2.2.2.2.2.2.2.2
set_option maxRecDepth 20000 in
theorem lk_dX12_most_53 : th_dr cX12_most 53 = 42 :: 180 :: 0 :: 80 :: 29 :: 21 :: 5 :: 79 :: 132 :: 3 :: 1 :: 21 :: 4 :: 153 :: 0 :: 17 :: 42 :: 180 :: 0 :: 40 :: 21 :: 5 :: 46 :: 156 :: 0 :: 7 :: 4 :: 167 :: 0 :: 4 :: 3 :: th_dr cX12_most 84 := rfl
theorem bl_dX12_most_53 : decode cX12_most 53 = .ok (.aload_n 0, 1) ∧ decode cX12_most 54 = .ok (.getfield 80, 3) ∧ decode cX12_most 57 = .ok (.iload_n 3, 1) ∧ decode cX12_most 58 = .ok (.iload 5, 2) ∧ decode cX12_most 60 = .ok (.iastore, 1) ∧ decode cX12_most 61 = .ok (.iinc 3 1, 3) ∧ decode cX12_most 64 = .ok (.iload 4, 2) ∧ decode cX12_most 66 = .ok (.ifCond .eq 17, 3) ∧ decode cX12_most 69 = .ok (.aload_n 0, 1) ∧ decode cX12_most 70 = .ok (.getfield 40, 3) ∧ decode cX12_most 73 = .ok (.iload 5, 2) ∧ decode cX12_most 75 = .ok (.iaload, 1) ∧ decode cX12_most 76 = .ok (.ifCond .ge 7, 3) ∧ decode cX12_most 79 = .ok (.iconst 1, 1) ∧ decode cX12_most 80 = .ok (.goto 4, 3) ∧ decode cX12_most 83 = .ok (.iconst 0, 1) := op_42 lk_dX12_most_53 fun e => op_180 e fun e => op_29 e fun e => op_21 e fun e => op_79 e fun e => op_132p e rfl fun e => op_21 e fun e => op_153p e rfl fun e => op_42 e fun e => op_180 e fun e => op_21 e fun e => op_46 e fun e => op_156p e rfl fun e => op_4 e fun e => op_167p e rfl fun e => (op_3 e fun _ => True.intro).1
theorem dX12_most_53 : decode cX12_most 53 = .ok (.aload_n 0, 1) := bl_dX12_most_53.1
theorem dX12_most_54 : decode cX12_most 54 = .ok (.getfield 80, 3) := bl_dX12_most_53.2.1
theorem dX12_most_57 : decode cX12_most 57 = .ok (.iload_n 3, 1) := bl_dX12_most_53.2.2.1
theorem dX12_most_58 : decode cX12_most 58 = .ok (.iload 5, 2) := bl_dX12_most_53.2.2.2.1
theorem dX12_most_60 : decode cX12_most 60 = .ok (.iastore, 1) := bl_dX12_most_53.2.2.2.2.1
theorem dX12_most_61 : decode cX12_most 61 = .ok (.iinc 3 1, 3) := bl_dX12_most_53.2.2.2.2.2.1
theorem dX12_most_64 : decode cX12_most 64 = .ok (.iload 4, 2) := bl_dX12_most_53.2.2.2.2.2.2.1
theorem dX12_most_66 : decode cX12_most 66 = .ok (.ifCond .eq 17, 3) := bl_dX12_most_53.2.2.2.2.2.2.2.1
theorem dX12_most_69 : decode cX12_most 69 = .ok (.aload_n 0, 1) := bl_dX12_most_53.2.2.2.2.2.2.2.2.1
theorem dX12_most_70 : decode cX12_most 70 = .ok (.getfield 40, 3) := bl_dX12_most_53.2.2.2.2.2.2.2.2.2.1
theorem dX12_most_73 : decode cX12_most 73 = .ok (.iload 5, 2) := bl_dX12_most_53.2.2.2.2.2.2.2.2.2.2.1
theorem dX12_most_75 : decode cX12_most 75 = .ok (.iaload, 1) := bl_dX12_most_53.2.2.2.2.2.2.2.2.2.2.2.1
theorem dX12_most_76 : decode cX12_most 76 = .ok (.ifCond .ge 7, 3) := bl_dX12_most_53.2.2.2.2.2.2.2.2.2.2.2.2.1
theorem dX12_most_79 : decode cX12_most 79 = .ok (.iconst 1, 1) := bl_dX12_most_53.2.2.2.2.2.2.2.2.2.2.2.2.2.1
theorem dX12_most_80 : decode cX12_most 80 = .ok (.goto 4, 3) := bl_dX12_most_53.2.2.2.2.2.2.2.2.2.2.2.2.2.2.1
theorem dX12_most_83 : decode cX12_most 83 = .ok (.iconst 0, 1) := bl_dX12_most_53.2.2.2.2.2.2.2.2.2.2.2.2.2.2.2
set_option maxRecDepth 20000 in
theorem lk_dX12_most_84 : th_dr cX12_most 84 = 54 :: 4 :: 132 :: 5 :: 1 :: 167 :: 255 :: 196 :: 29 :: 8 :: 163 :: 0 :: 12 :: 28 :: 3 :: 29 :: 184 :: 0 :: 112 :: 154 :: 0 :: 10 :: 42 :: 18 :: 119 :: 182 :: 0 :: 120 :: 172 :: 21 :: 4 :: th_dr cX12_most 115 := rfl
theorem bl_dX12_most_84 : decode cX12_most 84 = .ok (.istore 4, 2) ∧ decode cX12_most 86 = .ok (.iinc 5 1, 3) ∧ decode cX12_most 89 = .ok (.goto (-60), 3) ∧ decode cX12_most 92 = .ok (.iload_n 3, 1) ∧ decode cX12_most 93 = .ok (.iconst 5, 1) ∧ decode cX12_most 94 = .ok (.if_icmp .gt 12, 3) ∧ decode cX12_most 97 = .ok (.iload_n 2, 1) ∧ decode cX12_most 98 = .ok (.iconst 0, 1) ∧ decode cX12_most 99 = .ok (.iload_n 3, 1) ∧ decode cX12_most 100 = .ok (.invokestatic 112, 3) ∧ decode cX12_most 103 = .ok (.ifCond .ne 10, 3) ∧ decode cX12_most 106 = .ok (.aload_n 0, 1) ∧ decode cX12_most 107 = .ok (.ldc 119, 2) ∧ decode cX12_most 109 = .ok (.invokevirtual 120, 3) ∧ decode cX12_most 112 = .ok (.ireturn, 1) ∧ decode cX12_most 113 = .ok (.iload 4, 2) := op_54 lk_dX12_most_84 fun e => op_132p e rfl fun e => op_167n e rfl rfl fun e => op_29 e fun e => op_8 e fun e => op_163p e rfl fun e => op_28 e fun e => op_3 e fun e => op_29 e fun e => op_184 e fun e => op_154p e rfl fun e => op_42 e fun e => op_18 e fun e => op_182 e fun e => op_172 e fun e => (op_21 e fun _ => True.intro).1
theorem dX12_most_84 : decode cX12_most 84 = .ok (.istore 4, 2) := bl_dX12_most_84.1
theorem dX12_most_86 : decode cX12_most 86 = .ok (.iinc 5 1, 3) := bl_dX12_most_84.2.1
theorem dX12_most_89 : decode cX12_most 89 = .ok (.goto (-60), 3) := bl_dX12_most_84.2.2.1
theorem dX12_most_92 : decode cX12_most 92 = .ok (.iload_n 3, 1) := bl_dX12_most_84.2.2.2.1
theorem dX12_most_93 : decode cX12_most 93 = .ok (.iconst 5, 1) := bl_dX12_most_84.2.2.2.2.1
theorem dX12_most_94 : decode cX12_most 94 = .ok (.if_icmp .gt 12, 3) := bl_dX12_most_84.2.2.2.2.2.1
theorem dX12_most_97 : decode cX12_most 97 = .ok (.iload_n 2, 1) := bl_dX12_most_84.2.2.2.2.2.2.1
theorem dX12_most_98 : decode cX12_most 98 = .ok (.iconst 0, 1) := bl_dX12_most_84.2.2.2.2.2.2.2.1
theorem dX12_most_99 : decode cX12_most 99 = .ok (.iload_n 3, 1) := bl_dX12_most_84.2.2.2.2.2.2.2.2.1
theorem dX12_most_100 : decode cX12_most 100 = .ok (.invokestatic 112, 3) := bl_dX12_most_84.2.2.2.2.2.2.2.2.2.1
theorem dX12_most_103 : decode cX12_most 103 = .ok (.ifCond .ne 10, 3) := bl_dX12_most_84.2.2.2.2.2.2.2.2.2.2.1
theorem dX12_most_106 : decode cX12_most 106 = .ok (.aload_n 0, 1) := bl_dX12_most_84.2.2.2.2.2.2.2.2.2.2.2.1
theorem dX12_most_107 : decode cX12_most 107 = .ok (.ldc 119, 2) := bl_dX12_most_84.2.2.2.2.2.2.2.2.2.2.2.2.1
theorem dX12_most_109 : decode cX12_most 109 = .ok (.invokevirtual 120, 3) := bl_dX12_most_84.2.2.2.2.2.2.2.2.2.2.2.2.2.1
theorem dX12_most_112 : decode cX12_most 112 = .ok (.ireturn, 1) := bl_dX12_most_84.2.2.2.2.2.2.2.2.2.2.2.2.2.2.1
theorem dX12_most_113 : decode cX12_most 113 = .ok (.iload 4, 2) := bl_dX12_most_84.2.2.2.2.2.2.2.2.2.2.2.2.2.2.2
set_option maxRecDepth 20000 in
theorem lk_dX12_most_115 : th_dr cX12_most 115 = 154 :: 0 :: 10 :: 42 :: 18 :: 186 :: 182 :: 0 :: 120 :: 172 :: 42 :: 29 :: 181 :: 0 :: 200 :: 42 :: 182 :: 0 :: 212 :: 42 :: 182 :: 0 :: 215 :: 28 :: 154 :: 0 :: 10 :: 42 :: 180 :: 0 :: 206 :: th_dr cX12_most 146 := rfl
theorem bl_dX12_most_115 : decode cX12_most 115 = .ok (.ifCond .ne 10, 3) ∧ decode cX12_most 118 = .ok (.aload_n 0, 1) ∧ decode cX12_most 119 = .ok (.ldc 186, 2) ∧ decode cX12_most 121 = .ok (.invokevirtual 120, 3) ∧ decode cX12_most 124 = .ok (.ireturn, 1) ∧ decode cX12_most 125 = .ok (.aload_n 0, 1) ∧ decode cX12_most 126 = .ok (.iload_n 3, 1) ∧ decode cX12_most 127 = .ok (.putfield 200, 3) ∧ decode cX12_most 130 = .ok (.aload_n 0, 1) ∧ decode cX12_most 131 = .ok (.invokevirtual 212, 3) ∧ decode cX12_most 134 = .ok (.aload_n 0, 1) ∧ decode cX12_most 135 = .ok (.invokevirtual 215, 3) ∧ decode cX12_most 138 = .ok (.iload_n 2, 1) ∧ decode cX12_most 139 = .ok (.ifCond .ne 10, 3) ∧ decode cX12_most 142 = .ok (.aload_n 0, 1) ∧ decode cX12_most 143 = .ok (.getfield 206, 3) := op_154p lk_dX12_most_115 rfl fun e => op_42 e fun e => op_18 e fun e => op_182 e fun e => op_172 e fun e => op_42 e fun e => op_29 e fun e => op_181 e fun e => op_42 e fun e => op_182 e fun e => op_42 e fun e => op_182 e fun e => op_28 e fun e => op_154p e rfl fun e => op_42 e fun e => (op_180 e fun _ => True.intro).1
theorem dX12_most_115 : decode cX12_most 115 = .ok (.ifCond .ne 10, 3) := bl_dX12_most_115.1
theorem dX12_most_118 : decode cX12_most 118 = .ok (.aload_n 0, 1) := bl_dX12_most_115.2.1
theorem dX12_most_119 : decode cX12_most 119 = .ok (.ldc 186, 2) := bl_dX12_most_115.2.2.1
theorem dX12_most_121 : decode cX12_most 121 = .ok (.invokevirtual 120, 3) := bl_dX12_most_115.2.2.2.1
theorem dX12_most_124 : decode cX12_most 124 = .ok (.ireturn, 1) := bl_dX12_most_115.2.2.2.2.1
theorem dX12_most_125 : decode cX12_most 125 = .ok (.aload_n 0, 1) := bl_dX12_most_115.2.2.2.2.2.1
theorem dX12_most_126 : decode cX12_most 126 = .ok (.iload_n 3, 1) := bl_dX12_most_115.2.2.2.2.2.2.1
theorem dX12_most_127 : decode cX12_most 127 = .ok (.putfield 200, 3) := bl_dX12_most_115.2.2.2.2.2.2.2.1
theorem dX12_most_130 : decode cX12_most 130 = .ok (.aload_n 0, 1) := bl_dX12_most_115.2.2.2.2.2.2.2.2.1
theorem dX12_most_131 : decode cX12_most 131 = .ok (.invokevirtual 212, 3) := bl_dX12_most_115.2.2.2.2.2.2.2.2.2.1
theorem dX12_most_134 : decode cX12_most 134 = .ok (.aload_n 0, 1) := bl_dX12_most_115.2.2.2.2.2.2.2.2.2.2.1
theorem dX12_most_135 : decode cX12_most 135 = .ok (.invokevirtual 215, 3) := bl_dX12_most_115.2.2.2.2.2.2.2.2.2.2.2.1
theorem dX12_most_138 : decode cX12_most 138 = .ok (.iload_n 2, 1) := bl_dX12_most_115.2.2.2.2.2.2.2.2.2.2.2.2.1
theorem dX12_most_139 : decode cX12_most 139 = .ok (.ifCond .ne 10, 3) := bl_dX12_most_115.2.2.2.2.2.2.2.2.2.2.2.2.2.1
theorem dX12_most_142 : decode cX12_most 142 = .ok (.aload_n 0, 1) := bl_dX12_most_115.2.2.2.2.2.2.2.2.2.2.2.2.2.2.1
theorem dX12_most_143 : decode cX12_most 143 = .ok (.getfield 206, 3) := bl_dX12_most_115.2.2.2.2.2.2.2.2.2.2.2.2.2.2.2
set_option maxRecDepth 20000 in
theorem lk_dX12_most_146 : th_dr cX12_most 146 = 167 :: 0 :: 11 :: 42 :: 180 :: 0 :: 89 :: 28 :: 4 :: 100 :: 46 :: 172 :: th_dr cX12_most 158 := rfl
theorem bl_dX12_most_146 : decode cX12_most 146 = .ok (.goto 11, 3) ∧ decode cX12_most 149 = .ok (.aload_n 0, 1) ∧ decode cX12_most 150 = .ok (.getfield 89, 3) ∧ decode cX12_most 153 = .ok (.iload_n 2, 1) ∧ decode cX12_most 154 = .ok (.iconst 1, 1) ∧ decode cX12_most 155 = .ok (.isub, 1) ∧ decode cX12_most 156 = .ok (.iaload, 1) ∧ decode cX12_most 157 = .ok (.ireturn, 1) := op_167p lk_dX12_most_146 rfl fun e => op_42 e fun e => op_180 e fun e => op_28 e fun e => op_4 e fun e => op_100 e fun e => op_46 e fun e => (op_172 e fun _ => True.intro).1
theorem dX12_most_146 : decode cX12_most 146 = .ok (.goto 11, 3) := bl_dX12_most_146.1
theorem dX12_most_149 : decode cX12_most 149 = .ok (.aload_n 0, 1) := bl_dX12_most_146.2.1
theorem dX12_most_150 : decode cX12_most 150 = .ok (.getfield 89, 3) := bl_dX12_most_146.2.2.1
theorem dX12_most_153 : decode cX12_most 153 = .ok (.iload_n 2, 1) := bl_dX12_most_146.2.2.2.1
theorem dX12_most_154 : decode cX12_most 154 = .ok (.iconst 1, 1) := bl_dX12_most_146.2.2.2.2.1
theorem dX12_most_155 : decode cX12_most 155 = .ok (.isub, 1) := bl_dX12_most_146.2.2.2.2.2.1
theorem dX12_most_156 : decode cX12_most 156 = .ok (.iaload, 1) := bl_dX12_most_146.2.2.2.2.2.2.1
theorem dX12_most_157 : decode cX12_most 157 = .ok (.ireturn, 1) := bl_dX12_most_146.2.2.2.2.2.2.2
set_option maxRecDepth 20000 in
theorem ggX12_wait_X12_isBoat : GoodIn wsX12_wait wsX12_isBoat := goodIn_q _ [(12, 4), (11, 1), (16, 1), (27, 38)] rfl gdwsX12_isBoat
set_option maxRecDepth 20000 in
theorem gX12_wait_X12_isBoat : GoodIn wsX12_wait (wsV RX12 125 RX12 yX12_isBoat wsX12_isBoat) := goodIn_app (goodIn_q _ [(8, 4)] rfl rfl) ggX12_wait_X12_isBoat
set_option maxRecDepth 20000 in
theorem ggX12_wait_X12_finding : GoodIn wsX12_wait wsX12_finding := goodIn_q _ [(20, 3), (27, 38)] rfl gdwsX12_finding
set_option maxRecDepth 20000 in
theorem gX12_wait_X12_finding : GoodIn wsX12_wait (wsV RX12 120 RX12 yX12_finding wsX12_finding) := goodIn_app (goodIn_q _ [(17, 3), (11, 1)] rfl rfl) ggX12_wait_X12_finding
set_option maxRecDepth 20000 in
theorem ggX12_wait_X12_placeOnList : GoodIn wsX12_wait wsX12_placeOnList := goodIn_q _ [(26, 1), (4, 1), (6, 1), (27, 38)] rfl gdwsX12_placeOnList
set_option maxRecDepth 20000 in
theorem gX12_wait_X12_placeOnList : GoodIn wsX12_wait (wsV RX12 136 RX12 yX12_placeOnList wsX12_placeOnList) := goodIn_app (goodIn_q _ [(23, 3), (11, 1)] rfl rfl) ggX12_wait_X12_placeOnList
theorem lk_dX12_wait_0 : th_dr cX12_wait 0 = 42 :: 27 :: 182 :: 0 :: 125 :: 154 :: 0 :: 10 :: 42 :: 18 :: 119 :: 182 :: 0 :: 120 :: 172 :: 42 :: 180 :: 0 :: 40 :: 27 :: 46 :: 156 :: 0 :: 11 :: 42 :: 27 :: 182 :: 0 :: 136 :: th_dr cX12_wait 29 := rfl
theorem bl_dX12_wait_0 : decode cX12_wait 0 = .ok (.aload_n 0, 1) ∧ decode cX12_wait 1 = .ok (.iload_n 1, 1) ∧ decode cX12_wait 2 = .ok (.invokevirtual 125, 3) ∧ decode cX12_wait 5 = .ok (.ifCond .ne 10, 3) ∧ decode cX12_wait 8 = .ok (.aload_n 0, 1) ∧ decode cX12_wait 9 = .ok (.ldc 119, 2) ∧ decode cX12_wait 11 = .ok (.invokevirtual 120, 3) ∧ decode cX12_wait 14 = .ok (.ireturn, 1) ∧ decode cX12_wait 15 = .ok (.aload_n 0, 1) ∧ decode cX12_wait 16 = .ok (.getfield 40, 3) ∧ decode cX12_wait 19 = .ok (.iload_n 1, 1) ∧ decode cX12_wait 20 = .ok (.iaload, 1) ∧ decode cX12_wait 21 = .ok (.ifCond .ge 11, 3) ∧ decode cX12_wait 24 = .ok (.aload_n 0, 1) ∧ decode cX12_wait 25 = .ok (.iload_n 1, 1) ∧ decode cX12_wait 26 = .ok (.invokevirtual 136, 3) := op_42 lk_dX12_wait_0 fun e => op_27 e fun e => op_182 e fun e => op_154p e rfl fun e => op_42 e fun e => op_18 e fun e => op_182 e fun e => op_172 e fun e => op_42 e fun e => op_180 e fun e => op_27 e fun e => op_46 e fun e => op_156p e rfl fun e => op_42 e fun e => op_27 e fun e => (op_182 e fun _ => True.intro).1
theorem dX12_wait_0 : decode cX12_wait 0 = .ok (.aload_n 0, 1) := bl_dX12_wait_0.1
theorem dX12_wait_1 : decode cX12_wait 1 = .ok (.iload_n 1, 1) := bl_dX12_wait_0.2.1
theorem dX12_wait_2 : decode cX12_wait 2 = .ok (.invokevirtual 125, 3) := bl_dX12_wait_0.2.2.1
theorem dX12_wait_5 : decode cX12_wait 5 = .ok (.ifCond .ne 10, 3) := bl_dX12_wait_0.2.2.2.1
theorem dX12_wait_8 : decode cX12_wait 8 = .ok (.aload_n 0, 1) := bl_dX12_wait_0.2.2.2.2.1
theorem dX12_wait_9 : decode cX12_wait 9 = .ok (.ldc 119, 2) := bl_dX12_wait_0.2.2.2.2.2.1
theorem dX12_wait_11 : decode cX12_wait 11 = .ok (.invokevirtual 120, 3) := bl_dX12_wait_0.2.2.2.2.2.2.1
theorem dX12_wait_14 : decode cX12_wait 14 = .ok (.ireturn, 1) := bl_dX12_wait_0.2.2.2.2.2.2.2.1
theorem dX12_wait_15 : decode cX12_wait 15 = .ok (.aload_n 0, 1) := bl_dX12_wait_0.2.2.2.2.2.2.2.2.1
theorem dX12_wait_16 : decode cX12_wait 16 = .ok (.getfield 40, 3) := bl_dX12_wait_0.2.2.2.2.2.2.2.2.2.1
theorem dX12_wait_19 : decode cX12_wait 19 = .ok (.iload_n 1, 1) := bl_dX12_wait_0.2.2.2.2.2.2.2.2.2.2.1
theorem dX12_wait_20 : decode cX12_wait 20 = .ok (.iaload, 1) := bl_dX12_wait_0.2.2.2.2.2.2.2.2.2.2.2.1
theorem dX12_wait_21 : decode cX12_wait 21 = .ok (.ifCond .ge 11, 3) := bl_dX12_wait_0.2.2.2.2.2.2.2.2.2.2.2.2.1
theorem dX12_wait_24 : decode cX12_wait 24 = .ok (.aload_n 0, 1) := bl_dX12_wait_0.2.2.2.2.2.2.2.2.2.2.2.2.2.1
theorem dX12_wait_25 : decode cX12_wait 25 = .ok (.iload_n 1, 1) := bl_dX12_wait_0.2.2.2.2.2.2.2.2.2.2.2.2.2.2.1
theorem dX12_wait_26 : decode cX12_wait 26 = .ok (.invokevirtual 136, 3) := bl_dX12_wait_0.2.2.2.2.2.2.2.2.2.2.2.2.2.2.2
theorem lk_dX12_wait_29 : th_dr cX12_wait 29 = 155 :: 0 :: 10 :: 42 :: 18 :: 186 :: 182 :: 0 :: 120 :: 172 :: 42 :: 180 :: 0 :: 133 :: 16 :: 10 :: 160 :: 0 :: 10 :: 42 :: 18 :: 124 :: 182 :: 0 :: 120 :: 172 :: 42 :: 180 :: 0 :: 56 :: 42 :: th_dr cX12_wait 60 := rfl
theorem bl_dX12_wait_29 : decode cX12_wait 29 = .ok (.ifCond .lt 10, 3) ∧ decode cX12_wait 32 = .ok (.aload_n 0, 1) ∧ decode cX12_wait 33 = .ok (.ldc 186, 2) ∧ decode cX12_wait 35 = .ok (.invokevirtual 120, 3) ∧ decode cX12_wait 38 = .ok (.ireturn, 1) ∧ decode cX12_wait 39 = .ok (.aload_n 0, 1) ∧ decode cX12_wait 40 = .ok (.getfield 133, 3) ∧ decode cX12_wait 43 = .ok (.bipush 10, 2) ∧ decode cX12_wait 45 = .ok (.if_icmp .ne 10, 3) ∧ decode cX12_wait 48 = .ok (.aload_n 0, 1) ∧ decode cX12_wait 49 = .ok (.ldc 124, 2) ∧ decode cX12_wait 51 = .ok (.invokevirtual 120, 3) ∧ decode cX12_wait 54 = .ok (.ireturn, 1) ∧ decode cX12_wait 55 = .ok (.aload_n 0, 1) ∧ decode cX12_wait 56 = .ok (.getfield 56, 3) ∧ decode cX12_wait 59 = .ok (.aload_n 0, 1) := op_155p lk_dX12_wait_29 rfl fun e => op_42 e fun e => op_18 e fun e => op_182 e fun e => op_172 e fun e => op_42 e fun e => op_180 e fun e => op_16p e rfl fun e => op_160p e rfl fun e => op_42 e fun e => op_18 e fun e => op_182 e fun e => op_172 e fun e => op_42 e fun e => op_180 e fun e => (op_42 e fun _ => True.intro).1
theorem dX12_wait_29 : decode cX12_wait 29 = .ok (.ifCond .lt 10, 3) := bl_dX12_wait_29.1
theorem dX12_wait_32 : decode cX12_wait 32 = .ok (.aload_n 0, 1) := bl_dX12_wait_29.2.1
theorem dX12_wait_33 : decode cX12_wait 33 = .ok (.ldc 186, 2) := bl_dX12_wait_29.2.2.1
theorem dX12_wait_35 : decode cX12_wait 35 = .ok (.invokevirtual 120, 3) := bl_dX12_wait_29.2.2.2.1
theorem dX12_wait_38 : decode cX12_wait 38 = .ok (.ireturn, 1) := bl_dX12_wait_29.2.2.2.2.1
theorem dX12_wait_39 : decode cX12_wait 39 = .ok (.aload_n 0, 1) := bl_dX12_wait_29.2.2.2.2.2.1
theorem dX12_wait_40 : decode cX12_wait 40 = .ok (.getfield 133, 3) := bl_dX12_wait_29.2.2.2.2.2.2.1
theorem dX12_wait_43 : decode cX12_wait 43 = .ok (.bipush 10, 2) := bl_dX12_wait_29.2.2.2.2.2.2.2.1
theorem dX12_wait_45 : decode cX12_wait 45 = .ok (.if_icmp .ne 10, 3) := bl_dX12_wait_29.2.2.2.2.2.2.2.2.1
theorem dX12_wait_48 : decode cX12_wait 48 = .ok (.aload_n 0, 1) := bl_dX12_wait_29.2.2.2.2.2.2.2.2.2.1
theorem dX12_wait_49 : decode cX12_wait 49 = .ok (.ldc 124, 2) := bl_dX12_wait_29.2.2.2.2.2.2.2.2.2.2.1
theorem dX12_wait_51 : decode cX12_wait 51 = .ok (.invokevirtual 120, 3) := bl_dX12_wait_29.2.2.2.2.2.2.2.2.2.2.2.1
theorem dX12_wait_54 : decode cX12_wait 54 = .ok (.ireturn, 1) := bl_dX12_wait_29.2.2.2.2.2.2.2.2.2.2.2.2.1
theorem dX12_wait_55 : decode cX12_wait 55 = .ok (.aload_n 0, 1) := bl_dX12_wait_29.2.2.2.2.2.2.2.2.2.2.2.2.2.1
theorem dX12_wait_56 : decode cX12_wait 56 = .ok (.getfield 56, 3) := bl_dX12_wait_29.2.2.2.2.2.2.2.2.2.2.2.2.2.2.1
theorem dX12_wait_59 : decode cX12_wait 59 = .ok (.aload_n 0, 1) := bl_dX12_wait_29.2.2.2.2.2.2.2.2.2.2.2.2.2.2.2
set_option maxRecDepth 20000 in
theorem lk_dX12_wait_60 : th_dr cX12_wait 60 = 180 :: 0 :: 133 :: 27 :: 79 :: 42 :: 180 :: 0 :: 59 :: 27 :: 3 :: 79 :: 42 :: 89 :: 180 :: 0 :: 133 :: 4 :: 96 :: 181 :: 0 :: 133 :: 42 :: 180 :: 0 :: 133 :: th_dr cX12_wait 86 := rfl
theorem bl_dX12_wait_60 : decode cX12_wait 60 = .ok (.getfield 133, 3) ∧ decode cX12_wait 63 = .ok (.iload_n 1, 1) ∧ decode cX12_wait 64 = .ok (.iastore, 1) ∧ decode cX12_wait 65 = .ok (.aload_n 0, 1) ∧ decode cX12_wait 66 = .ok (.getfield 59, 3) ∧ decode cX12_wait 69 = .ok (.iload_n 1, 1) ∧ decode cX12_wait 70 = .ok (.iconst 0, 1) ∧ decode cX12_wait 71 = .ok (.iastore, 1) ∧ decode cX12_wait 72 = .ok (.aload_n 0, 1) ∧ decode cX12_wait 73 = .ok (.dup, 1) ∧ decode cX12_wait 74 = .ok (.getfield 133, 3) ∧ decode cX12_wait 77 = .ok (.iconst 1, 1) ∧ decode cX12_wait 78 = .ok (.iadd, 1) ∧ decode cX12_wait 79 = .ok (.putfield 133, 3) ∧ decode cX12_wait 82 = .ok (.aload_n 0, 1) ∧ decode cX12_wait 83 = .ok (.getfield 133, 3) := op_180 lk_dX12_wait_60 fun e => op_27 e fun e => op_79 e fun e => op_42 e fun e => op_180 e fun e => op_27 e fun e => op_3 e fun e => op_79 e fun e => op_42 e fun e => op_89 e fun e => op_180 e fun e => op_4 e fun e => op_96 e fun e => op_181 e fun e => op_42 e fun e => (op_180 e fun _ => True.intro).1
theorem dX12_wait_60 : decode cX12_wait 60 = .ok (.getfield 133, 3) := bl_dX12_wait_60.1
theorem dX12_wait_63 : decode cX12_wait 63 = .ok (.iload_n 1, 1) := bl_dX12_wait_60.2.1
theorem dX12_wait_64 : decode cX12_wait 64 = .ok (.iastore, 1) := bl_dX12_wait_60.2.2.1
theorem dX12_wait_65 : decode cX12_wait 65 = .ok (.aload_n 0, 1) := bl_dX12_wait_60.2.2.2.1
theorem dX12_wait_66 : decode cX12_wait 66 = .ok (.getfield 59, 3) := bl_dX12_wait_60.2.2.2.2.1
theorem dX12_wait_69 : decode cX12_wait 69 = .ok (.iload_n 1, 1) := bl_dX12_wait_60.2.2.2.2.2.1
theorem dX12_wait_70 : decode cX12_wait 70 = .ok (.iconst 0, 1) := bl_dX12_wait_60.2.2.2.2.2.2.1
theorem dX12_wait_71 : decode cX12_wait 71 = .ok (.iastore, 1) := bl_dX12_wait_60.2.2.2.2.2.2.2.1
theorem dX12_wait_72 : decode cX12_wait 72 = .ok (.aload_n 0, 1) := bl_dX12_wait_60.2.2.2.2.2.2.2.2.1
theorem dX12_wait_73 : decode cX12_wait 73 = .ok (.dup, 1) := bl_dX12_wait_60.2.2.2.2.2.2.2.2.2.1
theorem dX12_wait_74 : decode cX12_wait 74 = .ok (.getfield 133, 3) := bl_dX12_wait_60.2.2.2.2.2.2.2.2.2.2.1
theorem dX12_wait_77 : decode cX12_wait 77 = .ok (.iconst 1, 1) := bl_dX12_wait_60.2.2.2.2.2.2.2.2.2.2.2.1
theorem dX12_wait_78 : decode cX12_wait 78 = .ok (.iadd, 1) := bl_dX12_wait_60.2.2.2.2.2.2.2.2.2.2.2.2.1
theorem dX12_wait_79 : decode cX12_wait 79 = .ok (.putfield 133, 3) := bl_dX12_wait_60.2.2.2.2.2.2.2.2.2.2.2.2.2.1
theorem dX12_wait_82 : decode cX12_wait 82 = .ok (.aload_n 0, 1) := bl_dX12_wait_60.2.2.2.2.2.2.2.2.2.2.2.2.2.2.1
theorem dX12_wait_83 : decode cX12_wait 83 = .ok (.getfield 133, 3) := bl_dX12_wait_60.2.2.2.2.2.2.2.2.2.2.2.2.2.2.2
set_option maxRecDepth 20000 in
theorem lk_dX12_wait_86 : th_dr cX12_wait 86 = 172 :: th_dr cX12_wait 87 := rfl
theorem dX12_wait_86 : decode cX12_wait 86 = .ok (.ireturn, 1) := (op_172 lk_dX12_wait_86 fun _ => True.intro).1
theorem lk_dX12_goesOff_0 : th_dr cX12_goesOff 0 = 42 :: 89 :: 180 :: 0 :: 133 :: 4 :: 100 :: 181 :: 0 :: 133 :: 27 :: 61 :: 28 :: 42 :: 180 :: 0 :: 133 :: 162 :: 0 :: 23 :: 42 :: 180 :: 0 :: 56 :: 28 :: 42 :: th_dr cX12_goesOff 26 := rfl
theorem bl_dX12_goesOff_0 : decode cX12_goesOff 0 = .ok (.aload_n 0, 1) ∧ decode cX12_goesOff 1 = .ok (.dup, 1) ∧ decode cX12_goesOff 2 = .ok (.getfield 133, 3) ∧ decode cX12_goesOff 5 = .ok (.iconst 1, 1) ∧ decode cX12_goesOff 6 = .ok (.isub, 1) ∧ decode cX12_goesOff 7 = .ok (.putfield 133, 3) ∧ decode cX12_goesOff 10 = .ok (.iload_n 1, 1) ∧ decode cX12_goesOff 11 = .ok (.istore_n 2, 1) ∧ decode cX12_goesOff 12 = .ok (.iload_n 2, 1) ∧ decode cX12_goesOff 13 = .ok (.aload_n 0, 1) ∧ decode cX12_goesOff 14 = .ok (.getfield 133, 3) ∧ decode cX12_goesOff 17 = .ok (.if_icmp .ge 23, 3) ∧ decode cX12_goesOff 20 = .ok (.aload_n 0, 1) ∧ decode cX12_goesOff 21 = .ok (.getfield 56, 3) ∧ decode cX12_goesOff 24 = .ok (.iload_n 2, 1) ∧ decode cX12_goesOff 25 = .ok (.aload_n 0, 1) := op_42 lk_dX12_goesOff_0 fun e => op_89 e fun e => op_180 e fun e => op_4 e fun e => op_100 e fun e => op_181 e fun e => op_27 e fun e => op_61 e fun e => op_28 e fun e => op_42 e fun e => op_180 e fun e => op_162p e rfl fun e => op_42 e fun e => op_180 e fun e => op_28 e fun e => (op_42 e fun _ => True.intro).1
theorem dX12_goesOff_0 : decode cX12_goesOff 0 = .ok (.aload_n 0, 1) := bl_dX12_goesOff_0.1
theorem dX12_goesOff_1 : decode cX12_goesOff 1 = .ok (.dup, 1) := bl_dX12_goesOff_0.2.1
theorem dX12_goesOff_2 : decode cX12_goesOff 2 = .ok (.getfield 133, 3) := bl_dX12_goesOff_0.2.2.1
theorem dX12_goesOff_5 : decode cX12_goesOff 5 = .ok (.iconst 1, 1) := bl_dX12_goesOff_0.2.2.2.1
theorem dX12_goesOff_6 : decode cX12_goesOff 6 = .ok (.isub, 1) := bl_dX12_goesOff_0.2.2.2.2.1
theorem dX12_goesOff_7 : decode cX12_goesOff 7 = .ok (.putfield 133, 3) := bl_dX12_goesOff_0.2.2.2.2.2.1
theorem dX12_goesOff_10 : decode cX12_goesOff 10 = .ok (.iload_n 1, 1) := bl_dX12_goesOff_0.2.2.2.2.2.2.1
theorem dX12_goesOff_11 : decode cX12_goesOff 11 = .ok (.istore_n 2, 1) := bl_dX12_goesOff_0.2.2.2.2.2.2.2.1
theorem dX12_goesOff_12 : decode cX12_goesOff 12 = .ok (.iload_n 2, 1) := bl_dX12_goesOff_0.2.2.2.2.2.2.2.2.1
theorem dX12_goesOff_13 : decode cX12_goesOff 13 = .ok (.aload_n 0, 1) := bl_dX12_goesOff_0.2.2.2.2.2.2.2.2.2.1
theorem dX12_goesOff_14 : decode cX12_goesOff 14 = .ok (.getfield 133, 3) := bl_dX12_goesOff_0.2.2.2.2.2.2.2.2.2.2.1
theorem dX12_goesOff_17 : decode cX12_goesOff 17 = .ok (.if_icmp .ge 23, 3) := bl_dX12_goesOff_0.2.2.2.2.2.2.2.2.2.2.2.1
theorem dX12_goesOff_20 : decode cX12_goesOff 20 = .ok (.aload_n 0, 1) := bl_dX12_goesOff_0.2.2.2.2.2.2.2.2.2.2.2.2.1
theorem dX12_goesOff_21 : decode cX12_goesOff 21 = .ok (.getfield 56, 3) := bl_dX12_goesOff_0.2.2.2.2.2.2.2.2.2.2.2.2.2.1
theorem dX12_goesOff_24 : decode cX12_goesOff 24 = .ok (.iload_n 2, 1) := bl_dX12_goesOff_0.2.2.2.2.2.2.2.2.2.2.2.2.2.2.1
theorem dX12_goesOff_25 : decode cX12_goesOff 25 = .ok (.aload_n 0, 1) := bl_dX12_goesOff_0.2.2.2.2.2.2.2.2.2.2.2.2.2.2.2
theorem lk_dX12_goesOff_26 : th_dr cX12_goesOff 26 = 180 :: 0 :: 56 :: 28 :: 4 :: 96 :: 46 :: 79 :: 132 :: 2 :: 1 :: 167 :: 255 :: 231 :: 177 :: th_dr cX12_goesOff 41 := rfl
theorem bl_dX12_goesOff_26 : decode cX12_goesOff 26 = .ok (.getfield 56, 3) ∧ decode cX12_goesOff 29 = .ok (.iload_n 2, 1) ∧ decode cX12_goesOff 30 = .ok (.iconst 1, 1) ∧ decode cX12_goesOff 31 = .ok (.iadd, 1) ∧ decode cX12_goesOff 32 = .ok (.iaload, 1) ∧ decode cX12_goesOff 33 = .ok (.iastore, 1) ∧ decode cX12_goesOff 34 = .ok (.iinc 2 1, 3) ∧ decode cX12_goesOff 37 = .ok (.goto (-25), 3) ∧ decode cX12_goesOff 40 = .ok (.return_, 1) := op_180 lk_dX12_goesOff_26 fun e => op_28 e fun e => op_4 e fun e => op_96 e fun e => op_46 e fun e => op_79 e fun e => op_132p e rfl fun e => op_167n e rfl rfl fun e => (op_177 e fun _ => True.intro).1
theorem dX12_goesOff_26 : decode cX12_goesOff 26 = .ok (.getfield 56, 3) := bl_dX12_goesOff_26.1
theorem dX12_goesOff_29 : decode cX12_goesOff 29 = .ok (.iload_n 2, 1) := bl_dX12_goesOff_26.2.1
theorem dX12_goesOff_30 : decode cX12_goesOff 30 = .ok (.iconst 1, 1) := bl_dX12_goesOff_26.2.2.1
theorem dX12_goesOff_31 : decode cX12_goesOff 31 = .ok (.iadd, 1) := bl_dX12_goesOff_26.2.2.2.1
theorem dX12_goesOff_32 : decode cX12_goesOff 32 = .ok (.iaload, 1) := bl_dX12_goesOff_26.2.2.2.2.1
theorem dX12_goesOff_33 : decode cX12_goesOff 33 = .ok (.iastore, 1) := bl_dX12_goesOff_26.2.2.2.2.2.1
theorem dX12_goesOff_34 : decode cX12_goesOff 34 = .ok (.iinc 2 1, 3) := bl_dX12_goesOff_26.2.2.2.2.2.2.1
theorem dX12_goesOff_37 : decode cX12_goesOff 37 = .ok (.goto (-25), 3) := bl_dX12_goesOff_26.2.2.2.2.2.2.2.1
theorem dX12_goesOff_40 : decode cX12_goesOff 40 = .ok (.return_, 1) := bl_dX12_goesOff_26.2.2.2.2.2.2.2.2
set_option maxRecDepth 20000 in
theorem ggX12_away_X12_isBoat : GoodIn wsX12_away wsX12_isBoat := goodIn_q _ [(7, 4), (6, 1), (11, 1), (28, 38)] rfl gdwsX12_isBoat
set_option maxRecDepth 20000 in
theorem gX12_away_X12_isBoat : GoodIn wsX12_away (wsV RX12 125 RX12 yX12_isBoat wsX12_isBoat) := goodIn_app (goodIn_q _ [(3, 4)] rfl rfl) ggX12_away_X12_isBoat
set_option maxRecDepth 20000 in
theorem ggX12_away_X12_finding : GoodIn wsX12_away wsX12_finding := goodIn_q _ [(15, 3), (28, 38)] rfl gdwsX12_finding
set_option maxRecDepth 20000 in
theorem gX12_away_X12_finding : GoodIn wsX12_away (wsV RX12 120 RX12 yX12_finding wsX12_finding) := goodIn_app (goodIn_q _ [(12, 3), (6, 1)] rfl rfl) ggX12_away_X12_finding
set_option maxRecDepth 20000 in
theorem ggX12_away_X12_placeOnList : GoodIn wsX12_away wsX12_placeOnList := goodIn_q _ [(21, 3), (28, 38)] rfl gdwsX12_placeOnList
set_option maxRecDepth 20000 in
theorem gX12_away_X12_placeOnList : GoodIn wsX12_away (wsV RX12 136 RX12 yX12_placeOnList wsX12_placeOnList) := goodIn_app (goodIn_q _ [(18, 3), (6, 1)] rfl rfl) ggX12_away_X12_placeOnList
set_option maxRecDepth 20000 in
theorem ggX12_away_X12_goesOff : GoodIn wsX12_away wsX12_goesOff := goodIn_q _ [(27, 1), (22, 2), (28, 38)] rfl gdwsX12_goesOff
set_option maxRecDepth 20000 in
theorem gX12_away_X12_goesOff : GoodIn wsX12_away (wsV RX12 196 RX12 yX12_goesOff wsX12_goesOff) := goodIn_app (goodIn_q _ [(24, 3), (6, 1)] rfl rfl) ggX12_away_X12_goesOff
theorem lk_dX12_away_0 : th_dr cX12_away 0 = 42 :: 27 :: 182 :: 0 :: 125 :: 154 :: 0 :: 10 :: 42 :: 18 :: 119 :: 182 :: 0 :: 120 :: 172 :: 42 :: 27 :: 182 :: 0 :: 136 :: 61 :: 28 :: 156 :: 0 :: 10 :: 42 :: 18 :: 186 :: th_dr cX12_away 28 := rfl
theorem bl_dX12_away_0 : decode cX12_away 0 = .ok (.aload_n 0, 1) ∧ decode cX12_away 1 = .ok (.iload_n 1, 1) ∧ decode cX12_away 2 = .ok (.invokevirtual 125, 3) ∧ decode cX12_away 5 = .ok (.ifCond .ne 10, 3) ∧ decode cX12_away 8 = .ok (.aload_n 0, 1) ∧ decode cX12_away 9 = .ok (.ldc 119, 2) ∧ decode cX12_away 11 = .ok (.invokevirtual 120, 3) ∧ decode cX12_away 14 = .ok (.ireturn, 1) ∧ decode cX12_away 15 = .ok (.aload_n 0, 1) ∧ decode cX12_away 16 = .ok (.iload_n 1, 1) ∧ decode cX12_away 17 = .ok (.invokevirtual 136, 3) ∧ decode cX12_away 20 = .ok (.istore_n 2, 1) ∧ decode cX12_away 21 = .ok (.iload_n 2, 1) ∧ decode cX12_away 22 = .ok (.ifCond .ge 10, 3) ∧ decode cX12_away 25 = .ok (.aload_n 0, 1) ∧ decode cX12_away 26 = .ok (.ldc 186, 2) := op_42 lk_dX12_away_0 fun e => op_27 e fun e => op_182 e fun e => op_154p e rfl fun e => op_42 e fun e => op_18 e fun e => op_182 e fun e => op_172 e fun e => op_42 e fun e => op_27 e fun e => op_182 e fun e => op_61 e fun e => op_28 e fun e => op_156p e rfl fun e => op_42 e fun e => (op_18 e fun _ => True.intro).1
theorem dX12_away_0 : decode cX12_away 0 = .ok (.aload_n 0, 1) := bl_dX12_away_0.1
theorem dX12_away_1 : decode cX12_away 1 = .ok (.iload_n 1, 1) := bl_dX12_away_0.2.1
theorem dX12_away_2 : decode cX12_away 2 = .ok (.invokevirtual 125, 3) := bl_dX12_away_0.2.2.1
theorem dX12_away_5 : decode cX12_away 5 = .ok (.ifCond .ne 10, 3) := bl_dX12_away_0.2.2.2.1
theorem dX12_away_8 : decode cX12_away 8 = .ok (.aload_n 0, 1) := bl_dX12_away_0.2.2.2.2.1
theorem dX12_away_9 : decode cX12_away 9 = .ok (.ldc 119, 2) := bl_dX12_away_0.2.2.2.2.2.1
theorem dX12_away_11 : decode cX12_away 11 = .ok (.invokevirtual 120, 3) := bl_dX12_away_0.2.2.2.2.2.2.1
theorem dX12_away_14 : decode cX12_away 14 = .ok (.ireturn, 1) := bl_dX12_away_0.2.2.2.2.2.2.2.1
theorem dX12_away_15 : decode cX12_away 15 = .ok (.aload_n 0, 1) := bl_dX12_away_0.2.2.2.2.2.2.2.2.1
theorem dX12_away_16 : decode cX12_away 16 = .ok (.iload_n 1, 1) := bl_dX12_away_0.2.2.2.2.2.2.2.2.2.1
theorem dX12_away_17 : decode cX12_away 17 = .ok (.invokevirtual 136, 3) := bl_dX12_away_0.2.2.2.2.2.2.2.2.2.2.1
theorem dX12_away_20 : decode cX12_away 20 = .ok (.istore_n 2, 1) := bl_dX12_away_0.2.2.2.2.2.2.2.2.2.2.2.1
theorem dX12_away_21 : decode cX12_away 21 = .ok (.iload_n 2, 1) := bl_dX12_away_0.2.2.2.2.2.2.2.2.2.2.2.2.1
theorem dX12_away_22 : decode cX12_away 22 = .ok (.ifCond .ge 10, 3) := bl_dX12_away_0.2.2.2.2.2.2.2.2.2.2.2.2.2.1
theorem dX12_away_25 : decode cX12_away 25 = .ok (.aload_n 0, 1) := bl_dX12_away_0.2.2.2.2.2.2.2.2.2.2.2.2.2.2.1
theorem dX12_away_26 : decode cX12_away 26 = .ok (.ldc 186, 2) := bl_dX12_away_0.2.2.2.2.2.2.2.2.2.2.2.2.2.2.2
theorem lk_dX12_away_28 : th_dr cX12_away 28 = 182 :: 0 :: 120 :: 172 :: 42 :: 28 :: 182 :: 0 :: 196 :: 28 :: 172 :: th_dr cX12_away 39 := rfl
theorem bl_dX12_away_28 : decode cX12_away 28 = .ok (.invokevirtual 120, 3) ∧ decode cX12_away 31 = .ok (.ireturn, 1) ∧ decode cX12_away 32 = .ok (.aload_n 0, 1) ∧ decode cX12_away 33 = .ok (.iload_n 2, 1) ∧ decode cX12_away 34 = .ok (.invokevirtual 196, 3) ∧ decode cX12_away 37 = .ok (.iload_n 2, 1) ∧ decode cX12_away 38 = .ok (.ireturn, 1) := op_182 lk_dX12_away_28 fun e => op_172 e fun e => op_42 e fun e => op_28 e fun e => op_182 e fun e => op_28 e fun e => (op_172 e fun _ => True.intro).1
theorem dX12_away_28 : decode cX12_away 28 = .ok (.invokevirtual 120, 3) := bl_dX12_away_28.1
theorem dX12_away_31 : decode cX12_away 31 = .ok (.ireturn, 1) := bl_dX12_away_28.2.1
theorem dX12_away_32 : decode cX12_away 32 = .ok (.aload_n 0, 1) := bl_dX12_away_28.2.2.1
theorem dX12_away_33 : decode cX12_away 33 = .ok (.iload_n 2, 1) := bl_dX12_away_28.2.2.2.1
theorem dX12_away_34 : decode cX12_away 34 = .ok (.invokevirtual 196, 3) := bl_dX12_away_28.2.2.2.2.1
theorem dX12_away_37 : decode cX12_away 37 = .ok (.iload_n 2, 1) := bl_dX12_away_28.2.2.2.2.2.1
theorem dX12_away_38 : decode cX12_away 38 = .ok (.ireturn, 1) := bl_dX12_away_28.2.2.2.2.2.2
set_option maxRecDepth 20000 in
theorem ggX12_offeredTo_X12_mayLie : GoodIn wsX12_offeredTo wsX12_mayLie := goodIn_q _ [(9, 5), (8, 1), (14, 87)] rfl gdwsX12_mayLie
set_option maxRecDepth 20000 in
theorem gX12_offeredTo_X12_mayLie : GoodIn wsX12_offeredTo (wsV RX12 187 RX12 yX12_mayLie wsX12_mayLie) := goodIn_app (goodIn_q _ [(5, 4)] rfl rfl) ggX12_offeredTo_X12_mayLie
theorem lk_dX12_offeredTo_0 : th_dr cX12_offeredTo 0 = 3 :: 61 :: 28 :: 42 :: 180 :: 0 :: 133 :: 162 :: 0 :: 47 :: 42 :: 180 :: 0 :: 59 :: 42 :: 180 :: 0 :: 56 :: 28 :: 46 :: 46 :: 27 :: 122 :: 4 :: th_dr cX12_offeredTo 24 := rfl
theorem bl_dX12_offeredTo_0 : decode cX12_offeredTo 0 = .ok (.iconst 0, 1) ∧ decode cX12_offeredTo 1 = .ok (.istore_n 2, 1) ∧ decode cX12_offeredTo 2 = .ok (.iload_n 2, 1) ∧ decode cX12_offeredTo 3 = .ok (.aload_n 0, 1) ∧ decode cX12_offeredTo 4 = .ok (.getfield 133, 3) ∧ decode cX12_offeredTo 7 = .ok (.if_icmp .ge 47, 3) ∧ decode cX12_offeredTo 10 = .ok (.aload_n 0, 1) ∧ decode cX12_offeredTo 11 = .ok (.getfield 59, 3) ∧ decode cX12_offeredTo 14 = .ok (.aload_n 0, 1) ∧ decode cX12_offeredTo 15 = .ok (.getfield 56, 3) ∧ decode cX12_offeredTo 18 = .ok (.iload_n 2, 1) ∧ decode cX12_offeredTo 19 = .ok (.iaload, 1) ∧ decode cX12_offeredTo 20 = .ok (.iaload, 1) ∧ decode cX12_offeredTo 21 = .ok (.iload_n 1, 1) ∧ decode cX12_offeredTo 22 = .ok (.ishr, 1) ∧ decode cX12_offeredTo 23 = .ok (.iconst 1, 1) := op_3 lk_dX12_offeredTo_0 fun e => op_61 e fun e => op_28 e fun e => op_42 e fun e => op_180 e fun e => op_162p e rfl fun e => op_42 e fun e => op_180 e fun e => op_42 e fun e => op_180 e fun e => op_28 e fun e => op_46 e fun e => op_46 e fun e => op_27 e fun e => op_122 e fun e => (op_4 e fun _ => True.intro).1
theorem dX12_offeredTo_0 : decode cX12_offeredTo 0 = .ok (.iconst 0, 1) := bl_dX12_offeredTo_0.1
theorem dX12_offeredTo_1 : decode cX12_offeredTo 1 = .ok (.istore_n 2, 1) := bl_dX12_offeredTo_0.2.1
theorem dX12_offeredTo_2 : decode cX12_offeredTo 2 = .ok (.iload_n 2, 1) := bl_dX12_offeredTo_0.2.2.1
theorem dX12_offeredTo_3 : decode cX12_offeredTo 3 = .ok (.aload_n 0, 1) := bl_dX12_offeredTo_0.2.2.2.1
theorem dX12_offeredTo_4 : decode cX12_offeredTo 4 = .ok (.getfield 133, 3) := bl_dX12_offeredTo_0.2.2.2.2.1
theorem dX12_offeredTo_7 : decode cX12_offeredTo 7 = .ok (.if_icmp .ge 47, 3) := bl_dX12_offeredTo_0.2.2.2.2.2.1
theorem dX12_offeredTo_10 : decode cX12_offeredTo 10 = .ok (.aload_n 0, 1) := bl_dX12_offeredTo_0.2.2.2.2.2.2.1
theorem dX12_offeredTo_11 : decode cX12_offeredTo 11 = .ok (.getfield 59, 3) := bl_dX12_offeredTo_0.2.2.2.2.2.2.2.1
theorem dX12_offeredTo_14 : decode cX12_offeredTo 14 = .ok (.aload_n 0, 1) := bl_dX12_offeredTo_0.2.2.2.2.2.2.2.2.1
theorem dX12_offeredTo_15 : decode cX12_offeredTo 15 = .ok (.getfield 56, 3) := bl_dX12_offeredTo_0.2.2.2.2.2.2.2.2.2.1
theorem dX12_offeredTo_18 : decode cX12_offeredTo 18 = .ok (.iload_n 2, 1) := bl_dX12_offeredTo_0.2.2.2.2.2.2.2.2.2.2.1
theorem dX12_offeredTo_19 : decode cX12_offeredTo 19 = .ok (.iaload, 1) := bl_dX12_offeredTo_0.2.2.2.2.2.2.2.2.2.2.2.1
theorem dX12_offeredTo_20 : decode cX12_offeredTo 20 = .ok (.iaload, 1) := bl_dX12_offeredTo_0.2.2.2.2.2.2.2.2.2.2.2.2.1
theorem dX12_offeredTo_21 : decode cX12_offeredTo 21 = .ok (.iload_n 1, 1) := bl_dX12_offeredTo_0.2.2.2.2.2.2.2.2.2.2.2.2.2.1
theorem dX12_offeredTo_22 : decode cX12_offeredTo 22 = .ok (.ishr, 1) := bl_dX12_offeredTo_0.2.2.2.2.2.2.2.2.2.2.2.2.2.2.1
theorem dX12_offeredTo_23 : decode cX12_offeredTo 23 = .ok (.iconst 1, 1) := bl_dX12_offeredTo_0.2.2.2.2.2.2.2.2.2.2.2.2.2.2.2
theorem lk_dX12_offeredTo_24 : th_dr cX12_offeredTo 24 = 126 :: 154 :: 0 :: 23 :: 42 :: 42 :: 180 :: 0 :: 56 :: 28 :: 46 :: 27 :: 42 :: 180 :: 0 :: 40 :: 182 :: 0 :: 187 :: 153 :: 0 :: 5 :: 28 :: 172 :: 132 :: 2 :: 1 :: 167 :: 255 :: 207 :: th_dr cX12_offeredTo 54 := rfl
theorem bl_dX12_offeredTo_24 : decode cX12_offeredTo 24 = .ok (.iand, 1) ∧ decode cX12_offeredTo 25 = .ok (.ifCond .ne 23, 3) ∧ decode cX12_offeredTo 28 = .ok (.aload_n 0, 1) ∧ decode cX12_offeredTo 29 = .ok (.aload_n 0, 1) ∧ decode cX12_offeredTo 30 = .ok (.getfield 56, 3) ∧ decode cX12_offeredTo 33 = .ok (.iload_n 2, 1) ∧ decode cX12_offeredTo 34 = .ok (.iaload, 1) ∧ decode cX12_offeredTo 35 = .ok (.iload_n 1, 1) ∧ decode cX12_offeredTo 36 = .ok (.aload_n 0, 1) ∧ decode cX12_offeredTo 37 = .ok (.getfield 40, 3) ∧ decode cX12_offeredTo 40 = .ok (.invokevirtual 187, 3) ∧ decode cX12_offeredTo 43 = .ok (.ifCond .eq 5, 3) ∧ decode cX12_offeredTo 46 = .ok (.iload_n 2, 1) ∧ decode cX12_offeredTo 47 = .ok (.ireturn, 1) ∧ decode cX12_offeredTo 48 = .ok (.iinc 2 1, 3) ∧ decode cX12_offeredTo 51 = .ok (.goto (-49), 3) := op_126 lk_dX12_offeredTo_24 fun e => op_154p e rfl fun e => op_42 e fun e => op_42 e fun e => op_180 e fun e => op_28 e fun e => op_46 e fun e => op_27 e fun e => op_42 e fun e => op_180 e fun e => op_182 e fun e => op_153p e rfl fun e => op_28 e fun e => op_172 e fun e => op_132p e rfl fun e => (op_167n e rfl rfl fun _ => True.intro).1
theorem dX12_offeredTo_24 : decode cX12_offeredTo 24 = .ok (.iand, 1) := bl_dX12_offeredTo_24.1
theorem dX12_offeredTo_25 : decode cX12_offeredTo 25 = .ok (.ifCond .ne 23, 3) := bl_dX12_offeredTo_24.2.1
theorem dX12_offeredTo_28 : decode cX12_offeredTo 28 = .ok (.aload_n 0, 1) := bl_dX12_offeredTo_24.2.2.1
theorem dX12_offeredTo_29 : decode cX12_offeredTo 29 = .ok (.aload_n 0, 1) := bl_dX12_offeredTo_24.2.2.2.1
theorem dX12_offeredTo_30 : decode cX12_offeredTo 30 = .ok (.getfield 56, 3) := bl_dX12_offeredTo_24.2.2.2.2.1
theorem dX12_offeredTo_33 : decode cX12_offeredTo 33 = .ok (.iload_n 2, 1) := bl_dX12_offeredTo_24.2.2.2.2.2.1
theorem dX12_offeredTo_34 : decode cX12_offeredTo 34 = .ok (.iaload, 1) := bl_dX12_offeredTo_24.2.2.2.2.2.2.1
theorem dX12_offeredTo_35 : decode cX12_offeredTo 35 = .ok (.iload_n 1, 1) := bl_dX12_offeredTo_24.2.2.2.2.2.2.2.1
theorem dX12_offeredTo_36 : decode cX12_offeredTo 36 = .ok (.aload_n 0, 1) := bl_dX12_offeredTo_24.2.2.2.2.2.2.2.2.1
theorem dX12_offeredTo_37 : decode cX12_offeredTo 37 = .ok (.getfield 40, 3) := bl_dX12_offeredTo_24.2.2.2.2.2.2.2.2.2.1
theorem dX12_offeredTo_40 : decode cX12_offeredTo 40 = .ok (.invokevirtual 187, 3) := bl_dX12_offeredTo_24.2.2.2.2.2.2.2.2.2.2.1
theorem dX12_offeredTo_43 : decode cX12_offeredTo 43 = .ok (.ifCond .eq 5, 3) := bl_dX12_offeredTo_24.2.2.2.2.2.2.2.2.2.2.2.1
theorem dX12_offeredTo_46 : decode cX12_offeredTo 46 = .ok (.iload_n 2, 1) := bl_dX12_offeredTo_24.2.2.2.2.2.2.2.2.2.2.2.2.1
theorem dX12_offeredTo_47 : decode cX12_offeredTo 47 = .ok (.ireturn, 1) := bl_dX12_offeredTo_24.2.2.2.2.2.2.2.2.2.2.2.2.2.1
theorem dX12_offeredTo_48 : decode cX12_offeredTo 48 = .ok (.iinc 2 1, 3) := bl_dX12_offeredTo_24.2.2.2.2.2.2.2.2.2.2.2.2.2.2.1
theorem dX12_offeredTo_51 : decode cX12_offeredTo 51 = .ok (.goto (-49), 3) := bl_dX12_offeredTo_24.2.2.2.2.2.2.2.2.2.2.2.2.2.2.2
theorem lk_dX12_offeredTo_54 : th_dr cX12_offeredTo 54 = 2 :: 172 :: th_dr cX12_offeredTo 56 := rfl
theorem bl_dX12_offeredTo_54 : decode cX12_offeredTo 54 = .ok (.iconst (-1), 1) ∧ decode cX12_offeredTo 55 = .ok (.ireturn, 1) := op_2 lk_dX12_offeredTo_54 fun e => (op_172 e fun _ => True.intro).1
theorem dX12_offeredTo_54 : decode cX12_offeredTo 54 = .ok (.iconst (-1), 1) := bl_dX12_offeredTo_54.1
theorem dX12_offeredTo_55 : decode cX12_offeredTo 55 = .ok (.ireturn, 1) := bl_dX12_offeredTo_54.2
set_option maxRecDepth 20000 in
theorem ggX12_offer_X12_isBuoy : GoodIn wsX12_offer wsX12_isBuoy := goodIn_q _ [(10, 4), (9, 1), (14, 1), (85, 38)] rfl gdwsX12_isBuoy
set_option maxRecDepth 20000 in
theorem gX12_offer_X12_isBuoy : GoodIn wsX12_offer (wsV RX12 139 RX12 yX12_isBuoy wsX12_isBuoy) := goodIn_app (goodIn_q _ [(6, 4)] rfl rfl) ggX12_offer_X12_isBuoy
set_option maxRecDepth 20000 in
theorem ggX12_offer_X12_finding : GoodIn wsX12_offer wsX12_finding := goodIn_q _ [(18, 3), (85, 38)] rfl gdwsX12_finding
set_option maxRecDepth 20000 in
theorem gX12_offer_X12_finding : GoodIn wsX12_offer (wsV RX12 120 RX12 yX12_finding wsX12_finding) := goodIn_app (goodIn_q _ [(15, 3), (9, 1)] rfl rfl) ggX12_offer_X12_finding
set_option maxRecDepth 20000 in
theorem gdwsX12_offeredTo : wsX12_offeredTo.all goodWord = true := by decide +kernel
set_option maxRecDepth 20000 in
theorem ggX12_offer_X12_offeredTo : GoodIn wsX12_offer wsX12_offeredTo := goodIn_q _ [(24, 3), (5, 1), (27, 4), (9, 1), (31, 92)] rfl gdwsX12_offeredTo
set_option maxRecDepth 20000 in
theorem gX12_offer_X12_offeredTo : GoodIn wsX12_offer (wsV RX12 218 RX12 yX12_offeredTo wsX12_offeredTo) := goodIn_app (goodIn_q _ [(21, 3), (9, 1)] rfl rfl) ggX12_offer_X12_offeredTo
theorem lk_dX12_offer_0 : th_dr cX12_offer 0 = 42 :: 27 :: 182 :: 0 :: 139 :: 154 :: 0 :: 10 :: 42 :: 18 :: 119 :: 182 :: 0 :: 120 :: 172 :: 42 :: 180 :: 0 :: 28 :: 27 :: 46 :: 155 :: 0 :: 10 :: 42 :: 18 :: 186 :: 182 :: 0 :: 120 :: th_dr cX12_offer 30 := rfl
theorem bl_dX12_offer_0 : decode cX12_offer 0 = .ok (.aload_n 0, 1) ∧ decode cX12_offer 1 = .ok (.iload_n 1, 1) ∧ decode cX12_offer 2 = .ok (.invokevirtual 139, 3) ∧ decode cX12_offer 5 = .ok (.ifCond .ne 10, 3) ∧ decode cX12_offer 8 = .ok (.aload_n 0, 1) ∧ decode cX12_offer 9 = .ok (.ldc 119, 2) ∧ decode cX12_offer 11 = .ok (.invokevirtual 120, 3) ∧ decode cX12_offer 14 = .ok (.ireturn, 1) ∧ decode cX12_offer 15 = .ok (.aload_n 0, 1) ∧ decode cX12_offer 16 = .ok (.getfield 28, 3) ∧ decode cX12_offer 19 = .ok (.iload_n 1, 1) ∧ decode cX12_offer 20 = .ok (.iaload, 1) ∧ decode cX12_offer 21 = .ok (.ifCond .lt 10, 3) ∧ decode cX12_offer 24 = .ok (.aload_n 0, 1) ∧ decode cX12_offer 25 = .ok (.ldc 186, 2) ∧ decode cX12_offer 27 = .ok (.invokevirtual 120, 3) := op_42 lk_dX12_offer_0 fun e => op_27 e fun e => op_182 e fun e => op_154p e rfl fun e => op_42 e fun e => op_18 e fun e => op_182 e fun e => op_172 e fun e => op_42 e fun e => op_180 e fun e => op_27 e fun e => op_46 e fun e => op_155p e rfl fun e => op_42 e fun e => op_18 e fun e => (op_182 e fun _ => True.intro).1
theorem dX12_offer_0 : decode cX12_offer 0 = .ok (.aload_n 0, 1) := bl_dX12_offer_0.1
theorem dX12_offer_1 : decode cX12_offer 1 = .ok (.iload_n 1, 1) := bl_dX12_offer_0.2.1
theorem dX12_offer_2 : decode cX12_offer 2 = .ok (.invokevirtual 139, 3) := bl_dX12_offer_0.2.2.1
theorem dX12_offer_5 : decode cX12_offer 5 = .ok (.ifCond .ne 10, 3) := bl_dX12_offer_0.2.2.2.1
theorem dX12_offer_8 : decode cX12_offer 8 = .ok (.aload_n 0, 1) := bl_dX12_offer_0.2.2.2.2.1
theorem dX12_offer_9 : decode cX12_offer 9 = .ok (.ldc 119, 2) := bl_dX12_offer_0.2.2.2.2.2.1
theorem dX12_offer_11 : decode cX12_offer 11 = .ok (.invokevirtual 120, 3) := bl_dX12_offer_0.2.2.2.2.2.2.1
theorem dX12_offer_14 : decode cX12_offer 14 = .ok (.ireturn, 1) := bl_dX12_offer_0.2.2.2.2.2.2.2.1
theorem dX12_offer_15 : decode cX12_offer 15 = .ok (.aload_n 0, 1) := bl_dX12_offer_0.2.2.2.2.2.2.2.2.1
theorem dX12_offer_16 : decode cX12_offer 16 = .ok (.getfield 28, 3) := bl_dX12_offer_0.2.2.2.2.2.2.2.2.2.1
theorem dX12_offer_19 : decode cX12_offer 19 = .ok (.iload_n 1, 1) := bl_dX12_offer_0.2.2.2.2.2.2.2.2.2.2.1
theorem dX12_offer_20 : decode cX12_offer 20 = .ok (.iaload, 1) := bl_dX12_offer_0.2.2.2.2.2.2.2.2.2.2.2.1
theorem dX12_offer_21 : decode cX12_offer 21 = .ok (.ifCond .lt 10, 3) := bl_dX12_offer_0.2.2.2.2.2.2.2.2.2.2.2.2.1
theorem dX12_offer_24 : decode cX12_offer 24 = .ok (.aload_n 0, 1) := bl_dX12_offer_0.2.2.2.2.2.2.2.2.2.2.2.2.2.1
theorem dX12_offer_25 : decode cX12_offer 25 = .ok (.ldc 186, 2) := bl_dX12_offer_0.2.2.2.2.2.2.2.2.2.2.2.2.2.2.1
theorem dX12_offer_27 : decode cX12_offer 27 = .ok (.invokevirtual 120, 3) := bl_dX12_offer_0.2.2.2.2.2.2.2.2.2.2.2.2.2.2.2
theorem lk_dX12_offer_30 : th_dr cX12_offer 30 = 172 :: 42 :: 27 :: 182 :: 0 :: 218 :: 61 :: 28 :: 156 :: 0 :: 12 :: 42 :: 18 :: 191 :: 182 :: 0 :: 120 :: 167 :: 0 :: 9 :: 42 :: 180 :: 0 :: 56 :: 28 :: 46 :: 172 :: th_dr cX12_offer 57 := rfl
theorem bl_dX12_offer_30 : decode cX12_offer 30 = .ok (.ireturn, 1) ∧ decode cX12_offer 31 = .ok (.aload_n 0, 1) ∧ decode cX12_offer 32 = .ok (.iload_n 1, 1) ∧ decode cX12_offer 33 = .ok (.invokevirtual 218, 3) ∧ decode cX12_offer 36 = .ok (.istore_n 2, 1) ∧ decode cX12_offer 37 = .ok (.iload_n 2, 1) ∧ decode cX12_offer 38 = .ok (.ifCond .ge 12, 3) ∧ decode cX12_offer 41 = .ok (.aload_n 0, 1) ∧ decode cX12_offer 42 = .ok (.ldc 191, 2) ∧ decode cX12_offer 44 = .ok (.invokevirtual 120, 3) ∧ decode cX12_offer 47 = .ok (.goto 9, 3) ∧ decode cX12_offer 50 = .ok (.aload_n 0, 1) ∧ decode cX12_offer 51 = .ok (.getfield 56, 3) ∧ decode cX12_offer 54 = .ok (.iload_n 2, 1) ∧ decode cX12_offer 55 = .ok (.iaload, 1) ∧ decode cX12_offer 56 = .ok (.ireturn, 1) := op_172 lk_dX12_offer_30 fun e => op_42 e fun e => op_27 e fun e => op_182 e fun e => op_61 e fun e => op_28 e fun e => op_156p e rfl fun e => op_42 e fun e => op_18 e fun e => op_182 e fun e => op_167p e rfl fun e => op_42 e fun e => op_180 e fun e => op_28 e fun e => op_46 e fun e => (op_172 e fun _ => True.intro).1
theorem dX12_offer_30 : decode cX12_offer 30 = .ok (.ireturn, 1) := bl_dX12_offer_30.1
theorem dX12_offer_31 : decode cX12_offer 31 = .ok (.aload_n 0, 1) := bl_dX12_offer_30.2.1
theorem dX12_offer_32 : decode cX12_offer 32 = .ok (.iload_n 1, 1) := bl_dX12_offer_30.2.2.1
theorem dX12_offer_33 : decode cX12_offer 33 = .ok (.invokevirtual 218, 3) := bl_dX12_offer_30.2.2.2.1
theorem dX12_offer_36 : decode cX12_offer 36 = .ok (.istore_n 2, 1) := bl_dX12_offer_30.2.2.2.2.1
theorem dX12_offer_37 : decode cX12_offer 37 = .ok (.iload_n 2, 1) := bl_dX12_offer_30.2.2.2.2.2.1
theorem dX12_offer_38 : decode cX12_offer 38 = .ok (.ifCond .ge 12, 3) := bl_dX12_offer_30.2.2.2.2.2.2.1
theorem dX12_offer_41 : decode cX12_offer 41 = .ok (.aload_n 0, 1) := bl_dX12_offer_30.2.2.2.2.2.2.2.1
theorem dX12_offer_42 : decode cX12_offer 42 = .ok (.ldc 191, 2) := bl_dX12_offer_30.2.2.2.2.2.2.2.2.1
theorem dX12_offer_44 : decode cX12_offer 44 = .ok (.invokevirtual 120, 3) := bl_dX12_offer_30.2.2.2.2.2.2.2.2.2.1
theorem dX12_offer_47 : decode cX12_offer 47 = .ok (.goto 9, 3) := bl_dX12_offer_30.2.2.2.2.2.2.2.2.2.2.1
theorem dX12_offer_50 : decode cX12_offer 50 = .ok (.aload_n 0, 1) := bl_dX12_offer_30.2.2.2.2.2.2.2.2.2.2.2.1
theorem dX12_offer_51 : decode cX12_offer 51 = .ok (.getfield 56, 3) := bl_dX12_offer_30.2.2.2.2.2.2.2.2.2.2.2.2.1
theorem dX12_offer_54 : decode cX12_offer 54 = .ok (.iload_n 2, 1) := bl_dX12_offer_30.2.2.2.2.2.2.2.2.2.2.2.2.2.1
theorem dX12_offer_55 : decode cX12_offer 55 = .ok (.iaload, 1) := bl_dX12_offer_30.2.2.2.2.2.2.2.2.2.2.2.2.2.2.1
theorem dX12_offer_56 : decode cX12_offer 56 = .ok (.ireturn, 1) := bl_dX12_offer_30.2.2.2.2.2.2.2.2.2.2.2.2.2.2.2
set_option maxRecDepth 20000 in
theorem ggX12_answer_X12_isBuoy : GoodIn wsX12_answer wsX12_isBuoy := goodIn_q _ [(13, 4), (12, 1), (17, 1), (94, 38)] rfl gdwsX12_isBuoy
set_option maxRecDepth 20000 in
theorem gX12_answer_X12_isBuoy : GoodIn wsX12_answer (wsV RX12 139 RX12 yX12_isBuoy wsX12_isBuoy) := goodIn_app (goodIn_q _ [(9, 4)] rfl rfl) ggX12_answer_X12_isBuoy
set_option maxRecDepth 20000 in
theorem ggX12_answer_X12_within : GoodIn wsX12_answer wsX12_within := goodIn_q _ [(17, 1)] rfl gdwsX12_within
set_option maxRecDepth 20000 in
theorem gX12_answer_X12_within : GoodIn wsX12_answer (va_wsS RX12 112 yX12_within wsX12_within) := goodIn_app (goodIn_q _ [(15, 2), (12, 1)] rfl rfl) ggX12_answer_X12_within
set_option maxRecDepth 20000 in
theorem ggX12_answer_X12_finding : GoodIn wsX12_answer wsX12_finding := goodIn_q _ [(21, 3), (94, 38)] rfl gdwsX12_finding
set_option maxRecDepth 20000 in
theorem gX12_answer_X12_finding : GoodIn wsX12_answer (wsV RX12 120 RX12 yX12_finding wsX12_finding) := goodIn_app (goodIn_q _ [(18, 3), (12, 1)] rfl rfl) ggX12_answer_X12_finding
set_option maxRecDepth 20000 in
theorem ggX12_answer_X12_offeredTo : GoodIn wsX12_answer wsX12_offeredTo := goodIn_q _ [(27, 1), (8, 1), (6, 1), (5, 1), (28, 4), (12, 1), (32, 54), (94, 38)] rfl gdwsX12_offeredTo
set_option maxRecDepth 20000 in
theorem gX12_answer_X12_offeredTo : GoodIn wsX12_answer (wsV RX12 218 RX12 yX12_offeredTo wsX12_offeredTo) := goodIn_app (goodIn_q _ [(24, 3), (12, 1)] rfl rfl) ggX12_answer_X12_offeredTo
set_option maxRecDepth 20000 in
theorem ggX12_answer_X12_goesOff : GoodIn wsX12_answer wsX12_goesOff := goodIn_q _ [(89, 1), (8, 1), (5, 1), (94, 38)] rfl gdwsX12_goesOff
set_option maxRecDepth 20000 in
theorem gX12_answer_X12_goesOff : GoodIn wsX12_answer (wsV RX12 196 RX12 yX12_goesOff wsX12_goesOff) := goodIn_app (goodIn_q _ [(86, 3), (12, 1)] rfl rfl) ggX12_answer_X12_goesOff
set_option maxRecDepth 20000 in
theorem ggX12_answer_X12_lies : GoodIn wsX12_answer wsX12_lies := goodIn_q _ [(93, 1), (28, 1), (2, 1), (94, 38)] rfl gdwsX12_lies
set_option maxRecDepth 20000 in
theorem gX12_answer_X12_lies : GoodIn wsX12_answer (wsV RX12 192 RX12 yX12_lies wsX12_lies) := goodIn_app (goodIn_q _ [(90, 3), (12, 1)] rfl rfl) ggX12_answer_X12_lies
theorem lk_dX12_answer_0 : th_dr cX12_answer 0 = 42 :: 27 :: 182 :: 0 :: 139 :: 153 :: 0 :: 12 :: 28 :: 3 :: 4 :: 184 :: 0 :: 112 :: 154 :: 0 :: 10 :: 42 :: 18 :: 119 :: 182 :: 0 :: 120 :: 172 :: 42 :: 180 :: 0 :: 28 :: 27 :: th_dr cX12_answer 29 := rfl
theorem bl_dX12_answer_0 : decode cX12_answer 0 = .ok (.aload_n 0, 1) ∧ decode cX12_answer 1 = .ok (.iload_n 1, 1) ∧ decode cX12_answer 2 = .ok (.invokevirtual 139, 3) ∧ decode cX12_answer 5 = .ok (.ifCond .eq 12, 3) ∧ decode cX12_answer 8 = .ok (.iload_n 2, 1) ∧ decode cX12_answer 9 = .ok (.iconst 0, 1) ∧ decode cX12_answer 10 = .ok (.iconst 1, 1) ∧ decode cX12_answer 11 = .ok (.invokestatic 112, 3) ∧ decode cX12_answer 14 = .ok (.ifCond .ne 10, 3) ∧ decode cX12_answer 17 = .ok (.aload_n 0, 1) ∧ decode cX12_answer 18 = .ok (.ldc 119, 2) ∧ decode cX12_answer 20 = .ok (.invokevirtual 120, 3) ∧ decode cX12_answer 23 = .ok (.ireturn, 1) ∧ decode cX12_answer 24 = .ok (.aload_n 0, 1) ∧ decode cX12_answer 25 = .ok (.getfield 28, 3) ∧ decode cX12_answer 28 = .ok (.iload_n 1, 1) := op_42 lk_dX12_answer_0 fun e => op_27 e fun e => op_182 e fun e => op_153p e rfl fun e => op_28 e fun e => op_3 e fun e => op_4 e fun e => op_184 e fun e => op_154p e rfl fun e => op_42 e fun e => op_18 e fun e => op_182 e fun e => op_172 e fun e => op_42 e fun e => op_180 e fun e => (op_27 e fun _ => True.intro).1
theorem dX12_answer_0 : decode cX12_answer 0 = .ok (.aload_n 0, 1) := bl_dX12_answer_0.1
theorem dX12_answer_1 : decode cX12_answer 1 = .ok (.iload_n 1, 1) := bl_dX12_answer_0.2.1
theorem dX12_answer_2 : decode cX12_answer 2 = .ok (.invokevirtual 139, 3) := bl_dX12_answer_0.2.2.1
theorem dX12_answer_5 : decode cX12_answer 5 = .ok (.ifCond .eq 12, 3) := bl_dX12_answer_0.2.2.2.1
theorem dX12_answer_8 : decode cX12_answer 8 = .ok (.iload_n 2, 1) := bl_dX12_answer_0.2.2.2.2.1
theorem dX12_answer_9 : decode cX12_answer 9 = .ok (.iconst 0, 1) := bl_dX12_answer_0.2.2.2.2.2.1
theorem dX12_answer_10 : decode cX12_answer 10 = .ok (.iconst 1, 1) := bl_dX12_answer_0.2.2.2.2.2.2.1
theorem dX12_answer_11 : decode cX12_answer 11 = .ok (.invokestatic 112, 3) := bl_dX12_answer_0.2.2.2.2.2.2.2.1
theorem dX12_answer_14 : decode cX12_answer 14 = .ok (.ifCond .ne 10, 3) := bl_dX12_answer_0.2.2.2.2.2.2.2.2.1
theorem dX12_answer_17 : decode cX12_answer 17 = .ok (.aload_n 0, 1) := bl_dX12_answer_0.2.2.2.2.2.2.2.2.2.1
theorem dX12_answer_18 : decode cX12_answer 18 = .ok (.ldc 119, 2) := bl_dX12_answer_0.2.2.2.2.2.2.2.2.2.2.1
theorem dX12_answer_20 : decode cX12_answer 20 = .ok (.invokevirtual 120, 3) := bl_dX12_answer_0.2.2.2.2.2.2.2.2.2.2.2.1
theorem dX12_answer_23 : decode cX12_answer 23 = .ok (.ireturn, 1) := bl_dX12_answer_0.2.2.2.2.2.2.2.2.2.2.2.2.1
theorem dX12_answer_24 : decode cX12_answer 24 = .ok (.aload_n 0, 1) := bl_dX12_answer_0.2.2.2.2.2.2.2.2.2.2.2.2.2.1
theorem dX12_answer_25 : decode cX12_answer 25 = .ok (.getfield 28, 3) := bl_dX12_answer_0.2.2.2.2.2.2.2.2.2.2.2.2.2.2.1
theorem dX12_answer_28 : decode cX12_answer 28 = .ok (.iload_n 1, 1) := bl_dX12_answer_0.2.2.2.2.2.2.2.2.2.2.2.2.2.2.2
theorem lk_dX12_answer_29 : th_dr cX12_answer 29 = 46 :: 155 :: 0 :: 10 :: 42 :: 18 :: 186 :: 182 :: 0 :: 120 :: 172 :: 42 :: 27 :: 182 :: 0 :: 218 :: 62 :: 29 :: 156 :: 0 :: 10 :: 42 :: 18 :: 191 :: 182 :: 0 :: 120 :: 172 :: th_dr cX12_answer 57 := rfl
theorem bl_dX12_answer_29 : decode cX12_answer 29 = .ok (.iaload, 1) ∧ decode cX12_answer 30 = .ok (.ifCond .lt 10, 3) ∧ decode cX12_answer 33 = .ok (.aload_n 0, 1) ∧ decode cX12_answer 34 = .ok (.ldc 186, 2) ∧ decode cX12_answer 36 = .ok (.invokevirtual 120, 3) ∧ decode cX12_answer 39 = .ok (.ireturn, 1) ∧ decode cX12_answer 40 = .ok (.aload_n 0, 1) ∧ decode cX12_answer 41 = .ok (.iload_n 1, 1) ∧ decode cX12_answer 42 = .ok (.invokevirtual 218, 3) ∧ decode cX12_answer 45 = .ok (.istore_n 3, 1) ∧ decode cX12_answer 46 = .ok (.iload_n 3, 1) ∧ decode cX12_answer 47 = .ok (.ifCond .ge 10, 3) ∧ decode cX12_answer 50 = .ok (.aload_n 0, 1) ∧ decode cX12_answer 51 = .ok (.ldc 191, 2) ∧ decode cX12_answer 53 = .ok (.invokevirtual 120, 3) ∧ decode cX12_answer 56 = .ok (.ireturn, 1) := op_46 lk_dX12_answer_29 fun e => op_155p e rfl fun e => op_42 e fun e => op_18 e fun e => op_182 e fun e => op_172 e fun e => op_42 e fun e => op_27 e fun e => op_182 e fun e => op_62 e fun e => op_29 e fun e => op_156p e rfl fun e => op_42 e fun e => op_18 e fun e => op_182 e fun e => (op_172 e fun _ => True.intro).1
theorem dX12_answer_29 : decode cX12_answer 29 = .ok (.iaload, 1) := bl_dX12_answer_29.1
theorem dX12_answer_30 : decode cX12_answer 30 = .ok (.ifCond .lt 10, 3) := bl_dX12_answer_29.2.1
theorem dX12_answer_33 : decode cX12_answer 33 = .ok (.aload_n 0, 1) := bl_dX12_answer_29.2.2.1
theorem dX12_answer_34 : decode cX12_answer 34 = .ok (.ldc 186, 2) := bl_dX12_answer_29.2.2.2.1
theorem dX12_answer_36 : decode cX12_answer 36 = .ok (.invokevirtual 120, 3) := bl_dX12_answer_29.2.2.2.2.1
theorem dX12_answer_39 : decode cX12_answer 39 = .ok (.ireturn, 1) := bl_dX12_answer_29.2.2.2.2.2.1
theorem dX12_answer_40 : decode cX12_answer 40 = .ok (.aload_n 0, 1) := bl_dX12_answer_29.2.2.2.2.2.2.1
theorem dX12_answer_41 : decode cX12_answer 41 = .ok (.iload_n 1, 1) := bl_dX12_answer_29.2.2.2.2.2.2.2.1
theorem dX12_answer_42 : decode cX12_answer 42 = .ok (.invokevirtual 218, 3) := bl_dX12_answer_29.2.2.2.2.2.2.2.2.1
theorem dX12_answer_45 : decode cX12_answer 45 = .ok (.istore_n 3, 1) := bl_dX12_answer_29.2.2.2.2.2.2.2.2.2.1
theorem dX12_answer_46 : decode cX12_answer 46 = .ok (.iload_n 3, 1) := bl_dX12_answer_29.2.2.2.2.2.2.2.2.2.2.1
theorem dX12_answer_47 : decode cX12_answer 47 = .ok (.ifCond .ge 10, 3) := bl_dX12_answer_29.2.2.2.2.2.2.2.2.2.2.2.1
theorem dX12_answer_50 : decode cX12_answer 50 = .ok (.aload_n 0, 1) := bl_dX12_answer_29.2.2.2.2.2.2.2.2.2.2.2.2.1
theorem dX12_answer_51 : decode cX12_answer 51 = .ok (.ldc 191, 2) := bl_dX12_answer_29.2.2.2.2.2.2.2.2.2.2.2.2.2.1
theorem dX12_answer_53 : decode cX12_answer 53 = .ok (.invokevirtual 120, 3) := bl_dX12_answer_29.2.2.2.2.2.2.2.2.2.2.2.2.2.2.1
theorem dX12_answer_56 : decode cX12_answer 56 = .ok (.ireturn, 1) := bl_dX12_answer_29.2.2.2.2.2.2.2.2.2.2.2.2.2.2.2
set_option maxRecDepth 20000 in
theorem lk_dX12_answer_57 : th_dr cX12_answer 57 = 42 :: 180 :: 0 :: 56 :: 29 :: 46 :: 54 :: 4 :: 28 :: 4 :: 160 :: 0 :: 18 :: 42 :: 29 :: 182 :: 0 :: 196 :: 42 :: 21 :: 4 :: 27 :: 182 :: 0 :: 192 :: 21 :: 4 :: th_dr cX12_answer 84 := rfl
theorem bl_dX12_answer_57 : decode cX12_answer 57 = .ok (.aload_n 0, 1) ∧ decode cX12_answer 58 = .ok (.getfield 56, 3) ∧ decode cX12_answer 61 = .ok (.iload_n 3, 1) ∧ decode cX12_answer 62 = .ok (.iaload, 1) ∧ decode cX12_answer 63 = .ok (.istore 4, 2) ∧ decode cX12_answer 65 = .ok (.iload_n 2, 1) ∧ decode cX12_answer 66 = .ok (.iconst 1, 1) ∧ decode cX12_answer 67 = .ok (.if_icmp .ne 18, 3) ∧ decode cX12_answer 70 = .ok (.aload_n 0, 1) ∧ decode cX12_answer 71 = .ok (.iload_n 3, 1) ∧ decode cX12_answer 72 = .ok (.invokevirtual 196, 3) ∧ decode cX12_answer 75 = .ok (.aload_n 0, 1) ∧ decode cX12_answer 76 = .ok (.iload 4, 2) ∧ decode cX12_answer 78 = .ok (.iload_n 1, 1) ∧ decode cX12_answer 79 = .ok (.invokevirtual 192, 3) ∧ decode cX12_answer 82 = .ok (.iload 4, 2) := op_42 lk_dX12_answer_57 fun e => op_180 e fun e => op_29 e fun e => op_46 e fun e => op_54 e fun e => op_28 e fun e => op_4 e fun e => op_160p e rfl fun e => op_42 e fun e => op_29 e fun e => op_182 e fun e => op_42 e fun e => op_21 e fun e => op_27 e fun e => op_182 e fun e => (op_21 e fun _ => True.intro).1
theorem dX12_answer_57 : decode cX12_answer 57 = .ok (.aload_n 0, 1) := bl_dX12_answer_57.1
theorem dX12_answer_58 : decode cX12_answer 58 = .ok (.getfield 56, 3) := bl_dX12_answer_57.2.1
theorem dX12_answer_61 : decode cX12_answer 61 = .ok (.iload_n 3, 1) := bl_dX12_answer_57.2.2.1
theorem dX12_answer_62 : decode cX12_answer 62 = .ok (.iaload, 1) := bl_dX12_answer_57.2.2.2.1
theorem dX12_answer_63 : decode cX12_answer 63 = .ok (.istore 4, 2) := bl_dX12_answer_57.2.2.2.2.1
theorem dX12_answer_65 : decode cX12_answer 65 = .ok (.iload_n 2, 1) := bl_dX12_answer_57.2.2.2.2.2.1
theorem dX12_answer_66 : decode cX12_answer 66 = .ok (.iconst 1, 1) := bl_dX12_answer_57.2.2.2.2.2.2.1
theorem dX12_answer_67 : decode cX12_answer 67 = .ok (.if_icmp .ne 18, 3) := bl_dX12_answer_57.2.2.2.2.2.2.2.1
theorem dX12_answer_70 : decode cX12_answer 70 = .ok (.aload_n 0, 1) := bl_dX12_answer_57.2.2.2.2.2.2.2.2.1
theorem dX12_answer_71 : decode cX12_answer 71 = .ok (.iload_n 3, 1) := bl_dX12_answer_57.2.2.2.2.2.2.2.2.2.1
theorem dX12_answer_72 : decode cX12_answer 72 = .ok (.invokevirtual 196, 3) := bl_dX12_answer_57.2.2.2.2.2.2.2.2.2.2.1
theorem dX12_answer_75 : decode cX12_answer 75 = .ok (.aload_n 0, 1) := bl_dX12_answer_57.2.2.2.2.2.2.2.2.2.2.2.1
theorem dX12_answer_76 : decode cX12_answer 76 = .ok (.iload 4, 2) := bl_dX12_answer_57.2.2.2.2.2.2.2.2.2.2.2.2.1
theorem dX12_answer_78 : decode cX12_answer 78 = .ok (.iload_n 1, 1) := bl_dX12_answer_57.2.2.2.2.2.2.2.2.2.2.2.2.2.1
theorem dX12_answer_79 : decode cX12_answer 79 = .ok (.invokevirtual 192, 3) := bl_dX12_answer_57.2.2.2.2.2.2.2.2.2.2.2.2.2.2.1
theorem dX12_answer_82 : decode cX12_answer 82 = .ok (.iload 4, 2) := bl_dX12_answer_57.2.2.2.2.2.2.2.2.2.2.2.2.2.2.2
set_option maxRecDepth 20000 in
theorem lk_dX12_answer_84 : th_dr cX12_answer 84 = 172 :: 42 :: 180 :: 0 :: 59 :: 21 :: 4 :: 92 :: 46 :: 4 :: 27 :: 120 :: 128 :: 79 :: 42 :: 180 :: 0 :: 62 :: 154 :: 0 :: 29 :: 42 :: 29 :: th_dr cX12_answer 107 := rfl
theorem bl_dX12_answer_84 : decode cX12_answer 84 = .ok (.ireturn, 1) ∧ decode cX12_answer 85 = .ok (.aload_n 0, 1) ∧ decode cX12_answer 86 = .ok (.getfield 59, 3) ∧ decode cX12_answer 89 = .ok (.iload 4, 2) ∧ decode cX12_answer 91 = .ok (.dup2, 1) ∧ decode cX12_answer 92 = .ok (.iaload, 1) ∧ decode cX12_answer 93 = .ok (.iconst 1, 1) ∧ decode cX12_answer 94 = .ok (.iload_n 1, 1) ∧ decode cX12_answer 95 = .ok (.ishl, 1) ∧ decode cX12_answer 96 = .ok (.ior, 1) ∧ decode cX12_answer 97 = .ok (.iastore, 1) ∧ decode cX12_answer 98 = .ok (.aload_n 0, 1) ∧ decode cX12_answer 99 = .ok (.getfield 62, 3) ∧ decode cX12_answer 102 = .ok (.ifCond .ne 29, 3) ∧ decode cX12_answer 105 = .ok (.aload_n 0, 1) ∧ decode cX12_answer 106 = .ok (.iload_n 3, 1) := op_172 lk_dX12_answer_84 fun e => op_42 e fun e => op_180 e fun e => op_21 e fun e => op_92 e fun e => op_46 e fun e => op_4 e fun e => op_27 e fun e => op_120 e fun e => op_128 e fun e => op_79 e fun e => op_42 e fun e => op_180 e fun e => op_154p e rfl fun e => op_42 e fun e => (op_29 e fun _ => True.intro).1
theorem dX12_answer_84 : decode cX12_answer 84 = .ok (.ireturn, 1) := bl_dX12_answer_84.1
theorem dX12_answer_85 : decode cX12_answer 85 = .ok (.aload_n 0, 1) := bl_dX12_answer_84.2.1
theorem dX12_answer_86 : decode cX12_answer 86 = .ok (.getfield 59, 3) := bl_dX12_answer_84.2.2.1
theorem dX12_answer_89 : decode cX12_answer 89 = .ok (.iload 4, 2) := bl_dX12_answer_84.2.2.2.1
theorem dX12_answer_91 : decode cX12_answer 91 = .ok (.dup2, 1) := bl_dX12_answer_84.2.2.2.2.1
theorem dX12_answer_92 : decode cX12_answer 92 = .ok (.iaload, 1) := bl_dX12_answer_84.2.2.2.2.2.1
theorem dX12_answer_93 : decode cX12_answer 93 = .ok (.iconst 1, 1) := bl_dX12_answer_84.2.2.2.2.2.2.1
theorem dX12_answer_94 : decode cX12_answer 94 = .ok (.iload_n 1, 1) := bl_dX12_answer_84.2.2.2.2.2.2.2.1
theorem dX12_answer_95 : decode cX12_answer 95 = .ok (.ishl, 1) := bl_dX12_answer_84.2.2.2.2.2.2.2.2.1
theorem dX12_answer_96 : decode cX12_answer 96 = .ok (.ior, 1) := bl_dX12_answer_84.2.2.2.2.2.2.2.2.2.1
theorem dX12_answer_97 : decode cX12_answer 97 = .ok (.iastore, 1) := bl_dX12_answer_84.2.2.2.2.2.2.2.2.2.2.1
theorem dX12_answer_98 : decode cX12_answer 98 = .ok (.aload_n 0, 1) := bl_dX12_answer_84.2.2.2.2.2.2.2.2.2.2.2.1
theorem dX12_answer_99 : decode cX12_answer 99 = .ok (.getfield 62, 3) := bl_dX12_answer_84.2.2.2.2.2.2.2.2.2.2.2.2.1
theorem dX12_answer_102 : decode cX12_answer 102 = .ok (.ifCond .ne 29, 3) := bl_dX12_answer_84.2.2.2.2.2.2.2.2.2.2.2.2.2.1
theorem dX12_answer_105 : decode cX12_answer 105 = .ok (.aload_n 0, 1) := bl_dX12_answer_84.2.2.2.2.2.2.2.2.2.2.2.2.2.2.1
theorem dX12_answer_106 : decode cX12_answer 106 = .ok (.iload_n 3, 1) := bl_dX12_answer_84.2.2.2.2.2.2.2.2.2.2.2.2.2.2.2
set_option maxRecDepth 20000 in
theorem lk_dX12_answer_107 : th_dr cX12_answer 107 = 182 :: 0 :: 196 :: 42 :: 180 :: 0 :: 56 :: 42 :: 180 :: 0 :: 133 :: 21 :: 4 :: 79 :: 42 :: 89 :: 180 :: 0 :: 133 :: 4 :: 96 :: 181 :: 0 :: 133 :: 21 :: 4 :: 172 :: th_dr cX12_answer 134 := rfl
theorem bl_dX12_answer_107 : decode cX12_answer 107 = .ok (.invokevirtual 196, 3) ∧ decode cX12_answer 110 = .ok (.aload_n 0, 1) ∧ decode cX12_answer 111 = .ok (.getfield 56, 3) ∧ decode cX12_answer 114 = .ok (.aload_n 0, 1) ∧ decode cX12_answer 115 = .ok (.getfield 133, 3) ∧ decode cX12_answer 118 = .ok (.iload 4, 2) ∧ decode cX12_answer 120 = .ok (.iastore, 1) ∧ decode cX12_answer 121 = .ok (.aload_n 0, 1) ∧ decode cX12_answer 122 = .ok (.dup, 1) ∧ decode cX12_answer 123 = .ok (.getfield 133, 3) ∧ decode cX12_answer 126 = .ok (.iconst 1, 1) ∧ decode cX12_answer 127 = .ok (.iadd, 1) ∧ decode cX12_answer 128 = .ok (.putfield 133, 3) ∧ decode cX12_answer 131 = .ok (.iload 4, 2) ∧ decode cX12_answer 133 = .ok (.ireturn, 1) := op_182 lk_dX12_answer_107 fun e => op_42 e fun e => op_180 e fun e => op_42 e fun e => op_180 e fun e => op_21 e fun e => op_79 e fun e => op_42 e fun e => op_89 e fun e => op_180 e fun e => op_4 e fun e => op_96 e fun e => op_181 e fun e => op_21 e fun e => (op_172 e fun _ => True.intro).1
theorem dX12_answer_107 : decode cX12_answer 107 = .ok (.invokevirtual 196, 3) := bl_dX12_answer_107.1
theorem dX12_answer_110 : decode cX12_answer 110 = .ok (.aload_n 0, 1) := bl_dX12_answer_107.2.1
theorem dX12_answer_111 : decode cX12_answer 111 = .ok (.getfield 56, 3) := bl_dX12_answer_107.2.2.1
theorem dX12_answer_114 : decode cX12_answer 114 = .ok (.aload_n 0, 1) := bl_dX12_answer_107.2.2.2.1
theorem dX12_answer_115 : decode cX12_answer 115 = .ok (.getfield 133, 3) := bl_dX12_answer_107.2.2.2.2.1
theorem dX12_answer_118 : decode cX12_answer 118 = .ok (.iload 4, 2) := bl_dX12_answer_107.2.2.2.2.2.1
theorem dX12_answer_120 : decode cX12_answer 120 = .ok (.iastore, 1) := bl_dX12_answer_107.2.2.2.2.2.2.1
theorem dX12_answer_121 : decode cX12_answer 121 = .ok (.aload_n 0, 1) := bl_dX12_answer_107.2.2.2.2.2.2.2.1
theorem dX12_answer_122 : decode cX12_answer 122 = .ok (.dup, 1) := bl_dX12_answer_107.2.2.2.2.2.2.2.2.1
theorem dX12_answer_123 : decode cX12_answer 123 = .ok (.getfield 133, 3) := bl_dX12_answer_107.2.2.2.2.2.2.2.2.2.1
theorem dX12_answer_126 : decode cX12_answer 126 = .ok (.iconst 1, 1) := bl_dX12_answer_107.2.2.2.2.2.2.2.2.2.2.1
theorem dX12_answer_127 : decode cX12_answer 127 = .ok (.iadd, 1) := bl_dX12_answer_107.2.2.2.2.2.2.2.2.2.2.2.1
theorem dX12_answer_128 : decode cX12_answer 128 = .ok (.putfield 133, 3) := bl_dX12_answer_107.2.2.2.2.2.2.2.2.2.2.2.2.1
theorem dX12_answer_131 : decode cX12_answer 131 = .ok (.iload 4, 2) := bl_dX12_answer_107.2.2.2.2.2.2.2.2.2.2.2.2.2.1
theorem dX12_answer_133 : decode cX12_answer 133 = .ok (.ireturn, 1) := bl_dX12_answer_107.2.2.2.2.2.2.2.2.2.2.2.2.2.2
set_option maxRecDepth 20000 in
theorem ggX12_stays_X12_within : GoodIn wsX12_stays wsX12_within := goodIn_q _ [(6, 1)] rfl gdwsX12_within
set_option maxRecDepth 20000 in
theorem gX12_stays_X12_within : GoodIn wsX12_stays (va_wsS RX12 112 yX12_within wsX12_within) := goodIn_app (goodIn_q _ [(3, 3)] rfl rfl) ggX12_stays_X12_within
set_option maxRecDepth 20000 in
theorem ggX12_stays_X12_finding : GoodIn wsX12_stays wsX12_finding := goodIn_q _ [(10, 41)] rfl gdwsX12_finding
set_option maxRecDepth 20000 in
theorem gX12_stays_X12_finding : GoodIn wsX12_stays (wsV RX12 120 RX12 yX12_finding wsX12_finding) := goodIn_app (goodIn_q _ [(7, 3), (5, 1)] rfl rfl) ggX12_stays_X12_finding
theorem lk_dX12_stays_0 : th_dr cX12_stays 0 = 27 :: 3 :: 4 :: 184 :: 0 :: 112 :: 154 :: 0 :: 10 :: 42 :: 18 :: 119 :: 182 :: 0 :: 120 :: 172 :: 42 :: 180 :: 0 :: 62 :: 61 :: 42 :: 27 :: 181 :: 0 :: 62 :: 28 :: th_dr cX12_stays 27 := rfl
theorem bl_dX12_stays_0 : decode cX12_stays 0 = .ok (.iload_n 1, 1) ∧ decode cX12_stays 1 = .ok (.iconst 0, 1) ∧ decode cX12_stays 2 = .ok (.iconst 1, 1) ∧ decode cX12_stays 3 = .ok (.invokestatic 112, 3) ∧ decode cX12_stays 6 = .ok (.ifCond .ne 10, 3) ∧ decode cX12_stays 9 = .ok (.aload_n 0, 1) ∧ decode cX12_stays 10 = .ok (.ldc 119, 2) ∧ decode cX12_stays 12 = .ok (.invokevirtual 120, 3) ∧ decode cX12_stays 15 = .ok (.ireturn, 1) ∧ decode cX12_stays 16 = .ok (.aload_n 0, 1) ∧ decode cX12_stays 17 = .ok (.getfield 62, 3) ∧ decode cX12_stays 20 = .ok (.istore_n 2, 1) ∧ decode cX12_stays 21 = .ok (.aload_n 0, 1) ∧ decode cX12_stays 22 = .ok (.iload_n 1, 1) ∧ decode cX12_stays 23 = .ok (.putfield 62, 3) ∧ decode cX12_stays 26 = .ok (.iload_n 2, 1) := op_27 lk_dX12_stays_0 fun e => op_3 e fun e => op_4 e fun e => op_184 e fun e => op_154p e rfl fun e => op_42 e fun e => op_18 e fun e => op_182 e fun e => op_172 e fun e => op_42 e fun e => op_180 e fun e => op_61 e fun e => op_42 e fun e => op_27 e fun e => op_181 e fun e => (op_28 e fun _ => True.intro).1
theorem dX12_stays_0 : decode cX12_stays 0 = .ok (.iload_n 1, 1) := bl_dX12_stays_0.1
theorem dX12_stays_1 : decode cX12_stays 1 = .ok (.iconst 0, 1) := bl_dX12_stays_0.2.1
theorem dX12_stays_2 : decode cX12_stays 2 = .ok (.iconst 1, 1) := bl_dX12_stays_0.2.2.1
theorem dX12_stays_3 : decode cX12_stays 3 = .ok (.invokestatic 112, 3) := bl_dX12_stays_0.2.2.2.1
theorem dX12_stays_6 : decode cX12_stays 6 = .ok (.ifCond .ne 10, 3) := bl_dX12_stays_0.2.2.2.2.1
theorem dX12_stays_9 : decode cX12_stays 9 = .ok (.aload_n 0, 1) := bl_dX12_stays_0.2.2.2.2.2.1
theorem dX12_stays_10 : decode cX12_stays 10 = .ok (.ldc 119, 2) := bl_dX12_stays_0.2.2.2.2.2.2.1
theorem dX12_stays_12 : decode cX12_stays 12 = .ok (.invokevirtual 120, 3) := bl_dX12_stays_0.2.2.2.2.2.2.2.1
theorem dX12_stays_15 : decode cX12_stays 15 = .ok (.ireturn, 1) := bl_dX12_stays_0.2.2.2.2.2.2.2.2.1
theorem dX12_stays_16 : decode cX12_stays 16 = .ok (.aload_n 0, 1) := bl_dX12_stays_0.2.2.2.2.2.2.2.2.2.1
theorem dX12_stays_17 : decode cX12_stays 17 = .ok (.getfield 62, 3) := bl_dX12_stays_0.2.2.2.2.2.2.2.2.2.2.1
theorem dX12_stays_20 : decode cX12_stays 20 = .ok (.istore_n 2, 1) := bl_dX12_stays_0.2.2.2.2.2.2.2.2.2.2.2.1
theorem dX12_stays_21 : decode cX12_stays 21 = .ok (.aload_n 0, 1) := bl_dX12_stays_0.2.2.2.2.2.2.2.2.2.2.2.2.1
theorem dX12_stays_22 : decode cX12_stays 22 = .ok (.iload_n 1, 1) := bl_dX12_stays_0.2.2.2.2.2.2.2.2.2.2.2.2.2.1
theorem dX12_stays_23 : decode cX12_stays 23 = .ok (.putfield 62, 3) := bl_dX12_stays_0.2.2.2.2.2.2.2.2.2.2.2.2.2.2.1
theorem dX12_stays_26 : decode cX12_stays 26 = .ok (.iload_n 2, 1) := bl_dX12_stays_0.2.2.2.2.2.2.2.2.2.2.2.2.2.2.2
theorem lk_dX12_stays_27 : th_dr cX12_stays 27 = 172 :: th_dr cX12_stays 28 := rfl
theorem dX12_stays_27 : decode cX12_stays 27 = .ok (.ireturn, 1) := (op_172 lk_dX12_stays_27 fun _ => True.intro).1
set_option maxRecDepth 20000 in
theorem ggX12_rather_X12_isBoat : GoodIn wsX12_rather wsX12_isBoat := goodIn_q _ [(10, 4), (9, 1), (14, 1), (26, 38)] rfl gdwsX12_isBoat
set_option maxRecDepth 20000 in
theorem gX12_rather_X12_isBoat : GoodIn wsX12_rather (wsV RX12 125 RX12 yX12_isBoat wsX12_isBoat) := goodIn_app (goodIn_q _ [(6, 4)] rfl rfl) ggX12_rather_X12_isBoat
set_option maxRecDepth 20000 in
theorem ggX12_rather_X12_isBuoy : GoodIn wsX12_rather wsX12_isBuoy := goodIn_q _ [(18, 2), (12, 2), (9, 1), (14, 1), (26, 38)] rfl gdwsX12_isBuoy
set_option maxRecDepth 20000 in
theorem gX12_rather_X12_isBuoy : GoodIn wsX12_rather (wsV RX12 139 RX12 yX12_isBuoy wsX12_isBuoy) := goodIn_app (goodIn_q _ [(15, 3), (9, 1)] rfl rfl) ggX12_rather_X12_isBuoy
set_option maxRecDepth 20000 in
theorem ggX12_rather_X12_finding : GoodIn wsX12_rather wsX12_finding := goodIn_q _ [(23, 41)] rfl gdwsX12_finding
set_option maxRecDepth 20000 in
theorem gX12_rather_X12_finding : GoodIn wsX12_rather (wsV RX12 120 RX12 yX12_finding wsX12_finding) := goodIn_app (goodIn_q _ [(20, 3), (9, 1)] rfl rfl) ggX12_rather_X12_finding
theorem lk_dX12_rather_0 : th_dr cX12_rather 0 = 42 :: 27 :: 182 :: 0 :: 125 :: 153 :: 0 :: 11 :: 42 :: 28 :: 182 :: 0 :: 139 :: 154 :: 0 :: 10 :: 42 :: 18 :: 119 :: 182 :: 0 :: 120 :: 172 :: 3 :: th_dr cX12_rather 24 := rfl
theorem bl_dX12_rather_0 : decode cX12_rather 0 = .ok (.aload_n 0, 1) ∧ decode cX12_rather 1 = .ok (.iload_n 1, 1) ∧ decode cX12_rather 2 = .ok (.invokevirtual 125, 3) ∧ decode cX12_rather 5 = .ok (.ifCond .eq 11, 3) ∧ decode cX12_rather 8 = .ok (.aload_n 0, 1) ∧ decode cX12_rather 9 = .ok (.iload_n 2, 1) ∧ decode cX12_rather 10 = .ok (.invokevirtual 139, 3) ∧ decode cX12_rather 13 = .ok (.ifCond .ne 10, 3) ∧ decode cX12_rather 16 = .ok (.aload_n 0, 1) ∧ decode cX12_rather 17 = .ok (.ldc 119, 2) ∧ decode cX12_rather 19 = .ok (.invokevirtual 120, 3) ∧ decode cX12_rather 22 = .ok (.ireturn, 1) ∧ decode cX12_rather 23 = .ok (.iconst 0, 1) := op_42 lk_dX12_rather_0 fun e => op_27 e fun e => op_182 e fun e => op_153p e rfl fun e => op_42 e fun e => op_28 e fun e => op_182 e fun e => op_154p e rfl fun e => op_42 e fun e => op_18 e fun e => op_182 e fun e => op_172 e fun e => (op_3 e fun _ => True.intro).1
theorem dX12_rather_0 : decode cX12_rather 0 = .ok (.aload_n 0, 1) := bl_dX12_rather_0.1
theorem dX12_rather_1 : decode cX12_rather 1 = .ok (.iload_n 1, 1) := bl_dX12_rather_0.2.1
theorem dX12_rather_2 : decode cX12_rather 2 = .ok (.invokevirtual 125, 3) := bl_dX12_rather_0.2.2.1
theorem dX12_rather_5 : decode cX12_rather 5 = .ok (.ifCond .eq 11, 3) := bl_dX12_rather_0.2.2.2.1
theorem dX12_rather_8 : decode cX12_rather 8 = .ok (.aload_n 0, 1) := bl_dX12_rather_0.2.2.2.2.1
theorem dX12_rather_9 : decode cX12_rather 9 = .ok (.iload_n 2, 1) := bl_dX12_rather_0.2.2.2.2.2.1
theorem dX12_rather_10 : decode cX12_rather 10 = .ok (.invokevirtual 139, 3) := bl_dX12_rather_0.2.2.2.2.2.2.1
theorem dX12_rather_13 : decode cX12_rather 13 = .ok (.ifCond .ne 10, 3) := bl_dX12_rather_0.2.2.2.2.2.2.2.1
theorem dX12_rather_16 : decode cX12_rather 16 = .ok (.aload_n 0, 1) := bl_dX12_rather_0.2.2.2.2.2.2.2.2.1
theorem dX12_rather_17 : decode cX12_rather 17 = .ok (.ldc 119, 2) := bl_dX12_rather_0.2.2.2.2.2.2.2.2.2.1
theorem dX12_rather_19 : decode cX12_rather 19 = .ok (.invokevirtual 120, 3) := bl_dX12_rather_0.2.2.2.2.2.2.2.2.2.2.1
theorem dX12_rather_22 : decode cX12_rather 22 = .ok (.ireturn, 1) := bl_dX12_rather_0.2.2.2.2.2.2.2.2.2.2.2.1
theorem dX12_rather_23 : decode cX12_rather 23 = .ok (.iconst 0, 1) := bl_dX12_rather_0.2.2.2.2.2.2.2.2.2.2.2.2
