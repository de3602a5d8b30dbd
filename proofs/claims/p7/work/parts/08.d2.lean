set_option maxRecDepth 20000 in
theorem gX2_wishesFor_X2_wishAt_u43X4 : GoodIn wsX2_wishesFor (va_wsU RX2 43 RX4 "BayMoorings$Boat" ⟨"BayMoorings$Boat", "wishAt", "(I)I"⟩ yX2_wishAt wsX2_wishAt) := goodIn_app (goodIn_q _ [(2, 5)] rfl rfl) ggX2_wishesFor_X2_wishAt
set_option maxRecDepth 20000 in
theorem gX2_wishesFor_X2_wishAt_u43X8 : GoodIn wsX2_wishesFor (va_wsU RX2 43 RX8 "BayMoorings$Boat" ⟨"BayMoorings$Boat", "wishAt", "(I)I"⟩ yX2_wishAt wsX2_wishAt) := goodIn_app (goodIn_q _ [(2, 2), (12, 1), (5, 2)] rfl rfl) ggX2_wishesFor_X2_wishAt
set_option maxRecDepth 20000 in
theorem gX2_wishesFor_X2_wishAt_u43X9 : GoodIn wsX2_wishesFor (va_wsU RX2 43 RX9 "BayMoorings$Boat" ⟨"BayMoorings$Boat", "wishAt", "(I)I"⟩ yX2_wishAt wsX2_wishAt) := goodIn_app (goodIn_q _ [(2, 2), (13, 1), (5, 2)] rfl rfl) ggX2_wishesFor_X2_wishAt
theorem lk_dX2_wishesFor_0 : th_dr cX2_wishesFor 0 = 3 :: 61 :: 28 :: 42 :: 180 :: 0 :: 15 :: 162 :: 0 :: 20 :: 42 :: 28 :: 182 :: 0 :: 43 :: 27 :: 160 :: 0 :: 5 :: 4 :: 172 :: 132 :: 2 :: 1 :: 167 :: 255 :: 234 :: 3 :: th_dr cX2_wishesFor 28 := rfl
theorem bl_dX2_wishesFor_0 : decode cX2_wishesFor 0 = .ok (.iconst 0, 1) ∧ decode cX2_wishesFor 1 = .ok (.istore_n 2, 1) ∧ decode cX2_wishesFor 2 = .ok (.iload_n 2, 1) ∧ decode cX2_wishesFor 3 = .ok (.aload_n 0, 1) ∧ decode cX2_wishesFor 4 = .ok (.getfield 15, 3) ∧ decode cX2_wishesFor 7 = .ok (.if_icmp .ge 20, 3) ∧ decode cX2_wishesFor 10 = .ok (.aload_n 0, 1) ∧ decode cX2_wishesFor 11 = .ok (.iload_n 2, 1) ∧ decode cX2_wishesFor 12 = .ok (.invokevirtual 43, 3) ∧ decode cX2_wishesFor 15 = .ok (.iload_n 1, 1) ∧ decode cX2_wishesFor 16 = .ok (.if_icmp .ne 5, 3) ∧ decode cX2_wishesFor 19 = .ok (.iconst 1, 1) ∧ decode cX2_wishesFor 20 = .ok (.ireturn, 1) ∧ decode cX2_wishesFor 21 = .ok (.iinc 2 1, 3) ∧ decode cX2_wishesFor 24 = .ok (.goto (-22), 3) ∧ decode cX2_wishesFor 27 = .ok (.iconst 0, 1) := op_3 lk_dX2_wishesFor_0 fun e => op_61 e fun e => op_28 e fun e => op_42 e fun e => op_180 e fun e => op_162p e rfl fun e => op_42 e fun e => op_28 e fun e => op_182 e fun e => op_27 e fun e => op_160p e rfl fun e => op_4 e fun e => op_172 e fun e => op_132p e rfl fun e => op_167n e rfl rfl fun e => (op_3 e fun _ => True.intro).1
theorem dX2_wishesFor_0 : decode cX2_wishesFor 0 = .ok (.iconst 0, 1) := bl_dX2_wishesFor_0.1
theorem dX2_wishesFor_1 : decode cX2_wishesFor 1 = .ok (.istore_n 2, 1) := bl_dX2_wishesFor_0.2.1
theorem dX2_wishesFor_2 : decode cX2_wishesFor 2 = .ok (.iload_n 2, 1) := bl_dX2_wishesFor_0.2.2.1
theorem dX2_wishesFor_3 : decode cX2_wishesFor 3 = .ok (.aload_n 0, 1) := bl_dX2_wishesFor_0.2.2.2.1
theorem dX2_wishesFor_4 : decode cX2_wishesFor 4 = .ok (.getfield 15, 3) := bl_dX2_wishesFor_0.2.2.2.2.1
theorem dX2_wishesFor_7 : decode cX2_wishesFor 7 = .ok (.if_icmp .ge 20, 3) := bl_dX2_wishesFor_0.2.2.2.2.2.1
theorem dX2_wishesFor_10 : decode cX2_wishesFor 10 = .ok (.aload_n 0, 1) := bl_dX2_wishesFor_0.2.2.2.2.2.2.1
theorem dX2_wishesFor_11 : decode cX2_wishesFor 11 = .ok (.iload_n 2, 1) := bl_dX2_wishesFor_0.2.2.2.2.2.2.2.1
theorem dX2_wishesFor_12 : decode cX2_wishesFor 12 = .ok (.invokevirtual 43, 3) := bl_dX2_wishesFor_0.2.2.2.2.2.2.2.2.1
theorem dX2_wishesFor_15 : decode cX2_wishesFor 15 = .ok (.iload_n 1, 1) := bl_dX2_wishesFor_0.2.2.2.2.2.2.2.2.2.1
theorem dX2_wishesFor_16 : decode cX2_wishesFor 16 = .ok (.if_icmp .ne 5, 3) := bl_dX2_wishesFor_0.2.2.2.2.2.2.2.2.2.2.1
theorem dX2_wishesFor_19 : decode cX2_wishesFor 19 = .ok (.iconst 1, 1) := bl_dX2_wishesFor_0.2.2.2.2.2.2.2.2.2.2.2.1
theorem dX2_wishesFor_20 : decode cX2_wishesFor 20 = .ok (.ireturn, 1) := bl_dX2_wishesFor_0.2.2.2.2.2.2.2.2.2.2.2.2.1
theorem dX2_wishesFor_21 : decode cX2_wishesFor 21 = .ok (.iinc 2 1, 3) := bl_dX2_wishesFor_0.2.2.2.2.2.2.2.2.2.2.2.2.2.1
theorem dX2_wishesFor_24 : decode cX2_wishesFor 24 = .ok (.goto (-22), 3) := bl_dX2_wishesFor_0.2.2.2.2.2.2.2.2.2.2.2.2.2.2.1
theorem dX2_wishesFor_27 : decode cX2_wishesFor 27 = .ok (.iconst 0, 1) := bl_dX2_wishesFor_0.2.2.2.2.2.2.2.2.2.2.2.2.2.2.2
theorem lk_dX2_wishesFor_28 : th_dr cX2_wishesFor 28 = 172 :: th_dr cX2_wishesFor 29 := rfl
theorem dX2_wishesFor_28 : decode cX2_wishesFor 28 = .ok (.ireturn, 1) := (op_172 lk_dX2_wishesFor_28 fun _ => True.intro).1
theorem lk_dX2_addWish_0 : th_dr cX2_addWish 0 = 42 :: 180 :: 0 :: 15 :: 7 :: 162 :: 0 :: 23 :: 42 :: 180 :: 0 :: 9 :: 42 :: 180 :: 0 :: 15 :: 27 :: 79 :: 42 :: 89 :: 180 :: 0 :: 15 :: 4 :: 96 :: 181 :: 0 :: 15 :: th_dr cX2_addWish 28 := rfl
theorem bl_dX2_addWish_0 : decode cX2_addWish 0 = .ok (.aload_n 0, 1) ∧ decode cX2_addWish 1 = .ok (.getfield 15, 3) ∧ decode cX2_addWish 4 = .ok (.iconst 4, 1) ∧ decode cX2_addWish 5 = .ok (.if_icmp .ge 23, 3) ∧ decode cX2_addWish 8 = .ok (.aload_n 0, 1) ∧ decode cX2_addWish 9 = .ok (.getfield 9, 3) ∧ decode cX2_addWish 12 = .ok (.aload_n 0, 1) ∧ decode cX2_addWish 13 = .ok (.getfield 15, 3) ∧ decode cX2_addWish 16 = .ok (.iload_n 1, 1) ∧ decode cX2_addWish 17 = .ok (.iastore, 1) ∧ decode cX2_addWish 18 = .ok (.aload_n 0, 1) ∧ decode cX2_addWish 19 = .ok (.dup, 1) ∧ decode cX2_addWish 20 = .ok (.getfield 15, 3) ∧ decode cX2_addWish 23 = .ok (.iconst 1, 1) ∧ decode cX2_addWish 24 = .ok (.iadd, 1) ∧ decode cX2_addWish 25 = .ok (.putfield 15, 3) := op_42 lk_dX2_addWish_0 fun e => op_180 e fun e => op_7 e fun e => op_162p e rfl fun e => op_42 e fun e => op_180 e fun e => op_42 e fun e => op_180 e fun e => op_27 e fun e => op_79 e fun e => op_42 e fun e => op_89 e fun e => op_180 e fun e => op_4 e fun e => op_96 e fun e => (op_181 e fun _ => True.intro).1
theorem dX2_addWish_0 : decode cX2_addWish 0 = .ok (.aload_n 0, 1) := bl_dX2_addWish_0.1
theorem dX2_addWish_1 : decode cX2_addWish 1 = .ok (.getfield 15, 3) := bl_dX2_addWish_0.2.1
theorem dX2_addWish_4 : decode cX2_addWish 4 = .ok (.iconst 4, 1) := bl_dX2_addWish_0.2.2.1
theorem dX2_addWish_5 : decode cX2_addWish 5 = .ok (.if_icmp .ge 23, 3) := bl_dX2_addWish_0.2.2.2.1
theorem dX2_addWish_8 : decode cX2_addWish 8 = .ok (.aload_n 0, 1) := bl_dX2_addWish_0.2.2.2.2.1
theorem dX2_addWish_9 : decode cX2_addWish 9 = .ok (.getfield 9, 3) := bl_dX2_addWish_0.2.2.2.2.2.1
theorem dX2_addWish_12 : decode cX2_addWish 12 = .ok (.aload_n 0, 1) := bl_dX2_addWish_0.2.2.2.2.2.2.1
theorem dX2_addWish_13 : decode cX2_addWish 13 = .ok (.getfield 15, 3) := bl_dX2_addWish_0.2.2.2.2.2.2.2.1
theorem dX2_addWish_16 : decode cX2_addWish 16 = .ok (.iload_n 1, 1) := bl_dX2_addWish_0.2.2.2.2.2.2.2.2.1
theorem dX2_addWish_17 : decode cX2_addWish 17 = .ok (.iastore, 1) := bl_dX2_addWish_0.2.2.2.2.2.2.2.2.2.1
theorem dX2_addWish_18 : decode cX2_addWish 18 = .ok (.aload_n 0, 1) := bl_dX2_addWish_0.2.2.2.2.2.2.2.2.2.2.1
theorem dX2_addWish_19 : decode cX2_addWish 19 = .ok (.dup, 1) := bl_dX2_addWish_0.2.2.2.2.2.2.2.2.2.2.2.1
theorem dX2_addWish_20 : decode cX2_addWish 20 = .ok (.getfield 15, 3) := bl_dX2_addWish_0.2.2.2.2.2.2.2.2.2.2.2.2.1
theorem dX2_addWish_23 : decode cX2_addWish 23 = .ok (.iconst 1, 1) := bl_dX2_addWish_0.2.2.2.2.2.2.2.2.2.2.2.2.2.1
theorem dX2_addWish_24 : decode cX2_addWish 24 = .ok (.iadd, 1) := bl_dX2_addWish_0.2.2.2.2.2.2.2.2.2.2.2.2.2.2.1
theorem dX2_addWish_25 : decode cX2_addWish 25 = .ok (.putfield 15, 3) := bl_dX2_addWish_0.2.2.2.2.2.2.2.2.2.2.2.2.2.2.2
theorem lk_dX2_addWish_28 : th_dr cX2_addWish 28 = 177 :: th_dr cX2_addWish 29 := rfl
theorem dX2_addWish_28 : decode cX2_addWish 28 = .ok (.return_, 1) := (op_177 lk_dX2_addWish_28 fun _ => True.intro).1
theorem lk_dX3_init_0 : th_dr cX3_init 0 = 42 :: 183 :: 0 :: 3 :: 42 :: 16 :: 24 :: 188 :: 10 :: 181 :: 0 :: 9 :: 42 :: 3 :: 181 :: 0 :: 15 :: 42 :: 3 :: 181 :: 0 :: 19 :: 42 :: 27 :: 181 :: 0 :: 22 :: 42 :: th_dr cX3_init 28 := rfl
theorem bl_dX3_init_0 : decode cX3_init 0 = .ok (.aload_n 0, 1) ∧ decode cX3_init 1 = .ok (.invokespecial 3, 3) ∧ decode cX3_init 4 = .ok (.aload_n 0, 1) ∧ decode cX3_init 5 = .ok (.bipush 24, 2) ∧ decode cX3_init 7 = .ok (.newarray .int, 2) ∧ decode cX3_init 9 = .ok (.putfield 9, 3) ∧ decode cX3_init 12 = .ok (.aload_n 0, 1) ∧ decode cX3_init 13 = .ok (.iconst 0, 1) ∧ decode cX3_init 14 = .ok (.putfield 15, 3) ∧ decode cX3_init 17 = .ok (.aload_n 0, 1) ∧ decode cX3_init 18 = .ok (.iconst 0, 1) ∧ decode cX3_init 19 = .ok (.putfield 19, 3) ∧ decode cX3_init 22 = .ok (.aload_n 0, 1) ∧ decode cX3_init 23 = .ok (.iload_n 1, 1) ∧ decode cX3_init 24 = .ok (.putfield 22, 3) ∧ decode cX3_init 27 = .ok (.aload_n 0, 1) := op_42 lk_dX3_init_0 fun e => op_183 e fun e => op_42 e fun e => op_16p e rfl fun e => op_188_10 e fun e => op_181 e fun e => op_42 e fun e => op_3 e fun e => op_181 e fun e => op_42 e fun e => op_3 e fun e => op_181 e fun e => op_42 e fun e => op_27 e fun e => op_181 e fun e => (op_42 e fun _ => True.intro).1
theorem dX3_init_0 : decode cX3_init 0 = .ok (.aload_n 0, 1) := bl_dX3_init_0.1
theorem dX3_init_1 : decode cX3_init 1 = .ok (.invokespecial 3, 3) := bl_dX3_init_0.2.1
theorem dX3_init_4 : decode cX3_init 4 = .ok (.aload_n 0, 1) := bl_dX3_init_0.2.2.1
theorem dX3_init_5 : decode cX3_init 5 = .ok (.bipush 24, 2) := bl_dX3_init_0.2.2.2.1
theorem dX3_init_7 : decode cX3_init 7 = .ok (.newarray .int, 2) := bl_dX3_init_0.2.2.2.2.1
theorem dX3_init_9 : decode cX3_init 9 = .ok (.putfield 9, 3) := bl_dX3_init_0.2.2.2.2.2.1
theorem dX3_init_12 : decode cX3_init 12 = .ok (.aload_n 0, 1) := bl_dX3_init_0.2.2.2.2.2.2.1
theorem dX3_init_13 : decode cX3_init 13 = .ok (.iconst 0, 1) := bl_dX3_init_0.2.2.2.2.2.2.2.1
theorem dX3_init_14 : decode cX3_init 14 = .ok (.putfield 15, 3) := bl_dX3_init_0.2.2.2.2.2.2.2.2.1
theorem dX3_init_17 : decode cX3_init 17 = .ok (.aload_n 0, 1) := bl_dX3_init_0.2.2.2.2.2.2.2.2.2.1
theorem dX3_init_18 : decode cX3_init 18 = .ok (.iconst 0, 1) := bl_dX3_init_0.2.2.2.2.2.2.2.2.2.2.1
theorem dX3_init_19 : decode cX3_init 19 = .ok (.putfield 19, 3) := bl_dX3_init_0.2.2.2.2.2.2.2.2.2.2.2.1
theorem dX3_init_22 : decode cX3_init 22 = .ok (.aload_n 0, 1) := bl_dX3_init_0.2.2.2.2.2.2.2.2.2.2.2.2.1
theorem dX3_init_23 : decode cX3_init 23 = .ok (.iload_n 1, 1) := bl_dX3_init_0.2.2.2.2.2.2.2.2.2.2.2.2.2.1
theorem dX3_init_24 : decode cX3_init 24 = .ok (.putfield 22, 3) := bl_dX3_init_0.2.2.2.2.2.2.2.2.2.2.2.2.2.2.1
theorem dX3_init_27 : decode cX3_init 27 = .ok (.aload_n 0, 1) := bl_dX3_init_0.2.2.2.2.2.2.2.2.2.2.2.2.2.2.2
theorem lk_dX3_init_28 : th_dr cX3_init 28 = 28 :: 181 :: 0 :: 25 :: 42 :: 29 :: 181 :: 0 :: 28 :: 42 :: 21 :: 4 :: 181 :: 0 :: 31 :: 42 :: 21 :: 5 :: 181 :: 0 :: 34 :: 177 :: th_dr cX3_init 50 := rfl
theorem bl_dX3_init_28 : decode cX3_init 28 = .ok (.iload_n 2, 1) ∧ decode cX3_init 29 = .ok (.putfield 25, 3) ∧ decode cX3_init 32 = .ok (.aload_n 0, 1) ∧ decode cX3_init 33 = .ok (.iload_n 3, 1) ∧ decode cX3_init 34 = .ok (.putfield 28, 3) ∧ decode cX3_init 37 = .ok (.aload_n 0, 1) ∧ decode cX3_init 38 = .ok (.iload 4, 2) ∧ decode cX3_init 40 = .ok (.putfield 31, 3) ∧ decode cX3_init 43 = .ok (.aload_n 0, 1) ∧ decode cX3_init 44 = .ok (.iload 5, 2) ∧ decode cX3_init 46 = .ok (.putfield 34, 3) ∧ decode cX3_init 49 = .ok (.return_, 1) := op_28 lk_dX3_init_28 fun e => op_181 e fun e => op_42 e fun e => op_29 e fun e => op_181 e fun e => op_42 e fun e => op_21 e fun e => op_181 e fun e => op_42 e fun e => op_21 e fun e => op_181 e fun e => (op_177 e fun _ => True.intro).1
theorem dX3_init_28 : decode cX3_init 28 = .ok (.iload_n 2, 1) := bl_dX3_init_28.1
theorem dX3_init_29 : decode cX3_init 29 = .ok (.putfield 25, 3) := bl_dX3_init_28.2.1
theorem dX3_init_32 : decode cX3_init 32 = .ok (.aload_n 0, 1) := bl_dX3_init_28.2.2.1
theorem dX3_init_33 : decode cX3_init 33 = .ok (.iload_n 3, 1) := bl_dX3_init_28.2.2.2.1
theorem dX3_init_34 : decode cX3_init 34 = .ok (.putfield 28, 3) := bl_dX3_init_28.2.2.2.2.1
theorem dX3_init_37 : decode cX3_init 37 = .ok (.aload_n 0, 1) := bl_dX3_init_28.2.2.2.2.2.1
theorem dX3_init_38 : decode cX3_init 38 = .ok (.iload 4, 2) := bl_dX3_init_28.2.2.2.2.2.2.1
theorem dX3_init_40 : decode cX3_init 40 = .ok (.putfield 31, 3) := bl_dX3_init_28.2.2.2.2.2.2.2.1
theorem dX3_init_43 : decode cX3_init 43 = .ok (.aload_n 0, 1) := bl_dX3_init_28.2.2.2.2.2.2.2.2.1
theorem dX3_init_44 : decode cX3_init 44 = .ok (.iload 5, 2) := bl_dX3_init_28.2.2.2.2.2.2.2.2.2.1
theorem dX3_init_46 : decode cX3_init 46 = .ok (.putfield 34, 3) := bl_dX3_init_28.2.2.2.2.2.2.2.2.2.2.1
theorem dX3_init_49 : decode cX3_init 49 = .ok (.return_, 1) := bl_dX3_init_28.2.2.2.2.2.2.2.2.2.2.2
set_option maxRecDepth 20000 in
theorem ggX3_flood_X11_isHour : GoodIn wsX3_flood wsX11_isHour := goodIn_q _ [(6, 3), (5, 1), (9, 1)] rfl gdwsX11_isHour
set_option maxRecDepth 20000 in
theorem gX3_flood_X11_isHour_n37 : GoodIn wsX3_flood (wsX11_isHour) := ggX3_flood_X11_isHour
set_option maxRecDepth 20000 in
theorem gdwsX3_wholeRoot : wsX3_wholeRoot.all goodWord = true := by decide +kernel
set_option maxRecDepth 20000 in
theorem ggX3_flood_X3_wholeRoot : GoodIn wsX3_flood wsX3_wholeRoot := goodIn_q _ [(13, 1)] rfl gdwsX3_wholeRoot
set_option maxRecDepth 20000 in
theorem gX3_flood_X3_wholeRoot : GoodIn wsX3_flood (va_wsS RX3 41 yX3_wholeRoot wsX3_wholeRoot) := goodIn_app (goodIn_q _ [(10, 3)] rfl rfl) ggX3_flood_X3_wholeRoot
theorem lk_dX3_flood_0 : th_dr cX3_flood 0 = 27 :: 184 :: 0 :: 37 :: 154 :: 0 :: 4 :: 177 :: 42 :: 180 :: 0 :: 31 :: 28 :: 96 :: 62 :: 42 :: 180 :: 0 :: 9 :: 27 :: 29 :: 42 :: 180 :: 0 :: 34 :: 161 :: 0 :: 7 :: th_dr cX3_flood 28 := rfl
theorem bl_dX3_flood_0 : decode cX3_flood 0 = .ok (.iload_n 1, 1) ∧ decode cX3_flood 1 = .ok (.invokestatic 37, 3) ∧ decode cX3_flood 4 = .ok (.ifCond .ne 4, 3) ∧ decode cX3_flood 7 = .ok (.return_, 1) ∧ decode cX3_flood 8 = .ok (.aload_n 0, 1) ∧ decode cX3_flood 9 = .ok (.getfield 31, 3) ∧ decode cX3_flood 12 = .ok (.iload_n 2, 1) ∧ decode cX3_flood 13 = .ok (.iadd, 1) ∧ decode cX3_flood 14 = .ok (.istore_n 3, 1) ∧ decode cX3_flood 15 = .ok (.aload_n 0, 1) ∧ decode cX3_flood 16 = .ok (.getfield 9, 3) ∧ decode cX3_flood 19 = .ok (.iload_n 1, 1) ∧ decode cX3_flood 20 = .ok (.iload_n 3, 1) ∧ decode cX3_flood 21 = .ok (.aload_n 0, 1) ∧ decode cX3_flood 22 = .ok (.getfield 34, 3) ∧ decode cX3_flood 25 = .ok (.if_icmp .lt 7, 3) := op_27 lk_dX3_flood_0 fun e => op_184 e fun e => op_154p e rfl fun e => op_177 e fun e => op_42 e fun e => op_180 e fun e => op_28 e fun e => op_96 e fun e => op_62 e fun e => op_42 e fun e => op_180 e fun e => op_27 e fun e => op_29 e fun e => op_42 e fun e => op_180 e fun e => (op_161p e rfl fun _ => True.intro).1
theorem dX3_flood_0 : decode cX3_flood 0 = .ok (.iload_n 1, 1) := bl_dX3_flood_0.1
theorem dX3_flood_1 : decode cX3_flood 1 = .ok (.invokestatic 37, 3) := bl_dX3_flood_0.2.1
theorem dX3_flood_4 : decode cX3_flood 4 = .ok (.ifCond .ne 4, 3) := bl_dX3_flood_0.2.2.1
theorem dX3_flood_7 : decode cX3_flood 7 = .ok (.return_, 1) := bl_dX3_flood_0.2.2.2.1
theorem dX3_flood_8 : decode cX3_flood 8 = .ok (.aload_n 0, 1) := bl_dX3_flood_0.2.2.2.2.1
theorem dX3_flood_9 : decode cX3_flood 9 = .ok (.getfield 31, 3) := bl_dX3_flood_0.2.2.2.2.2.1
theorem dX3_flood_12 : decode cX3_flood 12 = .ok (.iload_n 2, 1) := bl_dX3_flood_0.2.2.2.2.2.2.1
theorem dX3_flood_13 : decode cX3_flood 13 = .ok (.iadd, 1) := bl_dX3_flood_0.2.2.2.2.2.2.2.1
theorem dX3_flood_14 : decode cX3_flood 14 = .ok (.istore_n 3, 1) := bl_dX3_flood_0.2.2.2.2.2.2.2.2.1
theorem dX3_flood_15 : decode cX3_flood 15 = .ok (.aload_n 0, 1) := bl_dX3_flood_0.2.2.2.2.2.2.2.2.2.1
theorem dX3_flood_16 : decode cX3_flood 16 = .ok (.getfield 9, 3) := bl_dX3_flood_0.2.2.2.2.2.2.2.2.2.2.1
theorem dX3_flood_19 : decode cX3_flood 19 = .ok (.iload_n 1, 1) := bl_dX3_flood_0.2.2.2.2.2.2.2.2.2.2.2.1
theorem dX3_flood_20 : decode cX3_flood 20 = .ok (.iload_n 3, 1) := bl_dX3_flood_0.2.2.2.2.2.2.2.2.2.2.2.2.1
theorem dX3_flood_21 : decode cX3_flood 21 = .ok (.aload_n 0, 1) := bl_dX3_flood_0.2.2.2.2.2.2.2.2.2.2.2.2.2.1
theorem dX3_flood_22 : decode cX3_flood 22 = .ok (.getfield 34, 3) := bl_dX3_flood_0.2.2.2.2.2.2.2.2.2.2.2.2.2.2.1
theorem dX3_flood_25 : decode cX3_flood 25 = .ok (.if_icmp .lt 7, 3) := bl_dX3_flood_0.2.2.2.2.2.2.2.2.2.2.2.2.2.2.2
theorem lk_dX3_flood_28 : th_dr cX3_flood 28 = 3 :: 167 :: 0 :: 19 :: 42 :: 180 :: 0 :: 34 :: 42 :: 180 :: 0 :: 34 :: 104 :: 29 :: 29 :: 104 :: 100 :: 184 :: 0 :: 41 :: 79 :: 177 :: th_dr cX3_flood 50 := rfl
theorem bl_dX3_flood_28 : decode cX3_flood 28 = .ok (.iconst 0, 1) ∧ decode cX3_flood 29 = .ok (.goto 19, 3) ∧ decode cX3_flood 32 = .ok (.aload_n 0, 1) ∧ decode cX3_flood 33 = .ok (.getfield 34, 3) ∧ decode cX3_flood 36 = .ok (.aload_n 0, 1) ∧ decode cX3_flood 37 = .ok (.getfield 34, 3) ∧ decode cX3_flood 40 = .ok (.imul, 1) ∧ decode cX3_flood 41 = .ok (.iload_n 3, 1) ∧ decode cX3_flood 42 = .ok (.iload_n 3, 1) ∧ decode cX3_flood 43 = .ok (.imul, 1) ∧ decode cX3_flood 44 = .ok (.isub, 1) ∧ decode cX3_flood 45 = .ok (.invokestatic 41, 3) ∧ decode cX3_flood 48 = .ok (.iastore, 1) ∧ decode cX3_flood 49 = .ok (.return_, 1) := op_3 lk_dX3_flood_28 fun e => op_167p e rfl fun e => op_42 e fun e => op_180 e fun e => op_42 e fun e => op_180 e fun e => op_104 e fun e => op_29 e fun e => op_29 e fun e => op_104 e fun e => op_100 e fun e => op_184 e fun e => op_79 e fun e => (op_177 e fun _ => True.intro).1
theorem dX3_flood_28 : decode cX3_flood 28 = .ok (.iconst 0, 1) := bl_dX3_flood_28.1
theorem dX3_flood_29 : decode cX3_flood 29 = .ok (.goto 19, 3) := bl_dX3_flood_28.2.1
theorem dX3_flood_32 : decode cX3_flood 32 = .ok (.aload_n 0, 1) := bl_dX3_flood_28.2.2.1
theorem dX3_flood_33 : decode cX3_flood 33 = .ok (.getfield 34, 3) := bl_dX3_flood_28.2.2.2.1
theorem dX3_flood_36 : decode cX3_flood 36 = .ok (.aload_n 0, 1) := bl_dX3_flood_28.2.2.2.2.1
theorem dX3_flood_37 : decode cX3_flood 37 = .ok (.getfield 34, 3) := bl_dX3_flood_28.2.2.2.2.2.1
theorem dX3_flood_40 : decode cX3_flood 40 = .ok (.imul, 1) := bl_dX3_flood_28.2.2.2.2.2.2.1
theorem dX3_flood_41 : decode cX3_flood 41 = .ok (.iload_n 3, 1) := bl_dX3_flood_28.2.2.2.2.2.2.2.1
theorem dX3_flood_42 : decode cX3_flood 42 = .ok (.iload_n 3, 1) := bl_dX3_flood_28.2.2.2.2.2.2.2.2.1
theorem dX3_flood_43 : decode cX3_flood 43 = .ok (.imul, 1) := bl_dX3_flood_28.2.2.2.2.2.2.2.2.2.1
theorem dX3_flood_44 : decode cX3_flood 44 = .ok (.isub, 1) := bl_dX3_flood_28.2.2.2.2.2.2.2.2.2.2.1
theorem dX3_flood_45 : decode cX3_flood 45 = .ok (.invokestatic 41, 3) := bl_dX3_flood_28.2.2.2.2.2.2.2.2.2.2.2.1
theorem dX3_flood_48 : decode cX3_flood 48 = .ok (.iastore, 1) := bl_dX3_flood_28.2.2.2.2.2.2.2.2.2.2.2.2.1
theorem dX3_flood_49 : decode cX3_flood 49 = .ok (.return_, 1) := bl_dX3_flood_28.2.2.2.2.2.2.2.2.2.2.2.2.2
theorem lk_dX3_slackAt_0 : th_dr cX3_slackAt 0 = 27 :: 155 :: 0 :: 18 :: 27 :: 16 :: 24 :: 162 :: 0 :: 12 :: 42 :: 180 :: 0 :: 9 :: 27 :: 46 :: 167 :: 0 :: 4 :: 3 :: 172 :: th_dr cX3_slackAt 21 := rfl
theorem bl_dX3_slackAt_0 : decode cX3_slackAt 0 = .ok (.iload_n 1, 1) ∧ decode cX3_slackAt 1 = .ok (.ifCond .lt 18, 3) ∧ decode cX3_slackAt 4 = .ok (.iload_n 1, 1) ∧ decode cX3_slackAt 5 = .ok (.bipush 24, 2) ∧ decode cX3_slackAt 7 = .ok (.if_icmp .ge 12, 3) ∧ decode cX3_slackAt 10 = .ok (.aload_n 0, 1) ∧ decode cX3_slackAt 11 = .ok (.getfield 9, 3) ∧ decode cX3_slackAt 14 = .ok (.iload_n 1, 1) ∧ decode cX3_slackAt 15 = .ok (.iaload, 1) ∧ decode cX3_slackAt 16 = .ok (.goto 4, 3) ∧ decode cX3_slackAt 19 = .ok (.iconst 0, 1) ∧ decode cX3_slackAt 20 = .ok (.ireturn, 1) := op_27 lk_dX3_slackAt_0 fun e => op_155p e rfl fun e => op_27 e fun e => op_16p e rfl fun e => op_162p e rfl fun e => op_42 e fun e => op_180 e fun e => op_27 e fun e => op_46 e fun e => op_167p e rfl fun e => op_3 e fun e => (op_172 e fun _ => True.intro).1
theorem dX3_slackAt_0 : decode cX3_slackAt 0 = .ok (.iload_n 1, 1) := bl_dX3_slackAt_0.1
theorem dX3_slackAt_1 : decode cX3_slackAt 1 = .ok (.ifCond .lt 18, 3) := bl_dX3_slackAt_0.2.1
theorem dX3_slackAt_4 : decode cX3_slackAt 4 = .ok (.iload_n 1, 1) := bl_dX3_slackAt_0.2.2.1
theorem dX3_slackAt_5 : decode cX3_slackAt 5 = .ok (.bipush 24, 2) := bl_dX3_slackAt_0.2.2.2.1
theorem dX3_slackAt_7 : decode cX3_slackAt 7 = .ok (.if_icmp .ge 12, 3) := bl_dX3_slackAt_0.2.2.2.2.1
theorem dX3_slackAt_10 : decode cX3_slackAt 10 = .ok (.aload_n 0, 1) := bl_dX3_slackAt_0.2.2.2.2.2.1
theorem dX3_slackAt_11 : decode cX3_slackAt 11 = .ok (.getfield 9, 3) := bl_dX3_slackAt_0.2.2.2.2.2.2.1
theorem dX3_slackAt_14 : decode cX3_slackAt 14 = .ok (.iload_n 1, 1) := bl_dX3_slackAt_0.2.2.2.2.2.2.2.1
theorem dX3_slackAt_15 : decode cX3_slackAt 15 = .ok (.iaload, 1) := bl_dX3_slackAt_0.2.2.2.2.2.2.2.2.1
theorem dX3_slackAt_16 : decode cX3_slackAt 16 = .ok (.goto 4, 3) := bl_dX3_slackAt_0.2.2.2.2.2.2.2.2.2.1
theorem dX3_slackAt_19 : decode cX3_slackAt 19 = .ok (.iconst 0, 1) := bl_dX3_slackAt_0.2.2.2.2.2.2.2.2.2.2.1
theorem dX3_slackAt_20 : decode cX3_slackAt 20 = .ok (.ireturn, 1) := bl_dX3_slackAt_0.2.2.2.2.2.2.2.2.2.2.2
theorem lk_dX3_isParted_0 : th_dr cX3_isParted 0 = 42 :: 180 :: 0 :: 15 :: 16 :: 60 :: 161 :: 0 :: 7 :: 4 :: 167 :: 0 :: 4 :: 3 :: 172 :: th_dr cX3_isParted 15 := rfl
theorem bl_dX3_isParted_0 : decode cX3_isParted 0 = .ok (.aload_n 0, 1) ∧ decode cX3_isParted 1 = .ok (.getfield 15, 3) ∧ decode cX3_isParted 4 = .ok (.bipush 60, 2) ∧ decode cX3_isParted 6 = .ok (.if_icmp .lt 7, 3) ∧ decode cX3_isParted 9 = .ok (.iconst 1, 1) ∧ decode cX3_isParted 10 = .ok (.goto 4, 3) ∧ decode cX3_isParted 13 = .ok (.iconst 0, 1) ∧ decode cX3_isParted 14 = .ok (.ireturn, 1) := op_42 lk_dX3_isParted_0 fun e => op_180 e fun e => op_16p e rfl fun e => op_161p e rfl fun e => op_4 e fun e => op_167p e rfl fun e => op_3 e fun e => (op_172 e fun _ => True.intro).1
theorem dX3_isParted_0 : decode cX3_isParted 0 = .ok (.aload_n 0, 1) := bl_dX3_isParted_0.1
theorem dX3_isParted_1 : decode cX3_isParted 1 = .ok (.getfield 15, 3) := bl_dX3_isParted_0.2.1
theorem dX3_isParted_4 : decode cX3_isParted 4 = .ok (.bipush 60, 2) := bl_dX3_isParted_0.2.2.1
theorem dX3_isParted_6 : decode cX3_isParted 6 = .ok (.if_icmp .lt 7, 3) := bl_dX3_isParted_0.2.2.2.1
theorem dX3_isParted_9 : decode cX3_isParted 9 = .ok (.iconst 1, 1) := bl_dX3_isParted_0.2.2.2.2.1
theorem dX3_isParted_10 : decode cX3_isParted 10 = .ok (.goto 4, 3) := bl_dX3_isParted_0.2.2.2.2.2.1
theorem dX3_isParted_13 : decode cX3_isParted 13 = .ok (.iconst 0, 1) := bl_dX3_isParted_0.2.2.2.2.2.2.1
theorem dX3_isParted_14 : decode cX3_isParted 14 = .ok (.ireturn, 1) := bl_dX3_isParted_0.2.2.2.2.2.2.2
theorem lk_dX3_doubt_0 : th_dr cX3_doubt 0 = 42 :: 180 :: 0 :: 19 :: 42 :: 180 :: 0 :: 15 :: 100 :: 172 :: th_dr cX3_doubt 10 := rfl
theorem bl_dX3_doubt_0 : decode cX3_doubt 0 = .ok (.aload_n 0, 1) ∧ decode cX3_doubt 1 = .ok (.getfield 19, 3) ∧ decode cX3_doubt 4 = .ok (.aload_n 0, 1) ∧ decode cX3_doubt 5 = .ok (.getfield 15, 3) ∧ decode cX3_doubt 8 = .ok (.isub, 1) ∧ decode cX3_doubt 9 = .ok (.ireturn, 1) := op_42 lk_dX3_doubt_0 fun e => op_180 e fun e => op_42 e fun e => op_180 e fun e => op_100 e fun e => (op_172 e fun _ => True.intro).1
theorem dX3_doubt_0 : decode cX3_doubt 0 = .ok (.aload_n 0, 1) := bl_dX3_doubt_0.1
theorem dX3_doubt_1 : decode cX3_doubt 1 = .ok (.getfield 19, 3) := bl_dX3_doubt_0.2.1
theorem dX3_doubt_4 : decode cX3_doubt 4 = .ok (.aload_n 0, 1) := bl_dX3_doubt_0.2.2.1
theorem dX3_doubt_5 : decode cX3_doubt 5 = .ok (.getfield 15, 3) := bl_dX3_doubt_0.2.2.2.1
theorem dX3_doubt_8 : decode cX3_doubt 8 = .ok (.isub, 1) := bl_dX3_doubt_0.2.2.2.2.1
theorem dX3_doubt_9 : decode cX3_doubt 9 = .ok (.ireturn, 1) := bl_dX3_doubt_0.2.2.2.2.2
theorem lk_dX3_wear_0 : th_dr cX3_wear 0 = 42 :: 42 :: 180 :: 0 :: 15 :: 6 :: 96 :: 16 :: 100 :: 184 :: 0 :: 45 :: 181 :: 0 :: 15 :: 42 :: 42 :: 180 :: 0 :: 19 :: 27 :: 153 :: 0 :: 8 :: 16 :: 20 :: 167 :: 0 :: 5 :: 16 :: 12 :: th_dr cX3_wear 31 := rfl
theorem bl_dX3_wear_0 : decode cX3_wear 0 = .ok (.aload_n 0, 1) ∧ decode cX3_wear 1 = .ok (.aload_n 0, 1) ∧ decode cX3_wear 2 = .ok (.getfield 15, 3) ∧ decode cX3_wear 5 = .ok (.iconst 3, 1) ∧ decode cX3_wear 6 = .ok (.iadd, 1) ∧ decode cX3_wear 7 = .ok (.bipush 100, 2) ∧ decode cX3_wear 9 = .ok (.invokestatic 45, 3) ∧ decode cX3_wear 12 = .ok (.putfield 15, 3) ∧ decode cX3_wear 15 = .ok (.aload_n 0, 1) ∧ decode cX3_wear 16 = .ok (.aload_n 0, 1) ∧ decode cX3_wear 17 = .ok (.getfield 19, 3) ∧ decode cX3_wear 20 = .ok (.iload_n 1, 1) ∧ decode cX3_wear 21 = .ok (.ifCond .eq 8, 3) ∧ decode cX3_wear 24 = .ok (.bipush 20, 2) ∧ decode cX3_wear 26 = .ok (.goto 5, 3) ∧ decode cX3_wear 29 = .ok (.bipush 12, 2) := op_42 lk_dX3_wear_0 fun e => op_42 e fun e => op_180 e fun e => op_6 e fun e => op_96 e fun e => op_16p e rfl fun e => op_184 e fun e => op_181 e fun e => op_42 e fun e => op_42 e fun e => op_180 e fun e => op_27 e fun e => op_153p e rfl fun e => op_16p e rfl fun e => op_167p e rfl fun e => (op_16p e rfl fun _ => True.intro).1
theorem dX3_wear_0 : decode cX3_wear 0 = .ok (.aload_n 0, 1) := bl_dX3_wear_0.1
theorem dX3_wear_1 : decode cX3_wear 1 = .ok (.aload_n 0, 1) := bl_dX3_wear_0.2.1
theorem dX3_wear_2 : decode cX3_wear 2 = .ok (.getfield 15, 3) := bl_dX3_wear_0.2.2.1
theorem dX3_wear_5 : decode cX3_wear 5 = .ok (.iconst 3, 1) := bl_dX3_wear_0.2.2.2.1
theorem dX3_wear_6 : decode cX3_wear 6 = .ok (.iadd, 1) := bl_dX3_wear_0.2.2.2.2.1
theorem dX3_wear_7 : decode cX3_wear 7 = .ok (.bipush 100, 2) := bl_dX3_wear_0.2.2.2.2.2.1
theorem dX3_wear_9 : decode cX3_wear 9 = .ok (.invokestatic 45, 3) := bl_dX3_wear_0.2.2.2.2.2.2.1
theorem dX3_wear_12 : decode cX3_wear 12 = .ok (.putfield 15, 3) := bl_dX3_wear_0.2.2.2.2.2.2.2.1
theorem dX3_wear_15 : decode cX3_wear 15 = .ok (.aload_n 0, 1) := bl_dX3_wear_0.2.2.2.2.2.2.2.2.1
theorem dX3_wear_16 : decode cX3_wear 16 = .ok (.aload_n 0, 1) := bl_dX3_wear_0.2.2.2.2.2.2.2.2.2.1
theorem dX3_wear_17 : decode cX3_wear 17 = .ok (.getfield 19, 3) := bl_dX3_wear_0.2.2.2.2.2.2.2.2.2.2.1
theorem dX3_wear_20 : decode cX3_wear 20 = .ok (.iload_n 1, 1) := bl_dX3_wear_0.2.2.2.2.2.2.2.2.2.2.2.1
theorem dX3_wear_21 : decode cX3_wear 21 = .ok (.ifCond .eq 8, 3) := bl_dX3_wear_0.2.2.2.2.2.2.2.2.2.2.2.2.1
theorem dX3_wear_24 : decode cX3_wear 24 = .ok (.bipush 20, 2) := bl_dX3_wear_0.2.2.2.2.2.2.2.2.2.2.2.2.2.1
theorem dX3_wear_26 : decode cX3_wear 26 = .ok (.goto 5, 3) := bl_dX3_wear_0.2.2.2.2.2.2.2.2.2.2.2.2.2.2.1
theorem dX3_wear_29 : decode cX3_wear 29 = .ok (.bipush 12, 2) := bl_dX3_wear_0.2.2.2.2.2.2.2.2.2.2.2.2.2.2.2
theorem lk_dX3_wear_31 : th_dr cX3_wear 31 = 96 :: 16 :: 100 :: 184 :: 0 :: 45 :: 181 :: 0 :: 19 :: 177 :: th_dr cX3_wear 41 := rfl
theorem bl_dX3_wear_31 : decode cX3_wear 31 = .ok (.iadd, 1) ∧ decode cX3_wear 32 = .ok (.bipush 100, 2) ∧ decode cX3_wear 34 = .ok (.invokestatic 45, 3) ∧ decode cX3_wear 37 = .ok (.putfield 19, 3) ∧ decode cX3_wear 40 = .ok (.return_, 1) := op_96 lk_dX3_wear_31 fun e => op_16p e rfl fun e => op_184 e fun e => op_181 e fun e => (op_177 e fun _ => True.intro).1
theorem dX3_wear_31 : decode cX3_wear 31 = .ok (.iadd, 1) := bl_dX3_wear_31.1
theorem dX3_wear_32 : decode cX3_wear 32 = .ok (.bipush 100, 2) := bl_dX3_wear_31.2.1
theorem dX3_wear_34 : decode cX3_wear 34 = .ok (.invokestatic 45, 3) := bl_dX3_wear_31.2.2.1
theorem dX3_wear_37 : decode cX3_wear 37 = .ok (.putfield 19, 3) := bl_dX3_wear_31.2.2.2.1
theorem dX3_wear_40 : decode cX3_wear 40 = .ok (.return_, 1) := bl_dX3_wear_31.2.2.2.2
theorem lk_dX3_holds_0 : th_dr cX3_holds 0 = 42 :: 180 :: 0 :: 19 :: 28 :: 96 :: 43 :: 180 :: 0 :: 51 :: 16 :: 10 :: 108 :: 96 :: 16 :: 100 :: 163 :: 0 :: 7 :: 4 :: 167 :: 0 :: 4 :: 3 :: 172 :: th_dr cX3_holds 25 := rfl
theorem bl_dX3_holds_0 : decode cX3_holds 0 = .ok (.aload_n 0, 1) ∧ decode cX3_holds 1 = .ok (.getfield 19, 3) ∧ decode cX3_holds 4 = .ok (.iload_n 2, 1) ∧ decode cX3_holds 5 = .ok (.iadd, 1) ∧ decode cX3_holds 6 = .ok (.aload_n 1, 1) ∧ decode cX3_holds 7 = .ok (.getfield 51, 3) ∧ decode cX3_holds 10 = .ok (.bipush 10, 2) ∧ decode cX3_holds 12 = .ok (.idiv, 1) ∧ decode cX3_holds 13 = .ok (.iadd, 1) ∧ decode cX3_holds 14 = .ok (.bipush 100, 2) ∧ decode cX3_holds 16 = .ok (.if_icmp .gt 7, 3) ∧ decode cX3_holds 19 = .ok (.iconst 1, 1) ∧ decode cX3_holds 20 = .ok (.goto 4, 3) ∧ decode cX3_holds 23 = .ok (.iconst 0, 1) ∧ decode cX3_holds 24 = .ok (.ireturn, 1) := op_42 lk_dX3_holds_0 fun e => op_180 e fun e => op_28 e fun e => op_96 e fun e => op_43 e fun e => op_180 e fun e => op_16p e rfl fun e => op_108 e fun e => op_96 e fun e => op_16p e rfl fun e => op_163p e rfl fun e => op_4 e fun e => op_167p e rfl fun e => op_3 e fun e => (op_172 e fun _ => True.intro).1
theorem dX3_holds_0 : decode cX3_holds 0 = .ok (.aload_n 0, 1) := bl_dX3_holds_0.1
theorem dX3_holds_1 : decode cX3_holds 1 = .ok (.getfield 19, 3) := bl_dX3_holds_0.2.1
theorem dX3_holds_4 : decode cX3_holds 4 = .ok (.iload_n 2, 1) := bl_dX3_holds_0.2.2.1
theorem dX3_holds_5 : decode cX3_holds 5 = .ok (.iadd, 1) := bl_dX3_holds_0.2.2.2.1
theorem dX3_holds_6 : decode cX3_holds 6 = .ok (.aload_n 1, 1) := bl_dX3_holds_0.2.2.2.2.1
theorem dX3_holds_7 : decode cX3_holds 7 = .ok (.getfield 51, 3) := bl_dX3_holds_0.2.2.2.2.2.1
theorem dX3_holds_10 : decode cX3_holds 10 = .ok (.bipush 10, 2) := bl_dX3_holds_0.2.2.2.2.2.2.1
theorem dX3_holds_12 : decode cX3_holds 12 = .ok (.idiv, 1) := bl_dX3_holds_0.2.2.2.2.2.2.2.1
theorem dX3_holds_13 : decode cX3_holds 13 = .ok (.iadd, 1) := bl_dX3_holds_0.2.2.2.2.2.2.2.2.1
theorem dX3_holds_14 : decode cX3_holds 14 = .ok (.bipush 100, 2) := bl_dX3_holds_0.2.2.2.2.2.2.2.2.2.1
theorem dX3_holds_16 : decode cX3_holds 16 = .ok (.if_icmp .gt 7, 3) := bl_dX3_holds_0.2.2.2.2.2.2.2.2.2.2.1
theorem dX3_holds_19 : decode cX3_holds 19 = .ok (.iconst 1, 1) := bl_dX3_holds_0.2.2.2.2.2.2.2.2.2.2.2.1
theorem dX3_holds_20 : decode cX3_holds 20 = .ok (.goto 4, 3) := bl_dX3_holds_0.2.2.2.2.2.2.2.2.2.2.2.2.1
theorem dX3_holds_23 : decode cX3_holds 23 = .ok (.iconst 0, 1) := bl_dX3_holds_0.2.2.2.2.2.2.2.2.2.2.2.2.2.1
theorem dX3_holds_24 : decode cX3_holds 24 = .ok (.ireturn, 1) := bl_dX3_holds_0.2.2.2.2.2.2.2.2.2.2.2.2.2.2
theorem lk_dX3_wholeRoot_0 : th_dr cX3_wholeRoot 0 = 3 :: 60 :: 17 :: 1 :: 0 :: 61 :: 28 :: 158 :: 0 :: 23 :: 27 :: 28 :: 96 :: 62 :: 29 :: 29 :: 104 :: 26 :: 163 :: 0 :: 5 :: 29 :: th_dr cX3_wholeRoot 22 := rfl
theorem bl_dX3_wholeRoot_0 : decode cX3_wholeRoot 0 = .ok (.iconst 0, 1) ∧ decode cX3_wholeRoot 1 = .ok (.istore_n 1, 1) ∧ decode cX3_wholeRoot 2 = .ok (.sipush 256, 3) ∧ decode cX3_wholeRoot 5 = .ok (.istore_n 2, 1) ∧ decode cX3_wholeRoot 6 = .ok (.iload_n 2, 1) ∧ decode cX3_wholeRoot 7 = .ok (.ifCond .le 23, 3) ∧ decode cX3_wholeRoot 10 = .ok (.iload_n 1, 1) ∧ decode cX3_wholeRoot 11 = .ok (.iload_n 2, 1) ∧ decode cX3_wholeRoot 12 = .ok (.iadd, 1) ∧ decode cX3_wholeRoot 13 = .ok (.istore_n 3, 1) ∧ decode cX3_wholeRoot 14 = .ok (.iload_n 3, 1) ∧ decode cX3_wholeRoot 15 = .ok (.iload_n 3, 1) ∧ decode cX3_wholeRoot 16 = .ok (.imul, 1) ∧ decode cX3_wholeRoot 17 = .ok (.iload_n 0, 1) ∧ decode cX3_wholeRoot 18 = .ok (.if_icmp .gt 5, 3) ∧ decode cX3_wholeRoot 21 = .ok (.iload_n 3, 1) := op_3 lk_dX3_wholeRoot_0 fun e => op_60 e fun e => op_17p e rfl fun e => op_61 e fun e => op_28 e fun e => op_158p e rfl fun e => op_27 e fun e => op_28 e fun e => op_96 e fun e => op_62 e fun e => op_29 e fun e => op_29 e fun e => op_104 e fun e => op_26 e fun e => op_163p e rfl fun e => (op_29 e fun _ => True.intro).1
theorem dX3_wholeRoot_0 : decode cX3_wholeRoot 0 = .ok (.iconst 0, 1) := bl_dX3_wholeRoot_0.1
theorem dX3_wholeRoot_1 : decode cX3_wholeRoot 1 = .ok (.istore_n 1, 1) := bl_dX3_wholeRoot_0.2.1
theorem dX3_wholeRoot_2 : decode cX3_wholeRoot 2 = .ok (.sipush 256, 3) := bl_dX3_wholeRoot_0.2.2.1
theorem dX3_wholeRoot_5 : decode cX3_wholeRoot 5 = .ok (.istore_n 2, 1) := bl_dX3_wholeRoot_0.2.2.2.1
theorem dX3_wholeRoot_6 : decode cX3_wholeRoot 6 = .ok (.iload_n 2, 1) := bl_dX3_wholeRoot_0.2.2.2.2.1
theorem dX3_wholeRoot_7 : decode cX3_wholeRoot 7 = .ok (.ifCond .le 23, 3) := bl_dX3_wholeRoot_0.2.2.2.2.2.1
theorem dX3_wholeRoot_10 : decode cX3_wholeRoot 10 = .ok (.iload_n 1, 1) := bl_dX3_wholeRoot_0.2.2.2.2.2.2.1
theorem dX3_wholeRoot_11 : decode cX3_wholeRoot 11 = .ok (.iload_n 2, 1) := bl_dX3_wholeRoot_0.2.2.2.2.2.2.2.1
theorem dX3_wholeRoot_12 : decode cX3_wholeRoot 12 = .ok (.iadd, 1) := bl_dX3_wholeRoot_0.2.2.2.2.2.2.2.2.1
theorem dX3_wholeRoot_13 : decode cX3_wholeRoot 13 = .ok (.istore_n 3, 1) := bl_dX3_wholeRoot_0.2.2.2.2.2.2.2.2.2.1
theorem dX3_wholeRoot_14 : decode cX3_wholeRoot 14 = .ok (.iload_n 3, 1) := bl_dX3_wholeRoot_0.2.2.2.2.2.2.2.2.2.2.1
theorem dX3_wholeRoot_15 : decode cX3_wholeRoot 15 = .ok (.iload_n 3, 1) := bl_dX3_wholeRoot_0.2.2.2.2.2.2.2.2.2.2.2.1
theorem dX3_wholeRoot_16 : decode cX3_wholeRoot 16 = .ok (.imul, 1) := bl_dX3_wholeRoot_0.2.2.2.2.2.2.2.2.2.2.2.2.1
theorem dX3_wholeRoot_17 : decode cX3_wholeRoot 17 = .ok (.iload_n 0, 1) := bl_dX3_wholeRoot_0.2.2.2.2.2.2.2.2.2.2.2.2.2.1
theorem dX3_wholeRoot_18 : decode cX3_wholeRoot 18 = .ok (.if_icmp .gt 5, 3) := bl_dX3_wholeRoot_0.2.2.2.2.2.2.2.2.2.2.2.2.2.2.1
theorem dX3_wholeRoot_21 : decode cX3_wholeRoot 21 = .ok (.iload_n 3, 1) := bl_dX3_wholeRoot_0.2.2.2.2.2.2.2.2.2.2.2.2.2.2.2
theorem lk_dX3_wholeRoot_22 : th_dr cX3_wholeRoot 22 = 60 :: 28 :: 4 :: 122 :: 61 :: 167 :: 255 :: 235 :: 27 :: 172 :: th_dr cX3_wholeRoot 32 := rfl
theorem bl_dX3_wholeRoot_22 : decode cX3_wholeRoot 22 = .ok (.istore_n 1, 1) ∧ decode cX3_wholeRoot 23 = .ok (.iload_n 2, 1) ∧ decode cX3_wholeRoot 24 = .ok (.iconst 1, 1) ∧ decode cX3_wholeRoot 25 = .ok (.ishr, 1) ∧ decode cX3_wholeRoot 26 = .ok (.istore_n 2, 1) ∧ decode cX3_wholeRoot 27 = .ok (.goto (-21), 3) ∧ decode cX3_wholeRoot 30 = .ok (.iload_n 1, 1) ∧ decode cX3_wholeRoot 31 = .ok (.ireturn, 1) := op_60 lk_dX3_wholeRoot_22 fun e => op_28 e fun e => op_4 e fun e => op_122 e fun e => op_61 e fun e => op_167n e rfl rfl fun e => op_27 e fun e => (op_172 e fun _ => True.intro).1
theorem dX3_wholeRoot_22 : decode cX3_wholeRoot 22 = .ok (.istore_n 1, 1) := bl_dX3_wholeRoot_22.1
theorem dX3_wholeRoot_23 : decode cX3_wholeRoot 23 = .ok (.iload_n 2, 1) := bl_dX3_wholeRoot_22.2.1
theorem dX3_wholeRoot_24 : decode cX3_wholeRoot 24 = .ok (.iconst 1, 1) := bl_dX3_wholeRoot_22.2.2.1
theorem dX3_wholeRoot_25 : decode cX3_wholeRoot 25 = .ok (.ishr, 1) := bl_dX3_wholeRoot_22.2.2.2.1
theorem dX3_wholeRoot_26 : decode cX3_wholeRoot 26 = .ok (.istore_n 2, 1) := bl_dX3_wholeRoot_22.2.2.2.2.1
theorem dX3_wholeRoot_27 : decode cX3_wholeRoot 27 = .ok (.goto (-21), 3) := bl_dX3_wholeRoot_22.2.2.2.2.2.1
theorem dX3_wholeRoot_30 : decode cX3_wholeRoot 30 = .ok (.iload_n 1, 1) := bl_dX3_wholeRoot_22.2.2.2.2.2.2.1
theorem dX3_wholeRoot_31 : decode cX3_wholeRoot 31 = .ok (.ireturn, 1) := bl_dX3_wholeRoot_22.2.2.2.2.2.2.2
set_option maxRecDepth 20000 in
theorem gdwsX2_init : wsX2_init.all goodWord = true := by decide +kernel
set_option maxRecDepth 20000 in
theorem ggX4_init_X2_init : GoodIn wsX4_init wsX2_init := goodIn_q _ [(4, 29)] rfl gdwsX2_init
set_option maxRecDepth 20000 in
theorem gX4_init_X2_init : GoodIn wsX4_init (wsX2_init) := ggX4_init_X2_init
theorem lk_dX4_init_0 : th_dr cX4_init 0 = 42 :: 27 :: 28 :: 29 :: 183 :: 0 :: 3 :: 177 :: th_dr cX4_init 8 := rfl
theorem bl_dX4_init_0 : decode cX4_init 0 = .ok (.aload_n 0, 1) ∧ decode cX4_init 1 = .ok (.iload_n 1, 1) ∧ decode cX4_init 2 = .ok (.iload_n 2, 1) ∧ decode cX4_init 3 = .ok (.iload_n 3, 1) ∧ decode cX4_init 4 = .ok (.invokespecial 3, 3) ∧ decode cX4_init 7 = .ok (.return_, 1) := op_42 lk_dX4_init_0 fun e => op_27 e fun e => op_28 e fun e => op_29 e fun e => op_183 e fun e => (op_177 e fun _ => True.intro).1
theorem dX4_init_0 : decode cX4_init 0 = .ok (.aload_n 0, 1) := bl_dX4_init_0.1
theorem dX4_init_1 : decode cX4_init 1 = .ok (.iload_n 1, 1) := bl_dX4_init_0.2.1
theorem dX4_init_2 : decode cX4_init 2 = .ok (.iload_n 2, 1) := bl_dX4_init_0.2.2.1
theorem dX4_init_3 : decode cX4_init 3 = .ok (.iload_n 3, 1) := bl_dX4_init_0.2.2.2.1
theorem dX4_init_4 : decode cX4_init 4 = .ok (.invokespecial 3, 3) := bl_dX4_init_0.2.2.2.2.1
theorem dX4_init_7 : decode cX4_init 7 = .ok (.return_, 1) := bl_dX4_init_0.2.2.2.2.2
theorem lk_dX4_kindNumber_0 : th_dr cX4_kindNumber 0 = 5 :: 172 :: th_dr cX4_kindNumber 2 := rfl
theorem bl_dX4_kindNumber_0 : decode cX4_kindNumber 0 = .ok (.iconst 2, 1) ∧ decode cX4_kindNumber 1 = .ok (.ireturn, 1) := op_5 lk_dX4_kindNumber_0 fun e => (op_172 e fun _ => True.intro).1
theorem dX4_kindNumber_0 : decode cX4_kindNumber 0 = .ok (.iconst 2, 1) := bl_dX4_kindNumber_0.1
theorem dX4_kindNumber_1 : decode cX4_kindNumber 1 = .ok (.ireturn, 1) := bl_dX4_kindNumber_0.2
theorem lk_dX4_need_0 : th_dr cX4_need 0 = 42 :: 180 :: 0 :: 9 :: 5 :: 108 :: 172 :: th_dr cX4_need 7 := rfl
theorem bl_dX4_need_0 : decode cX4_need 0 = .ok (.aload_n 0, 1) ∧ decode cX4_need 1 = .ok (.getfield 9, 3) ∧ decode cX4_need 4 = .ok (.iconst 2, 1) ∧ decode cX4_need 5 = .ok (.idiv, 1) ∧ decode cX4_need 6 = .ok (.ireturn, 1) := op_42 lk_dX4_need_0 fun e => op_180 e fun e => op_5 e fun e => op_108 e fun e => (op_172 e fun _ => True.intro).1
theorem dX4_need_0 : decode cX4_need 0 = .ok (.aload_n 0, 1) := bl_dX4_need_0.1
theorem dX4_need_1 : decode cX4_need 1 = .ok (.getfield 9, 3) := bl_dX4_need_0.2.1
theorem dX4_need_4 : decode cX4_need 4 = .ok (.iconst 2, 1) := bl_dX4_need_0.2.2.1
theorem dX4_need_5 : decode cX4_need 5 = .ok (.idiv, 1) := bl_dX4_need_0.2.2.2.1
theorem dX4_need_6 : decode cX4_need 6 = .ok (.ireturn, 1) := bl_dX4_need_0.2.2.2.2
set_option maxRecDepth 20000 in
theorem ggX5_init_X1_init : GoodIn wsX5_init wsX1_init := goodIn_q _ [(12, 2), (2, 2), (14, 9)] rfl gdwsX1_init
set_option maxRecDepth 20000 in
theorem gX5_init_X1_init : GoodIn wsX5_init (wsX1_init) := ggX5_init_X1_init
theorem lk_dX5_init_0 : th_dr cX5_init 0 = 42 :: 183 :: 0 :: 3 :: 42 :: 187 :: 0 :: 9 :: 89 :: 183 :: 0 :: 11 :: 181 :: 0 :: 12 :: 42 :: 3 :: 181 :: 0 :: 18 :: 42 :: 43 :: 181 :: 0 :: 22 :: 177 :: th_dr cX5_init 26 := rfl
theorem bl_dX5_init_0 : decode cX5_init 0 = .ok (.aload_n 0, 1) ∧ decode cX5_init 1 = .ok (.invokespecial 3, 3) ∧ decode cX5_init 4 = .ok (.aload_n 0, 1) ∧ decode cX5_init 5 = .ok (.new 9, 3) ∧ decode cX5_init 8 = .ok (.dup, 1) ∧ decode cX5_init 9 = .ok (.invokespecial 11, 3) ∧ decode cX5_init 12 = .ok (.putfield 12, 3) ∧ decode cX5_init 15 = .ok (.aload_n 0, 1) ∧ decode cX5_init 16 = .ok (.iconst 0, 1) ∧ decode cX5_init 17 = .ok (.putfield 18, 3) ∧ decode cX5_init 20 = .ok (.aload_n 0, 1) ∧ decode cX5_init 21 = .ok (.aload_n 1, 1) ∧ decode cX5_init 22 = .ok (.putfield 22, 3) ∧ decode cX5_init 25 = .ok (.return_, 1) := op_42 lk_dX5_init_0 fun e => op_183 e fun e => op_42 e fun e => op_187 e fun e => op_89 e fun e => op_183 e fun e => op_181 e fun e => op_42 e fun e => op_3 e fun e => op_181 e fun e => op_42 e fun e => op_43 e fun e => op_181 e fun e => (op_177 e fun _ => True.intro).1
theorem dX5_init_0 : decode cX5_init 0 = .ok (.aload_n 0, 1) := bl_dX5_init_0.1
theorem dX5_init_1 : decode cX5_init 1 = .ok (.invokespecial 3, 3) := bl_dX5_init_0.2.1
theorem dX5_init_4 : decode cX5_init 4 = .ok (.aload_n 0, 1) := bl_dX5_init_0.2.2.1
theorem dX5_init_5 : decode cX5_init 5 = .ok (.new 9, 3) := bl_dX5_init_0.2.2.2.1
theorem dX5_init_8 : decode cX5_init 8 = .ok (.dup, 1) := bl_dX5_init_0.2.2.2.2.1
theorem dX5_init_9 : decode cX5_init 9 = .ok (.invokespecial 11, 3) := bl_dX5_init_0.2.2.2.2.2.1
theorem dX5_init_12 : decode cX5_init 12 = .ok (.putfield 12, 3) := bl_dX5_init_0.2.2.2.2.2.2.1
theorem dX5_init_15 : decode cX5_init 15 = .ok (.aload_n 0, 1) := bl_dX5_init_0.2.2.2.2.2.2.2.1
theorem dX5_init_16 : decode cX5_init 16 = .ok (.iconst 0, 1) := bl_dX5_init_0.2.2.2.2.2.2.2.2.1
theorem dX5_init_17 : decode cX5_init 17 = .ok (.putfield 18, 3) := bl_dX5_init_0.2.2.2.2.2.2.2.2.2.1
theorem dX5_init_20 : decode cX5_init 20 = .ok (.aload_n 0, 1) := bl_dX5_init_0.2.2.2.2.2.2.2.2.2.2.1
theorem dX5_init_21 : decode cX5_init 21 = .ok (.aload_n 1, 1) := bl_dX5_init_0.2.2.2.2.2.2.2.2.2.2.2.1
theorem dX5_init_22 : decode cX5_init 22 = .ok (.putfield 22, 3) := bl_dX5_init_0.2.2.2.2.2.2.2.2.2.2.2.2.1
theorem dX5_init_25 : decode cX5_init 25 = .ok (.return_, 1) := bl_dX5_init_0.2.2.2.2.2.2.2.2.2.2.2.2.2
set_option maxRecDepth 20000 in
theorem gdwsX1_copyFrom : wsX1_copyFrom.all goodWord = true := by decide +kernel
set_option maxRecDepth 20000 in
theorem ggX5_blow_X1_copyFrom : GoodIn wsX5_blow wsX1_copyFrom := goodIn_q _ [(10, 7), (155, 2)] rfl gdwsX1_copyFrom
set_option maxRecDepth 20000 in
theorem gX5_blow_X1_copyFrom : GoodIn wsX5_blow (wsV RX5 29 RX1 yX1_copyFrom wsX1_copyFrom) := goodIn_app (goodIn_q _ [(6, 4)] rfl rfl) ggX5_blow_X1_copyFrom
set_option maxRecDepth 20000 in
theorem ggX5_blow_X0_boatAt : GoodIn wsX5_blow wsX0_boatAt := goodIn_q _ [(21, 6), (146, 9)] rfl gdwsX0_boatAt
set_option maxRecDepth 20000 in
theorem gX5_blow_X0_boatAt : GoodIn wsX5_blow (wsV RX5 36 RX0 yX0_boatAt wsX0_boatAt) := goodIn_app (goodIn_q _ [(17, 4)] rfl rfl) ggX5_blow_X0_boatAt
set_option maxRecDepth 20000 in
theorem ggX5_blow_X1_buoyOf : GoodIn wsX5_blow wsX1_buoyOf := goodIn_q _ [(30, 1), (11, 1), (24, 3), (155, 2)] rfl gdwsX1_buoyOf
set_option maxRecDepth 20000 in
theorem gX5_blow_X1_buoyOf : GoodIn wsX5_blow (wsV RX5 40 RX1 yX1_buoyOf wsX1_buoyOf) := goodIn_app (goodIn_q _ [(27, 3), (9, 1)] rfl rfl) ggX5_blow_X1_buoyOf
set_option maxRecDepth 20000 in
theorem ggX5_blow_X0_buoyAt : GoodIn wsX5_blow wsX0_buoyAt := goodIn_q _ [(34, 3), (24, 3), (146, 9)] rfl gdwsX0_buoyAt
set_option maxRecDepth 20000 in
theorem gX5_blow_X0_buoyAt : GoodIn wsX5_blow (wsV RX5 44 RX0 yX0_buoyAt wsX0_buoyAt) := goodIn_app (goodIn_q _ [(31, 3), (20, 1)] rfl rfl) ggX5_blow_X0_buoyAt
set_option maxRecDepth 20000 in
theorem gdwsX3_holds : wsX3_holds.all goodWord = true := by decide +kernel
set_option maxRecDepth 20000 in
theorem ggX5_blow_X3_holds : GoodIn wsX5_blow wsX3_holds := goodIn_q _ [(41, 3), (157, 26)] rfl gdwsX3_holds
set_option maxRecDepth 20000 in
theorem gX5_blow_X3_holds : GoodIn wsX5_blow (wsV RX5 48 RX3 yX3_holds wsX3_holds) := goodIn_app (goodIn_q _ [(37, 4)] rfl rfl) ggX5_blow_X3_holds
set_option maxRecDepth 20000 in
theorem gdwsX5_refugeOf : wsX5_refugeOf.all goodWord = true := by decide +kernel
set_option maxRecDepth 20000 in
theorem ggX5_blow_X5_refugeOf : GoodIn wsX5_blow wsX5_refugeOf := goodIn_q _ [(48, 1), (2, 1), (49, 1), (1, 1), (31, 3), (20, 1), (34, 3), (24, 3), (37, 7), (50, 5), (22, 1), (55, 4), (9, 1), (59, 1), (16, 1), (60, 24), (18, 2), (21, 1), (23, 1), (84, 1), (28, 3), (11, 1), (85, 49), (143, 12), (157, 26), (155, 2)] rfl gdwsX5_refugeOf
set_option maxRecDepth 20000 in
theorem gX5_blow_X5_refugeOf : GoodIn wsX5_blow (wsV RX5 54 RX5 yX5_refugeOf wsX5_refugeOf) := goodIn_app (goodIn_q _ [(44, 4)] rfl rfl) ggX5_blow_X5_refugeOf
set_option maxRecDepth 20000 in
theorem gdwsX1_lift : wsX1_lift.all goodWord = true := by decide +kernel
set_option maxRecDepth 20000 in
theorem ggX5_blow_X1_lift : GoodIn wsX5_blow wsX1_lift := goodIn_q _ [(137, 1), (16, 1), (11, 1), (138, 1), (28, 2), (9, 1), (30, 1), (24, 3), (155, 2)] rfl gdwsX1_lift
set_option maxRecDepth 20000 in
theorem gX5_blow_X1_lift : GoodIn wsX5_blow (wsV RX5 58 RX1 yX1_lift wsX1_lift) := goodIn_app (goodIn_q _ [(134, 3), (9, 1)] rfl rfl) ggX5_blow_X1_lift
set_option maxRecDepth 20000 in
theorem gdwsX1_put : wsX1_put.all goodWord = true := by decide +kernel
set_option maxRecDepth 20000 in
theorem ggX5_blow_X1_put : GoodIn wsX5_blow wsX1_put := goodIn_q _ [(142, 1), (11, 1), (16, 1), (24, 3), (155, 2)] rfl gdwsX1_put
set_option maxRecDepth 20000 in
theorem gX5_blow_X1_put : GoodIn wsX5_blow (wsV RX5 62 RX1 yX1_put wsX1_put) := goodIn_app (goodIn_q _ [(139, 3), (9, 1)] rfl rfl) ggX5_blow_X1_put
theorem lk_dX5_blow_0 : th_dr cX5_blow 0 = 42 :: 180 :: 0 :: 12 :: 42 :: 180 :: 0 :: 22 :: 180 :: 0 :: 26 :: 182 :: 0 :: 29 :: 42 :: 3 :: 181 :: 0 :: 18 :: 3 :: 61 :: 28 :: 42 :: 180 :: 0 :: 22 :: 180 :: 0 :: 33 :: 162 :: 0 :: 90 :: th_dr cX5_blow 32 := rfl
theorem bl_dX5_blow_0 : decode cX5_blow 0 = .ok (.aload_n 0, 1) ∧ decode cX5_blow 1 = .ok (.getfield 12, 3) ∧ decode cX5_blow 4 = .ok (.aload_n 0, 1) ∧ decode cX5_blow 5 = .ok (.getfield 22, 3) ∧ decode cX5_blow 8 = .ok (.getfield 26, 3) ∧ decode cX5_blow 11 = .ok (.invokevirtual 29, 3) ∧ decode cX5_blow 14 = .ok (.aload_n 0, 1) ∧ decode cX5_blow 15 = .ok (.iconst 0, 1) ∧ decode cX5_blow 16 = .ok (.putfield 18, 3) ∧ decode cX5_blow 19 = .ok (.iconst 0, 1) ∧ decode cX5_blow 20 = .ok (.istore_n 2, 1) ∧ decode cX5_blow 21 = .ok (.iload_n 2, 1) ∧ decode cX5_blow 22 = .ok (.aload_n 0, 1) ∧ decode cX5_blow 23 = .ok (.getfield 22, 3) ∧ decode cX5_blow 26 = .ok (.getfield 33, 3) ∧ decode cX5_blow 29 = .ok (.if_icmp .ge 90, 3) := op_42 lk_dX5_blow_0 fun e => op_180 e fun e => op_42 e fun e => op_180 e fun e => op_180 e fun e => op_182 e fun e => op_42 e fun e => op_3 e fun e => op_181 e fun e => op_3 e fun e => op_61 e fun e => op_28 e fun e => op_42 e fun e => op_180 e fun e => op_180 e fun e => (op_162p e rfl fun _ => True.intro).1
theorem dX5_blow_0 : decode cX5_blow 0 = .ok (.aload_n 0, 1) := bl_dX5_blow_0.1
theorem dX5_blow_1 : decode cX5_blow 1 = .ok (.getfield 12, 3) := bl_dX5_blow_0.2.1
theorem dX5_blow_4 : decode cX5_blow 4 = .ok (.aload_n 0, 1) := bl_dX5_blow_0.2.2.1
theorem dX5_blow_5 : decode cX5_blow 5 = .ok (.getfield 22, 3) := bl_dX5_blow_0.2.2.2.1
theorem dX5_blow_8 : decode cX5_blow 8 = .ok (.getfield 26, 3) := bl_dX5_blow_0.2.2.2.2.1
theorem dX5_blow_11 : decode cX5_blow 11 = .ok (.invokevirtual 29, 3) := bl_dX5_blow_0.2.2.2.2.2.1
theorem dX5_blow_14 : decode cX5_blow 14 = .ok (.aload_n 0, 1) := bl_dX5_blow_0.2.2.2.2.2.2.1
theorem dX5_blow_15 : decode cX5_blow 15 = .ok (.iconst 0, 1) := bl_dX5_blow_0.2.2.2.2.2.2.2.1
theorem dX5_blow_16 : decode cX5_blow 16 = .ok (.putfield 18, 3) := bl_dX5_blow_0.2.2.2.2.2.2.2.2.1
theorem dX5_blow_19 : decode cX5_blow 19 = .ok (.iconst 0, 1) := bl_dX5_blow_0.2.2.2.2.2.2.2.2.2.1
theorem dX5_blow_20 : decode cX5_blow 20 = .ok (.istore_n 2, 1) := bl_dX5_blow_0.2.2.2.2.2.2.2.2.2.2.1
theorem dX5_blow_21 : decode cX5_blow 21 = .ok (.iload_n 2, 1) := bl_dX5_blow_0.2.2.2.2.2.2.2.2.2.2.2.1
theorem dX5_blow_22 : decode cX5_blow 22 = .ok (.aload_n 0, 1) := bl_dX5_blow_0.2.2.2.2.2.2.2.2.2.2.2.2.1
theorem dX5_blow_23 : decode cX5_blow 23 = .ok (.getfield 22, 3) := bl_dX5_blow_0.2.2.2.2.2.2.2.2.2.2.2.2.2.1
theorem dX5_blow_26 : decode cX5_blow 26 = .ok (.getfield 33, 3) := bl_dX5_blow_0.2.2.2.2.2.2.2.2.2.2.2.2.2.2.1
theorem dX5_blow_29 : decode cX5_blow 29 = .ok (.if_icmp .ge 90, 3) := bl_dX5_blow_0.2.2.2.2.2.2.2.2.2.2.2.2.2.2.2
set_option maxRecDepth 20000 in
theorem lk_dX5_blow_32 : th_dr cX5_blow 32 = 42 :: 180 :: 0 :: 22 :: 28 :: 182 :: 0 :: 36 :: 78 :: 42 :: 180 :: 0 :: 22 :: 42 :: 180 :: 0 :: 12 :: 28 :: 182 :: 0 :: 40 :: 182 :: 0 :: 44 :: 58 :: 4 :: 45 :: 198 :: 0 :: 54 :: 25 :: 4 :: th_dr cX5_blow 64 := rfl
theorem bl_dX5_blow_32 : decode cX5_blow 32 = .ok (.aload_n 0, 1) ∧ decode cX5_blow 33 = .ok (.getfield 22, 3) ∧ decode cX5_blow 36 = .ok (.iload_n 2, 1) ∧ decode cX5_blow 37 = .ok (.invokevirtual 36, 3) ∧ decode cX5_blow 40 = .ok (.astore_n 3, 1) ∧ decode cX5_blow 41 = .ok (.aload_n 0, 1) ∧ decode cX5_blow 42 = .ok (.getfield 22, 3) ∧ decode cX5_blow 45 = .ok (.aload_n 0, 1) ∧ decode cX5_blow 46 = .ok (.getfield 12, 3) ∧ decode cX5_blow 49 = .ok (.iload_n 2, 1) ∧ decode cX5_blow 50 = .ok (.invokevirtual 40, 3) ∧ decode cX5_blow 53 = .ok (.invokevirtual 44, 3) ∧ decode cX5_blow 56 = .ok (.astore 4, 2) ∧ decode cX5_blow 58 = .ok (.aload_n 3, 1) ∧ decode cX5_blow 59 = .ok (.ifnull 54, 3) ∧ decode cX5_blow 62 = .ok (.aload 4, 2) := op_42 lk_dX5_blow_32 fun e => op_180 e fun e => op_28 e fun e => op_182 e fun e => op_78 e fun e => op_42 e fun e => op_180 e fun e => op_42 e fun e => op_180 e fun e => op_28 e fun e => op_182 e fun e => op_182 e fun e => op_58 e fun e => op_45 e fun e => op_198p e rfl fun e => (op_25 e fun _ => True.intro).1
theorem dX5_blow_32 : decode cX5_blow 32 = .ok (.aload_n 0, 1) := bl_dX5_blow_32.1
theorem dX5_blow_33 : decode cX5_blow 33 = .ok (.getfield 22, 3) := bl_dX5_blow_32.2.1
theorem dX5_blow_36 : decode cX5_blow 36 = .ok (.iload_n 2, 1) := bl_dX5_blow_32.2.2.1
theorem dX5_blow_37 : decode cX5_blow 37 = .ok (.invokevirtual 36, 3) := bl_dX5_blow_32.2.2.2.1
theorem dX5_blow_40 : decode cX5_blow 40 = .ok (.astore_n 3, 1) := bl_dX5_blow_32.2.2.2.2.1
theorem dX5_blow_41 : decode cX5_blow 41 = .ok (.aload_n 0, 1) := bl_dX5_blow_32.2.2.2.2.2.1
theorem dX5_blow_42 : decode cX5_blow 42 = .ok (.getfield 22, 3) := bl_dX5_blow_32.2.2.2.2.2.2.1
theorem dX5_blow_45 : decode cX5_blow 45 = .ok (.aload_n 0, 1) := bl_dX5_blow_32.2.2.2.2.2.2.2.1
theorem dX5_blow_46 : decode cX5_blow 46 = .ok (.getfield 12, 3) := bl_dX5_blow_32.2.2.2.2.2.2.2.2.1
theorem dX5_blow_49 : decode cX5_blow 49 = .ok (.iload_n 2, 1) := bl_dX5_blow_32.2.2.2.2.2.2.2.2.2.1
theorem dX5_blow_50 : decode cX5_blow 50 = .ok (.invokevirtual 40, 3) := bl_dX5_blow_32.2.2.2.2.2.2.2.2.2.2.1
theorem dX5_blow_53 : decode cX5_blow 53 = .ok (.invokevirtual 44, 3) := bl_dX5_blow_32.2.2.2.2.2.2.2.2.2.2.2.1
theorem dX5_blow_56 : decode cX5_blow 56 = .ok (.astore 4, 2) := bl_dX5_blow_32.2.2.2.2.2.2.2.2.2.2.2.2.1
theorem dX5_blow_58 : decode cX5_blow 58 = .ok (.aload_n 3, 1) := bl_dX5_blow_32.2.2.2.2.2.2.2.2.2.2.2.2.2.1
theorem dX5_blow_59 : decode cX5_blow 59 = .ok (.ifnull 54, 3) := bl_dX5_blow_32.2.2.2.2.2.2.2.2.2.2.2.2.2.2.1
theorem dX5_blow_62 : decode cX5_blow 62 = .ok (.aload 4, 2) := bl_dX5_blow_32.2.2.2.2.2.2.2.2.2.2.2.2.2.2.2
set_option maxRecDepth 20000 in
theorem lk_dX5_blow_64 : th_dr cX5_blow 64 = 198 :: 0 :: 49 :: 25 :: 4 :: 45 :: 27 :: 182 :: 0 :: 48 :: 154 :: 0 :: 39 :: 42 :: 89 :: 180 :: 0 :: 18 :: 4 :: 96 :: 181 :: 0 :: 18 :: 42 :: 45 :: 27 :: 182 :: 0 :: 54 :: th_dr cX5_blow 93 := rfl
theorem bl_dX5_blow_64 : decode cX5_blow 64 = .ok (.ifnull 49, 3) ∧ decode cX5_blow 67 = .ok (.aload 4, 2) ∧ decode cX5_blow 69 = .ok (.aload_n 3, 1) ∧ decode cX5_blow 70 = .ok (.iload_n 1, 1) ∧ decode cX5_blow 71 = .ok (.invokevirtual 48, 3) ∧ decode cX5_blow 74 = .ok (.ifCond .ne 39, 3) ∧ decode cX5_blow 77 = .ok (.aload_n 0, 1) ∧ decode cX5_blow 78 = .ok (.dup, 1) ∧ decode cX5_blow 79 = .ok (.getfield 18, 3) ∧ decode cX5_blow 82 = .ok (.iconst 1, 1) ∧ decode cX5_blow 83 = .ok (.iadd, 1) ∧ decode cX5_blow 84 = .ok (.putfield 18, 3) ∧ decode cX5_blow 87 = .ok (.aload_n 0, 1) ∧ decode cX5_blow 88 = .ok (.aload_n 3, 1) ∧ decode cX5_blow 89 = .ok (.iload_n 1, 1) ∧ decode cX5_blow 90 = .ok (.invokevirtual 54, 3) := op_198p lk_dX5_blow_64 rfl fun e => op_25 e fun e => op_45 e fun e => op_27 e fun e => op_182 e fun e => op_154p e rfl fun e => op_42 e fun e => op_89 e fun e => op_180 e fun e => op_4 e fun e => op_96 e fun e => op_181 e fun e => op_42 e fun e => op_45 e fun e => op_27 e fun e => (op_182 e fun _ => True.intro).1
theorem dX5_blow_64 : decode cX5_blow 64 = .ok (.ifnull 49, 3) := bl_dX5_blow_64.1
theorem dX5_blow_67 : decode cX5_blow 67 = .ok (.aload 4, 2) := bl_dX5_blow_64.2.1
theorem dX5_blow_69 : decode cX5_blow 69 = .ok (.aload_n 3, 1) := bl_dX5_blow_64.2.2.1
theorem dX5_blow_70 : decode cX5_blow 70 = .ok (.iload_n 1, 1) := bl_dX5_blow_64.2.2.2.1
theorem dX5_blow_71 : decode cX5_blow 71 = .ok (.invokevirtual 48, 3) := bl_dX5_blow_64.2.2.2.2.1
theorem dX5_blow_74 : decode cX5_blow 74 = .ok (.ifCond .ne 39, 3) := bl_dX5_blow_64.2.2.2.2.2.1
theorem dX5_blow_77 : decode cX5_blow 77 = .ok (.aload_n 0, 1) := bl_dX5_blow_64.2.2.2.2.2.2.1
theorem dX5_blow_78 : decode cX5_blow 78 = .ok (.dup, 1) := bl_dX5_blow_64.2.2.2.2.2.2.2.1
theorem dX5_blow_79 : decode cX5_blow 79 = .ok (.getfield 18, 3) := bl_dX5_blow_64.2.2.2.2.2.2.2.2.1
theorem dX5_blow_82 : decode cX5_blow 82 = .ok (.iconst 1, 1) := bl_dX5_blow_64.2.2.2.2.2.2.2.2.2.1
theorem dX5_blow_83 : decode cX5_blow 83 = .ok (.iadd, 1) := bl_dX5_blow_64.2.2.2.2.2.2.2.2.2.2.1
theorem dX5_blow_84 : decode cX5_blow 84 = .ok (.putfield 18, 3) := bl_dX5_blow_64.2.2.2.2.2.2.2.2.2.2.2.1
theorem dX5_blow_87 : decode cX5_blow 87 = .ok (.aload_n 0, 1) := bl_dX5_blow_64.2.2.2.2.2.2.2.2.2.2.2.2.1
theorem dX5_blow_88 : decode cX5_blow 88 = .ok (.aload_n 3, 1) := bl_dX5_blow_64.2.2.2.2.2.2.2.2.2.2.2.2.2.1
theorem dX5_blow_89 : decode cX5_blow 89 = .ok (.iload_n 1, 1) := bl_dX5_blow_64.2.2.2.2.2.2.2.2.2.2.2.2.2.2.1
theorem dX5_blow_90 : decode cX5_blow 90 = .ok (.invokevirtual 54, 3) := bl_dX5_blow_64.2.2.2.2.2.2.2.2.2.2.2.2.2.2.2
set_option maxRecDepth 20000 in
theorem lk_dX5_blow_93 : th_dr cX5_blow 93 = 54 :: 5 :: 42 :: 180 :: 0 :: 12 :: 28 :: 182 :: 0 :: 58 :: 42 :: 180 :: 0 :: 12 :: 28 :: 21 :: 5 :: 182 :: 0 :: 62 :: 132 :: 2 :: 1 :: 167 :: 255 :: 161 :: 177 :: th_dr cX5_blow 120 := rfl
theorem bl_dX5_blow_93 : decode cX5_blow 93 = .ok (.istore 5, 2) ∧ decode cX5_blow 95 = .ok (.aload_n 0, 1) ∧ decode cX5_blow 96 = .ok (.getfield 12, 3) ∧ decode cX5_blow 99 = .ok (.iload_n 2, 1) ∧ decode cX5_blow 100 = .ok (.invokevirtual 58, 3) ∧ decode cX5_blow 103 = .ok (.aload_n 0, 1) ∧ decode cX5_blow 104 = .ok (.getfield 12, 3) ∧ decode cX5_blow 107 = .ok (.iload_n 2, 1) ∧ decode cX5_blow 108 = .ok (.iload 5, 2) ∧ decode cX5_blow 110 = .ok (.invokevirtual 62, 3) ∧ decode cX5_blow 113 = .ok (.iinc 2 1, 3) ∧ decode cX5_blow 116 = .ok (.goto (-95), 3) ∧ decode cX5_blow 119 = .ok (.return_, 1) := op_54 lk_dX5_blow_93 fun e => op_42 e fun e => op_180 e fun e => op_28 e fun e => op_182 e fun e => op_42 e fun e => op_180 e fun e => op_28 e fun e => op_21 e fun e => op_182 e fun e => op_132p e rfl fun e => op_167n e rfl rfl fun e => (op_177 e fun _ => True.intro).1
theorem dX5_blow_93 : decode cX5_blow 93 = .ok (.istore 5, 2) := bl_dX5_blow_93.1
theorem dX5_blow_95 : decode cX5_blow 95 = .ok (.aload_n 0, 1) := bl_dX5_blow_93.2.1
theorem dX5_blow_96 : decode cX5_blow 96 = .ok (.getfield 12, 3) := bl_dX5_blow_93.2.2.1
theorem dX5_blow_99 : decode cX5_blow 99 = .ok (.iload_n 2, 1) := bl_dX5_blow_93.2.2.2.1
theorem dX5_blow_100 : decode cX5_blow 100 = .ok (.invokevirtual 58, 3) := bl_dX5_blow_93.2.2.2.2.1
theorem dX5_blow_103 : decode cX5_blow 103 = .ok (.aload_n 0, 1) := bl_dX5_blow_93.2.2.2.2.2.1
theorem dX5_blow_104 : decode cX5_blow 104 = .ok (.getfield 12, 3) := bl_dX5_blow_93.2.2.2.2.2.2.1
theorem dX5_blow_107 : decode cX5_blow 107 = .ok (.iload_n 2, 1) := bl_dX5_blow_93.2.2.2.2.2.2.2.1
theorem dX5_blow_108 : decode cX5_blow 108 = .ok (.iload 5, 2) := bl_dX5_blow_93.2.2.2.2.2.2.2.2.1
theorem dX5_blow_110 : decode cX5_blow 110 = .ok (.invokevirtual 62, 3) := bl_dX5_blow_93.2.2.2.2.2.2.2.2.2.1
theorem dX5_blow_113 : decode cX5_blow 113 = .ok (.iinc 2 1, 3) := bl_dX5_blow_93.2.2.2.2.2.2.2.2.2.2.1
theorem dX5_blow_116 : decode cX5_blow 116 = .ok (.goto (-95), 3) := bl_dX5_blow_93.2.2.2.2.2.2.2.2.2.2.2.1
theorem dX5_blow_119 : decode cX5_blow 119 = .ok (.return_, 1) := bl_dX5_blow_93.2.2.2.2.2.2.2.2.2.2.2.2
set_option maxRecDepth 20000 in
theorem ggX5_refugeOf_X0_buoyAt : GoodIn wsX5_refugeOf wsX0_buoyAt := goodIn_q _ [(8, 6), (119, 9)] rfl gdwsX0_buoyAt
set_option maxRecDepth 20000 in
theorem gX5_refugeOf_X0_buoyAt : GoodIn wsX5_refugeOf (wsV RX5 44 RX0 yX0_buoyAt wsX0_buoyAt) := goodIn_app (goodIn_q _ [(4, 4)] rfl rfl) ggX5_refugeOf_X0_buoyAt
set_option maxRecDepth 20000 in
theorem ggX5_refugeOf_X3_holds : GoodIn wsX5_refugeOf wsX3_holds := goodIn_q _ [(18, 3), (128, 26)] rfl gdwsX3_holds
set_option maxRecDepth 20000 in
theorem gX5_refugeOf_X3_holds : GoodIn wsX5_refugeOf (wsV RX5 48 RX3 yX3_holds wsX3_holds) := goodIn_app (goodIn_q _ [(14, 4)] rfl rfl) ggX5_refugeOf_X3_holds
set_option maxRecDepth 20000 in
theorem gdwsX0_mayLie : wsX0_mayLie.all goodWord = true := by decide +kernel
set_option maxRecDepth 20000 in
theorem ggX5_refugeOf_X0_mayLie : GoodIn wsX5_refugeOf wsX0_mayLie := goodIn_q _ [(24, 10), (11, 3), (34, 3), (7, 1), (37, 31), (5, 2), (8, 3), (68, 24), (17, 1), (92, 24), (128, 8), (119, 9), (136, 20)] rfl gdwsX0_mayLie
set_option maxRecDepth 20000 in
theorem gX5_refugeOf_X0_mayLie : GoodIn wsX5_refugeOf (wsV RX5 69 RX0 yX0_mayLie wsX0_mayLie) := goodIn_app (goodIn_q _ [(21, 3), (7, 1)] rfl rfl) ggX5_refugeOf_X0_mayLie
theorem lk_dX5_refugeOf_0 : th_dr cX5_refugeOf 0 = 3 :: 62 :: 29 :: 42 :: 180 :: 0 :: 22 :: 180 :: 0 :: 66 :: 162 :: 0 :: 53 :: 42 :: 180 :: 0 :: 22 :: 29 :: 182 :: 0 :: 44 :: 58 :: 4 :: 25 :: 4 :: 198 :: 0 :: 32 :: 25 :: 4 :: 43 :: th_dr cX5_refugeOf 31 := rfl
theorem bl_dX5_refugeOf_0 : decode cX5_refugeOf 0 = .ok (.iconst 0, 1) ∧ decode cX5_refugeOf 1 = .ok (.istore_n 3, 1) ∧ decode cX5_refugeOf 2 = .ok (.iload_n 3, 1) ∧ decode cX5_refugeOf 3 = .ok (.aload_n 0, 1) ∧ decode cX5_refugeOf 4 = .ok (.getfield 22, 3) ∧ decode cX5_refugeOf 7 = .ok (.getfield 66, 3) ∧ decode cX5_refugeOf 10 = .ok (.if_icmp .ge 53, 3) ∧ decode cX5_refugeOf 13 = .ok (.aload_n 0, 1) ∧ decode cX5_refugeOf 14 = .ok (.getfield 22, 3) ∧ decode cX5_refugeOf 17 = .ok (.iload_n 3, 1) ∧ decode cX5_refugeOf 18 = .ok (.invokevirtual 44, 3) ∧ decode cX5_refugeOf 21 = .ok (.astore 4, 2) ∧ decode cX5_refugeOf 23 = .ok (.aload 4, 2) ∧ decode cX5_refugeOf 25 = .ok (.ifnull 32, 3) ∧ decode cX5_refugeOf 28 = .ok (.aload 4, 2) ∧ decode cX5_refugeOf 30 = .ok (.aload_n 1, 1) := op_3 lk_dX5_refugeOf_0 fun e => op_62 e fun e => op_29 e fun e => op_42 e fun e => op_180 e fun e => op_180 e fun e => op_162p e rfl fun e => op_42 e fun e => op_180 e fun e => op_29 e fun e => op_182 e fun e => op_58 e fun e => op_25 e fun e => op_198p e rfl fun e => op_25 e fun e => (op_43 e fun _ => True.intro).1
theorem dX5_refugeOf_0 : decode cX5_refugeOf 0 = .ok (.iconst 0, 1) := bl_dX5_refugeOf_0.1
theorem dX5_refugeOf_1 : decode cX5_refugeOf 1 = .ok (.istore_n 3, 1) := bl_dX5_refugeOf_0.2.1
theorem dX5_refugeOf_2 : decode cX5_refugeOf 2 = .ok (.iload_n 3, 1) := bl_dX5_refugeOf_0.2.2.1
theorem dX5_refugeOf_3 : decode cX5_refugeOf 3 = .ok (.aload_n 0, 1) := bl_dX5_refugeOf_0.2.2.2.1
theorem dX5_refugeOf_4 : decode cX5_refugeOf 4 = .ok (.getfield 22, 3) := bl_dX5_refugeOf_0.2.2.2.2.1
theorem dX5_refugeOf_7 : decode cX5_refugeOf 7 = .ok (.getfield 66, 3) := bl_dX5_refugeOf_0.2.2.2.2.2.1
theorem dX5_refugeOf_10 : decode cX5_refugeOf 10 = .ok (.if_icmp .ge 53, 3) := bl_dX5_refugeOf_0.2.2.2.2.2.2.1
theorem dX5_refugeOf_13 : decode cX5_refugeOf 13 = .ok (.aload_n 0, 1) := bl_dX5_refugeOf_0.2.2.2.2.2.2.2.1
theorem dX5_refugeOf_14 : decode cX5_refugeOf 14 = .ok (.getfield 22, 3) := bl_dX5_refugeOf_0.2.2.2.2.2.2.2.2.1
theorem dX5_refugeOf_17 : decode cX5_refugeOf 17 = .ok (.iload_n 3, 1) := bl_dX5_refugeOf_0.2.2.2.2.2.2.2.2.2.1
theorem dX5_refugeOf_18 : decode cX5_refugeOf 18 = .ok (.invokevirtual 44, 3) := bl_dX5_refugeOf_0.2.2.2.2.2.2.2.2.2.2.1
theorem dX5_refugeOf_21 : decode cX5_refugeOf 21 = .ok (.astore 4, 2) := bl_dX5_refugeOf_0.2.2.2.2.2.2.2.2.2.2.2.1
theorem dX5_refugeOf_23 : decode cX5_refugeOf 23 = .ok (.aload 4, 2) := bl_dX5_refugeOf_0.2.2.2.2.2.2.2.2.2.2.2.2.1
theorem dX5_refugeOf_25 : decode cX5_refugeOf 25 = .ok (.ifnull 32, 3) := bl_dX5_refugeOf_0.2.2.2.2.2.2.2.2.2.2.2.2.2.1
theorem dX5_refugeOf_28 : decode cX5_refugeOf 28 = .ok (.aload 4, 2) := bl_dX5_refugeOf_0.2.2.2.2.2.2.2.2.2.2.2.2.2.2.1
theorem dX5_refugeOf_30 : decode cX5_refugeOf 30 = .ok (.aload_n 1, 1) := bl_dX5_refugeOf_0.2.2.2.2.2.2.2.2.2.2.2.2.2.2.2
set_option maxRecDepth 20000 in
theorem lk_dX5_refugeOf_31 : th_dr cX5_refugeOf 31 = 28 :: 182 :: 0 :: 48 :: 153 :: 0 :: 22 :: 42 :: 180 :: 0 :: 22 :: 43 :: 25 :: 4 :: 42 :: 180 :: 0 :: 12 :: 182 :: 0 :: 69 :: 153 :: 0 :: 5 :: 29 :: 172 :: 132 :: 3 :: 1 :: 167 :: 255 :: 198 :: 2 :: th_dr cX5_refugeOf 64 := rfl
theorem bl_dX5_refugeOf_31 : decode cX5_refugeOf 31 = .ok (.iload_n 2, 1) ∧ decode cX5_refugeOf 32 = .ok (.invokevirtual 48, 3) ∧ decode cX5_refugeOf 35 = .ok (.ifCond .eq 22, 3) ∧ decode cX5_refugeOf 38 = .ok (.aload_n 0, 1) ∧ decode cX5_refugeOf 39 = .ok (.getfield 22, 3) ∧ decode cX5_refugeOf 42 = .ok (.aload_n 1, 1) ∧ decode cX5_refugeOf 43 = .ok (.aload 4, 2) ∧ decode cX5_refugeOf 45 = .ok (.aload_n 0, 1) ∧ decode cX5_refugeOf 46 = .ok (.getfield 12, 3) ∧ decode cX5_refugeOf 49 = .ok (.invokevirtual 69, 3) ∧ decode cX5_refugeOf 52 = .ok (.ifCond .eq 5, 3) ∧ decode cX5_refugeOf 55 = .ok (.iload_n 3, 1) ∧ decode cX5_refugeOf 56 = .ok (.ireturn, 1) ∧ decode cX5_refugeOf 57 = .ok (.iinc 3 1, 3) ∧ decode cX5_refugeOf 60 = .ok (.goto (-58), 3) ∧ decode cX5_refugeOf 63 = .ok (.iconst (-1), 1) := op_28 lk_dX5_refugeOf_31 fun e => op_182 e fun e => op_153p e rfl fun e => op_42 e fun e => op_180 e fun e => op_43 e fun e => op_25 e fun e => op_42 e fun e => op_180 e fun e => op_182 e fun e => op_153p e rfl fun e => op_29 e fun e => op_172 e fun e => op_132p e rfl fun e => op_167n e rfl rfl fun e => (op_2 e fun _ => True.intro).1
theorem dX5_refugeOf_31 : decode cX5_refugeOf 31 = .ok (.iload_n 2, 1) := bl_dX5_refugeOf_31.1
theorem dX5_refugeOf_32 : decode cX5_refugeOf 32 = .ok (.invokevirtual 48, 3) := bl_dX5_refugeOf_31.2.1
theorem dX5_refugeOf_35 : decode cX5_refugeOf 35 = .ok (.ifCond .eq 22, 3) := bl_dX5_refugeOf_31.2.2.1
theorem dX5_refugeOf_38 : decode cX5_refugeOf 38 = .ok (.aload_n 0, 1) := bl_dX5_refugeOf_31.2.2.2.1
theorem dX5_refugeOf_39 : decode cX5_refugeOf 39 = .ok (.getfield 22, 3) := bl_dX5_refugeOf_31.2.2.2.2.1
theorem dX5_refugeOf_42 : decode cX5_refugeOf 42 = .ok (.aload_n 1, 1) := bl_dX5_refugeOf_31.2.2.2.2.2.1
theorem dX5_refugeOf_43 : decode cX5_refugeOf 43 = .ok (.aload 4, 2) := bl_dX5_refugeOf_31.2.2.2.2.2.2.1
theorem dX5_refugeOf_45 : decode cX5_refugeOf 45 = .ok (.aload_n 0, 1) := bl_dX5_refugeOf_31.2.2.2.2.2.2.2.1
theorem dX5_refugeOf_46 : decode cX5_refugeOf 46 = .ok (.getfield 12, 3) := bl_dX5_refugeOf_31.2.2.2.2.2.2.2.2.1
theorem dX5_refugeOf_49 : decode cX5_refugeOf 49 = .ok (.invokevirtual 69, 3) := bl_dX5_refugeOf_31.2.2.2.2.2.2.2.2.2.1
theorem dX5_refugeOf_52 : decode cX5_refugeOf 52 = .ok (.ifCond .eq 5, 3) := bl_dX5_refugeOf_31.2.2.2.2.2.2.2.2.2.2.1
theorem dX5_refugeOf_55 : decode cX5_refugeOf 55 = .ok (.iload_n 3, 1) := bl_dX5_refugeOf_31.2.2.2.2.2.2.2.2.2.2.2.1
theorem dX5_refugeOf_56 : decode cX5_refugeOf 56 = .ok (.ireturn, 1) := bl_dX5_refugeOf_31.2.2.2.2.2.2.2.2.2.2.2.2.1
theorem dX5_refugeOf_57 : decode cX5_refugeOf 57 = .ok (.iinc 3 1, 3) := bl_dX5_refugeOf_31.2.2.2.2.2.2.2.2.2.2.2.2.2.1
theorem dX5_refugeOf_60 : decode cX5_refugeOf 60 = .ok (.goto (-58), 3) := bl_dX5_refugeOf_31.2.2.2.2.2.2.2.2.2.2.2.2.2.2.1
theorem dX5_refugeOf_63 : decode cX5_refugeOf 63 = .ok (.iconst (-1), 1) := bl_dX5_refugeOf_31.2.2.2.2.2.2.2.2.2.2.2.2.2.2.2
set_option maxRecDepth 20000 in
theorem lk_dX5_refugeOf_64 : th_dr cX5_refugeOf 64 = 172 :: th_dr cX5_refugeOf 65 := rfl
theorem dX5_refugeOf_64 : decode cX5_refugeOf 64 = .ok (.ireturn, 1) := (op_172 lk_dX5_refugeOf_64 fun _ => True.intro).1
theorem lk_dX6_init_0 : th_dr cX6_init 0 = 42 :: 183 :: 0 :: 3 :: 42 :: 16 :: 16 :: 188 :: 10 :: 181 :: 0 :: 9 :: 42 :: 16 :: 16 :: 188 :: 10 :: 181 :: 0 :: 15 :: 42 :: 3 :: 181 :: 0 :: 18 :: 42 :: 43 :: 181 :: 0 :: 22 :: th_dr cX6_init 30 := rfl
theorem bl_dX6_init_0 : decode cX6_init 0 = .ok (.aload_n 0, 1) ∧ decode cX6_init 1 = .ok (.invokespecial 3, 3) ∧ decode cX6_init 4 = .ok (.aload_n 0, 1) ∧ decode cX6_init 5 = .ok (.bipush 16, 2) ∧ decode cX6_init 7 = .ok (.newarray .int, 2) ∧ decode cX6_init 9 = .ok (.putfield 9, 3) ∧ decode cX6_init 12 = .ok (.aload_n 0, 1) ∧ decode cX6_init 13 = .ok (.bipush 16, 2) ∧ decode cX6_init 15 = .ok (.newarray .int, 2) ∧ decode cX6_init 17 = .ok (.putfield 15, 3) ∧ decode cX6_init 20 = .ok (.aload_n 0, 1) ∧ decode cX6_init 21 = .ok (.iconst 0, 1) ∧ decode cX6_init 22 = .ok (.putfield 18, 3) ∧ decode cX6_init 25 = .ok (.aload_n 0, 1) ∧ decode cX6_init 26 = .ok (.aload_n 1, 1) ∧ decode cX6_init 27 = .ok (.putfield 22, 3) := op_42 lk_dX6_init_0 fun e => op_183 e fun e => op_42 e fun e => op_16p e rfl fun e => op_188_10 e fun e => op_181 e fun e => op_42 e fun e => op_16p e rfl fun e => op_188_10 e fun e => op_181 e fun e => op_42 e fun e => op_3 e fun e => op_181 e fun e => op_42 e fun e => op_43 e fun e => (op_181 e fun _ => True.intro).1
theorem dX6_init_0 : decode cX6_init 0 = .ok (.aload_n 0, 1) := bl_dX6_init_0.1
theorem dX6_init_1 : decode cX6_init 1 = .ok (.invokespecial 3, 3) := bl_dX6_init_0.2.1
theorem dX6_init_4 : decode cX6_init 4 = .ok (.aload_n 0, 1) := bl_dX6_init_0.2.2.1
theorem dX6_init_5 : decode cX6_init 5 = .ok (.bipush 16, 2) := bl_dX6_init_0.2.2.2.1
theorem dX6_init_7 : decode cX6_init 7 = .ok (.newarray .int, 2) := bl_dX6_init_0.2.2.2.2.1
theorem dX6_init_9 : decode cX6_init 9 = .ok (.putfield 9, 3) := bl_dX6_init_0.2.2.2.2.2.1
theorem dX6_init_12 : decode cX6_init 12 = .ok (.aload_n 0, 1) := bl_dX6_init_0.2.2.2.2.2.2.1
theorem dX6_init_13 : decode cX6_init 13 = .ok (.bipush 16, 2) := bl_dX6_init_0.2.2.2.2.2.2.2.1
theorem dX6_init_15 : decode cX6_init 15 = .ok (.newarray .int, 2) := bl_dX6_init_0.2.2.2.2.2.2.2.2.1
theorem dX6_init_17 : decode cX6_init 17 = .ok (.putfield 15, 3) := bl_dX6_init_0.2.2.2.2.2.2.2.2.2.1
theorem dX6_init_20 : decode cX6_init 20 = .ok (.aload_n 0, 1) := bl_dX6_init_0.2.2.2.2.2.2.2.2.2.2.1
theorem dX6_init_21 : decode cX6_init 21 = .ok (.iconst 0, 1) := bl_dX6_init_0.2.2.2.2.2.2.2.2.2.2.2.1
theorem dX6_init_22 : decode cX6_init 22 = .ok (.putfield 18, 3) := bl_dX6_init_0.2.2.2.2.2.2.2.2.2.2.2.2.1
theorem dX6_init_25 : decode cX6_init 25 = .ok (.aload_n 0, 1) := bl_dX6_init_0.2.2.2.2.2.2.2.2.2.2.2.2.2.1
theorem dX6_init_26 : decode cX6_init 26 = .ok (.aload_n 1, 1) := bl_dX6_init_0.2.2.2.2.2.2.2.2.2.2.2.2.2.2.1
theorem dX6_init_27 : decode cX6_init 27 = .ok (.putfield 22, 3) := bl_dX6_init_0.2.2.2.2.2.2.2.2.2.2.2.2.2.2.2
theorem lk_dX6_init_30 : th_dr cX6_init 30 = 177 :: th_dr cX6_init 31 := rfl
theorem dX6_init_30 : decode cX6_init 30 = .ok (.return_, 1) := (op_177 lk_dX6_init_30 fun _ => True.intro).1
set_option maxRecDepth 20000 in
theorem ggX6_buoyFor_X11_within : GoodIn wsX6_buoyFor wsX11_within := goodIn_q _ [(4, 1)] rfl gdwsX11_within
set_option maxRecDepth 20000 in
theorem gX6_buoyFor_X11_within_n26 : GoodIn wsX6_buoyFor (wsX11_within) := ggX6_buoyFor_X11_within
theorem lk_dX6_buoyFor_0 : th_dr cX6_buoyFor 0 = 27 :: 3 :: 16 :: 15 :: 184 :: 0 :: 26 :: 153 :: 0 :: 12 :: 42 :: 180 :: 0 :: 9 :: 27 :: 46 :: 167 :: 0 :: 4 :: 2 :: 172 :: th_dr cX6_buoyFor 21 := rfl
theorem bl_dX6_buoyFor_0 : decode cX6_buoyFor 0 = .ok (.iload_n 1, 1) ∧ decode cX6_buoyFor 1 = .ok (.iconst 0, 1) ∧ decode cX6_buoyFor 2 = .ok (.bipush 15, 2) ∧ decode cX6_buoyFor 4 = .ok (.invokestatic 26, 3) ∧ decode cX6_buoyFor 7 = .ok (.ifCond .eq 12, 3) ∧ decode cX6_buoyFor 10 = .ok (.aload_n 0, 1) ∧ decode cX6_buoyFor 11 = .ok (.getfield 9, 3) ∧ decode cX6_buoyFor 14 = .ok (.iload_n 1, 1) ∧ decode cX6_buoyFor 15 = .ok (.iaload, 1) ∧ decode cX6_buoyFor 16 = .ok (.goto 4, 3) ∧ decode cX6_buoyFor 19 = .ok (.iconst (-1), 1) ∧ decode cX6_buoyFor 20 = .ok (.ireturn, 1) := op_27 lk_dX6_buoyFor_0 fun e => op_3 e fun e => op_16p e rfl fun e => op_184 e fun e => op_153p e rfl fun e => op_42 e fun e => op_180 e fun e => op_27 e fun e => op_46 e fun e => op_167p e rfl fun e => op_2 e fun e => (op_172 e fun _ => True.intro).1
theorem dX6_buoyFor_0 : decode cX6_buoyFor 0 = .ok (.iload_n 1, 1) := bl_dX6_buoyFor_0.1
theorem dX6_buoyFor_1 : decode cX6_buoyFor 1 = .ok (.iconst 0, 1) := bl_dX6_buoyFor_0.2.1
theorem dX6_buoyFor_2 : decode cX6_buoyFor 2 = .ok (.bipush 15, 2) := bl_dX6_buoyFor_0.2.2.1
theorem dX6_buoyFor_4 : decode cX6_buoyFor 4 = .ok (.invokestatic 26, 3) := bl_dX6_buoyFor_0.2.2.2.1
theorem dX6_buoyFor_7 : decode cX6_buoyFor 7 = .ok (.ifCond .eq 12, 3) := bl_dX6_buoyFor_0.2.2.2.2.1
theorem dX6_buoyFor_10 : decode cX6_buoyFor 10 = .ok (.aload_n 0, 1) := bl_dX6_buoyFor_0.2.2.2.2.2.1
theorem dX6_buoyFor_11 : decode cX6_buoyFor 11 = .ok (.getfield 9, 3) := bl_dX6_buoyFor_0.2.2.2.2.2.2.1
theorem dX6_buoyFor_14 : decode cX6_buoyFor 14 = .ok (.iload_n 1, 1) := bl_dX6_buoyFor_0.2.2.2.2.2.2.2.1
theorem dX6_buoyFor_15 : decode cX6_buoyFor 15 = .ok (.iaload, 1) := bl_dX6_buoyFor_0.2.2.2.2.2.2.2.2.1
theorem dX6_buoyFor_16 : decode cX6_buoyFor 16 = .ok (.goto 4, 3) := bl_dX6_buoyFor_0.2.2.2.2.2.2.2.2.2.1
theorem dX6_buoyFor_19 : decode cX6_buoyFor 19 = .ok (.iconst (-1), 1) := bl_dX6_buoyFor_0.2.2.2.2.2.2.2.2.2.2.1
theorem dX6_buoyFor_20 : decode cX6_buoyFor 20 = .ok (.ireturn, 1) := bl_dX6_buoyFor_0.2.2.2.2.2.2.2.2.2.2.2
set_option maxRecDepth 20000 in
theorem ggX6_draw_X1_buoyOf : GoodIn wsX6_draw wsX1_buoyOf := goodIn_q _ [(10, 5), (111, 2)] rfl gdwsX1_buoyOf
set_option maxRecDepth 20000 in
theorem gX6_draw_X1_buoyOf : GoodIn wsX6_draw (wsV RX6 39 RX1 yX1_buoyOf wsX1_buoyOf) := goodIn_app (goodIn_q _ [(6, 4)] rfl rfl) ggX6_draw_X1_buoyOf
set_option maxRecDepth 20000 in
theorem gdwsX6_pointAll : wsX6_pointAll.all goodWord = true := by decide +kernel
set_option maxRecDepth 20000 in
theorem ggX6_draw_X6_pointAll : GoodIn wsX6_draw wsX6_pointAll := goodIn_q _ [(19, 1), (2, 2), (20, 4), (18, 1), (24, 1), (1, 1), (12, 3), (25, 12), (5, 1), (37, 21), (9, 1), (58, 24), (98, 13), (113, 26), (111, 2)] rfl gdwsX6_pointAll
set_option maxRecDepth 20000 in
theorem gX6_draw_X6_pointAll : GoodIn wsX6_draw (wsV RX6 45 RX6 yX6_pointAll wsX6_pointAll) := goodIn_app (goodIn_q _ [(15, 4)] rfl rfl) ggX6_draw_X6_pointAll
set_option maxRecDepth 20000 in
theorem gdwsX6_leastInRing : wsX6_leastInRing.all goodWord = true := by decide +kernel
set_option maxRecDepth 20000 in
theorem ggX6_draw_X6_leastInRing : GoodIn wsX6_draw wsX6_leastInRing := goodIn_q _ [(85, 1), (2, 2), (21, 3), (18, 1), (24, 1), (1, 1), (12, 3), (86, 8), (20, 1), (98, 13)] rfl gdwsX6_leastInRing
set_option maxRecDepth 20000 in
theorem gX6_draw_X6_leastInRing : GoodIn wsX6_draw (wsV RX6 48 RX6 yX6_leastInRing wsX6_leastInRing) := goodIn_app (goodIn_q _ [(82, 3), (18, 1)] rfl rfl) ggX6_draw_X6_leastInRing
set_option maxRecDepth 20000 in
theorem gdwsX6_takeRing : wsX6_takeRing.all goodWord = true := by decide +kernel
set_option maxRecDepth 20000 in
theorem ggX6_draw_X6_takeRing : GoodIn wsX6_draw wsX6_takeRing := goodIn_q _ [(97, 1), (1, 1), (4, 1), (2, 1), (5, 1), (20, 4), (18, 1), (24, 1), (12, 3), (6, 6), (98, 15)] rfl gdwsX6_takeRing
set_option maxRecDepth 20000 in
theorem gX6_draw_X6_takeRing : GoodIn wsX6_draw (wsV RX6 52 RX6 yX6_takeRing wsX6_takeRing) := goodIn_app (goodIn_q _ [(94, 3), (18, 1)] rfl rfl) ggX6_draw_X6_takeRing
theorem lk_dX6_draw_0 : th_dr cX6_draw 0 = 42 :: 3 :: 181 :: 0 :: 18 :: 3 :: 60 :: 27 :: 42 :: 180 :: 0 :: 22 :: 180 :: 0 :: 30 :: 162 :: 0 :: 48 :: 42 :: 180 :: 0 :: 9 :: 27 :: 42 :: 180 :: 0 :: 22 :: 180 :: 0 :: 35 :: th_dr cX6_draw 30 := rfl
theorem bl_dX6_draw_0 : decode cX6_draw 0 = .ok (.aload_n 0, 1) ∧ decode cX6_draw 1 = .ok (.iconst 0, 1) ∧ decode cX6_draw 2 = .ok (.putfield 18, 3) ∧ decode cX6_draw 5 = .ok (.iconst 0, 1) ∧ decode cX6_draw 6 = .ok (.istore_n 1, 1) ∧ decode cX6_draw 7 = .ok (.iload_n 1, 1) ∧ decode cX6_draw 8 = .ok (.aload_n 0, 1) ∧ decode cX6_draw 9 = .ok (.getfield 22, 3) ∧ decode cX6_draw 12 = .ok (.getfield 30, 3) ∧ decode cX6_draw 15 = .ok (.if_icmp .ge 48, 3) ∧ decode cX6_draw 18 = .ok (.aload_n 0, 1) ∧ decode cX6_draw 19 = .ok (.getfield 9, 3) ∧ decode cX6_draw 22 = .ok (.iload_n 1, 1) ∧ decode cX6_draw 23 = .ok (.aload_n 0, 1) ∧ decode cX6_draw 24 = .ok (.getfield 22, 3) ∧ decode cX6_draw 27 = .ok (.getfield 35, 3) := op_42 lk_dX6_draw_0 fun e => op_3 e fun e => op_181 e fun e => op_3 e fun e => op_60 e fun e => op_27 e fun e => op_42 e fun e => op_180 e fun e => op_180 e fun e => op_162p e rfl fun e => op_42 e fun e => op_180 e fun e => op_27 e fun e => op_42 e fun e => op_180 e fun e => (op_180 e fun _ => True.intro).1
theorem dX6_draw_0 : decode cX6_draw 0 = .ok (.aload_n 0, 1) := bl_dX6_draw_0.1
theorem dX6_draw_1 : decode cX6_draw 1 = .ok (.iconst 0, 1) := bl_dX6_draw_0.2.1
theorem dX6_draw_2 : decode cX6_draw 2 = .ok (.putfield 18, 3) := bl_dX6_draw_0.2.2.1
theorem dX6_draw_5 : decode cX6_draw 5 = .ok (.iconst 0, 1) := bl_dX6_draw_0.2.2.2.1
theorem dX6_draw_6 : decode cX6_draw 6 = .ok (.istore_n 1, 1) := bl_dX6_draw_0.2.2.2.2.1
theorem dX6_draw_7 : decode cX6_draw 7 = .ok (.iload_n 1, 1) := bl_dX6_draw_0.2.2.2.2.2.1
theorem dX6_draw_8 : decode cX6_draw 8 = .ok (.aload_n 0, 1) := bl_dX6_draw_0.2.2.2.2.2.2.1
theorem dX6_draw_9 : decode cX6_draw 9 = .ok (.getfield 22, 3) := bl_dX6_draw_0.2.2.2.2.2.2.2.1
theorem dX6_draw_12 : decode cX6_draw 12 = .ok (.getfield 30, 3) := bl_dX6_draw_0.2.2.2.2.2.2.2.2.1
theorem dX6_draw_15 : decode cX6_draw 15 = .ok (.if_icmp .ge 48, 3) := bl_dX6_draw_0.2.2.2.2.2.2.2.2.2.1
theorem dX6_draw_18 : decode cX6_draw 18 = .ok (.aload_n 0, 1) := bl_dX6_draw_0.2.2.2.2.2.2.2.2.2.2.1
theorem dX6_draw_19 : decode cX6_draw 19 = .ok (.getfield 9, 3) := bl_dX6_draw_0.2.2.2.2.2.2.2.2.2.2.2.1
theorem dX6_draw_22 : decode cX6_draw 22 = .ok (.iload_n 1, 1) := bl_dX6_draw_0.2.2.2.2.2.2.2.2.2.2.2.2.1
theorem dX6_draw_23 : decode cX6_draw 23 = .ok (.aload_n 0, 1) := bl_dX6_draw_0.2.2.2.2.2.2.2.2.2.2.2.2.2.1
theorem dX6_draw_24 : decode cX6_draw 24 = .ok (.getfield 22, 3) := bl_dX6_draw_0.2.2.2.2.2.2.2.2.2.2.2.2.2.2.1
theorem dX6_draw_27 : decode cX6_draw 27 = .ok (.getfield 35, 3) := bl_dX6_draw_0.2.2.2.2.2.2.2.2.2.2.2.2.2.2.2
theorem lk_dX6_draw_30 : th_dr cX6_draw 30 = 27 :: 182 :: 0 :: 39 :: 79 :: 42 :: 180 :: 0 :: 9 :: 27 :: 46 :: 2 :: 159 :: 0 :: 15 :: 42 :: 89 :: 180 :: 0 :: 18 :: 4 :: 27 :: 120 :: 128 :: th_dr cX6_draw 54 := rfl
theorem bl_dX6_draw_30 : decode cX6_draw 30 = .ok (.iload_n 1, 1) ∧ decode cX6_draw 31 = .ok (.invokevirtual 39, 3) ∧ decode cX6_draw 34 = .ok (.iastore, 1) ∧ decode cX6_draw 35 = .ok (.aload_n 0, 1) ∧ decode cX6_draw 36 = .ok (.getfield 9, 3) ∧ decode cX6_draw 39 = .ok (.iload_n 1, 1) ∧ decode cX6_draw 40 = .ok (.iaload, 1) ∧ decode cX6_draw 41 = .ok (.iconst (-1), 1) ∧ decode cX6_draw 42 = .ok (.if_icmp .eq 15, 3) ∧ decode cX6_draw 45 = .ok (.aload_n 0, 1) ∧ decode cX6_draw 46 = .ok (.dup, 1) ∧ decode cX6_draw 47 = .ok (.getfield 18, 3) ∧ decode cX6_draw 50 = .ok (.iconst 1, 1) ∧ decode cX6_draw 51 = .ok (.iload_n 1, 1) ∧ decode cX6_draw 52 = .ok (.ishl, 1) ∧ decode cX6_draw 53 = .ok (.ior, 1) := op_27 lk_dX6_draw_30 fun e => op_182 e fun e => op_79 e fun e => op_42 e fun e => op_180 e fun e => op_27 e fun e => op_46 e fun e => op_2 e fun e => op_159p e rfl fun e => op_42 e fun e => op_89 e fun e => op_180 e fun e => op_4 e fun e => op_27 e fun e => op_120 e fun e => (op_128 e fun _ => True.intro).1
theorem dX6_draw_30 : decode cX6_draw 30 = .ok (.iload_n 1, 1) := bl_dX6_draw_30.1
theorem dX6_draw_31 : decode cX6_draw 31 = .ok (.invokevirtual 39, 3) := bl_dX6_draw_30.2.1
theorem dX6_draw_34 : decode cX6_draw 34 = .ok (.iastore, 1) := bl_dX6_draw_30.2.2.1
theorem dX6_draw_35 : decode cX6_draw 35 = .ok (.aload_n 0, 1) := bl_dX6_draw_30.2.2.2.1
theorem dX6_draw_36 : decode cX6_draw 36 = .ok (.getfield 9, 3) := bl_dX6_draw_30.2.2.2.2.1
theorem dX6_draw_39 : decode cX6_draw 39 = .ok (.iload_n 1, 1) := bl_dX6_draw_30.2.2.2.2.2.1
theorem dX6_draw_40 : decode cX6_draw 40 = .ok (.iaload, 1) := bl_dX6_draw_30.2.2.2.2.2.2.1
theorem dX6_draw_41 : decode cX6_draw 41 = .ok (.iconst (-1), 1) := bl_dX6_draw_30.2.2.2.2.2.2.2.1
theorem dX6_draw_42 : decode cX6_draw 42 = .ok (.if_icmp .eq 15, 3) := bl_dX6_draw_30.2.2.2.2.2.2.2.2.1
theorem dX6_draw_45 : decode cX6_draw 45 = .ok (.aload_n 0, 1) := bl_dX6_draw_30.2.2.2.2.2.2.2.2.2.1
theorem dX6_draw_46 : decode cX6_draw 46 = .ok (.dup, 1) := bl_dX6_draw_30.2.2.2.2.2.2.2.2.2.2.1
theorem dX6_draw_47 : decode cX6_draw 47 = .ok (.getfield 18, 3) := bl_dX6_draw_30.2.2.2.2.2.2.2.2.2.2.2.1
theorem dX6_draw_50 : decode cX6_draw 50 = .ok (.iconst 1, 1) := bl_dX6_draw_30.2.2.2.2.2.2.2.2.2.2.2.2.1
theorem dX6_draw_51 : decode cX6_draw 51 = .ok (.iload_n 1, 1) := bl_dX6_draw_30.2.2.2.2.2.2.2.2.2.2.2.2.2.1
theorem dX6_draw_52 : decode cX6_draw 52 = .ok (.ishl, 1) := bl_dX6_draw_30.2.2.2.2.2.2.2.2.2.2.2.2.2.2.1
theorem dX6_draw_53 : decode cX6_draw 53 = .ok (.ior, 1) := bl_dX6_draw_30.2.2.2.2.2.2.2.2.2.2.2.2.2.2.2
set_option maxRecDepth 20000 in
theorem lk_dX6_draw_54 : th_dr cX6_draw 54 = 181 :: 0 :: 18 :: 132 :: 1 :: 1 :: 167 :: 255 :: 203 :: 3 :: 60 :: 27 :: 16 :: 16 :: 162 :: 0 :: 28 :: 42 :: 180 :: 0 :: 18 :: 153 :: 0 :: 21 :: 42 :: 182 :: 0 :: 45 :: 42 :: 42 :: 182 :: 0 :: 48 :: th_dr cX6_draw 87 := rfl
theorem bl_dX6_draw_54 : decode cX6_draw 54 = .ok (.putfield 18, 3) ∧ decode cX6_draw 57 = .ok (.iinc 1 1, 3) ∧ decode cX6_draw 60 = .ok (.goto (-53), 3) ∧ decode cX6_draw 63 = .ok (.iconst 0, 1) ∧ decode cX6_draw 64 = .ok (.istore_n 1, 1) ∧ decode cX6_draw 65 = .ok (.iload_n 1, 1) ∧ decode cX6_draw 66 = .ok (.bipush 16, 2) ∧ decode cX6_draw 68 = .ok (.if_icmp .ge 28, 3) ∧ decode cX6_draw 71 = .ok (.aload_n 0, 1) ∧ decode cX6_draw 72 = .ok (.getfield 18, 3) ∧ decode cX6_draw 75 = .ok (.ifCond .eq 21, 3) ∧ decode cX6_draw 78 = .ok (.aload_n 0, 1) ∧ decode cX6_draw 79 = .ok (.invokevirtual 45, 3) ∧ decode cX6_draw 82 = .ok (.aload_n 0, 1) ∧ decode cX6_draw 83 = .ok (.aload_n 0, 1) ∧ decode cX6_draw 84 = .ok (.invokevirtual 48, 3) := op_181 lk_dX6_draw_54 fun e => op_132p e rfl fun e => op_167n e rfl rfl fun e => op_3 e fun e => op_60 e fun e => op_27 e fun e => op_16p e rfl fun e => op_162p e rfl fun e => op_42 e fun e => op_180 e fun e => op_153p e rfl fun e => op_42 e fun e => op_182 e fun e => op_42 e fun e => op_42 e fun e => (op_182 e fun _ => True.intro).1
theorem dX6_draw_54 : decode cX6_draw 54 = .ok (.putfield 18, 3) := bl_dX6_draw_54.1
theorem dX6_draw_57 : decode cX6_draw 57 = .ok (.iinc 1 1, 3) := bl_dX6_draw_54.2.1
theorem dX6_draw_60 : decode cX6_draw 60 = .ok (.goto (-53), 3) := bl_dX6_draw_54.2.2.1
theorem dX6_draw_63 : decode cX6_draw 63 = .ok (.iconst 0, 1) := bl_dX6_draw_54.2.2.2.1
theorem dX6_draw_64 : decode cX6_draw 64 = .ok (.istore_n 1, 1) := bl_dX6_draw_54.2.2.2.2.1
theorem dX6_draw_65 : decode cX6_draw 65 = .ok (.iload_n 1, 1) := bl_dX6_draw_54.2.2.2.2.2.1
theorem dX6_draw_66 : decode cX6_draw 66 = .ok (.bipush 16, 2) := bl_dX6_draw_54.2.2.2.2.2.2.1
theorem dX6_draw_68 : decode cX6_draw 68 = .ok (.if_icmp .ge 28, 3) := bl_dX6_draw_54.2.2.2.2.2.2.2.1
theorem dX6_draw_71 : decode cX6_draw 71 = .ok (.aload_n 0, 1) := bl_dX6_draw_54.2.2.2.2.2.2.2.2.1
theorem dX6_draw_72 : decode cX6_draw 72 = .ok (.getfield 18, 3) := bl_dX6_draw_54.2.2.2.2.2.2.2.2.2.1
theorem dX6_draw_75 : decode cX6_draw 75 = .ok (.ifCond .eq 21, 3) := bl_dX6_draw_54.2.2.2.2.2.2.2.2.2.2.1
theorem dX6_draw_78 : decode cX6_draw 78 = .ok (.aload_n 0, 1) := bl_dX6_draw_54.2.2.2.2.2.2.2.2.2.2.2.1
theorem dX6_draw_79 : decode cX6_draw 79 = .ok (.invokevirtual 45, 3) := bl_dX6_draw_54.2.2.2.2.2.2.2.2.2.2.2.2.1
theorem dX6_draw_82 : decode cX6_draw 82 = .ok (.aload_n 0, 1) := bl_dX6_draw_54.2.2.2.2.2.2.2.2.2.2.2.2.2.1
theorem dX6_draw_83 : decode cX6_draw 83 = .ok (.aload_n 0, 1) := bl_dX6_draw_54.2.2.2.2.2.2.2.2.2.2.2.2.2.2.1
theorem dX6_draw_84 : decode cX6_draw 84 = .ok (.invokevirtual 48, 3) := bl_dX6_draw_54.2.2.2.2.2.2.2.2.2.2.2.2.2.2.2
set_option maxRecDepth 20000 in
theorem lk_dX6_draw_87 : th_dr cX6_draw 87 = 182 :: 0 :: 52 :: 132 :: 1 :: 1 :: 167 :: 255 :: 228 :: 177 :: th_dr cX6_draw 97 := rfl
theorem bl_dX6_draw_87 : decode cX6_draw 87 = .ok (.invokevirtual 52, 3) ∧ decode cX6_draw 90 = .ok (.iinc 1 1, 3) ∧ decode cX6_draw 93 = .ok (.goto (-28), 3) ∧ decode cX6_draw 96 = .ok (.return_, 1) := op_182 lk_dX6_draw_87 fun e => op_132p e rfl fun e => op_167n e rfl rfl fun e => (op_177 e fun _ => True.intro).1
theorem dX6_draw_87 : decode cX6_draw 87 = .ok (.invokevirtual 52, 3) := bl_dX6_draw_87.1
theorem dX6_draw_90 : decode cX6_draw 90 = .ok (.iinc 1 1, 3) := bl_dX6_draw_87.2.1
theorem dX6_draw_93 : decode cX6_draw 93 = .ok (.goto (-28), 3) := bl_dX6_draw_87.2.2.1
theorem dX6_draw_96 : decode cX6_draw 96 = .ok (.return_, 1) := bl_dX6_draw_87.2.2.2
set_option maxRecDepth 20000 in
theorem ggX6_isLeft_X11_within : GoodIn wsX6_isLeft wsX11_within := goodIn_q _ [(4, 1)] rfl gdwsX11_within
set_option maxRecDepth 20000 in
theorem gX6_isLeft_X11_within_n26 : GoodIn wsX6_isLeft (wsX11_within) := ggX6_isLeft_X11_within
theorem lk_dX6_isLeft_0 : th_dr cX6_isLeft 0 = 27 :: 3 :: 16 :: 15 :: 184 :: 0 :: 26 :: 153 :: 0 :: 18 :: 42 :: 180 :: 0 :: 18 :: 27 :: 122 :: 4 :: 126 :: 153 :: 0 :: 7 :: 4 :: 167 :: 0 :: 4 :: 3 :: 172 :: th_dr cX6_isLeft 27 := rfl
theorem bl_dX6_isLeft_0 : decode cX6_isLeft 0 = .ok (.iload_n 1, 1) ∧ decode cX6_isLeft 1 = .ok (.iconst 0, 1) ∧ decode cX6_isLeft 2 = .ok (.bipush 15, 2) ∧ decode cX6_isLeft 4 = .ok (.invokestatic 26, 3) ∧ decode cX6_isLeft 7 = .ok (.ifCond .eq 18, 3) ∧ decode cX6_isLeft 10 = .ok (.aload_n 0, 1) ∧ decode cX6_isLeft 11 = .ok (.getfield 18, 3) ∧ decode cX6_isLeft 14 = .ok (.iload_n 1, 1) ∧ decode cX6_isLeft 15 = .ok (.ishr, 1) ∧ decode cX6_isLeft 16 = .ok (.iconst 1, 1) ∧ decode cX6_isLeft 17 = .ok (.iand, 1) ∧ decode cX6_isLeft 18 = .ok (.ifCond .eq 7, 3) ∧ decode cX6_isLeft 21 = .ok (.iconst 1, 1) ∧ decode cX6_isLeft 22 = .ok (.goto 4, 3) ∧ decode cX6_isLeft 25 = .ok (.iconst 0, 1) ∧ decode cX6_isLeft 26 = .ok (.ireturn, 1) := op_27 lk_dX6_isLeft_0 fun e => op_3 e fun e => op_16p e rfl fun e => op_184 e fun e => op_153p e rfl fun e => op_42 e fun e => op_180 e fun e => op_27 e fun e => op_122 e fun e => op_4 e fun e => op_126 e fun e => op_153p e rfl fun e => op_4 e fun e => op_167p e rfl fun e => op_3 e fun e => (op_172 e fun _ => True.intro).1
theorem dX6_isLeft_0 : decode cX6_isLeft 0 = .ok (.iload_n 1, 1) := bl_dX6_isLeft_0.1
theorem dX6_isLeft_1 : decode cX6_isLeft 1 = .ok (.iconst 0, 1) := bl_dX6_isLeft_0.2.1
theorem dX6_isLeft_2 : decode cX6_isLeft 2 = .ok (.bipush 15, 2) := bl_dX6_isLeft_0.2.2.1
theorem dX6_isLeft_4 : decode cX6_isLeft 4 = .ok (.invokestatic 26, 3) := bl_dX6_isLeft_0.2.2.2.1
theorem dX6_isLeft_7 : decode cX6_isLeft 7 = .ok (.ifCond .eq 18, 3) := bl_dX6_isLeft_0.2.2.2.2.1
theorem dX6_isLeft_10 : decode cX6_isLeft 10 = .ok (.aload_n 0, 1) := bl_dX6_isLeft_0.2.2.2.2.2.1
theorem dX6_isLeft_11 : decode cX6_isLeft 11 = .ok (.getfield 18, 3) := bl_dX6_isLeft_0.2.2.2.2.2.2.1
theorem dX6_isLeft_14 : decode cX6_isLeft 14 = .ok (.iload_n 1, 1) := bl_dX6_isLeft_0.2.2.2.2.2.2.2.1
theorem dX6_isLeft_15 : decode cX6_isLeft 15 = .ok (.ishr, 1) := bl_dX6_isLeft_0.2.2.2.2.2.2.2.2.1
theorem dX6_isLeft_16 : decode cX6_isLeft 16 = .ok (.iconst 1, 1) := bl_dX6_isLeft_0.2.2.2.2.2.2.2.2.2.1
theorem dX6_isLeft_17 : decode cX6_isLeft 17 = .ok (.iand, 1) := bl_dX6_isLeft_0.2.2.2.2.2.2.2.2.2.2.1
theorem dX6_isLeft_18 : decode cX6_isLeft 18 = .ok (.ifCond .eq 7, 3) := bl_dX6_isLeft_0.2.2.2.2.2.2.2.2.2.2.2.1
theorem dX6_isLeft_21 : decode cX6_isLeft 21 = .ok (.iconst 1, 1) := bl_dX6_isLeft_0.2.2.2.2.2.2.2.2.2.2.2.2.1
theorem dX6_isLeft_22 : decode cX6_isLeft 22 = .ok (.goto 4, 3) := bl_dX6_isLeft_0.2.2.2.2.2.2.2.2.2.2.2.2.2.1
theorem dX6_isLeft_25 : decode cX6_isLeft 25 = .ok (.iconst 0, 1) := bl_dX6_isLeft_0.2.2.2.2.2.2.2.2.2.2.2.2.2.2.1
theorem dX6_isLeft_26 : decode cX6_isLeft 26 = .ok (.ireturn, 1) := bl_dX6_isLeft_0.2.2.2.2.2.2.2.2.2.2.2.2.2.2.2
set_option maxRecDepth 20000 in
theorem ggX6_pointedAtBy_X11_within : GoodIn wsX6_pointedAtBy wsX11_within := goodIn_q _ [(4, 1)] rfl gdwsX11_within
set_option maxRecDepth 20000 in
theorem gX6_pointedAtBy_X11_within_n26 : GoodIn wsX6_pointedAtBy (wsX11_within) := ggX6_pointedAtBy_X11_within
theorem lk_dX6_pointedAtBy_0 : th_dr cX6_pointedAtBy 0 = 27 :: 3 :: 16 :: 15 :: 184 :: 0 :: 26 :: 153 :: 0 :: 12 :: 42 :: 180 :: 0 :: 15 :: 27 :: 46 :: 167 :: 0 :: 4 :: 2 :: 172 :: th_dr cX6_pointedAtBy 21 := rfl
theorem bl_dX6_pointedAtBy_0 : decode cX6_pointedAtBy 0 = .ok (.iload_n 1, 1) ∧ decode cX6_pointedAtBy 1 = .ok (.iconst 0, 1) ∧ decode cX6_pointedAtBy 2 = .ok (.bipush 15, 2) ∧ decode cX6_pointedAtBy 4 = .ok (.invokestatic 26, 3) ∧ decode cX6_pointedAtBy 7 = .ok (.ifCond .eq 12, 3) ∧ decode cX6_pointedAtBy 10 = .ok (.aload_n 0, 1) ∧ decode cX6_pointedAtBy 11 = .ok (.getfield 15, 3) ∧ decode cX6_pointedAtBy 14 = .ok (.iload_n 1, 1) ∧ decode cX6_pointedAtBy 15 = .ok (.iaload, 1) ∧ decode cX6_pointedAtBy 16 = .ok (.goto 4, 3) ∧ decode cX6_pointedAtBy 19 = .ok (.iconst (-1), 1) ∧ decode cX6_pointedAtBy 20 = .ok (.ireturn, 1) := op_27 lk_dX6_pointedAtBy_0 fun e => op_3 e fun e => op_16p e rfl fun e => op_184 e fun e => op_153p e rfl fun e => op_42 e fun e => op_180 e fun e => op_27 e fun e => op_46 e fun e => op_167p e rfl fun e => op_2 e fun e => (op_172 e fun _ => True.intro).1
theorem dX6_pointedAtBy_0 : decode cX6_pointedAtBy 0 = .ok (.iload_n 1, 1) := bl_dX6_pointedAtBy_0.1
theorem dX6_pointedAtBy_1 : decode cX6_pointedAtBy 1 = .ok (.iconst 0, 1) := bl_dX6_pointedAtBy_0.2.1
theorem dX6_pointedAtBy_2 : decode cX6_pointedAtBy 2 = .ok (.bipush 15, 2) := bl_dX6_pointedAtBy_0.2.2.1
theorem dX6_pointedAtBy_4 : decode cX6_pointedAtBy 4 = .ok (.invokestatic 26, 3) := bl_dX6_pointedAtBy_0.2.2.2.1
theorem dX6_pointedAtBy_7 : decode cX6_pointedAtBy 7 = .ok (.ifCond .eq 12, 3) := bl_dX6_pointedAtBy_0.2.2.2.2.1
theorem dX6_pointedAtBy_10 : decode cX6_pointedAtBy 10 = .ok (.aload_n 0, 1) := bl_dX6_pointedAtBy_0.2.2.2.2.2.1
theorem dX6_pointedAtBy_11 : decode cX6_pointedAtBy 11 = .ok (.getfield 15, 3) := bl_dX6_pointedAtBy_0.2.2.2.2.2.2.1
theorem dX6_pointedAtBy_14 : decode cX6_pointedAtBy 14 = .ok (.iload_n 1, 1) := bl_dX6_pointedAtBy_0.2.2.2.2.2.2.2.1
theorem dX6_pointedAtBy_15 : decode cX6_pointedAtBy 15 = .ok (.iaload, 1) := bl_dX6_pointedAtBy_0.2.2.2.2.2.2.2.2.1
theorem dX6_pointedAtBy_16 : decode cX6_pointedAtBy 16 = .ok (.goto 4, 3) := bl_dX6_pointedAtBy_0.2.2.2.2.2.2.2.2.2.1
theorem dX6_pointedAtBy_19 : decode cX6_pointedAtBy 19 = .ok (.iconst (-1), 1) := bl_dX6_pointedAtBy_0.2.2.2.2.2.2.2.2.2.2.1
theorem dX6_pointedAtBy_20 : decode cX6_pointedAtBy 20 = .ok (.ireturn, 1) := bl_dX6_pointedAtBy_0.2.2.2.2.2.2.2.2.2.2.2
set_option maxRecDepth 20000 in
theorem gdwsX6_isLeft : wsX6_isLeft.all goodWord = true := by decide +kernel
set_option maxRecDepth 20000 in
theorem ggX6_pointAll_X6_isLeft : GoodIn wsX6_pointAll wsX6_isLeft := goodIn_q _ [(8, 5), (72, 4)] rfl gdwsX6_isLeft
set_option maxRecDepth 20000 in
theorem gX6_pointAll_X6_isLeft : GoodIn wsX6_pointAll (wsV RX6 56 RX6 yX6_isLeft wsX6_isLeft) := goodIn_app (goodIn_q _ [(4, 4)] rfl rfl) ggX6_pointAll_X6_isLeft
set_option maxRecDepth 20000 in
theorem ggX6_pointAll_X0_boatAt : GoodIn wsX6_pointAll wsX0_boatAt := goodIn_q _ [(17, 3), (10, 3), (76, 9)] rfl gdwsX0_boatAt
set_option maxRecDepth 20000 in
theorem gX6_pointAll_X0_boatAt : GoodIn wsX6_pointAll (wsV RX6 60 RX0 yX0_boatAt wsX0_boatAt) := goodIn_app (goodIn_q _ [(13, 4)] rfl rfl) ggX6_pointAll_X0_boatAt
set_option maxRecDepth 20000 in
theorem gdwsX6_holderOfWish : wsX6_holderOfWish.all goodWord = true := by decide +kernel
set_option maxRecDepth 20000 in
theorem ggX6_pointAll_X6_holderOfWish : GoodIn wsX6_pointAll wsX6_holderOfWish := goodIn_q _ [(23, 2), (1, 1), (25, 11), (10, 3), (36, 5), (16, 1), (41, 9), (4, 6), (50, 22), (85, 18), (72, 13), (103, 10)] rfl gdwsX6_holderOfWish
set_option maxRecDepth 20000 in
theorem gX6_pointAll_X6_holderOfWish : GoodIn wsX6_pointAll (wsV RX6 64 RX6 yX6_holderOfWish wsX6_holderOfWish) := goodIn_app (goodIn_q _ [(20, 3), (7, 1)] rfl rfl) ggX6_pointAll_X6_holderOfWish
theorem lk_dX6_pointAll_0 : th_dr cX6_pointAll 0 = 3 :: 60 :: 27 :: 42 :: 180 :: 0 :: 22 :: 180 :: 0 :: 30 :: 162 :: 0 :: 45 :: 42 :: 27 :: 182 :: 0 :: 56 :: 153 :: 0 :: 14 :: 42 :: 180 :: 0 :: 22 :: 27 :: 182 :: 0 :: 60 :: 167 :: 0 :: 4 :: th_dr cX6_pointAll 32 := rfl
theorem bl_dX6_pointAll_0 : decode cX6_pointAll 0 = .ok (.iconst 0, 1) ∧ decode cX6_pointAll 1 = .ok (.istore_n 1, 1) ∧ decode cX6_pointAll 2 = .ok (.iload_n 1, 1) ∧ decode cX6_pointAll 3 = .ok (.aload_n 0, 1) ∧ decode cX6_pointAll 4 = .ok (.getfield 22, 3) ∧ decode cX6_pointAll 7 = .ok (.getfield 30, 3) ∧ decode cX6_pointAll 10 = .ok (.if_icmp .ge 45, 3) ∧ decode cX6_pointAll 13 = .ok (.aload_n 0, 1) ∧ decode cX6_pointAll 14 = .ok (.iload_n 1, 1) ∧ decode cX6_pointAll 15 = .ok (.invokevirtual 56, 3) ∧ decode cX6_pointAll 18 = .ok (.ifCond .eq 14, 3) ∧ decode cX6_pointAll 21 = .ok (.aload_n 0, 1) ∧ decode cX6_pointAll 22 = .ok (.getfield 22, 3) ∧ decode cX6_pointAll 25 = .ok (.iload_n 1, 1) ∧ decode cX6_pointAll 26 = .ok (.invokevirtual 60, 3) ∧ decode cX6_pointAll 29 = .ok (.goto 4, 3) := op_3 lk_dX6_pointAll_0 fun e => op_60 e fun e => op_27 e fun e => op_42 e fun e => op_180 e fun e => op_180 e fun e => op_162p e rfl fun e => op_42 e fun e => op_27 e fun e => op_182 e fun e => op_153p e rfl fun e => op_42 e fun e => op_180 e fun e => op_27 e fun e => op_182 e fun e => (op_167p e rfl fun _ => True.intro).1
theorem dX6_pointAll_0 : decode cX6_pointAll 0 = .ok (.iconst 0, 1) := bl_dX6_pointAll_0.1
theorem dX6_pointAll_1 : decode cX6_pointAll 1 = .ok (.istore_n 1, 1) := bl_dX6_pointAll_0.2.1
theorem dX6_pointAll_2 : decode cX6_pointAll 2 = .ok (.iload_n 1, 1) := bl_dX6_pointAll_0.2.2.1
theorem dX6_pointAll_3 : decode cX6_pointAll 3 = .ok (.aload_n 0, 1) := bl_dX6_pointAll_0.2.2.2.1
theorem dX6_pointAll_4 : decode cX6_pointAll 4 = .ok (.getfield 22, 3) := bl_dX6_pointAll_0.2.2.2.2.1
theorem dX6_pointAll_7 : decode cX6_pointAll 7 = .ok (.getfield 30, 3) := bl_dX6_pointAll_0.2.2.2.2.2.1
theorem dX6_pointAll_10 : decode cX6_pointAll 10 = .ok (.if_icmp .ge 45, 3) := bl_dX6_pointAll_0.2.2.2.2.2.2.1
theorem dX6_pointAll_13 : decode cX6_pointAll 13 = .ok (.aload_n 0, 1) := bl_dX6_pointAll_0.2.2.2.2.2.2.2.1
theorem dX6_pointAll_14 : decode cX6_pointAll 14 = .ok (.iload_n 1, 1) := bl_dX6_pointAll_0.2.2.2.2.2.2.2.2.1
theorem dX6_pointAll_15 : decode cX6_pointAll 15 = .ok (.invokevirtual 56, 3) := bl_dX6_pointAll_0.2.2.2.2.2.2.2.2.2.1
theorem dX6_pointAll_18 : decode cX6_pointAll 18 = .ok (.ifCond .eq 14, 3) := bl_dX6_pointAll_0.2.2.2.2.2.2.2.2.2.2.1
theorem dX6_pointAll_21 : decode cX6_pointAll 21 = .ok (.aload_n 0, 1) := bl_dX6_pointAll_0.2.2.2.2.2.2.2.2.2.2.2.1
theorem dX6_pointAll_22 : decode cX6_pointAll 22 = .ok (.getfield 22, 3) := bl_dX6_pointAll_0.2.2.2.2.2.2.2.2.2.2.2.2.1
theorem dX6_pointAll_25 : decode cX6_pointAll 25 = .ok (.iload_n 1, 1) := bl_dX6_pointAll_0.2.2.2.2.2.2.2.2.2.2.2.2.2.1
theorem dX6_pointAll_26 : decode cX6_pointAll 26 = .ok (.invokevirtual 60, 3) := bl_dX6_pointAll_0.2.2.2.2.2.2.2.2.2.2.2.2.2.2.1
theorem dX6_pointAll_29 : decode cX6_pointAll 29 = .ok (.goto 4, 3) := bl_dX6_pointAll_0.2.2.2.2.2.2.2.2.2.2.2.2.2.2.2
theorem lk_dX6_pointAll_32 : th_dr cX6_pointAll 32 = 1 :: 77 :: 44 :: 198 :: 0 :: 14 :: 42 :: 180 :: 0 :: 15 :: 27 :: 42 :: 44 :: 182 :: 0 :: 64 :: 79 :: 132 :: 1 :: 1 :: 167 :: 255 :: 206 :: 177 :: th_dr cX6_pointAll 56 := rfl
theorem bl_dX6_pointAll_32 : decode cX6_pointAll 32 = .ok (.aconst_null, 1) ∧ decode cX6_pointAll 33 = .ok (.astore_n 2, 1) ∧ decode cX6_pointAll 34 = .ok (.aload_n 2, 1) ∧ decode cX6_pointAll 35 = .ok (.ifnull 14, 3) ∧ decode cX6_pointAll 38 = .ok (.aload_n 0, 1) ∧ decode cX6_pointAll 39 = .ok (.getfield 15, 3) ∧ decode cX6_pointAll 42 = .ok (.iload_n 1, 1) ∧ decode cX6_pointAll 43 = .ok (.aload_n 0, 1) ∧ decode cX6_pointAll 44 = .ok (.aload_n 2, 1) ∧ decode cX6_pointAll 45 = .ok (.invokevirtual 64, 3) ∧ decode cX6_pointAll 48 = .ok (.iastore, 1) ∧ decode cX6_pointAll 49 = .ok (.iinc 1 1, 3) ∧ decode cX6_pointAll 52 = .ok (.goto (-50), 3) ∧ decode cX6_pointAll 55 = .ok (.return_, 1) := op_1 lk_dX6_pointAll_32 fun e => op_77 e fun e => op_44 e fun e => op_198p e rfl fun e => op_42 e fun e => op_180 e fun e => op_27 e fun e => op_42 e fun e => op_44 e fun e => op_182 e fun e => op_79 e fun e => op_132p e rfl fun e => op_167n e rfl rfl fun e => (op_177 e fun _ => True.intro).1
theorem dX6_pointAll_32 : decode cX6_pointAll 32 = .ok (.aconst_null, 1) := bl_dX6_pointAll_32.1
theorem dX6_pointAll_33 : decode cX6_pointAll 33 = .ok (.astore_n 2, 1) := bl_dX6_pointAll_32.2.1
theorem dX6_pointAll_34 : decode cX6_pointAll 34 = .ok (.aload_n 2, 1) := bl_dX6_pointAll_32.2.2.1
theorem dX6_pointAll_35 : decode cX6_pointAll 35 = .ok (.ifnull 14, 3) := bl_dX6_pointAll_32.2.2.2.1
theorem dX6_pointAll_38 : decode cX6_pointAll 38 = .ok (.aload_n 0, 1) := bl_dX6_pointAll_32.2.2.2.2.1
theorem dX6_pointAll_39 : decode cX6_pointAll 39 = .ok (.getfield 15, 3) := bl_dX6_pointAll_32.2.2.2.2.2.1
theorem dX6_pointAll_42 : decode cX6_pointAll 42 = .ok (.iload_n 1, 1) := bl_dX6_pointAll_32.2.2.2.2.2.2.1
theorem dX6_pointAll_43 : decode cX6_pointAll 43 = .ok (.aload_n 0, 1) := bl_dX6_pointAll_32.2.2.2.2.2.2.2.1
theorem dX6_pointAll_44 : decode cX6_pointAll 44 = .ok (.aload_n 2, 1) := bl_dX6_pointAll_32.2.2.2.2.2.2.2.2.1
theorem dX6_pointAll_45 : decode cX6_pointAll 45 = .ok (.invokevirtual 64, 3) := bl_dX6_pointAll_32.2.2.2.2.2.2.2.2.2.1
theorem dX6_pointAll_48 : decode cX6_pointAll 48 = .ok (.iastore, 1) := bl_dX6_pointAll_32.2.2.2.2.2.2.2.2.2.2.1
theorem dX6_pointAll_49 : decode cX6_pointAll 49 = .ok (.iinc 1 1, 3) := bl_dX6_pointAll_32.2.2.2.2.2.2.2.2.2.2.2.1
theorem dX6_pointAll_52 : decode cX6_pointAll 52 = .ok (.goto (-50), 3) := bl_dX6_pointAll_32.2.2.2.2.2.2.2.2.2.2.2.2.1
theorem dX6_pointAll_55 : decode cX6_pointAll 55 = .ok (.return_, 1) := bl_dX6_pointAll_32.2.2.2.2.2.2.2.2.2.2.2.2.2
set_option maxRecDepth 20000 in
theorem ggX6_holderOfWish_X2_wishAt : GoodIn wsX6_holderOfWish wsX2_wishAt := goodIn_q _ [(11, 6), (60, 18)] rfl gdwsX2_wishAt
set_option maxRecDepth 20000 in
theorem gX6_holderOfWish_X2_wishAt_u73X4 : GoodIn wsX6_holderOfWish (va_wsU RX6 73 RX4 "BayMoorings$Boat" ⟨"BayMoorings$Boat", "wishAt", "(I)I"⟩ yX2_wishAt wsX2_wishAt) := goodIn_app (goodIn_q _ [(6, 5)] rfl rfl) ggX6_holderOfWish_X2_wishAt
set_option maxRecDepth 20000 in
theorem gX6_holderOfWish_X2_wishAt_u73X8 : GoodIn wsX6_holderOfWish (va_wsU RX6 73 RX8 "BayMoorings$Boat" ⟨"BayMoorings$Boat", "wishAt", "(I)I"⟩ yX2_wishAt wsX2_wishAt) := goodIn_app (goodIn_q _ [(6, 2), (17, 1), (9, 2)] rfl rfl) ggX6_holderOfWish_X2_wishAt
set_option maxRecDepth 20000 in
theorem gX6_holderOfWish_X2_wishAt_u73X9 : GoodIn wsX6_holderOfWish (va_wsU RX6 73 RX9 "BayMoorings$Boat" ⟨"BayMoorings$Boat", "wishAt", "(I)I"⟩ yX2_wishAt wsX2_wishAt) := goodIn_app (goodIn_q _ [(6, 2), (18, 1), (9, 2)] rfl rfl) ggX6_holderOfWish_X2_wishAt
set_option maxRecDepth 20000 in
theorem ggX6_holderOfWish_X0_buoyAt : GoodIn wsX6_holderOfWish wsX0_buoyAt := goodIn_q _ [(23, 3), (14, 3), (82, 9)] rfl gdwsX0_buoyAt
set_option maxRecDepth 20000 in
theorem gX6_holderOfWish_X0_buoyAt : GoodIn wsX6_holderOfWish (wsV RX6 76 RX0 yX0_buoyAt wsX0_buoyAt) := goodIn_app (goodIn_q _ [(19, 4)] rfl rfl) ggX6_holderOfWish_X0_buoyAt
set_option maxRecDepth 20000 in
theorem ggX6_holderOfWish_X1_boatOf : GoodIn wsX6_holderOfWish wsX1_boatOf := goodIn_q _ [(30, 2), (14, 3), (99, 2)] rfl gdwsX1_boatOf
set_option maxRecDepth 20000 in
theorem gX6_holderOfWish_X1_boatOf : GoodIn wsX6_holderOfWish (wsV RX6 85 RX1 yX1_boatOf wsX1_boatOf) := goodIn_app (goodIn_q _ [(26, 4)] rfl rfl) ggX6_holderOfWish_X1_boatOf
set_option maxRecDepth 20000 in
theorem ggX6_holderOfWish_X6_isLeft : GoodIn wsX6_holderOfWish wsX6_isLeft := goodIn_q _ [(36, 2), (14, 3), (78, 4)] rfl gdwsX6_isLeft
set_option maxRecDepth 20000 in
theorem gX6_holderOfWish_X6_isLeft : GoodIn wsX6_holderOfWish (wsV RX6 56 RX6 yX6_isLeft wsX6_isLeft) := goodIn_app (goodIn_q _ [(32, 4)] rfl rfl) ggX6_holderOfWish_X6_isLeft
set_option maxRecDepth 20000 in
theorem ggX6_holderOfWish_X0_suits : GoodIn wsX6_holderOfWish wsX0_suits := goodIn_q _ [(41, 17), (10, 1), (58, 20), (91, 8), (82, 9)] rfl gdwsX0_suits
set_option maxRecDepth 20000 in
theorem gX6_holderOfWish_X0_suits : GoodIn wsX6_holderOfWish (wsV RX6 88 RX0 yX0_suits wsX0_suits) := goodIn_app (goodIn_q _ [(38, 3), (22, 1)] rfl rfl) ggX6_holderOfWish_X0_suits
theorem lk_dX6_holderOfWish_0 : th_dr cX6_holderOfWish 0 = 3 :: 61 :: 28 :: 43 :: 180 :: 0 :: 68 :: 162 :: 0 :: 74 :: 42 :: 180 :: 0 :: 22 :: 43 :: 28 :: 182 :: 0 :: 73 :: 182 :: 0 :: 76 :: 78 :: 45 :: 198 :: 0 :: 51 :: 42 :: th_dr cX6_holderOfWish 28 := rfl
theorem bl_dX6_holderOfWish_0 : decode cX6_holderOfWish 0 = .ok (.iconst 0, 1) ∧ decode cX6_holderOfWish 1 = .ok (.istore_n 2, 1) ∧ decode cX6_holderOfWish 2 = .ok (.iload_n 2, 1) ∧ decode cX6_holderOfWish 3 = .ok (.aload_n 1, 1) ∧ decode cX6_holderOfWish 4 = .ok (.getfield 68, 3) ∧ decode cX6_holderOfWish 7 = .ok (.if_icmp .ge 74, 3) ∧ decode cX6_holderOfWish 10 = .ok (.aload_n 0, 1) ∧ decode cX6_holderOfWish 11 = .ok (.getfield 22, 3) ∧ decode cX6_holderOfWish 14 = .ok (.aload_n 1, 1) ∧ decode cX6_holderOfWish 15 = .ok (.iload_n 2, 1) ∧ decode cX6_holderOfWish 16 = .ok (.invokevirtual 73, 3) ∧ decode cX6_holderOfWish 19 = .ok (.invokevirtual 76, 3) ∧ decode cX6_holderOfWish 22 = .ok (.astore_n 3, 1) ∧ decode cX6_holderOfWish 23 = .ok (.aload_n 3, 1) ∧ decode cX6_holderOfWish 24 = .ok (.ifnull 51, 3) ∧ decode cX6_holderOfWish 27 = .ok (.aload_n 0, 1) := op_3 lk_dX6_holderOfWish_0 fun e => op_61 e fun e => op_28 e fun e => op_43 e fun e => op_180 e fun e => op_162p e rfl fun e => op_42 e fun e => op_180 e fun e => op_43 e fun e => op_28 e fun e => op_182 e fun e => op_182 e fun e => op_78 e fun e => op_45 e fun e => op_198p e rfl fun e => (op_42 e fun _ => True.intro).1
theorem dX6_holderOfWish_0 : decode cX6_holderOfWish 0 = .ok (.iconst 0, 1) := bl_dX6_holderOfWish_0.1
theorem dX6_holderOfWish_1 : decode cX6_holderOfWish 1 = .ok (.istore_n 2, 1) := bl_dX6_holderOfWish_0.2.1
theorem dX6_holderOfWish_2 : decode cX6_holderOfWish 2 = .ok (.iload_n 2, 1) := bl_dX6_holderOfWish_0.2.2.1
theorem dX6_holderOfWish_3 : decode cX6_holderOfWish 3 = .ok (.aload_n 1, 1) := bl_dX6_holderOfWish_0.2.2.2.1
theorem dX6_holderOfWish_4 : decode cX6_holderOfWish 4 = .ok (.getfield 68, 3) := bl_dX6_holderOfWish_0.2.2.2.2.1
theorem dX6_holderOfWish_7 : decode cX6_holderOfWish 7 = .ok (.if_icmp .ge 74, 3) := bl_dX6_holderOfWish_0.2.2.2.2.2.1
theorem dX6_holderOfWish_10 : decode cX6_holderOfWish 10 = .ok (.aload_n 0, 1) := bl_dX6_holderOfWish_0.2.2.2.2.2.2.1
theorem dX6_holderOfWish_11 : decode cX6_holderOfWish 11 = .ok (.getfield 22, 3) := bl_dX6_holderOfWish_0.2.2.2.2.2.2.2.1
theorem dX6_holderOfWish_14 : decode cX6_holderOfWish 14 = .ok (.aload_n 1, 1) := bl_dX6_holderOfWish_0.2.2.2.2.2.2.2.2.1
theorem dX6_holderOfWish_15 : decode cX6_holderOfWish 15 = .ok (.iload_n 2, 1) := bl_dX6_holderOfWish_0.2.2.2.2.2.2.2.2.2.1
theorem dX6_holderOfWish_16 : decode cX6_holderOfWish 16 = .ok (.invokevirtual 73, 3) := bl_dX6_holderOfWish_0.2.2.2.2.2.2.2.2.2.2.1
theorem dX6_holderOfWish_19 : decode cX6_holderOfWish 19 = .ok (.invokevirtual 76, 3) := bl_dX6_holderOfWish_0.2.2.2.2.2.2.2.2.2.2.2.1
theorem dX6_holderOfWish_22 : decode cX6_holderOfWish 22 = .ok (.astore_n 3, 1) := bl_dX6_holderOfWish_0.2.2.2.2.2.2.2.2.2.2.2.2.1
theorem dX6_holderOfWish_23 : decode cX6_holderOfWish 23 = .ok (.aload_n 3, 1) := bl_dX6_holderOfWish_0.2.2.2.2.2.2.2.2.2.2.2.2.2.1
theorem dX6_holderOfWish_24 : decode cX6_holderOfWish 24 = .ok (.ifnull 51, 3) := bl_dX6_holderOfWish_0.2.2.2.2.2.2.2.2.2.2.2.2.2.2.1
theorem dX6_holderOfWish_27 : decode cX6_holderOfWish 27 = .ok (.aload_n 0, 1) := bl_dX6_holderOfWish_0.2.2.2.2.2.2.2.2.2.2.2.2.2.2.2
set_option maxRecDepth 20000 in
theorem lk_dX6_holderOfWish_28 : th_dr cX6_holderOfWish 28 = 42 :: 180 :: 0 :: 22 :: 180 :: 0 :: 35 :: 45 :: 180 :: 0 :: 80 :: 182 :: 0 :: 85 :: 182 :: 0 :: 56 :: 153 :: 0 :: 30 :: 42 :: 180 :: 0 :: 22 :: 43 :: 45 :: 182 :: 0 :: 88 :: 153 :: 0 :: 18 :: 42 :: 180 :: 0 :: 22 :: th_dr cX6_holderOfWish 64 := rfl
theorem bl_dX6_holderOfWish_28 : decode cX6_holderOfWish 28 = .ok (.aload_n 0, 1) ∧ decode cX6_holderOfWish 29 = .ok (.getfield 22, 3) ∧ decode cX6_holderOfWish 32 = .ok (.getfield 35, 3) ∧ decode cX6_holderOfWish 35 = .ok (.aload_n 3, 1) ∧ decode cX6_holderOfWish 36 = .ok (.getfield 80, 3) ∧ decode cX6_holderOfWish 39 = .ok (.invokevirtual 85, 3) ∧ decode cX6_holderOfWish 42 = .ok (.invokevirtual 56, 3) ∧ decode cX6_holderOfWish 45 = .ok (.ifCond .eq 30, 3) ∧ decode cX6_holderOfWish 48 = .ok (.aload_n 0, 1) ∧ decode cX6_holderOfWish 49 = .ok (.getfield 22, 3) ∧ decode cX6_holderOfWish 52 = .ok (.aload_n 1, 1) ∧ decode cX6_holderOfWish 53 = .ok (.aload_n 3, 1) ∧ decode cX6_holderOfWish 54 = .ok (.invokevirtual 88, 3) ∧ decode cX6_holderOfWish 57 = .ok (.ifCond .eq 18, 3) ∧ decode cX6_holderOfWish 60 = .ok (.aload_n 0, 1) ∧ decode cX6_holderOfWish 61 = .ok (.getfield 22, 3) := op_42 lk_dX6_holderOfWish_28 fun e => op_180 e fun e => op_180 e fun e => op_45 e fun e => op_180 e fun e => op_182 e fun e => op_182 e fun e => op_153p e rfl fun e => op_42 e fun e => op_180 e fun e => op_43 e fun e => op_45 e fun e => op_182 e fun e => op_153p e rfl fun e => op_42 e fun e => (op_180 e fun _ => True.intro).1
theorem dX6_holderOfWish_28 : decode cX6_holderOfWish 28 = .ok (.aload_n 0, 1) := bl_dX6_holderOfWish_28.1
theorem dX6_holderOfWish_29 : decode cX6_holderOfWish 29 = .ok (.getfield 22, 3) := bl_dX6_holderOfWish_28.2.1
theorem dX6_holderOfWish_32 : decode cX6_holderOfWish 32 = .ok (.getfield 35, 3) := bl_dX6_holderOfWish_28.2.2.1
theorem dX6_holderOfWish_35 : decode cX6_holderOfWish 35 = .ok (.aload_n 3, 1) := bl_dX6_holderOfWish_28.2.2.2.1
theorem dX6_holderOfWish_36 : decode cX6_holderOfWish 36 = .ok (.getfield 80, 3) := bl_dX6_holderOfWish_28.2.2.2.2.1
theorem dX6_holderOfWish_39 : decode cX6_holderOfWish 39 = .ok (.invokevirtual 85, 3) := bl_dX6_holderOfWish_28.2.2.2.2.2.1
theorem dX6_holderOfWish_42 : decode cX6_holderOfWish 42 = .ok (.invokevirtual 56, 3) := bl_dX6_holderOfWish_28.2.2.2.2.2.2.1
theorem dX6_holderOfWish_45 : decode cX6_holderOfWish 45 = .ok (.ifCond .eq 30, 3) := bl_dX6_holderOfWish_28.2.2.2.2.2.2.2.1
theorem dX6_holderOfWish_48 : decode cX6_holderOfWish 48 = .ok (.aload_n 0, 1) := bl_dX6_holderOfWish_28.2.2.2.2.2.2.2.2.1
theorem dX6_holderOfWish_49 : decode cX6_holderOfWish 49 = .ok (.getfield 22, 3) := bl_dX6_holderOfWish_28.2.2.2.2.2.2.2.2.2.1
theorem dX6_holderOfWish_52 : decode cX6_holderOfWish 52 = .ok (.aload_n 1, 1) := bl_dX6_holderOfWish_28.2.2.2.2.2.2.2.2.2.2.1
theorem dX6_holderOfWish_53 : decode cX6_holderOfWish 53 = .ok (.aload_n 3, 1) := bl_dX6_holderOfWish_28.2.2.2.2.2.2.2.2.2.2.2.1
theorem dX6_holderOfWish_54 : decode cX6_holderOfWish 54 = .ok (.invokevirtual 88, 3) := bl_dX6_holderOfWish_28.2.2.2.2.2.2.2.2.2.2.2.2.1
theorem dX6_holderOfWish_57 : decode cX6_holderOfWish 57 = .ok (.ifCond .eq 18, 3) := bl_dX6_holderOfWish_28.2.2.2.2.2.2.2.2.2.2.2.2.2.1
theorem dX6_holderOfWish_60 : decode cX6_holderOfWish 60 = .ok (.aload_n 0, 1) := bl_dX6_holderOfWish_28.2.2.2.2.2.2.2.2.2.2.2.2.2.2.1
theorem dX6_holderOfWish_61 : decode cX6_holderOfWish 61 = .ok (.getfield 22, 3) := bl_dX6_holderOfWish_28.2.2.2.2.2.2.2.2.2.2.2.2.2.2.2
set_option maxRecDepth 20000 in
theorem lk_dX6_holderOfWish_64 : th_dr cX6_holderOfWish 64 = 180 :: 0 :: 35 :: 45 :: 180 :: 0 :: 80 :: 182 :: 0 :: 85 :: 172 :: 132 :: 2 :: 1 :: 167 :: 255 :: 180 :: 43 :: 180 :: 0 :: 92 :: 172 :: th_dr cX6_holderOfWish 86 := rfl
theorem bl_dX6_holderOfWish_64 : decode cX6_holderOfWish 64 = .ok (.getfield 35, 3) ∧ decode cX6_holderOfWish 67 = .ok (.aload_n 3, 1) ∧ decode cX6_holderOfWish 68 = .ok (.getfield 80, 3) ∧ decode cX6_holderOfWish 71 = .ok (.invokevirtual 85, 3) ∧ decode cX6_holderOfWish 74 = .ok (.ireturn, 1) ∧ decode cX6_holderOfWish 75 = .ok (.iinc 2 1, 3) ∧ decode cX6_holderOfWish 78 = .ok (.goto (-76), 3) ∧ decode cX6_holderOfWish 81 = .ok (.aload_n 1, 1) ∧ decode cX6_holderOfWish 82 = .ok (.getfield 92, 3) ∧ decode cX6_holderOfWish 85 = .ok (.ireturn, 1) := op_180 lk_dX6_holderOfWish_64 fun e => op_45 e fun e => op_180 e fun e => op_182 e fun e => op_172 e fun e => op_132p e rfl fun e => op_167n e rfl rfl fun e => op_43 e fun e => op_180 e fun e => (op_172 e fun _ => True.intro).1
theorem dX6_holderOfWish_64 : decode cX6_holderOfWish 64 = .ok (.getfield 35, 3) := bl_dX6_holderOfWish_64.1
theorem dX6_holderOfWish_67 : decode cX6_holderOfWish 67 = .ok (.aload_n 3, 1) := bl_dX6_holderOfWish_64.2.1
theorem dX6_holderOfWish_68 : decode cX6_holderOfWish 68 = .ok (.getfield 80, 3) := bl_dX6_holderOfWish_64.2.2.1
theorem dX6_holderOfWish_71 : decode cX6_holderOfWish 71 = .ok (.invokevirtual 85, 3) := bl_dX6_holderOfWish_64.2.2.2.1
theorem dX6_holderOfWish_74 : decode cX6_holderOfWish 74 = .ok (.ireturn, 1) := bl_dX6_holderOfWish_64.2.2.2.2.1
theorem dX6_holderOfWish_75 : decode cX6_holderOfWish 75 = .ok (.iinc 2 1, 3) := bl_dX6_holderOfWish_64.2.2.2.2.2.1
theorem dX6_holderOfWish_78 : decode cX6_holderOfWish 78 = .ok (.goto (-76), 3) := bl_dX6_holderOfWish_64.2.2.2.2.2.2.1
theorem dX6_holderOfWish_81 : decode cX6_holderOfWish 81 = .ok (.aload_n 1, 1) := bl_dX6_holderOfWish_64.2.2.2.2.2.2.2.1
theorem dX6_holderOfWish_82 : decode cX6_holderOfWish 82 = .ok (.getfield 92, 3) := bl_dX6_holderOfWish_64.2.2.2.2.2.2.2.2.1
theorem dX6_holderOfWish_85 : decode cX6_holderOfWish 85 = .ok (.ireturn, 1) := bl_dX6_holderOfWish_64.2.2.2.2.2.2.2.2.2
set_option maxRecDepth 20000 in
theorem ggX6_leastInRing_X6_isLeft : GoodIn wsX6_leastInRing wsX6_isLeft := goodIn_q _ [(7, 5), (21, 4)] rfl gdwsX6_isLeft
set_option maxRecDepth 20000 in
theorem gX6_leastInRing_X6_isLeft : GoodIn wsX6_leastInRing (wsV RX6 56 RX6 yX6_isLeft wsX6_isLeft) := goodIn_app (goodIn_q _ [(3, 4)] rfl rfl) ggX6_leastInRing_X6_isLeft
set_option maxRecDepth 20000 in
theorem gdwsX6_comesRound : wsX6_comesRound.all goodWord = true := by decide +kernel
set_option maxRecDepth 20000 in
theorem ggX6_leastInRing_X6_comesRound : GoodIn wsX6_leastInRing wsX6_comesRound := goodIn_q _ [(15, 4), (6, 1), (19, 2), (9, 3), (21, 4)] rfl gdwsX6_comesRound
set_option maxRecDepth 20000 in
theorem gX6_leastInRing_X6_comesRound : GoodIn wsX6_leastInRing (wsV RX6 93 RX6 yX6_comesRound wsX6_comesRound) := goodIn_app (goodIn_q _ [(12, 3), (6, 1)] rfl rfl) ggX6_leastInRing_X6_comesRound
theorem lk_dX6_leastInRing_0 : th_dr cX6_leastInRing 0 = 3 :: 60 :: 27 :: 42 :: 180 :: 0 :: 22 :: 180 :: 0 :: 30 :: 162 :: 0 :: 27 :: 42 :: 27 :: 182 :: 0 :: 56 :: 153 :: 0 :: 13 :: 42 :: 27 :: 182 :: 0 :: 93 :: 153 :: 0 :: 5 :: 27 :: th_dr cX6_leastInRing 30 := rfl
theorem bl_dX6_leastInRing_0 : decode cX6_leastInRing 0 = .ok (.iconst 0, 1) ∧ decode cX6_leastInRing 1 = .ok (.istore_n 1, 1) ∧ decode cX6_leastInRing 2 = .ok (.iload_n 1, 1) ∧ decode cX6_leastInRing 3 = .ok (.aload_n 0, 1) ∧ decode cX6_leastInRing 4 = .ok (.getfield 22, 3) ∧ decode cX6_leastInRing 7 = .ok (.getfield 30, 3) ∧ decode cX6_leastInRing 10 = .ok (.if_icmp .ge 27, 3) ∧ decode cX6_leastInRing 13 = .ok (.aload_n 0, 1) ∧ decode cX6_leastInRing 14 = .ok (.iload_n 1, 1) ∧ decode cX6_leastInRing 15 = .ok (.invokevirtual 56, 3) ∧ decode cX6_leastInRing 18 = .ok (.ifCond .eq 13, 3) ∧ decode cX6_leastInRing 21 = .ok (.aload_n 0, 1) ∧ decode cX6_leastInRing 22 = .ok (.iload_n 1, 1) ∧ decode cX6_leastInRing 23 = .ok (.invokevirtual 93, 3) ∧ decode cX6_leastInRing 26 = .ok (.ifCond .eq 5, 3) ∧ decode cX6_leastInRing 29 = .ok (.iload_n 1, 1) := op_3 lk_dX6_leastInRing_0 fun e => op_60 e fun e => op_27 e fun e => op_42 e fun e => op_180 e fun e => op_180 e fun e => op_162p e rfl fun e => op_42 e fun e => op_27 e fun e => op_182 e fun e => op_153p e rfl fun e => op_42 e fun e => op_27 e fun e => op_182 e fun e => op_153p e rfl fun e => (op_27 e fun _ => True.intro).1
theorem dX6_leastInRing_0 : decode cX6_leastInRing 0 = .ok (.iconst 0, 1) := bl_dX6_leastInRing_0.1
theorem dX6_leastInRing_1 : decode cX6_leastInRing 1 = .ok (.istore_n 1, 1) := bl_dX6_leastInRing_0.2.1
theorem dX6_leastInRing_2 : decode cX6_leastInRing 2 = .ok (.iload_n 1, 1) := bl_dX6_leastInRing_0.2.2.1
theorem dX6_leastInRing_3 : decode cX6_leastInRing 3 = .ok (.aload_n 0, 1) := bl_dX6_leastInRing_0.2.2.2.1
theorem dX6_leastInRing_4 : decode cX6_leastInRing 4 = .ok (.getfield 22, 3) := bl_dX6_leastInRing_0.2.2.2.2.1
theorem dX6_leastInRing_7 : decode cX6_leastInRing 7 = .ok (.getfield 30, 3) := bl_dX6_leastInRing_0.2.2.2.2.2.1
theorem dX6_leastInRing_10 : decode cX6_leastInRing 10 = .ok (.if_icmp .ge 27, 3) := bl_dX6_leastInRing_0.2.2.2.2.2.2.1
theorem dX6_leastInRing_13 : decode cX6_leastInRing 13 = .ok (.aload_n 0, 1) := bl_dX6_leastInRing_0.2.2.2.2.2.2.2.1
theorem dX6_leastInRing_14 : decode cX6_leastInRing 14 = .ok (.iload_n 1, 1) := bl_dX6_leastInRing_0.2.2.2.2.2.2.2.2.1
theorem dX6_leastInRing_15 : decode cX6_leastInRing 15 = .ok (.invokevirtual 56, 3) := bl_dX6_leastInRing_0.2.2.2.2.2.2.2.2.2.1
theorem dX6_leastInRing_18 : decode cX6_leastInRing 18 = .ok (.ifCond .eq 13, 3) := bl_dX6_leastInRing_0.2.2.2.2.2.2.2.2.2.2.1
theorem dX6_leastInRing_21 : decode cX6_leastInRing 21 = .ok (.aload_n 0, 1) := bl_dX6_leastInRing_0.2.2.2.2.2.2.2.2.2.2.2.1
theorem dX6_leastInRing_22 : decode cX6_leastInRing 22 = .ok (.iload_n 1, 1) := bl_dX6_leastInRing_0.2.2.2.2.2.2.2.2.2.2.2.2.1
theorem dX6_leastInRing_23 : decode cX6_leastInRing 23 = .ok (.invokevirtual 93, 3) := bl_dX6_leastInRing_0.2.2.2.2.2.2.2.2.2.2.2.2.2.1
theorem dX6_leastInRing_26 : decode cX6_leastInRing 26 = .ok (.ifCond .eq 5, 3) := bl_dX6_leastInRing_0.2.2.2.2.2.2.2.2.2.2.2.2.2.2.1
theorem dX6_leastInRing_29 : decode cX6_leastInRing 29 = .ok (.iload_n 1, 1) := bl_dX6_leastInRing_0.2.2.2.2.2.2.2.2.2.2.2.2.2.2.2
theorem lk_dX6_leastInRing_30 : th_dr cX6_leastInRing 30 = 172 :: 132 :: 1 :: 1 :: 167 :: 255 :: 224 :: 2 :: 172 :: th_dr cX6_leastInRing 39 := rfl
theorem bl_dX6_leastInRing_30 : decode cX6_leastInRing 30 = .ok (.ireturn, 1) ∧ decode cX6_leastInRing 31 = .ok (.iinc 1 1, 3) ∧ decode cX6_leastInRing 34 = .ok (.goto (-32), 3) ∧ decode cX6_leastInRing 37 = .ok (.iconst (-1), 1) ∧ decode cX6_leastInRing 38 = .ok (.ireturn, 1) := op_172 lk_dX6_leastInRing_30 fun e => op_132p e rfl fun e => op_167n e rfl rfl fun e => op_2 e fun e => (op_172 e fun _ => True.intro).1
theorem dX6_leastInRing_30 : decode cX6_leastInRing 30 = .ok (.ireturn, 1) := bl_dX6_leastInRing_30.1
theorem dX6_leastInRing_31 : decode cX6_leastInRing 31 = .ok (.iinc 1 1, 3) := bl_dX6_leastInRing_30.2.1
theorem dX6_leastInRing_34 : decode cX6_leastInRing 34 = .ok (.goto (-32), 3) := bl_dX6_leastInRing_30.2.2.1
theorem dX6_leastInRing_37 : decode cX6_leastInRing 37 = .ok (.iconst (-1), 1) := bl_dX6_leastInRing_30.2.2.2.1
theorem dX6_leastInRing_38 : decode cX6_leastInRing 38 = .ok (.ireturn, 1) := bl_dX6_leastInRing_30.2.2.2.2
set_option maxRecDepth 20000 in
theorem gdwsX6_pointedAtBy : wsX6_pointedAtBy.all goodWord = true := by decide +kernel
set_option maxRecDepth 20000 in
theorem ggX6_comesRound_X6_pointedAtBy : GoodIn wsX6_comesRound wsX6_pointedAtBy := goodIn_q _ [(5, 9)] rfl gdwsX6_pointedAtBy
set_option maxRecDepth 20000 in
theorem gX6_comesRound_X6_pointedAtBy : GoodIn wsX6_comesRound (wsV RX6 96 RX6 yX6_pointedAtBy wsX6_pointedAtBy) := goodIn_app (goodIn_q _ [(1, 4)] rfl rfl) ggX6_comesRound_X6_pointedAtBy
theorem lk_dX6_comesRound_0 : th_dr cX6_comesRound 0 = 42 :: 27 :: 182 :: 0 :: 96 :: 61 :: 3 :: 62 :: 29 :: 16 :: 16 :: 162 :: 0 :: 20 :: 28 :: 27 :: 159 :: 0 :: 15 :: 42 :: 28 :: 182 :: 0 :: 96 :: 61 :: th_dr cX6_comesRound 25 := rfl
theorem bl_dX6_comesRound_0 : decode cX6_comesRound 0 = .ok (.aload_n 0, 1) ∧ decode cX6_comesRound 1 = .ok (.iload_n 1, 1) ∧ decode cX6_comesRound 2 = .ok (.invokevirtual 96, 3) ∧ decode cX6_comesRound 5 = .ok (.istore_n 2, 1) ∧ decode cX6_comesRound 6 = .ok (.iconst 0, 1) ∧ decode cX6_comesRound 7 = .ok (.istore_n 3, 1) ∧ decode cX6_comesRound 8 = .ok (.iload_n 3, 1) ∧ decode cX6_comesRound 9 = .ok (.bipush 16, 2) ∧ decode cX6_comesRound 11 = .ok (.if_icmp .ge 20, 3) ∧ decode cX6_comesRound 14 = .ok (.iload_n 2, 1) ∧ decode cX6_comesRound 15 = .ok (.iload_n 1, 1) ∧ decode cX6_comesRound 16 = .ok (.if_icmp .eq 15, 3) ∧ decode cX6_comesRound 19 = .ok (.aload_n 0, 1) ∧ decode cX6_comesRound 20 = .ok (.iload_n 2, 1) ∧ decode cX6_comesRound 21 = .ok (.invokevirtual 96, 3) ∧ decode cX6_comesRound 24 = .ok (.istore_n 2, 1) := op_42 lk_dX6_comesRound_0 fun e => op_27 e fun e => op_182 e fun e => op_61 e fun e => op_3 e fun e => op_62 e fun e => op_29 e fun e => op_16p e rfl fun e => op_162p e rfl fun e => op_28 e fun e => op_27 e fun e => op_159p e rfl fun e => op_42 e fun e => op_28 e fun e => op_182 e fun e => (op_61 e fun _ => True.intro).1
theorem dX6_comesRound_0 : decode cX6_comesRound 0 = .ok (.aload_n 0, 1) := bl_dX6_comesRound_0.1
theorem dX6_comesRound_1 : decode cX6_comesRound 1 = .ok (.iload_n 1, 1) := bl_dX6_comesRound_0.2.1
theorem dX6_comesRound_2 : decode cX6_comesRound 2 = .ok (.invokevirtual 96, 3) := bl_dX6_comesRound_0.2.2.1
theorem dX6_comesRound_5 : decode cX6_comesRound 5 = .ok (.istore_n 2, 1) := bl_dX6_comesRound_0.2.2.2.1
theorem dX6_comesRound_6 : decode cX6_comesRound 6 = .ok (.iconst 0, 1) := bl_dX6_comesRound_0.2.2.2.2.1
theorem dX6_comesRound_7 : decode cX6_comesRound 7 = .ok (.istore_n 3, 1) := bl_dX6_comesRound_0.2.2.2.2.2.1
theorem dX6_comesRound_8 : decode cX6_comesRound 8 = .ok (.iload_n 3, 1) := bl_dX6_comesRound_0.2.2.2.2.2.2.1
theorem dX6_comesRound_9 : decode cX6_comesRound 9 = .ok (.bipush 16, 2) := bl_dX6_comesRound_0.2.2.2.2.2.2.2.1
theorem dX6_comesRound_11 : decode cX6_comesRound 11 = .ok (.if_icmp .ge 20, 3) := bl_dX6_comesRound_0.2.2.2.2.2.2.2.2.1
theorem dX6_comesRound_14 : decode cX6_comesRound 14 = .ok (.iload_n 2, 1) := bl_dX6_comesRound_0.2.2.2.2.2.2.2.2.2.1
theorem dX6_comesRound_15 : decode cX6_comesRound 15 = .ok (.iload_n 1, 1) := bl_dX6_comesRound_0.2.2.2.2.2.2.2.2.2.2.1
theorem dX6_comesRound_16 : decode cX6_comesRound 16 = .ok (.if_icmp .eq 15, 3) := bl_dX6_comesRound_0.2.2.2.2.2.2.2.2.2.2.2.1
theorem dX6_comesRound_19 : decode cX6_comesRound 19 = .ok (.aload_n 0, 1) := bl_dX6_comesRound_0.2.2.2.2.2.2.2.2.2.2.2.2.1
theorem dX6_comesRound_20 : decode cX6_comesRound 20 = .ok (.iload_n 2, 1) := bl_dX6_comesRound_0.2.2.2.2.2.2.2.2.2.2.2.2.2.1
theorem dX6_comesRound_21 : decode cX6_comesRound 21 = .ok (.invokevirtual 96, 3) := bl_dX6_comesRound_0.2.2.2.2.2.2.2.2.2.2.2.2.2.2.1
theorem dX6_comesRound_24 : decode cX6_comesRound 24 = .ok (.istore_n 2, 1) := bl_dX6_comesRound_0.2.2.2.2.2.2.2.2.2.2.2.2.2.2.2
theorem lk_dX6_comesRound_25 : th_dr cX6_comesRound 25 = 132 :: 3 :: 1 :: 167 :: 255 :: 236 :: 28 :: 27 :: 160 :: 0 :: 7 :: 4 :: 167 :: 0 :: 4 :: 3 :: 172 :: th_dr cX6_comesRound 42 := rfl
theorem bl_dX6_comesRound_25 : decode cX6_comesRound 25 = .ok (.iinc 3 1, 3) ∧ decode cX6_comesRound 28 = .ok (.goto (-20), 3) ∧ decode cX6_comesRound 31 = .ok (.iload_n 2, 1) ∧ decode cX6_comesRound 32 = .ok (.iload_n 1, 1) ∧ decode cX6_comesRound 33 = .ok (.if_icmp .ne 7, 3) ∧ decode cX6_comesRound 36 = .ok (.iconst 1, 1) ∧ decode cX6_comesRound 37 = .ok (.goto 4, 3) ∧ decode cX6_comesRound 40 = .ok (.iconst 0, 1) ∧ decode cX6_comesRound 41 = .ok (.ireturn, 1) := op_132p lk_dX6_comesRound_25 rfl fun e => op_167n e rfl rfl fun e => op_28 e fun e => op_27 e fun e => op_160p e rfl fun e => op_4 e fun e => op_167p e rfl fun e => op_3 e fun e => (op_172 e fun _ => True.intro).1
theorem dX6_comesRound_25 : decode cX6_comesRound 25 = .ok (.iinc 3 1, 3) := bl_dX6_comesRound_25.1
theorem dX6_comesRound_28 : decode cX6_comesRound 28 = .ok (.goto (-20), 3) := bl_dX6_comesRound_25.2.1
theorem dX6_comesRound_31 : decode cX6_comesRound 31 = .ok (.iload_n 2, 1) := bl_dX6_comesRound_25.2.2.1
theorem dX6_comesRound_32 : decode cX6_comesRound 32 = .ok (.iload_n 1, 1) := bl_dX6_comesRound_25.2.2.2.1
theorem dX6_comesRound_33 : decode cX6_comesRound 33 = .ok (.if_icmp .ne 7, 3) := bl_dX6_comesRound_25.2.2.2.2.1
theorem dX6_comesRound_36 : decode cX6_comesRound 36 = .ok (.iconst 1, 1) := bl_dX6_comesRound_25.2.2.2.2.2.1
theorem dX6_comesRound_37 : decode cX6_comesRound 37 = .ok (.goto 4, 3) := bl_dX6_comesRound_25.2.2.2.2.2.2.1
theorem dX6_comesRound_40 : decode cX6_comesRound 40 = .ok (.iconst 0, 1) := bl_dX6_comesRound_25.2.2.2.2.2.2.2.1
theorem dX6_comesRound_41 : decode cX6_comesRound 41 = .ok (.ireturn, 1) := bl_dX6_comesRound_25.2.2.2.2.2.2.2.2
set_option maxRecDepth 20000 in
theorem ggX6_takeRing_X6_isLeft : GoodIn wsX6_takeRing wsX6_isLeft := goodIn_q _ [(10, 1), (1, 1), (11, 3), (20, 4)] rfl gdwsX6_isLeft
set_option maxRecDepth 20000 in
theorem gX6_takeRing_X6_isLeft : GoodIn wsX6_takeRing (wsV RX6 56 RX6 yX6_isLeft wsX6_isLeft) := goodIn_app (goodIn_q _ [(6, 4)] rfl rfl) ggX6_takeRing_X6_isLeft
set_option maxRecDepth 20000 in
theorem ggX6_takeRing_X1_buoyOf : GoodIn wsX6_takeRing wsX1_buoyOf := goodIn_q _ [(18, 2), (11, 3), (33, 2)] rfl gdwsX1_buoyOf
set_option maxRecDepth 20000 in
theorem gX6_takeRing_X1_buoyOf : GoodIn wsX6_takeRing (wsV RX6 39 RX1 yX1_buoyOf wsX1_buoyOf) := goodIn_app (goodIn_q _ [(14, 4)] rfl rfl) ggX6_takeRing_X1_buoyOf
theorem lk_dX6_takeRing_0 : th_dr cX6_takeRing 0 = 27 :: 61 :: 3 :: 62 :: 29 :: 16 :: 16 :: 162 :: 0 :: 60 :: 42 :: 28 :: 182 :: 0 :: 56 :: 153 :: 0 :: 52 :: 42 :: 89 :: 180 :: 0 :: 18 :: 4 :: 28 :: th_dr cX6_takeRing 25 := rfl
theorem bl_dX6_takeRing_0 : decode cX6_takeRing 0 = .ok (.iload_n 1, 1) ∧ decode cX6_takeRing 1 = .ok (.istore_n 2, 1) ∧ decode cX6_takeRing 2 = .ok (.iconst 0, 1) ∧ decode cX6_takeRing 3 = .ok (.istore_n 3, 1) ∧ decode cX6_takeRing 4 = .ok (.iload_n 3, 1) ∧ decode cX6_takeRing 5 = .ok (.bipush 16, 2) ∧ decode cX6_takeRing 7 = .ok (.if_icmp .ge 60, 3) ∧ decode cX6_takeRing 10 = .ok (.aload_n 0, 1) ∧ decode cX6_takeRing 11 = .ok (.iload_n 2, 1) ∧ decode cX6_takeRing 12 = .ok (.invokevirtual 56, 3) ∧ decode cX6_takeRing 15 = .ok (.ifCond .eq 52, 3) ∧ decode cX6_takeRing 18 = .ok (.aload_n 0, 1) ∧ decode cX6_takeRing 19 = .ok (.dup, 1) ∧ decode cX6_takeRing 20 = .ok (.getfield 18, 3) ∧ decode cX6_takeRing 23 = .ok (.iconst 1, 1) ∧ decode cX6_takeRing 24 = .ok (.iload_n 2, 1) := op_27 lk_dX6_takeRing_0 fun e => op_61 e fun e => op_3 e fun e => op_62 e fun e => op_29 e fun e => op_16p e rfl fun e => op_162p e rfl fun e => op_42 e fun e => op_28 e fun e => op_182 e fun e => op_153p e rfl fun e => op_42 e fun e => op_89 e fun e => op_180 e fun e => op_4 e fun e => (op_28 e fun _ => True.intro).1
theorem dX6_takeRing_0 : decode cX6_takeRing 0 = .ok (.iload_n 1, 1) := bl_dX6_takeRing_0.1
theorem dX6_takeRing_1 : decode cX6_takeRing 1 = .ok (.istore_n 2, 1) := bl_dX6_takeRing_0.2.1
theorem dX6_takeRing_2 : decode cX6_takeRing 2 = .ok (.iconst 0, 1) := bl_dX6_takeRing_0.2.2.1
theorem dX6_takeRing_3 : decode cX6_takeRing 3 = .ok (.istore_n 3, 1) := bl_dX6_takeRing_0.2.2.2.1
theorem dX6_takeRing_4 : decode cX6_takeRing 4 = .ok (.iload_n 3, 1) := bl_dX6_takeRing_0.2.2.2.2.1
theorem dX6_takeRing_5 : decode cX6_takeRing 5 = .ok (.bipush 16, 2) := bl_dX6_takeRing_0.2.2.2.2.2.1
theorem dX6_takeRing_7 : decode cX6_takeRing 7 = .ok (.if_icmp .ge 60, 3) := bl_dX6_takeRing_0.2.2.2.2.2.2.1
theorem dX6_takeRing_10 : decode cX6_takeRing 10 = .ok (.aload_n 0, 1) := bl_dX6_takeRing_0.2.2.2.2.2.2.2.1
theorem dX6_takeRing_11 : decode cX6_takeRing 11 = .ok (.iload_n 2, 1) := bl_dX6_takeRing_0.2.2.2.2.2.2.2.2.1
theorem dX6_takeRing_12 : decode cX6_takeRing 12 = .ok (.invokevirtual 56, 3) := bl_dX6_takeRing_0.2.2.2.2.2.2.2.2.2.1
theorem dX6_takeRing_15 : decode cX6_takeRing 15 = .ok (.ifCond .eq 52, 3) := bl_dX6_takeRing_0.2.2.2.2.2.2.2.2.2.2.1
theorem dX6_takeRing_18 : decode cX6_takeRing 18 = .ok (.aload_n 0, 1) := bl_dX6_takeRing_0.2.2.2.2.2.2.2.2.2.2.2.1
theorem dX6_takeRing_19 : decode cX6_takeRing 19 = .ok (.dup, 1) := bl_dX6_takeRing_0.2.2.2.2.2.2.2.2.2.2.2.2.1
theorem dX6_takeRing_20 : decode cX6_takeRing 20 = .ok (.getfield 18, 3) := bl_dX6_takeRing_0.2.2.2.2.2.2.2.2.2.2.2.2.2.1
theorem dX6_takeRing_23 : decode cX6_takeRing 23 = .ok (.iconst 1, 1) := bl_dX6_takeRing_0.2.2.2.2.2.2.2.2.2.2.2.2.2.2.1
theorem dX6_takeRing_24 : decode cX6_takeRing 24 = .ok (.iload_n 2, 1) := bl_dX6_takeRing_0.2.2.2.2.2.2.2.2.2.2.2.2.2.2.2
theorem lk_dX6_takeRing_25 : th_dr cX6_takeRing 25 = 120 :: 2 :: 130 :: 126 :: 181 :: 0 :: 18 :: 42 :: 180 :: 0 :: 9 :: 28 :: 42 :: 180 :: 0 :: 22 :: 180 :: 0 :: 35 :: 42 :: 180 :: 0 :: 15 :: 28 :: 46 :: 182 :: 0 :: 39 :: th_dr cX6_takeRing 53 := rfl
theorem bl_dX6_takeRing_25 : decode cX6_takeRing 25 = .ok (.ishl, 1) ∧ decode cX6_takeRing 26 = .ok (.iconst (-1), 1) ∧ decode cX6_takeRing 27 = .ok (.ixor, 1) ∧ decode cX6_takeRing 28 = .ok (.iand, 1) ∧ decode cX6_takeRing 29 = .ok (.putfield 18, 3) ∧ decode cX6_takeRing 32 = .ok (.aload_n 0, 1) ∧ decode cX6_takeRing 33 = .ok (.getfield 9, 3) ∧ decode cX6_takeRing 36 = .ok (.iload_n 2, 1) ∧ decode cX6_takeRing 37 = .ok (.aload_n 0, 1) ∧ decode cX6_takeRing 38 = .ok (.getfield 22, 3) ∧ decode cX6_takeRing 41 = .ok (.getfield 35, 3) ∧ decode cX6_takeRing 44 = .ok (.aload_n 0, 1) ∧ decode cX6_takeRing 45 = .ok (.getfield 15, 3) ∧ decode cX6_takeRing 48 = .ok (.iload_n 2, 1) ∧ decode cX6_takeRing 49 = .ok (.iaload, 1) ∧ decode cX6_takeRing 50 = .ok (.invokevirtual 39, 3) := op_120 lk_dX6_takeRing_25 fun e => op_2 e fun e => op_130 e fun e => op_126 e fun e => op_181 e fun e => op_42 e fun e => op_180 e fun e => op_28 e fun e => op_42 e fun e => op_180 e fun e => op_180 e fun e => op_42 e fun e => op_180 e fun e => op_28 e fun e => op_46 e fun e => (op_182 e fun _ => True.intro).1
theorem dX6_takeRing_25 : decode cX6_takeRing 25 = .ok (.ishl, 1) := bl_dX6_takeRing_25.1
theorem dX6_takeRing_26 : decode cX6_takeRing 26 = .ok (.iconst (-1), 1) := bl_dX6_takeRing_25.2.1
theorem dX6_takeRing_27 : decode cX6_takeRing 27 = .ok (.ixor, 1) := bl_dX6_takeRing_25.2.2.1
theorem dX6_takeRing_28 : decode cX6_takeRing 28 = .ok (.iand, 1) := bl_dX6_takeRing_25.2.2.2.1
theorem dX6_takeRing_29 : decode cX6_takeRing 29 = .ok (.putfield 18, 3) := bl_dX6_takeRing_25.2.2.2.2.1
theorem dX6_takeRing_32 : decode cX6_takeRing 32 = .ok (.aload_n 0, 1) := bl_dX6_takeRing_25.2.2.2.2.2.1
theorem dX6_takeRing_33 : decode cX6_takeRing 33 = .ok (.getfield 9, 3) := bl_dX6_takeRing_25.2.2.2.2.2.2.1
theorem dX6_takeRing_36 : decode cX6_takeRing 36 = .ok (.iload_n 2, 1) := bl_dX6_takeRing_25.2.2.2.2.2.2.2.1
theorem dX6_takeRing_37 : decode cX6_takeRing 37 = .ok (.aload_n 0, 1) := bl_dX6_takeRing_25.2.2.2.2.2.2.2.2.1
theorem dX6_takeRing_38 : decode cX6_takeRing 38 = .ok (.getfield 22, 3) := bl_dX6_takeRing_25.2.2.2.2.2.2.2.2.2.1
theorem dX6_takeRing_41 : decode cX6_takeRing 41 = .ok (.getfield 35, 3) := bl_dX6_takeRing_25.2.2.2.2.2.2.2.2.2.2.1
theorem dX6_takeRing_44 : decode cX6_takeRing 44 = .ok (.aload_n 0, 1) := bl_dX6_takeRing_25.2.2.2.2.2.2.2.2.2.2.2.1
theorem dX6_takeRing_45 : decode cX6_takeRing 45 = .ok (.getfield 15, 3) := bl_dX6_takeRing_25.2.2.2.2.2.2.2.2.2.2.2.2.1
theorem dX6_takeRing_48 : decode cX6_takeRing 48 = .ok (.iload_n 2, 1) := bl_dX6_takeRing_25.2.2.2.2.2.2.2.2.2.2.2.2.2.1
theorem dX6_takeRing_49 : decode cX6_takeRing 49 = .ok (.iaload, 1) := bl_dX6_takeRing_25.2.2.2.2.2.2.2.2.2.2.2.2.2.2.1
theorem dX6_takeRing_50 : decode cX6_takeRing 50 = .ok (.invokevirtual 39, 3) := bl_dX6_takeRing_25.2.2.2.2.2.2.2.2.2.2.2.2.2.2.2
set_option maxRecDepth 20000 in
theorem lk_dX6_takeRing_53 : th_dr cX6_takeRing 53 = 79 :: 42 :: 180 :: 0 :: 15 :: 28 :: 46 :: 61 :: 132 :: 3 :: 1 :: 167 :: 255 :: 196 :: 177 :: th_dr cX6_takeRing 68 := rfl
theorem bl_dX6_takeRing_53 : decode cX6_takeRing 53 = .ok (.iastore, 1) ∧ decode cX6_takeRing 54 = .ok (.aload_n 0, 1) ∧ decode cX6_takeRing 55 = .ok (.getfield 15, 3) ∧ decode cX6_takeRing 58 = .ok (.iload_n 2, 1) ∧ decode cX6_takeRing 59 = .ok (.iaload, 1) ∧ decode cX6_takeRing 60 = .ok (.istore_n 2, 1) ∧ decode cX6_takeRing 61 = .ok (.iinc 3 1, 3) ∧ decode cX6_takeRing 64 = .ok (.goto (-60), 3) ∧ decode cX6_takeRing 67 = .ok (.return_, 1) := op_79 lk_dX6_takeRing_53 fun e => op_42 e fun e => op_180 e fun e => op_28 e fun e => op_46 e fun e => op_61 e fun e => op_132p e rfl fun e => op_167n e rfl rfl fun e => (op_177 e fun _ => True.intro).1
theorem dX6_takeRing_53 : decode cX6_takeRing 53 = .ok (.iastore, 1) := bl_dX6_takeRing_53.1
theorem dX6_takeRing_54 : decode cX6_takeRing 54 = .ok (.aload_n 0, 1) := bl_dX6_takeRing_53.2.1
theorem dX6_takeRing_55 : decode cX6_takeRing 55 = .ok (.getfield 15, 3) := bl_dX6_takeRing_53.2.2.1
theorem dX6_takeRing_58 : decode cX6_takeRing 58 = .ok (.iload_n 2, 1) := bl_dX6_takeRing_53.2.2.2.1
theorem dX6_takeRing_59 : decode cX6_takeRing 59 = .ok (.iaload, 1) := bl_dX6_takeRing_53.2.2.2.2.1
theorem dX6_takeRing_60 : decode cX6_takeRing 60 = .ok (.istore_n 2, 1) := bl_dX6_takeRing_53.2.2.2.2.2.1
theorem dX6_takeRing_61 : decode cX6_takeRing 61 = .ok (.iinc 3 1, 3) := bl_dX6_takeRing_53.2.2.2.2.2.2.1
theorem dX6_takeRing_64 : decode cX6_takeRing 64 = .ok (.goto (-60), 3) := bl_dX6_takeRing_53.2.2.2.2.2.2.2.1
theorem dX6_takeRing_67 : decode cX6_takeRing 67 = .ok (.return_, 1) := bl_dX6_takeRing_53.2.2.2.2.2.2.2.2
theorem lk_dX7_init_0 : th_dr cX7_init 0 = 42 :: 183 :: 0 :: 3 :: 42 :: 8 :: 189 :: 0 :: 9 :: 181 :: 0 :: 11 :: 42 :: 3 :: 181 :: 0 :: 17 :: 42 :: 16 :: 30 :: 188 :: 10 :: 181 :: 0 :: 21 :: 42 :: 17 :: 1 :: 44 :: 188 :: 10 :: th_dr cX7_init 31 := rfl
theorem bl_dX7_init_0 : decode cX7_init 0 = .ok (.aload_n 0, 1) ∧ decode cX7_init 1 = .ok (.invokespecial 3, 3) ∧ decode cX7_init 4 = .ok (.aload_n 0, 1) ∧ decode cX7_init 5 = .ok (.iconst 5, 1) ∧ decode cX7_init 6 = .ok (.anewarray 9, 3) ∧ decode cX7_init 9 = .ok (.putfield 11, 3) ∧ decode cX7_init 12 = .ok (.aload_n 0, 1) ∧ decode cX7_init 13 = .ok (.iconst 0, 1) ∧ decode cX7_init 14 = .ok (.putfield 17, 3) ∧ decode cX7_init 17 = .ok (.aload_n 0, 1) ∧ decode cX7_init 18 = .ok (.bipush 30, 2) ∧ decode cX7_init 20 = .ok (.newarray .int, 2) ∧ decode cX7_init 22 = .ok (.putfield 21, 3) ∧ decode cX7_init 25 = .ok (.aload_n 0, 1) ∧ decode cX7_init 26 = .ok (.sipush 300, 3) ∧ decode cX7_init 29 = .ok (.newarray .int, 2) := op_42 lk_dX7_init_0 fun e => op_183 e fun e => op_42 e fun e => op_8 e fun e => op_189 e fun e => op_181 e fun e => op_42 e fun e => op_3 e fun e => op_181 e fun e => op_42 e fun e => op_16p e rfl fun e => op_188_10 e fun e => op_181 e fun e => op_42 e fun e => op_17p e rfl fun e => (op_188_10 e fun _ => True.intro).1
theorem dX7_init_0 : decode cX7_init 0 = .ok (.aload_n 0, 1) := bl_dX7_init_0.1
theorem dX7_init_1 : decode cX7_init 1 = .ok (.invokespecial 3, 3) := bl_dX7_init_0.2.1
theorem dX7_init_4 : decode cX7_init 4 = .ok (.aload_n 0, 1) := bl_dX7_init_0.2.2.1
theorem dX7_init_5 : decode cX7_init 5 = .ok (.iconst 5, 1) := bl_dX7_init_0.2.2.2.1
theorem dX7_init_6 : decode cX7_init 6 = .ok (.anewarray 9, 3) := bl_dX7_init_0.2.2.2.2.1
theorem dX7_init_9 : decode cX7_init 9 = .ok (.putfield 11, 3) := bl_dX7_init_0.2.2.2.2.2.1
theorem dX7_init_12 : decode cX7_init 12 = .ok (.aload_n 0, 1) := bl_dX7_init_0.2.2.2.2.2.2.1
theorem dX7_init_13 : decode cX7_init 13 = .ok (.iconst 0, 1) := bl_dX7_init_0.2.2.2.2.2.2.2.1
theorem dX7_init_14 : decode cX7_init 14 = .ok (.putfield 17, 3) := bl_dX7_init_0.2.2.2.2.2.2.2.2.1
theorem dX7_init_17 : decode cX7_init 17 = .ok (.aload_n 0, 1) := bl_dX7_init_0.2.2.2.2.2.2.2.2.2.1
theorem dX7_init_18 : decode cX7_init 18 = .ok (.bipush 30, 2) := bl_dX7_init_0.2.2.2.2.2.2.2.2.2.2.1
theorem dX7_init_20 : decode cX7_init 20 = .ok (.newarray .int, 2) := bl_dX7_init_0.2.2.2.2.2.2.2.2.2.2.2.1
theorem dX7_init_22 : decode cX7_init 22 = .ok (.putfield 21, 3) := bl_dX7_init_0.2.2.2.2.2.2.2.2.2.2.2.2.1
theorem dX7_init_25 : decode cX7_init 25 = .ok (.aload_n 0, 1) := bl_dX7_init_0.2.2.2.2.2.2.2.2.2.2.2.2.2.1
theorem dX7_init_26 : decode cX7_init 26 = .ok (.sipush 300, 3) := bl_dX7_init_0.2.2.2.2.2.2.2.2.2.2.2.2.2.2.1
theorem dX7_init_29 : decode cX7_init 29 = .ok (.newarray .int, 2) := bl_dX7_init_0.2.2.2.2.2.2.2.2.2.2.2.2.2.2.2
theorem lk_dX7_init_31 : th_dr cX7_init 31 = 181 :: 0 :: 25 :: 42 :: 8 :: 188 :: 10 :: 181 :: 0 :: 28 :: 42 :: 8 :: 188 :: 10 :: 181 :: 0 :: 31 :: 42 :: 3 :: 181 :: 0 :: 34 :: 42 :: 43 :: 181 :: 0 :: 37 :: 177 :: th_dr cX7_init 59 := rfl
theorem bl_dX7_init_31 : decode cX7_init 31 = .ok (.putfield 25, 3) ∧ decode cX7_init 34 = .ok (.aload_n 0, 1) ∧ decode cX7_init 35 = .ok (.iconst 5, 1) ∧ decode cX7_init 36 = .ok (.newarray .int, 2) ∧ decode cX7_init 38 = .ok (.putfield 28, 3) ∧ decode cX7_init 41 = .ok (.aload_n 0, 1) ∧ decode cX7_init 42 = .ok (.iconst 5, 1) ∧ decode cX7_init 43 = .ok (.newarray .int, 2) ∧ decode cX7_init 45 = .ok (.putfield 31, 3) ∧ decode cX7_init 48 = .ok (.aload_n 0, 1) ∧ decode cX7_init 49 = .ok (.iconst 0, 1) ∧ decode cX7_init 50 = .ok (.putfield 34, 3) ∧ decode cX7_init 53 = .ok (.aload_n 0, 1) ∧ decode cX7_init 54 = .ok (.aload_n 1, 1) ∧ decode cX7_init 55 = .ok (.putfield 37, 3) ∧ decode cX7_init 58 = .ok (.return_, 1) := op_181 lk_dX7_init_31 fun e => op_42 e fun e => op_8 e fun e => op_188_10 e fun e => op_181 e fun e => op_42 e fun e => op_8 e fun e => op_188_10 e fun e => op_181 e fun e => op_42 e fun e => op_3 e fun e => op_181 e fun e => op_42 e fun e => op_43 e fun e => op_181 e fun e => (op_177 e fun _ => True.intro).1
theorem dX7_init_31 : decode cX7_init 31 = .ok (.putfield 25, 3) := bl_dX7_init_31.1
theorem dX7_init_34 : decode cX7_init 34 = .ok (.aload_n 0, 1) := bl_dX7_init_31.2.1
theorem dX7_init_35 : decode cX7_init 35 = .ok (.iconst 5, 1) := bl_dX7_init_31.2.2.1
theorem dX7_init_36 : decode cX7_init 36 = .ok (.newarray .int, 2) := bl_dX7_init_31.2.2.2.1
theorem dX7_init_38 : decode cX7_init 38 = .ok (.putfield 28, 3) := bl_dX7_init_31.2.2.2.2.1
theorem dX7_init_41 : decode cX7_init 41 = .ok (.aload_n 0, 1) := bl_dX7_init_31.2.2.2.2.2.1
theorem dX7_init_42 : decode cX7_init 42 = .ok (.iconst 5, 1) := bl_dX7_init_31.2.2.2.2.2.2.1
theorem dX7_init_43 : decode cX7_init 43 = .ok (.newarray .int, 2) := bl_dX7_init_31.2.2.2.2.2.2.2.1
theorem dX7_init_45 : decode cX7_init 45 = .ok (.putfield 31, 3) := bl_dX7_init_31.2.2.2.2.2.2.2.2.1
theorem dX7_init_48 : decode cX7_init 48 = .ok (.aload_n 0, 1) := bl_dX7_init_31.2.2.2.2.2.2.2.2.2.1
theorem dX7_init_49 : decode cX7_init 49 = .ok (.iconst 0, 1) := bl_dX7_init_31.2.2.2.2.2.2.2.2.2.2.1
theorem dX7_init_50 : decode cX7_init 50 = .ok (.putfield 34, 3) := bl_dX7_init_31.2.2.2.2.2.2.2.2.2.2.2.1
theorem dX7_init_53 : decode cX7_init 53 = .ok (.aload_n 0, 1) := bl_dX7_init_31.2.2.2.2.2.2.2.2.2.2.2.2.1
theorem dX7_init_54 : decode cX7_init 54 = .ok (.aload_n 1, 1) := bl_dX7_init_31.2.2.2.2.2.2.2.2.2.2.2.2.2.1
theorem dX7_init_55 : decode cX7_init 55 = .ok (.putfield 37, 3) := bl_dX7_init_31.2.2.2.2.2.2.2.2.2.2.2.2.2.2.1
theorem dX7_init_58 : decode cX7_init 58 = .ok (.return_, 1) := bl_dX7_init_31.2.2.2.2.2.2.2.2.2.2.2.2.2.2.2
set_option maxRecDepth 20000 in
theorem ggX7_run_X0_boatAt : GoodIn wsX7_run wsX0_boatAt := goodIn_q _ [(12, 6), (161, 9)] rfl gdwsX0_boatAt
set_option maxRecDepth 20000 in
theorem gX7_run_X0_boatAt : GoodIn wsX7_run (wsV RX7 46 RX0 yX0_boatAt wsX0_boatAt) := goodIn_app (goodIn_q _ [(8, 4)] rfl rfl) ggX7_run_X0_boatAt
set_option maxRecDepth 20000 in
theorem gdwsX7_openAtFirst : wsX7_openAtFirst.all goodWord = true := by decide +kernel
set_option maxRecDepth 20000 in
theorem ggX7_run_X7_openAtFirst : GoodIn wsX7_run wsX7_openAtFirst := goodIn_q _ [(22, 1), (2, 1), (23, 5), (11, 1), (28, 3), (15, 3), (31, 5), (13, 1), (36, 31), (9, 2), (12, 1), (14, 1), (67, 55), (153, 45)] rfl gdwsX7_openAtFirst
set_option maxRecDepth 20000 in
theorem gX7_run_X7_openAtFirst : GoodIn wsX7_run (wsV RX7 50 RX7 yX7_openAtFirst wsX7_openAtFirst) := goodIn_app (goodIn_q _ [(18, 4)] rfl rfl) ggX7_run_X7_openAtFirst
set_option maxRecDepth 20000 in
theorem ggX7_run_J7_fill_53178 : GoodIn wsX7_run wsJ7_fill_53178 := goodIn_q _ [(125, 1)] rfl gdwsJ7_fill_53178
set_option maxRecDepth 20000 in
theorem gX7_run_J7_fill_53178 : GoodIn wsX7_run (va_wsS RX7 54 yJ7_fill_53178 wsJ7_fill_53178) := goodIn_app (goodIn_q _ [(122, 3)] rfl rfl) ggX7_run_J7_fill_53178
set_option maxRecDepth 20000 in
theorem gdwsX7_settle : wsX7_settle.all goodWord = true := by decide +kernel
set_option maxRecDepth 20000 in
theorem ggX7_run_X7_settle : GoodIn wsX7_run wsX7_settle := goodIn_q _ [(129, 1), (1, 1), (7, 1), (5, 1), (2, 1), (23, 1), (130, 4), (21, 1), (134, 18), (6, 1), (4, 1), (25, 3), (11, 1), (28, 3), (15, 3), (152, 1), (74, 10), (63, 1), (84, 38), (126, 3), (153, 43)] rfl gdwsX7_settle
set_option maxRecDepth 20000 in
theorem gX7_run_X7_settle : GoodIn wsX7_run (wsV RX7 60 RX7 yX7_settle wsX7_settle) := goodIn_app (goodIn_q _ [(126, 3), (21, 1)] rfl rfl) ggX7_run_X7_settle
theorem lk_dX7_run_0 : th_dr cX7_run 0 = 42 :: 3 :: 181 :: 0 :: 17 :: 3 :: 61 :: 28 :: 42 :: 180 :: 0 :: 37 :: 180 :: 0 :: 41 :: 162 :: 0 :: 76 :: 27 :: 28 :: 122 :: 4 :: 126 :: 153 :: 0 :: 14 :: th_dr cX7_run 26 := rfl
theorem bl_dX7_run_0 : decode cX7_run 0 = .ok (.aload_n 0, 1) ∧ decode cX7_run 1 = .ok (.iconst 0, 1) ∧ decode cX7_run 2 = .ok (.putfield 17, 3) ∧ decode cX7_run 5 = .ok (.iconst 0, 1) ∧ decode cX7_run 6 = .ok (.istore_n 2, 1) ∧ decode cX7_run 7 = .ok (.iload_n 2, 1) ∧ decode cX7_run 8 = .ok (.aload_n 0, 1) ∧ decode cX7_run 9 = .ok (.getfield 37, 3) ∧ decode cX7_run 12 = .ok (.getfield 41, 3) ∧ decode cX7_run 15 = .ok (.if_icmp .ge 76, 3) ∧ decode cX7_run 18 = .ok (.iload_n 1, 1) ∧ decode cX7_run 19 = .ok (.iload_n 2, 1) ∧ decode cX7_run 20 = .ok (.ishr, 1) ∧ decode cX7_run 21 = .ok (.iconst 1, 1) ∧ decode cX7_run 22 = .ok (.iand, 1) ∧ decode cX7_run 23 = .ok (.ifCond .eq 14, 3) := op_42 lk_dX7_run_0 fun e => op_3 e fun e => op_181 e fun e => op_3 e fun e => op_61 e fun e => op_28 e fun e => op_42 e fun e => op_180 e fun e => op_180 e fun e => op_162p e rfl fun e => op_27 e fun e => op_28 e fun e => op_122 e fun e => op_4 e fun e => op_126 e fun e => (op_153p e rfl fun _ => True.intro).1
theorem dX7_run_0 : decode cX7_run 0 = .ok (.aload_n 0, 1) := bl_dX7_run_0.1
theorem dX7_run_1 : decode cX7_run 1 = .ok (.iconst 0, 1) := bl_dX7_run_0.2.1
theorem dX7_run_2 : decode cX7_run 2 = .ok (.putfield 17, 3) := bl_dX7_run_0.2.2.1
theorem dX7_run_5 : decode cX7_run 5 = .ok (.iconst 0, 1) := bl_dX7_run_0.2.2.2.1
theorem dX7_run_6 : decode cX7_run 6 = .ok (.istore_n 2, 1) := bl_dX7_run_0.2.2.2.2.1
theorem dX7_run_7 : decode cX7_run 7 = .ok (.iload_n 2, 1) := bl_dX7_run_0.2.2.2.2.2.1
theorem dX7_run_8 : decode cX7_run 8 = .ok (.aload_n 0, 1) := bl_dX7_run_0.2.2.2.2.2.2.1
theorem dX7_run_9 : decode cX7_run 9 = .ok (.getfield 37, 3) := bl_dX7_run_0.2.2.2.2.2.2.2.1
theorem dX7_run_12 : decode cX7_run 12 = .ok (.getfield 41, 3) := bl_dX7_run_0.2.2.2.2.2.2.2.2.1
theorem dX7_run_15 : decode cX7_run 15 = .ok (.if_icmp .ge 76, 3) := bl_dX7_run_0.2.2.2.2.2.2.2.2.2.1
theorem dX7_run_18 : decode cX7_run 18 = .ok (.iload_n 1, 1) := bl_dX7_run_0.2.2.2.2.2.2.2.2.2.2.1
theorem dX7_run_19 : decode cX7_run 19 = .ok (.iload_n 2, 1) := bl_dX7_run_0.2.2.2.2.2.2.2.2.2.2.2.1
theorem dX7_run_20 : decode cX7_run 20 = .ok (.ishr, 1) := bl_dX7_run_0.2.2.2.2.2.2.2.2.2.2.2.2.1
theorem dX7_run_21 : decode cX7_run 21 = .ok (.iconst 1, 1) := bl_dX7_run_0.2.2.2.2.2.2.2.2.2.2.2.2.2.1
theorem dX7_run_22 : decode cX7_run 22 = .ok (.iand, 1) := bl_dX7_run_0.2.2.2.2.2.2.2.2.2.2.2.2.2.2.1
theorem dX7_run_23 : decode cX7_run 23 = .ok (.ifCond .eq 14, 3) := bl_dX7_run_0.2.2.2.2.2.2.2.2.2.2.2.2.2.2.2
theorem lk_dX7_run_26 : th_dr cX7_run 26 = 42 :: 180 :: 0 :: 37 :: 28 :: 182 :: 0 :: 46 :: 167 :: 0 :: 4 :: 1 :: 78 :: 45 :: 198 :: 0 :: 45 :: 42 :: 180 :: 0 :: 17 :: 8 :: 162 :: 0 :: 37 :: 42 :: 180 :: 0 :: 11 :: 42 :: th_dr cX7_run 56 := rfl
theorem bl_dX7_run_26 : decode cX7_run 26 = .ok (.aload_n 0, 1) ∧ decode cX7_run 27 = .ok (.getfield 37, 3) ∧ decode cX7_run 30 = .ok (.iload_n 2, 1) ∧ decode cX7_run 31 = .ok (.invokevirtual 46, 3) ∧ decode cX7_run 34 = .ok (.goto 4, 3) ∧ decode cX7_run 37 = .ok (.aconst_null, 1) ∧ decode cX7_run 38 = .ok (.astore_n 3, 1) ∧ decode cX7_run 39 = .ok (.aload_n 3, 1) ∧ decode cX7_run 40 = .ok (.ifnull 45, 3) ∧ decode cX7_run 43 = .ok (.aload_n 0, 1) ∧ decode cX7_run 44 = .ok (.getfield 17, 3) ∧ decode cX7_run 47 = .ok (.iconst 5, 1) ∧ decode cX7_run 48 = .ok (.if_icmp .ge 37, 3) ∧ decode cX7_run 51 = .ok (.aload_n 0, 1) ∧ decode cX7_run 52 = .ok (.getfield 11, 3) ∧ decode cX7_run 55 = .ok (.aload_n 0, 1) := op_42 lk_dX7_run_26 fun e => op_180 e fun e => op_28 e fun e => op_182 e fun e => op_167p e rfl fun e => op_1 e fun e => op_78 e fun e => op_45 e fun e => op_198p e rfl fun e => op_42 e fun e => op_180 e fun e => op_8 e fun e => op_162p e rfl fun e => op_42 e fun e => op_180 e fun e => (op_42 e fun _ => True.intro).1
theorem dX7_run_26 : decode cX7_run 26 = .ok (.aload_n 0, 1) := bl_dX7_run_26.1
theorem dX7_run_27 : decode cX7_run 27 = .ok (.getfield 37, 3) := bl_dX7_run_26.2.1
theorem dX7_run_30 : decode cX7_run 30 = .ok (.iload_n 2, 1) := bl_dX7_run_26.2.2.1
theorem dX7_run_31 : decode cX7_run 31 = .ok (.invokevirtual 46, 3) := bl_dX7_run_26.2.2.2.1
theorem dX7_run_34 : decode cX7_run 34 = .ok (.goto 4, 3) := bl_dX7_run_26.2.2.2.2.1
theorem dX7_run_37 : decode cX7_run 37 = .ok (.aconst_null, 1) := bl_dX7_run_26.2.2.2.2.2.1
theorem dX7_run_38 : decode cX7_run 38 = .ok (.astore_n 3, 1) := bl_dX7_run_26.2.2.2.2.2.2.1
theorem dX7_run_39 : decode cX7_run 39 = .ok (.aload_n 3, 1) := bl_dX7_run_26.2.2.2.2.2.2.2.1
theorem dX7_run_40 : decode cX7_run 40 = .ok (.ifnull 45, 3) := bl_dX7_run_26.2.2.2.2.2.2.2.2.1
theorem dX7_run_43 : decode cX7_run 43 = .ok (.aload_n 0, 1) := bl_dX7_run_26.2.2.2.2.2.2.2.2.2.1
theorem dX7_run_44 : decode cX7_run 44 = .ok (.getfield 17, 3) := bl_dX7_run_26.2.2.2.2.2.2.2.2.2.2.1
theorem dX7_run_47 : decode cX7_run 47 = .ok (.iconst 5, 1) := bl_dX7_run_26.2.2.2.2.2.2.2.2.2.2.2.1
theorem dX7_run_48 : decode cX7_run 48 = .ok (.if_icmp .ge 37, 3) := bl_dX7_run_26.2.2.2.2.2.2.2.2.2.2.2.2.1
theorem dX7_run_51 : decode cX7_run 51 = .ok (.aload_n 0, 1) := bl_dX7_run_26.2.2.2.2.2.2.2.2.2.2.2.2.2.1
theorem dX7_run_52 : decode cX7_run 52 = .ok (.getfield 11, 3) := bl_dX7_run_26.2.2.2.2.2.2.2.2.2.2.2.2.2.2.1
theorem dX7_run_55 : decode cX7_run 55 = .ok (.aload_n 0, 1) := bl_dX7_run_26.2.2.2.2.2.2.2.2.2.2.2.2.2.2.2
set_option maxRecDepth 20000 in
theorem lk_dX7_run_56 : th_dr cX7_run 56 = 180 :: 0 :: 17 :: 45 :: 83 :: 42 :: 180 :: 0 :: 21 :: 42 :: 180 :: 0 :: 17 :: 42 :: 45 :: 182 :: 0 :: 50 :: 79 :: 42 :: 89 :: 180 :: 0 :: 17 :: 4 :: 96 :: th_dr cX7_run 82 := rfl
theorem bl_dX7_run_56 : decode cX7_run 56 = .ok (.getfield 17, 3) ∧ decode cX7_run 59 = .ok (.aload_n 3, 1) ∧ decode cX7_run 60 = .ok (.aastore, 1) ∧ decode cX7_run 61 = .ok (.aload_n 0, 1) ∧ decode cX7_run 62 = .ok (.getfield 21, 3) ∧ decode cX7_run 65 = .ok (.aload_n 0, 1) ∧ decode cX7_run 66 = .ok (.getfield 17, 3) ∧ decode cX7_run 69 = .ok (.aload_n 0, 1) ∧ decode cX7_run 70 = .ok (.aload_n 3, 1) ∧ decode cX7_run 71 = .ok (.invokevirtual 50, 3) ∧ decode cX7_run 74 = .ok (.iastore, 1) ∧ decode cX7_run 75 = .ok (.aload_n 0, 1) ∧ decode cX7_run 76 = .ok (.dup, 1) ∧ decode cX7_run 77 = .ok (.getfield 17, 3) ∧ decode cX7_run 80 = .ok (.iconst 1, 1) ∧ decode cX7_run 81 = .ok (.iadd, 1) := op_180 lk_dX7_run_56 fun e => op_45 e fun e => op_83 e fun e => op_42 e fun e => op_180 e fun e => op_42 e fun e => op_180 e fun e => op_42 e fun e => op_45 e fun e => op_182 e fun e => op_79 e fun e => op_42 e fun e => op_89 e fun e => op_180 e fun e => op_4 e fun e => (op_96 e fun _ => True.intro).1
theorem dX7_run_56 : decode cX7_run 56 = .ok (.getfield 17, 3) := bl_dX7_run_56.1
theorem dX7_run_59 : decode cX7_run 59 = .ok (.aload_n 3, 1) := bl_dX7_run_56.2.1
theorem dX7_run_60 : decode cX7_run 60 = .ok (.aastore, 1) := bl_dX7_run_56.2.2.1
theorem dX7_run_61 : decode cX7_run 61 = .ok (.aload_n 0, 1) := bl_dX7_run_56.2.2.2.1
theorem dX7_run_62 : decode cX7_run 62 = .ok (.getfield 21, 3) := bl_dX7_run_56.2.2.2.2.1
theorem dX7_run_65 : decode cX7_run 65 = .ok (.aload_n 0, 1) := bl_dX7_run_56.2.2.2.2.2.1
theorem dX7_run_66 : decode cX7_run 66 = .ok (.getfield 17, 3) := bl_dX7_run_56.2.2.2.2.2.2.1
theorem dX7_run_69 : decode cX7_run 69 = .ok (.aload_n 0, 1) := bl_dX7_run_56.2.2.2.2.2.2.2.1
theorem dX7_run_70 : decode cX7_run 70 = .ok (.aload_n 3, 1) := bl_dX7_run_56.2.2.2.2.2.2.2.2.1
theorem dX7_run_71 : decode cX7_run 71 = .ok (.invokevirtual 50, 3) := bl_dX7_run_56.2.2.2.2.2.2.2.2.2.1
theorem dX7_run_74 : decode cX7_run 74 = .ok (.iastore, 1) := bl_dX7_run_56.2.2.2.2.2.2.2.2.2.2.1
theorem dX7_run_75 : decode cX7_run 75 = .ok (.aload_n 0, 1) := bl_dX7_run_56.2.2.2.2.2.2.2.2.2.2.2.1
theorem dX7_run_76 : decode cX7_run 76 = .ok (.dup, 1) := bl_dX7_run_56.2.2.2.2.2.2.2.2.2.2.2.2.1
theorem dX7_run_77 : decode cX7_run 77 = .ok (.getfield 17, 3) := bl_dX7_run_56.2.2.2.2.2.2.2.2.2.2.2.2.2.1
theorem dX7_run_80 : decode cX7_run 80 = .ok (.iconst 1, 1) := bl_dX7_run_56.2.2.2.2.2.2.2.2.2.2.2.2.2.2.1
theorem dX7_run_81 : decode cX7_run 81 = .ok (.iadd, 1) := bl_dX7_run_56.2.2.2.2.2.2.2.2.2.2.2.2.2.2.2
set_option maxRecDepth 20000 in
theorem lk_dX7_run_82 : th_dr cX7_run 82 = 181 :: 0 :: 17 :: 132 :: 2 :: 1 :: 167 :: 255 :: 175 :: 42 :: 180 :: 0 :: 25 :: 2 :: 184 :: 0 :: 54 :: 42 :: 2 :: 181 :: 0 :: 34 :: 42 :: 3 :: 3 :: 182 :: 0 :: 60 :: 177 :: th_dr cX7_run 111 := rfl
theorem bl_dX7_run_82 : decode cX7_run 82 = .ok (.putfield 17, 3) ∧ decode cX7_run 85 = .ok (.iinc 2 1, 3) ∧ decode cX7_run 88 = .ok (.goto (-81), 3) ∧ decode cX7_run 91 = .ok (.aload_n 0, 1) ∧ decode cX7_run 92 = .ok (.getfield 25, 3) ∧ decode cX7_run 95 = .ok (.iconst (-1), 1) ∧ decode cX7_run 96 = .ok (.invokestatic 54, 3) ∧ decode cX7_run 99 = .ok (.aload_n 0, 1) ∧ decode cX7_run 100 = .ok (.iconst (-1), 1) ∧ decode cX7_run 101 = .ok (.putfield 34, 3) ∧ decode cX7_run 104 = .ok (.aload_n 0, 1) ∧ decode cX7_run 105 = .ok (.iconst 0, 1) ∧ decode cX7_run 106 = .ok (.iconst 0, 1) ∧ decode cX7_run 107 = .ok (.invokevirtual 60, 3) ∧ decode cX7_run 110 = .ok (.return_, 1) := op_181 lk_dX7_run_82 fun e => op_132p e rfl fun e => op_167n e rfl rfl fun e => op_42 e fun e => op_180 e fun e => op_2 e fun e => op_184 e fun e => op_42 e fun e => op_2 e fun e => op_181 e fun e => op_42 e fun e => op_3 e fun e => op_3 e fun e => op_182 e fun e => (op_177 e fun _ => True.intro).1
theorem dX7_run_82 : decode cX7_run 82 = .ok (.putfield 17, 3) := bl_dX7_run_82.1
theorem dX7_run_85 : decode cX7_run 85 = .ok (.iinc 2 1, 3) := bl_dX7_run_82.2.1
theorem dX7_run_88 : decode cX7_run 88 = .ok (.goto (-81), 3) := bl_dX7_run_82.2.2.1
theorem dX7_run_91 : decode cX7_run 91 = .ok (.aload_n 0, 1) := bl_dX7_run_82.2.2.2.1
theorem dX7_run_92 : decode cX7_run 92 = .ok (.getfield 25, 3) := bl_dX7_run_82.2.2.2.2.1
theorem dX7_run_95 : decode cX7_run 95 = .ok (.iconst (-1), 1) := bl_dX7_run_82.2.2.2.2.2.1
theorem dX7_run_96 : decode cX7_run 96 = .ok (.invokestatic 54, 3) := bl_dX7_run_82.2.2.2.2.2.2.1
theorem dX7_run_99 : decode cX7_run 99 = .ok (.aload_n 0, 1) := bl_dX7_run_82.2.2.2.2.2.2.2.1
theorem dX7_run_100 : decode cX7_run 100 = .ok (.iconst (-1), 1) := bl_dX7_run_82.2.2.2.2.2.2.2.2.1
theorem dX7_run_101 : decode cX7_run 101 = .ok (.putfield 34, 3) := bl_dX7_run_82.2.2.2.2.2.2.2.2.2.1
theorem dX7_run_104 : decode cX7_run 104 = .ok (.aload_n 0, 1) := bl_dX7_run_82.2.2.2.2.2.2.2.2.2.2.1
theorem dX7_run_105 : decode cX7_run 105 = .ok (.iconst 0, 1) := bl_dX7_run_82.2.2.2.2.2.2.2.2.2.2.2.1
theorem dX7_run_106 : decode cX7_run 106 = .ok (.iconst 0, 1) := bl_dX7_run_82.2.2.2.2.2.2.2.2.2.2.2.2.1
theorem dX7_run_107 : decode cX7_run 107 = .ok (.invokevirtual 60, 3) := bl_dX7_run_82.2.2.2.2.2.2.2.2.2.2.2.2.2.1
theorem dX7_run_110 : decode cX7_run 110 = .ok (.return_, 1) := bl_dX7_run_82.2.2.2.2.2.2.2.2.2.2.2.2.2.2
set_option maxRecDepth 20000 in
theorem ggX7_buoyFor_X11_within : GoodIn wsX7_buoyFor wsX11_within := goodIn_q _ [(5, 1)] rfl gdwsX11_within
set_option maxRecDepth 20000 in
theorem gX7_buoyFor_X11_within_n64 : GoodIn wsX7_buoyFor (wsX11_within) := ggX7_buoyFor_X11_within
theorem lk_dX7_buoyFor_0 : th_dr cX7_buoyFor 0 = 27 :: 3 :: 42 :: 180 :: 0 :: 17 :: 4 :: 100 :: 184 :: 0 :: 64 :: 153 :: 0 :: 17 :: 27 :: 8 :: 162 :: 0 :: 12 :: 42 :: 180 :: 0 :: 31 :: 27 :: 46 :: 167 :: 0 :: 4 :: th_dr cX7_buoyFor 28 := rfl
theorem bl_dX7_buoyFor_0 : decode cX7_buoyFor 0 = .ok (.iload_n 1, 1) ∧ decode cX7_buoyFor 1 = .ok (.iconst 0, 1) ∧ decode cX7_buoyFor 2 = .ok (.aload_n 0, 1) ∧ decode cX7_buoyFor 3 = .ok (.getfield 17, 3) ∧ decode cX7_buoyFor 6 = .ok (.iconst 1, 1) ∧ decode cX7_buoyFor 7 = .ok (.isub, 1) ∧ decode cX7_buoyFor 8 = .ok (.invokestatic 64, 3) ∧ decode cX7_buoyFor 11 = .ok (.ifCond .eq 17, 3) ∧ decode cX7_buoyFor 14 = .ok (.iload_n 1, 1) ∧ decode cX7_buoyFor 15 = .ok (.iconst 5, 1) ∧ decode cX7_buoyFor 16 = .ok (.if_icmp .ge 12, 3) ∧ decode cX7_buoyFor 19 = .ok (.aload_n 0, 1) ∧ decode cX7_buoyFor 20 = .ok (.getfield 31, 3) ∧ decode cX7_buoyFor 23 = .ok (.iload_n 1, 1) ∧ decode cX7_buoyFor 24 = .ok (.iaload, 1) ∧ decode cX7_buoyFor 25 = .ok (.goto 4, 3) := op_27 lk_dX7_buoyFor_0 fun e => op_3 e fun e => op_42 e fun e => op_180 e fun e => op_4 e fun e => op_100 e fun e => op_184 e fun e => op_153p e rfl fun e => op_27 e fun e => op_8 e fun e => op_162p e rfl fun e => op_42 e fun e => op_180 e fun e => op_27 e fun e => op_46 e fun e => (op_167p e rfl fun _ => True.intro).1
theorem dX7_buoyFor_0 : decode cX7_buoyFor 0 = .ok (.iload_n 1, 1) := bl_dX7_buoyFor_0.1
theorem dX7_buoyFor_1 : decode cX7_buoyFor 1 = .ok (.iconst 0, 1) := bl_dX7_buoyFor_0.2.1
theorem dX7_buoyFor_2 : decode cX7_buoyFor 2 = .ok (.aload_n 0, 1) := bl_dX7_buoyFor_0.2.2.1
theorem dX7_buoyFor_3 : decode cX7_buoyFor 3 = .ok (.getfield 17, 3) := bl_dX7_buoyFor_0.2.2.2.1
theorem dX7_buoyFor_6 : decode cX7_buoyFor 6 = .ok (.iconst 1, 1) := bl_dX7_buoyFor_0.2.2.2.2.1
theorem dX7_buoyFor_7 : decode cX7_buoyFor 7 = .ok (.isub, 1) := bl_dX7_buoyFor_0.2.2.2.2.2.1
theorem dX7_buoyFor_8 : decode cX7_buoyFor 8 = .ok (.invokestatic 64, 3) := bl_dX7_buoyFor_0.2.2.2.2.2.2.1
theorem dX7_buoyFor_11 : decode cX7_buoyFor 11 = .ok (.ifCond .eq 17, 3) := bl_dX7_buoyFor_0.2.2.2.2.2.2.2.1
theorem dX7_buoyFor_14 : decode cX7_buoyFor 14 = .ok (.iload_n 1, 1) := bl_dX7_buoyFor_0.2.2.2.2.2.2.2.2.1
theorem dX7_buoyFor_15 : decode cX7_buoyFor 15 = .ok (.iconst 5, 1) := bl_dX7_buoyFor_0.2.2.2.2.2.2.2.2.2.1
theorem dX7_buoyFor_16 : decode cX7_buoyFor 16 = .ok (.if_icmp .ge 12, 3) := bl_dX7_buoyFor_0.2.2.2.2.2.2.2.2.2.2.1
theorem dX7_buoyFor_19 : decode cX7_buoyFor 19 = .ok (.aload_n 0, 1) := bl_dX7_buoyFor_0.2.2.2.2.2.2.2.2.2.2.2.1
theorem dX7_buoyFor_20 : decode cX7_buoyFor 20 = .ok (.getfield 31, 3) := bl_dX7_buoyFor_0.2.2.2.2.2.2.2.2.2.2.2.2.1
theorem dX7_buoyFor_23 : decode cX7_buoyFor 23 = .ok (.iload_n 1, 1) := bl_dX7_buoyFor_0.2.2.2.2.2.2.2.2.2.2.2.2.2.1
theorem dX7_buoyFor_24 : decode cX7_buoyFor 24 = .ok (.iaload, 1) := bl_dX7_buoyFor_0.2.2.2.2.2.2.2.2.2.2.2.2.2.2.1
theorem dX7_buoyFor_25 : decode cX7_buoyFor 25 = .ok (.goto 4, 3) := bl_dX7_buoyFor_0.2.2.2.2.2.2.2.2.2.2.2.2.2.2.2
theorem lk_dX7_buoyFor_28 : th_dr cX7_buoyFor 28 = 2 :: 172 :: th_dr cX7_buoyFor 30 := rfl
theorem bl_dX7_buoyFor_28 : decode cX7_buoyFor 28 = .ok (.iconst (-1), 1) ∧ decode cX7_buoyFor 29 = .ok (.ireturn, 1) := op_2 lk_dX7_buoyFor_28 fun e => (op_172 e fun _ => True.intro).1
theorem dX7_buoyFor_28 : decode cX7_buoyFor 28 = .ok (.iconst (-1), 1) := bl_dX7_buoyFor_28.1
theorem dX7_buoyFor_29 : decode cX7_buoyFor 29 = .ok (.ireturn, 1) := bl_dX7_buoyFor_28.2
set_option maxRecDepth 20000 in
theorem ggX7_openAtFirst_X0_buoyAt : GoodIn wsX7_openAtFirst wsX0_buoyAt := goodIn_q _ [(8, 6), (118, 9)] rfl gdwsX0_buoyAt
set_option maxRecDepth 20000 in
theorem gX7_openAtFirst_X0_buoyAt : GoodIn wsX7_openAtFirst (wsV RX7 71 RX0 yX0_buoyAt wsX0_buoyAt) := goodIn_app (goodIn_q _ [(4, 4)] rfl rfl) ggX7_openAtFirst_X0_buoyAt
set_option maxRecDepth 20000 in
theorem ggX7_openAtFirst_X0_mayLie : GoodIn wsX7_openAtFirst wsX0_mayLie := goodIn_q _ [(17, 10), (11, 3), (27, 3), (7, 1), (30, 31), (5, 2), (8, 3), (61, 49), (127, 8), (118, 9), (135, 20)] rfl gdwsX0_mayLie
set_option maxRecDepth 20000 in
theorem gX7_openAtFirst_X0_mayLie : GoodIn wsX7_openAtFirst (wsV RX7 79 RX0 yX0_mayLie wsX0_mayLie) := goodIn_app (goodIn_q _ [(14, 3), (7, 1)] rfl rfl) ggX7_openAtFirst_X0_mayLie
theorem lk_dX7_openAtFirst_0 : th_dr cX7_openAtFirst 0 = 3 :: 61 :: 3 :: 62 :: 29 :: 42 :: 180 :: 0 :: 37 :: 180 :: 0 :: 68 :: 162 :: 0 :: 50 :: 42 :: 180 :: 0 :: 37 :: 29 :: 182 :: 0 :: 71 :: 58 :: 4 :: 25 :: 4 :: 198 :: 0 :: 29 :: th_dr cX7_openAtFirst 30 := rfl
theorem bl_dX7_openAtFirst_0 : decode cX7_openAtFirst 0 = .ok (.iconst 0, 1) ∧ decode cX7_openAtFirst 1 = .ok (.istore_n 2, 1) ∧ decode cX7_openAtFirst 2 = .ok (.iconst 0, 1) ∧ decode cX7_openAtFirst 3 = .ok (.istore_n 3, 1) ∧ decode cX7_openAtFirst 4 = .ok (.iload_n 3, 1) ∧ decode cX7_openAtFirst 5 = .ok (.aload_n 0, 1) ∧ decode cX7_openAtFirst 6 = .ok (.getfield 37, 3) ∧ decode cX7_openAtFirst 9 = .ok (.getfield 68, 3) ∧ decode cX7_openAtFirst 12 = .ok (.if_icmp .ge 50, 3) ∧ decode cX7_openAtFirst 15 = .ok (.aload_n 0, 1) ∧ decode cX7_openAtFirst 16 = .ok (.getfield 37, 3) ∧ decode cX7_openAtFirst 19 = .ok (.iload_n 3, 1) ∧ decode cX7_openAtFirst 20 = .ok (.invokevirtual 71, 3) ∧ decode cX7_openAtFirst 23 = .ok (.astore 4, 2) ∧ decode cX7_openAtFirst 25 = .ok (.aload 4, 2) ∧ decode cX7_openAtFirst 27 = .ok (.ifnull 29, 3) := op_3 lk_dX7_openAtFirst_0 fun e => op_61 e fun e => op_3 e fun e => op_62 e fun e => op_29 e fun e => op_42 e fun e => op_180 e fun e => op_180 e fun e => op_162p e rfl fun e => op_42 e fun e => op_180 e fun e => op_29 e fun e => op_182 e fun e => op_58 e fun e => op_25 e fun e => (op_198p e rfl fun _ => True.intro).1
theorem dX7_openAtFirst_0 : decode cX7_openAtFirst 0 = .ok (.iconst 0, 1) := bl_dX7_openAtFirst_0.1
theorem dX7_openAtFirst_1 : decode cX7_openAtFirst 1 = .ok (.istore_n 2, 1) := bl_dX7_openAtFirst_0.2.1
theorem dX7_openAtFirst_2 : decode cX7_openAtFirst 2 = .ok (.iconst 0, 1) := bl_dX7_openAtFirst_0.2.2.1
theorem dX7_openAtFirst_3 : decode cX7_openAtFirst 3 = .ok (.istore_n 3, 1) := bl_dX7_openAtFirst_0.2.2.2.1
theorem dX7_openAtFirst_4 : decode cX7_openAtFirst 4 = .ok (.iload_n 3, 1) := bl_dX7_openAtFirst_0.2.2.2.2.1
theorem dX7_openAtFirst_5 : decode cX7_openAtFirst 5 = .ok (.aload_n 0, 1) := bl_dX7_openAtFirst_0.2.2.2.2.2.1
theorem dX7_openAtFirst_6 : decode cX7_openAtFirst 6 = .ok (.getfield 37, 3) := bl_dX7_openAtFirst_0.2.2.2.2.2.2.1
theorem dX7_openAtFirst_9 : decode cX7_openAtFirst 9 = .ok (.getfield 68, 3) := bl_dX7_openAtFirst_0.2.2.2.2.2.2.2.1
theorem dX7_openAtFirst_12 : decode cX7_openAtFirst 12 = .ok (.if_icmp .ge 50, 3) := bl_dX7_openAtFirst_0.2.2.2.2.2.2.2.2.1
theorem dX7_openAtFirst_15 : decode cX7_openAtFirst 15 = .ok (.aload_n 0, 1) := bl_dX7_openAtFirst_0.2.2.2.2.2.2.2.2.2.1
theorem dX7_openAtFirst_16 : decode cX7_openAtFirst 16 = .ok (.getfield 37, 3) := bl_dX7_openAtFirst_0.2.2.2.2.2.2.2.2.2.2.1
theorem dX7_openAtFirst_19 : decode cX7_openAtFirst 19 = .ok (.iload_n 3, 1) := bl_dX7_openAtFirst_0.2.2.2.2.2.2.2.2.2.2.2.1
theorem dX7_openAtFirst_20 : decode cX7_openAtFirst 20 = .ok (.invokevirtual 71, 3) := bl_dX7_openAtFirst_0.2.2.2.2.2.2.2.2.2.2.2.2.1
theorem dX7_openAtFirst_23 : decode cX7_openAtFirst 23 = .ok (.astore 4, 2) := bl_dX7_openAtFirst_0.2.2.2.2.2.2.2.2.2.2.2.2.2.1
theorem dX7_openAtFirst_25 : decode cX7_openAtFirst 25 = .ok (.aload 4, 2) := bl_dX7_openAtFirst_0.2.2.2.2.2.2.2.2.2.2.2.2.2.2.1
theorem dX7_openAtFirst_27 : decode cX7_openAtFirst 27 = .ok (.ifnull 29, 3) := bl_dX7_openAtFirst_0.2.2.2.2.2.2.2.2.2.2.2.2.2.2.2
theorem lk_dX7_openAtFirst_30 : th_dr cX7_openAtFirst 30 = 42 :: 180 :: 0 :: 37 :: 43 :: 25 :: 4 :: 42 :: 180 :: 0 :: 37 :: 180 :: 0 :: 75 :: 182 :: 0 :: 79 :: 153 :: 0 :: 9 :: 28 :: 4 :: 29 :: 120 :: 128 :: 61 :: 132 :: 3 :: 1 :: th_dr cX7_openAtFirst 59 := rfl
theorem bl_dX7_openAtFirst_30 : decode cX7_openAtFirst 30 = .ok (.aload_n 0, 1) ∧ decode cX7_openAtFirst 31 = .ok (.getfield 37, 3) ∧ decode cX7_openAtFirst 34 = .ok (.aload_n 1, 1) ∧ decode cX7_openAtFirst 35 = .ok (.aload 4, 2) ∧ decode cX7_openAtFirst 37 = .ok (.aload_n 0, 1) ∧ decode cX7_openAtFirst 38 = .ok (.getfield 37, 3) ∧ decode cX7_openAtFirst 41 = .ok (.getfield 75, 3) ∧ decode cX7_openAtFirst 44 = .ok (.invokevirtual 79, 3) ∧ decode cX7_openAtFirst 47 = .ok (.ifCond .eq 9, 3) ∧ decode cX7_openAtFirst 50 = .ok (.iload_n 2, 1) ∧ decode cX7_openAtFirst 51 = .ok (.iconst 1, 1) ∧ decode cX7_openAtFirst 52 = .ok (.iload_n 3, 1) ∧ decode cX7_openAtFirst 53 = .ok (.ishl, 1) ∧ decode cX7_openAtFirst 54 = .ok (.ior, 1) ∧ decode cX7_openAtFirst 55 = .ok (.istore_n 2, 1) ∧ decode cX7_openAtFirst 56 = .ok (.iinc 3 1, 3) := op_42 lk_dX7_openAtFirst_30 fun e => op_180 e fun e => op_43 e fun e => op_25 e fun e => op_42 e fun e => op_180 e fun e => op_180 e fun e => op_182 e fun e => op_153p e rfl fun e => op_28 e fun e => op_4 e fun e => op_29 e fun e => op_120 e fun e => op_128 e fun e => op_61 e fun e => (op_132p e rfl fun _ => True.intro).1
theorem dX7_openAtFirst_30 : decode cX7_openAtFirst 30 = .ok (.aload_n 0, 1) := bl_dX7_openAtFirst_30.1
theorem dX7_openAtFirst_31 : decode cX7_openAtFirst 31 = .ok (.getfield 37, 3) := bl_dX7_openAtFirst_30.2.1
theorem dX7_openAtFirst_34 : decode cX7_openAtFirst 34 = .ok (.aload_n 1, 1) := bl_dX7_openAtFirst_30.2.2.1
theorem dX7_openAtFirst_35 : decode cX7_openAtFirst 35 = .ok (.aload 4, 2) := bl_dX7_openAtFirst_30.2.2.2.1
theorem dX7_openAtFirst_37 : decode cX7_openAtFirst 37 = .ok (.aload_n 0, 1) := bl_dX7_openAtFirst_30.2.2.2.2.1
theorem dX7_openAtFirst_38 : decode cX7_openAtFirst 38 = .ok (.getfield 37, 3) := bl_dX7_openAtFirst_30.2.2.2.2.2.1
theorem dX7_openAtFirst_41 : decode cX7_openAtFirst 41 = .ok (.getfield 75, 3) := bl_dX7_openAtFirst_30.2.2.2.2.2.2.1
theorem dX7_openAtFirst_44 : decode cX7_openAtFirst 44 = .ok (.invokevirtual 79, 3) := bl_dX7_openAtFirst_30.2.2.2.2.2.2.2.1
theorem dX7_openAtFirst_47 : decode cX7_openAtFirst 47 = .ok (.ifCond .eq 9, 3) := bl_dX7_openAtFirst_30.2.2.2.2.2.2.2.2.1
theorem dX7_openAtFirst_50 : decode cX7_openAtFirst 50 = .ok (.iload_n 2, 1) := bl_dX7_openAtFirst_30.2.2.2.2.2.2.2.2.2.1
theorem dX7_openAtFirst_51 : decode cX7_openAtFirst 51 = .ok (.iconst 1, 1) := bl_dX7_openAtFirst_30.2.2.2.2.2.2.2.2.2.2.1
theorem dX7_openAtFirst_52 : decode cX7_openAtFirst 52 = .ok (.iload_n 3, 1) := bl_dX7_openAtFirst_30.2.2.2.2.2.2.2.2.2.2.2.1
theorem dX7_openAtFirst_53 : decode cX7_openAtFirst 53 = .ok (.ishl, 1) := bl_dX7_openAtFirst_30.2.2.2.2.2.2.2.2.2.2.2.2.1
theorem dX7_openAtFirst_54 : decode cX7_openAtFirst 54 = .ok (.ior, 1) := bl_dX7_openAtFirst_30.2.2.2.2.2.2.2.2.2.2.2.2.2.1
theorem dX7_openAtFirst_55 : decode cX7_openAtFirst 55 = .ok (.istore_n 2, 1) := bl_dX7_openAtFirst_30.2.2.2.2.2.2.2.2.2.2.2.2.2.2.1
theorem dX7_openAtFirst_56 : decode cX7_openAtFirst 56 = .ok (.iinc 3 1, 3) := bl_dX7_openAtFirst_30.2.2.2.2.2.2.2.2.2.2.2.2.2.2.2
set_option maxRecDepth 20000 in
theorem lk_dX7_openAtFirst_59 : th_dr cX7_openAtFirst 59 = 167 :: 255 :: 201 :: 28 :: 172 :: th_dr cX7_openAtFirst 64 := rfl
theorem bl_dX7_openAtFirst_59 : decode cX7_openAtFirst 59 = .ok (.goto (-55), 3) ∧ decode cX7_openAtFirst 62 = .ok (.iload_n 2, 1) ∧ decode cX7_openAtFirst 63 = .ok (.ireturn, 1) := op_167n lk_dX7_openAtFirst_59 rfl rfl fun e => op_28 e fun e => (op_172 e fun _ => True.intro).1
theorem dX7_openAtFirst_59 : decode cX7_openAtFirst 59 = .ok (.goto (-55), 3) := bl_dX7_openAtFirst_59.1
theorem dX7_openAtFirst_62 : decode cX7_openAtFirst 62 = .ok (.iload_n 2, 1) := bl_dX7_openAtFirst_59.2.1
theorem dX7_openAtFirst_63 : decode cX7_openAtFirst 63 = .ok (.ireturn, 1) := bl_dX7_openAtFirst_59.2.2
set_option maxRecDepth 20000 in
theorem gdwsX7_keepIfBetter : wsX7_keepIfBetter.all goodWord = true := by decide +kernel
set_option maxRecDepth 20000 in
theorem ggX7_settle_X7_keepIfBetter : GoodIn wsX7_settle wsX7_keepIfBetter := goodIn_q _ [(11, 1), (2, 1), (6, 1), (12, 5), (94, 8)] rfl gdwsX7_keepIfBetter
set_option maxRecDepth 20000 in
theorem gX7_settle_X7_keepIfBetter : GoodIn wsX7_settle (wsV RX7 83 RX7 yX7_keepIfBetter wsX7_keepIfBetter) := goodIn_app (goodIn_q _ [(7, 4)] rfl rfl) ggX7_settle_X7_keepIfBetter
set_option maxRecDepth 20000 in
theorem gdwsX7_hopefulFrom : wsX7_hopefulFrom.all goodWord = true := by decide +kernel
set_option maxRecDepth 20000 in
theorem ggX7_settle_X7_hopefulFrom : GoodIn wsX7_settle wsX7_hopefulFrom := goodIn_q _ [(20, 1), (1, 1), (3, 1), (94, 8)] rfl gdwsX7_hopefulFrom
set_option maxRecDepth 20000 in
theorem gX7_settle_X7_hopefulFrom : GoodIn wsX7_settle (wsV RX7 87 RX7 yX7_hopefulFrom wsX7_hopefulFrom) := goodIn_app (goodIn_q _ [(17, 3), (10, 1)] rfl rfl) ggX7_settle_X7_hopefulFrom
set_option maxRecDepth 20000 in
theorem gdwsX7_narrow : wsX7_narrow.all goodWord = true := by decide +kernel
set_option maxRecDepth 20000 in
theorem ggX7_settle_X7_narrow : GoodIn wsX7_settle wsX7_narrow := goodIn_q _ [(24, 1), (1, 1), (3, 1), (25, 3), (10, 1), (28, 3), (4, 2), (31, 60), (94, 43)] rfl gdwsX7_narrow
set_option maxRecDepth 20000 in
theorem gX7_settle_X7_narrow : GoodIn wsX7_settle (wsV RX7 91 RX7 yX7_narrow wsX7_narrow) := goodIn_app (goodIn_q _ [(21, 3), (10, 1)] rfl rfl) ggX7_settle_X7_narrow
set_option maxRecDepth 20000 in
theorem ggX7_settle_X7_settle : GoodIn wsX7_settle wsX7_settle := goodIn_q _ [(0, 137)] rfl gdwsX7_settle
set_option maxRecDepth 20000 in
theorem gX7_settle_X7_settle : GoodIn wsX7_settle (wsV RX7 60 RX7 yX7_settle wsX7_settle) := goodIn_app (goodIn_q _ [(91, 3), (10, 1)] rfl rfl) ggX7_settle_X7_settle
theorem lk_dX7_settle_0 : th_dr cX7_settle 0 = 27 :: 42 :: 180 :: 0 :: 17 :: 162 :: 0 :: 8 :: 27 :: 8 :: 161 :: 0 :: 9 :: 42 :: 28 :: 182 :: 0 :: 83 :: 177 :: 28 :: 42 :: 27 :: 182 :: 0 :: 87 :: 96 :: th_dr cX7_settle 26 := rfl
theorem bl_dX7_settle_0 : decode cX7_settle 0 = .ok (.iload_n 1, 1) ∧ decode cX7_settle 1 = .ok (.aload_n 0, 1) ∧ decode cX7_settle 2 = .ok (.getfield 17, 3) ∧ decode cX7_settle 5 = .ok (.if_icmp .ge 8, 3) ∧ decode cX7_settle 8 = .ok (.iload_n 1, 1) ∧ decode cX7_settle 9 = .ok (.iconst 5, 1) ∧ decode cX7_settle 10 = .ok (.if_icmp .lt 9, 3) ∧ decode cX7_settle 13 = .ok (.aload_n 0, 1) ∧ decode cX7_settle 14 = .ok (.iload_n 2, 1) ∧ decode cX7_settle 15 = .ok (.invokevirtual 83, 3) ∧ decode cX7_settle 18 = .ok (.return_, 1) ∧ decode cX7_settle 19 = .ok (.iload_n 2, 1) ∧ decode cX7_settle 20 = .ok (.aload_n 0, 1) ∧ decode cX7_settle 21 = .ok (.iload_n 1, 1) ∧ decode cX7_settle 22 = .ok (.invokevirtual 87, 3) ∧ decode cX7_settle 25 = .ok (.iadd, 1) := op_27 lk_dX7_settle_0 fun e => op_42 e fun e => op_180 e fun e => op_162p e rfl fun e => op_27 e fun e => op_8 e fun e => op_161p e rfl fun e => op_42 e fun e => op_28 e fun e => op_182 e fun e => op_177 e fun e => op_28 e fun e => op_42 e fun e => op_27 e fun e => op_182 e fun e => (op_96 e fun _ => True.intro).1
theorem dX7_settle_0 : decode cX7_settle 0 = .ok (.iload_n 1, 1) := bl_dX7_settle_0.1
theorem dX7_settle_1 : decode cX7_settle 1 = .ok (.aload_n 0, 1) := bl_dX7_settle_0.2.1
theorem dX7_settle_2 : decode cX7_settle 2 = .ok (.getfield 17, 3) := bl_dX7_settle_0.2.2.1
theorem dX7_settle_5 : decode cX7_settle 5 = .ok (.if_icmp .ge 8, 3) := bl_dX7_settle_0.2.2.2.1
theorem dX7_settle_8 : decode cX7_settle 8 = .ok (.iload_n 1, 1) := bl_dX7_settle_0.2.2.2.2.1
theorem dX7_settle_9 : decode cX7_settle 9 = .ok (.iconst 5, 1) := bl_dX7_settle_0.2.2.2.2.2.1
theorem dX7_settle_10 : decode cX7_settle 10 = .ok (.if_icmp .lt 9, 3) := bl_dX7_settle_0.2.2.2.2.2.2.1
theorem dX7_settle_13 : decode cX7_settle 13 = .ok (.aload_n 0, 1) := bl_dX7_settle_0.2.2.2.2.2.2.2.1
theorem dX7_settle_14 : decode cX7_settle 14 = .ok (.iload_n 2, 1) := bl_dX7_settle_0.2.2.2.2.2.2.2.2.1
theorem dX7_settle_15 : decode cX7_settle 15 = .ok (.invokevirtual 83, 3) := bl_dX7_settle_0.2.2.2.2.2.2.2.2.2.1
theorem dX7_settle_18 : decode cX7_settle 18 = .ok (.return_, 1) := bl_dX7_settle_0.2.2.2.2.2.2.2.2.2.2.1
theorem dX7_settle_19 : decode cX7_settle 19 = .ok (.iload_n 2, 1) := bl_dX7_settle_0.2.2.2.2.2.2.2.2.2.2.2.1
theorem dX7_settle_20 : decode cX7_settle 20 = .ok (.aload_n 0, 1) := bl_dX7_settle_0.2.2.2.2.2.2.2.2.2.2.2.2.1
theorem dX7_settle_21 : decode cX7_settle 21 = .ok (.iload_n 1, 1) := bl_dX7_settle_0.2.2.2.2.2.2.2.2.2.2.2.2.2.1
theorem dX7_settle_22 : decode cX7_settle 22 = .ok (.invokevirtual 87, 3) := bl_dX7_settle_0.2.2.2.2.2.2.2.2.2.2.2.2.2.2.1
theorem dX7_settle_25 : decode cX7_settle 25 = .ok (.iadd, 1) := bl_dX7_settle_0.2.2.2.2.2.2.2.2.2.2.2.2.2.2.2
theorem lk_dX7_settle_26 : th_dr cX7_settle 26 = 42 :: 180 :: 0 :: 34 :: 163 :: 0 :: 4 :: 177 :: 42 :: 180 :: 0 :: 21 :: 27 :: 8 :: 104 :: 27 :: 96 :: 46 :: 62 :: 3 :: 54 :: 4 :: 21 :: 4 :: th_dr cX7_settle 50 := rfl
theorem bl_dX7_settle_26 : decode cX7_settle 26 = .ok (.aload_n 0, 1) ∧ decode cX7_settle 27 = .ok (.getfield 34, 3) ∧ decode cX7_settle 30 = .ok (.if_icmp .gt 4, 3) ∧ decode cX7_settle 33 = .ok (.return_, 1) ∧ decode cX7_settle 34 = .ok (.aload_n 0, 1) ∧ decode cX7_settle 35 = .ok (.getfield 21, 3) ∧ decode cX7_settle 38 = .ok (.iload_n 1, 1) ∧ decode cX7_settle 39 = .ok (.iconst 5, 1) ∧ decode cX7_settle 40 = .ok (.imul, 1) ∧ decode cX7_settle 41 = .ok (.iload_n 1, 1) ∧ decode cX7_settle 42 = .ok (.iadd, 1) ∧ decode cX7_settle 43 = .ok (.iaload, 1) ∧ decode cX7_settle 44 = .ok (.istore_n 3, 1) ∧ decode cX7_settle 45 = .ok (.iconst 0, 1) ∧ decode cX7_settle 46 = .ok (.istore 4, 2) ∧ decode cX7_settle 48 = .ok (.iload 4, 2) := op_42 lk_dX7_settle_26 fun e => op_180 e fun e => op_163p e rfl fun e => op_177 e fun e => op_42 e fun e => op_180 e fun e => op_27 e fun e => op_8 e fun e => op_104 e fun e => op_27 e fun e => op_96 e fun e => op_46 e fun e => op_62 e fun e => op_3 e fun e => op_54 e fun e => (op_21 e fun _ => True.intro).1
theorem dX7_settle_26 : decode cX7_settle 26 = .ok (.aload_n 0, 1) := bl_dX7_settle_26.1
theorem dX7_settle_27 : decode cX7_settle 27 = .ok (.getfield 34, 3) := bl_dX7_settle_26.2.1
theorem dX7_settle_30 : decode cX7_settle 30 = .ok (.if_icmp .gt 4, 3) := bl_dX7_settle_26.2.2.1
theorem dX7_settle_33 : decode cX7_settle 33 = .ok (.return_, 1) := bl_dX7_settle_26.2.2.2.1
theorem dX7_settle_34 : decode cX7_settle 34 = .ok (.aload_n 0, 1) := bl_dX7_settle_26.2.2.2.2.1
theorem dX7_settle_35 : decode cX7_settle 35 = .ok (.getfield 21, 3) := bl_dX7_settle_26.2.2.2.2.2.1
theorem dX7_settle_38 : decode cX7_settle 38 = .ok (.iload_n 1, 1) := bl_dX7_settle_26.2.2.2.2.2.2.1
theorem dX7_settle_39 : decode cX7_settle 39 = .ok (.iconst 5, 1) := bl_dX7_settle_26.2.2.2.2.2.2.2.1
theorem dX7_settle_40 : decode cX7_settle 40 = .ok (.imul, 1) := bl_dX7_settle_26.2.2.2.2.2.2.2.2.1
theorem dX7_settle_41 : decode cX7_settle 41 = .ok (.iload_n 1, 1) := bl_dX7_settle_26.2.2.2.2.2.2.2.2.2.1
theorem dX7_settle_42 : decode cX7_settle 42 = .ok (.iadd, 1) := bl_dX7_settle_26.2.2.2.2.2.2.2.2.2.2.1
theorem dX7_settle_43 : decode cX7_settle 43 = .ok (.iaload, 1) := bl_dX7_settle_26.2.2.2.2.2.2.2.2.2.2.2.1
theorem dX7_settle_44 : decode cX7_settle 44 = .ok (.istore_n 3, 1) := bl_dX7_settle_26.2.2.2.2.2.2.2.2.2.2.2.2.1
theorem dX7_settle_45 : decode cX7_settle 45 = .ok (.iconst 0, 1) := bl_dX7_settle_26.2.2.2.2.2.2.2.2.2.2.2.2.2.1
theorem dX7_settle_46 : decode cX7_settle 46 = .ok (.istore 4, 2) := bl_dX7_settle_26.2.2.2.2.2.2.2.2.2.2.2.2.2.2.1
theorem dX7_settle_48 : decode cX7_settle 48 = .ok (.iload 4, 2) := bl_dX7_settle_26.2.2.2.2.2.2.2.2.2.2.2.2.2.2.2
set_option maxRecDepth 20000 in
theorem lk_dX7_settle_50 : th_dr cX7_settle 50 = 42 :: 180 :: 0 :: 37 :: 180 :: 0 :: 68 :: 162 :: 0 :: 43 :: 29 :: 21 :: 4 :: 122 :: 4 :: 126 :: 153 :: 0 :: 28 :: 42 :: 180 :: 0 :: 28 :: 27 :: 21 :: 4 :: 79 :: 42 :: th_dr cX7_settle 78 := rfl
theorem bl_dX7_settle_50 : decode cX7_settle 50 = .ok (.aload_n 0, 1) ∧ decode cX7_settle 51 = .ok (.getfield 37, 3) ∧ decode cX7_settle 54 = .ok (.getfield 68, 3) ∧ decode cX7_settle 57 = .ok (.if_icmp .ge 43, 3) ∧ decode cX7_settle 60 = .ok (.iload_n 3, 1) ∧ decode cX7_settle 61 = .ok (.iload 4, 2) ∧ decode cX7_settle 63 = .ok (.ishr, 1) ∧ decode cX7_settle 64 = .ok (.iconst 1, 1) ∧ decode cX7_settle 65 = .ok (.iand, 1) ∧ decode cX7_settle 66 = .ok (.ifCond .eq 28, 3) ∧ decode cX7_settle 69 = .ok (.aload_n 0, 1) ∧ decode cX7_settle 70 = .ok (.getfield 28, 3) ∧ decode cX7_settle 73 = .ok (.iload_n 1, 1) ∧ decode cX7_settle 74 = .ok (.iload 4, 2) ∧ decode cX7_settle 76 = .ok (.iastore, 1) ∧ decode cX7_settle 77 = .ok (.aload_n 0, 1) := op_42 lk_dX7_settle_50 fun e => op_180 e fun e => op_180 e fun e => op_162p e rfl fun e => op_29 e fun e => op_21 e fun e => op_122 e fun e => op_4 e fun e => op_126 e fun e => op_153p e rfl fun e => op_42 e fun e => op_180 e fun e => op_27 e fun e => op_21 e fun e => op_79 e fun e => (op_42 e fun _ => True.intro).1
theorem dX7_settle_50 : decode cX7_settle 50 = .ok (.aload_n 0, 1) := bl_dX7_settle_50.1
theorem dX7_settle_51 : decode cX7_settle 51 = .ok (.getfield 37, 3) := bl_dX7_settle_50.2.1
theorem dX7_settle_54 : decode cX7_settle 54 = .ok (.getfield 68, 3) := bl_dX7_settle_50.2.2.1
theorem dX7_settle_57 : decode cX7_settle 57 = .ok (.if_icmp .ge 43, 3) := bl_dX7_settle_50.2.2.2.1
theorem dX7_settle_60 : decode cX7_settle 60 = .ok (.iload_n 3, 1) := bl_dX7_settle_50.2.2.2.2.1
theorem dX7_settle_61 : decode cX7_settle 61 = .ok (.iload 4, 2) := bl_dX7_settle_50.2.2.2.2.2.1
theorem dX7_settle_63 : decode cX7_settle 63 = .ok (.ishr, 1) := bl_dX7_settle_50.2.2.2.2.2.2.1
theorem dX7_settle_64 : decode cX7_settle 64 = .ok (.iconst 1, 1) := bl_dX7_settle_50.2.2.2.2.2.2.2.1
theorem dX7_settle_65 : decode cX7_settle 65 = .ok (.iand, 1) := bl_dX7_settle_50.2.2.2.2.2.2.2.2.1
theorem dX7_settle_66 : decode cX7_settle 66 = .ok (.ifCond .eq 28, 3) := bl_dX7_settle_50.2.2.2.2.2.2.2.2.2.1
theorem dX7_settle_69 : decode cX7_settle 69 = .ok (.aload_n 0, 1) := bl_dX7_settle_50.2.2.2.2.2.2.2.2.2.2.1
theorem dX7_settle_70 : decode cX7_settle 70 = .ok (.getfield 28, 3) := bl_dX7_settle_50.2.2.2.2.2.2.2.2.2.2.2.1
theorem dX7_settle_73 : decode cX7_settle 73 = .ok (.iload_n 1, 1) := bl_dX7_settle_50.2.2.2.2.2.2.2.2.2.2.2.2.1
theorem dX7_settle_74 : decode cX7_settle 74 = .ok (.iload 4, 2) := bl_dX7_settle_50.2.2.2.2.2.2.2.2.2.2.2.2.2.1
theorem dX7_settle_76 : decode cX7_settle 76 = .ok (.iastore, 1) := bl_dX7_settle_50.2.2.2.2.2.2.2.2.2.2.2.2.2.2.1
theorem dX7_settle_77 : decode cX7_settle 77 = .ok (.aload_n 0, 1) := bl_dX7_settle_50.2.2.2.2.2.2.2.2.2.2.2.2.2.2.2
set_option maxRecDepth 20000 in
theorem lk_dX7_settle_78 : th_dr cX7_settle 78 = 27 :: 21 :: 4 :: 182 :: 0 :: 91 :: 42 :: 27 :: 4 :: 96 :: 28 :: 4 :: 96 :: 182 :: 0 :: 60 :: 132 :: 4 :: 1 :: 167 :: 255 :: 207 :: 42 :: 180 :: 0 :: 28 :: 27 :: th_dr cX7_settle 105 := rfl
theorem bl_dX7_settle_78 : decode cX7_settle 78 = .ok (.iload_n 1, 1) ∧ decode cX7_settle 79 = .ok (.iload 4, 2) ∧ decode cX7_settle 81 = .ok (.invokevirtual 91, 3) ∧ decode cX7_settle 84 = .ok (.aload_n 0, 1) ∧ decode cX7_settle 85 = .ok (.iload_n 1, 1) ∧ decode cX7_settle 86 = .ok (.iconst 1, 1) ∧ decode cX7_settle 87 = .ok (.iadd, 1) ∧ decode cX7_settle 88 = .ok (.iload_n 2, 1) ∧ decode cX7_settle 89 = .ok (.iconst 1, 1) ∧ decode cX7_settle 90 = .ok (.iadd, 1) ∧ decode cX7_settle 91 = .ok (.invokevirtual 60, 3) ∧ decode cX7_settle 94 = .ok (.iinc 4 1, 3) ∧ decode cX7_settle 97 = .ok (.goto (-49), 3) ∧ decode cX7_settle 100 = .ok (.aload_n 0, 1) ∧ decode cX7_settle 101 = .ok (.getfield 28, 3) ∧ decode cX7_settle 104 = .ok (.iload_n 1, 1) := op_27 lk_dX7_settle_78 fun e => op_21 e fun e => op_182 e fun e => op_42 e fun e => op_27 e fun e => op_4 e fun e => op_96 e fun e => op_28 e fun e => op_4 e fun e => op_96 e fun e => op_182 e fun e => op_132p e rfl fun e => op_167n e rfl rfl fun e => op_42 e fun e => op_180 e fun e => (op_27 e fun _ => True.intro).1
theorem dX7_settle_78 : decode cX7_settle 78 = .ok (.iload_n 1, 1) := bl_dX7_settle_78.1
theorem dX7_settle_79 : decode cX7_settle 79 = .ok (.iload 4, 2) := bl_dX7_settle_78.2.1
theorem dX7_settle_81 : decode cX7_settle 81 = .ok (.invokevirtual 91, 3) := bl_dX7_settle_78.2.2.1
theorem dX7_settle_84 : decode cX7_settle 84 = .ok (.aload_n 0, 1) := bl_dX7_settle_78.2.2.2.1
theorem dX7_settle_85 : decode cX7_settle 85 = .ok (.iload_n 1, 1) := bl_dX7_settle_78.2.2.2.2.1
theorem dX7_settle_86 : decode cX7_settle 86 = .ok (.iconst 1, 1) := bl_dX7_settle_78.2.2.2.2.2.1
theorem dX7_settle_87 : decode cX7_settle 87 = .ok (.iadd, 1) := bl_dX7_settle_78.2.2.2.2.2.2.1
theorem dX7_settle_88 : decode cX7_settle 88 = .ok (.iload_n 2, 1) := bl_dX7_settle_78.2.2.2.2.2.2.2.1
theorem dX7_settle_89 : decode cX7_settle 89 = .ok (.iconst 1, 1) := bl_dX7_settle_78.2.2.2.2.2.2.2.2.1
theorem dX7_settle_90 : decode cX7_settle 90 = .ok (.iadd, 1) := bl_dX7_settle_78.2.2.2.2.2.2.2.2.2.1
theorem dX7_settle_91 : decode cX7_settle 91 = .ok (.invokevirtual 60, 3) := bl_dX7_settle_78.2.2.2.2.2.2.2.2.2.2.1
theorem dX7_settle_94 : decode cX7_settle 94 = .ok (.iinc 4 1, 3) := bl_dX7_settle_78.2.2.2.2.2.2.2.2.2.2.2.1
theorem dX7_settle_97 : decode cX7_settle 97 = .ok (.goto (-49), 3) := bl_dX7_settle_78.2.2.2.2.2.2.2.2.2.2.2.2.1
theorem dX7_settle_100 : decode cX7_settle 100 = .ok (.aload_n 0, 1) := bl_dX7_settle_78.2.2.2.2.2.2.2.2.2.2.2.2.2.1
theorem dX7_settle_101 : decode cX7_settle 101 = .ok (.getfield 28, 3) := bl_dX7_settle_78.2.2.2.2.2.2.2.2.2.2.2.2.2.2.1
theorem dX7_settle_104 : decode cX7_settle 104 = .ok (.iload_n 1, 1) := bl_dX7_settle_78.2.2.2.2.2.2.2.2.2.2.2.2.2.2.2
set_option maxRecDepth 20000 in
theorem lk_dX7_settle_105 : th_dr cX7_settle 105 = 2 :: 79 :: 42 :: 27 :: 2 :: 182 :: 0 :: 91 :: 42 :: 27 :: 4 :: 96 :: 28 :: 182 :: 0 :: 60 :: 177 :: th_dr cX7_settle 122 := rfl
theorem bl_dX7_settle_105 : decode cX7_settle 105 = .ok (.iconst (-1), 1) ∧ decode cX7_settle 106 = .ok (.iastore, 1) ∧ decode cX7_settle 107 = .ok (.aload_n 0, 1) ∧ decode cX7_settle 108 = .ok (.iload_n 1, 1) ∧ decode cX7_settle 109 = .ok (.iconst (-1), 1) ∧ decode cX7_settle 110 = .ok (.invokevirtual 91, 3) ∧ decode cX7_settle 113 = .ok (.aload_n 0, 1) ∧ decode cX7_settle 114 = .ok (.iload_n 1, 1) ∧ decode cX7_settle 115 = .ok (.iconst 1, 1) ∧ decode cX7_settle 116 = .ok (.iadd, 1) ∧ decode cX7_settle 117 = .ok (.iload_n 2, 1) ∧ decode cX7_settle 118 = .ok (.invokevirtual 60, 3) ∧ decode cX7_settle 121 = .ok (.return_, 1) := op_2 lk_dX7_settle_105 fun e => op_79 e fun e => op_42 e fun e => op_27 e fun e => op_2 e fun e => op_182 e fun e => op_42 e fun e => op_27 e fun e => op_4 e fun e => op_96 e fun e => op_28 e fun e => op_182 e fun e => (op_177 e fun _ => True.intro).1
theorem dX7_settle_105 : decode cX7_settle 105 = .ok (.iconst (-1), 1) := bl_dX7_settle_105.1
theorem dX7_settle_106 : decode cX7_settle 106 = .ok (.iastore, 1) := bl_dX7_settle_105.2.1
theorem dX7_settle_107 : decode cX7_settle 107 = .ok (.aload_n 0, 1) := bl_dX7_settle_105.2.2.1
theorem dX7_settle_108 : decode cX7_settle 108 = .ok (.iload_n 1, 1) := bl_dX7_settle_105.2.2.2.1
theorem dX7_settle_109 : decode cX7_settle 109 = .ok (.iconst (-1), 1) := bl_dX7_settle_105.2.2.2.2.1
theorem dX7_settle_110 : decode cX7_settle 110 = .ok (.invokevirtual 91, 3) := bl_dX7_settle_105.2.2.2.2.2.1
theorem dX7_settle_113 : decode cX7_settle 113 = .ok (.aload_n 0, 1) := bl_dX7_settle_105.2.2.2.2.2.2.1
theorem dX7_settle_114 : decode cX7_settle 114 = .ok (.iload_n 1, 1) := bl_dX7_settle_105.2.2.2.2.2.2.2.1
theorem dX7_settle_115 : decode cX7_settle 115 = .ok (.iconst 1, 1) := bl_dX7_settle_105.2.2.2.2.2.2.2.2.1
theorem dX7_settle_116 : decode cX7_settle 116 = .ok (.iadd, 1) := bl_dX7_settle_105.2.2.2.2.2.2.2.2.2.1
theorem dX7_settle_117 : decode cX7_settle 117 = .ok (.iload_n 2, 1) := bl_dX7_settle_105.2.2.2.2.2.2.2.2.2.2.1
theorem dX7_settle_118 : decode cX7_settle 118 = .ok (.invokevirtual 60, 3) := bl_dX7_settle_105.2.2.2.2.2.2.2.2.2.2.2.1
theorem dX7_settle_121 : decode cX7_settle 121 = .ok (.return_, 1) := bl_dX7_settle_105.2.2.2.2.2.2.2.2.2.2.2.2
theorem lk_dX7_keepIfBetter_0 : th_dr cX7_keepIfBetter 0 = 27 :: 42 :: 180 :: 0 :: 34 :: 164 :: 0 :: 22 :: 42 :: 27 :: 181 :: 0 :: 34 :: 42 :: 180 :: 0 :: 28 :: 3 :: 42 :: 180 :: 0 :: 31 :: 3 :: 8 :: 184 :: 0 :: 94 :: 177 :: th_dr cX7_keepIfBetter 28 := rfl
theorem bl_dX7_keepIfBetter_0 : decode cX7_keepIfBetter 0 = .ok (.iload_n 1, 1) ∧ decode cX7_keepIfBetter 1 = .ok (.aload_n 0, 1) ∧ decode cX7_keepIfBetter 2 = .ok (.getfield 34, 3) ∧ decode cX7_keepIfBetter 5 = .ok (.if_icmp .le 22, 3) ∧ decode cX7_keepIfBetter 8 = .ok (.aload_n 0, 1) ∧ decode cX7_keepIfBetter 9 = .ok (.iload_n 1, 1) ∧ decode cX7_keepIfBetter 10 = .ok (.putfield 34, 3) ∧ decode cX7_keepIfBetter 13 = .ok (.aload_n 0, 1) ∧ decode cX7_keepIfBetter 14 = .ok (.getfield 28, 3) ∧ decode cX7_keepIfBetter 17 = .ok (.iconst 0, 1) ∧ decode cX7_keepIfBetter 18 = .ok (.aload_n 0, 1) ∧ decode cX7_keepIfBetter 19 = .ok (.getfield 31, 3) ∧ decode cX7_keepIfBetter 22 = .ok (.iconst 0, 1) ∧ decode cX7_keepIfBetter 23 = .ok (.iconst 5, 1) ∧ decode cX7_keepIfBetter 24 = .ok (.invokestatic 94, 3) ∧ decode cX7_keepIfBetter 27 = .ok (.return_, 1) := op_27 lk_dX7_keepIfBetter_0 fun e => op_42 e fun e => op_180 e fun e => op_164p e rfl fun e => op_42 e fun e => op_27 e fun e => op_181 e fun e => op_42 e fun e => op_180 e fun e => op_3 e fun e => op_42 e fun e => op_180 e fun e => op_3 e fun e => op_8 e fun e => op_184 e fun e => (op_177 e fun _ => True.intro).1
theorem dX7_keepIfBetter_0 : decode cX7_keepIfBetter 0 = .ok (.iload_n 1, 1) := bl_dX7_keepIfBetter_0.1
theorem dX7_keepIfBetter_1 : decode cX7_keepIfBetter 1 = .ok (.aload_n 0, 1) := bl_dX7_keepIfBetter_0.2.1
theorem dX7_keepIfBetter_2 : decode cX7_keepIfBetter 2 = .ok (.getfield 34, 3) := bl_dX7_keepIfBetter_0.2.2.1
theorem dX7_keepIfBetter_5 : decode cX7_keepIfBetter 5 = .ok (.if_icmp .le 22, 3) := bl_dX7_keepIfBetter_0.2.2.2.1
theorem dX7_keepIfBetter_8 : decode cX7_keepIfBetter 8 = .ok (.aload_n 0, 1) := bl_dX7_keepIfBetter_0.2.2.2.2.1
theorem dX7_keepIfBetter_9 : decode cX7_keepIfBetter 9 = .ok (.iload_n 1, 1) := bl_dX7_keepIfBetter_0.2.2.2.2.2.1
theorem dX7_keepIfBetter_10 : decode cX7_keepIfBetter 10 = .ok (.putfield 34, 3) := bl_dX7_keepIfBetter_0.2.2.2.2.2.2.1
theorem dX7_keepIfBetter_13 : decode cX7_keepIfBetter 13 = .ok (.aload_n 0, 1) := bl_dX7_keepIfBetter_0.2.2.2.2.2.2.2.1
theorem dX7_keepIfBetter_14 : decode cX7_keepIfBetter 14 = .ok (.getfield 28, 3) := bl_dX7_keepIfBetter_0.2.2.2.2.2.2.2.2.1
theorem dX7_keepIfBetter_17 : decode cX7_keepIfBetter 17 = .ok (.iconst 0, 1) := bl_dX7_keepIfBetter_0.2.2.2.2.2.2.2.2.2.1
theorem dX7_keepIfBetter_18 : decode cX7_keepIfBetter 18 = .ok (.aload_n 0, 1) := bl_dX7_keepIfBetter_0.2.2.2.2.2.2.2.2.2.2.1
theorem dX7_keepIfBetter_19 : decode cX7_keepIfBetter 19 = .ok (.getfield 31, 3) := bl_dX7_keepIfBetter_0.2.2.2.2.2.2.2.2.2.2.2.1
theorem dX7_keepIfBetter_22 : decode cX7_keepIfBetter 22 = .ok (.iconst 0, 1) := bl_dX7_keepIfBetter_0.2.2.2.2.2.2.2.2.2.2.2.2.1
theorem dX7_keepIfBetter_23 : decode cX7_keepIfBetter 23 = .ok (.iconst 5, 1) := bl_dX7_keepIfBetter_0.2.2.2.2.2.2.2.2.2.2.2.2.2.1
theorem dX7_keepIfBetter_24 : decode cX7_keepIfBetter 24 = .ok (.invokestatic 94, 3) := bl_dX7_keepIfBetter_0.2.2.2.2.2.2.2.2.2.2.2.2.2.2.1
theorem dX7_keepIfBetter_27 : decode cX7_keepIfBetter 27 = .ok (.return_, 1) := bl_dX7_keepIfBetter_0.2.2.2.2.2.2.2.2.2.2.2.2.2.2.2
theorem lk_dX7_hopefulFrom_0 : th_dr cX7_hopefulFrom 0 = 3 :: 61 :: 27 :: 62 :: 29 :: 42 :: 180 :: 0 :: 17 :: 162 :: 0 :: 25 :: 42 :: 180 :: 0 :: 21 :: 27 :: 8 :: 104 :: 29 :: 96 :: 46 :: th_dr cX7_hopefulFrom 22 := rfl
theorem bl_dX7_hopefulFrom_0 : decode cX7_hopefulFrom 0 = .ok (.iconst 0, 1) ∧ decode cX7_hopefulFrom 1 = .ok (.istore_n 2, 1) ∧ decode cX7_hopefulFrom 2 = .ok (.iload_n 1, 1) ∧ decode cX7_hopefulFrom 3 = .ok (.istore_n 3, 1) ∧ decode cX7_hopefulFrom 4 = .ok (.iload_n 3, 1) ∧ decode cX7_hopefulFrom 5 = .ok (.aload_n 0, 1) ∧ decode cX7_hopefulFrom 6 = .ok (.getfield 17, 3) ∧ decode cX7_hopefulFrom 9 = .ok (.if_icmp .ge 25, 3) ∧ decode cX7_hopefulFrom 12 = .ok (.aload_n 0, 1) ∧ decode cX7_hopefulFrom 13 = .ok (.getfield 21, 3) ∧ decode cX7_hopefulFrom 16 = .ok (.iload_n 1, 1) ∧ decode cX7_hopefulFrom 17 = .ok (.iconst 5, 1) ∧ decode cX7_hopefulFrom 18 = .ok (.imul, 1) ∧ decode cX7_hopefulFrom 19 = .ok (.iload_n 3, 1) ∧ decode cX7_hopefulFrom 20 = .ok (.iadd, 1) ∧ decode cX7_hopefulFrom 21 = .ok (.iaload, 1) := op_3 lk_dX7_hopefulFrom_0 fun e => op_61 e fun e => op_27 e fun e => op_62 e fun e => op_29 e fun e => op_42 e fun e => op_180 e fun e => op_162p e rfl fun e => op_42 e fun e => op_180 e fun e => op_27 e fun e => op_8 e fun e => op_104 e fun e => op_29 e fun e => op_96 e fun e => (op_46 e fun _ => True.intro).1
theorem dX7_hopefulFrom_0 : decode cX7_hopefulFrom 0 = .ok (.iconst 0, 1) := bl_dX7_hopefulFrom_0.1
theorem dX7_hopefulFrom_1 : decode cX7_hopefulFrom 1 = .ok (.istore_n 2, 1) := bl_dX7_hopefulFrom_0.2.1
theorem dX7_hopefulFrom_2 : decode cX7_hopefulFrom 2 = .ok (.iload_n 1, 1) := bl_dX7_hopefulFrom_0.2.2.1
theorem dX7_hopefulFrom_3 : decode cX7_hopefulFrom 3 = .ok (.istore_n 3, 1) := bl_dX7_hopefulFrom_0.2.2.2.1
theorem dX7_hopefulFrom_4 : decode cX7_hopefulFrom 4 = .ok (.iload_n 3, 1) := bl_dX7_hopefulFrom_0.2.2.2.2.1
theorem dX7_hopefulFrom_5 : decode cX7_hopefulFrom 5 = .ok (.aload_n 0, 1) := bl_dX7_hopefulFrom_0.2.2.2.2.2.1
theorem dX7_hopefulFrom_6 : decode cX7_hopefulFrom 6 = .ok (.getfield 17, 3) := bl_dX7_hopefulFrom_0.2.2.2.2.2.2.1
theorem dX7_hopefulFrom_9 : decode cX7_hopefulFrom 9 = .ok (.if_icmp .ge 25, 3) := bl_dX7_hopefulFrom_0.2.2.2.2.2.2.2.1
theorem dX7_hopefulFrom_12 : decode cX7_hopefulFrom 12 = .ok (.aload_n 0, 1) := bl_dX7_hopefulFrom_0.2.2.2.2.2.2.2.2.1
theorem dX7_hopefulFrom_13 : decode cX7_hopefulFrom 13 = .ok (.getfield 21, 3) := bl_dX7_hopefulFrom_0.2.2.2.2.2.2.2.2.2.1
theorem dX7_hopefulFrom_16 : decode cX7_hopefulFrom 16 = .ok (.iload_n 1, 1) := bl_dX7_hopefulFrom_0.2.2.2.2.2.2.2.2.2.2.1
theorem dX7_hopefulFrom_17 : decode cX7_hopefulFrom 17 = .ok (.iconst 5, 1) := bl_dX7_hopefulFrom_0.2.2.2.2.2.2.2.2.2.2.2.1
theorem dX7_hopefulFrom_18 : decode cX7_hopefulFrom 18 = .ok (.imul, 1) := bl_dX7_hopefulFrom_0.2.2.2.2.2.2.2.2.2.2.2.2.1
theorem dX7_hopefulFrom_19 : decode cX7_hopefulFrom 19 = .ok (.iload_n 3, 1) := bl_dX7_hopefulFrom_0.2.2.2.2.2.2.2.2.2.2.2.2.2.1
theorem dX7_hopefulFrom_20 : decode cX7_hopefulFrom 20 = .ok (.iadd, 1) := bl_dX7_hopefulFrom_0.2.2.2.2.2.2.2.2.2.2.2.2.2.2.1
theorem dX7_hopefulFrom_21 : decode cX7_hopefulFrom 21 = .ok (.iaload, 1) := bl_dX7_hopefulFrom_0.2.2.2.2.2.2.2.2.2.2.2.2.2.2.2
theorem lk_dX7_hopefulFrom_22 : th_dr cX7_hopefulFrom 22 = 153 :: 0 :: 6 :: 132 :: 2 :: 1 :: 132 :: 3 :: 1 :: 167 :: 255 :: 229 :: 28 :: 172 :: th_dr cX7_hopefulFrom 36 := rfl
theorem bl_dX7_hopefulFrom_22 : decode cX7_hopefulFrom 22 = .ok (.ifCond .eq 6, 3) ∧ decode cX7_hopefulFrom 25 = .ok (.iinc 2 1, 3) ∧ decode cX7_hopefulFrom 28 = .ok (.iinc 3 1, 3) ∧ decode cX7_hopefulFrom 31 = .ok (.goto (-27), 3) ∧ decode cX7_hopefulFrom 34 = .ok (.iload_n 2, 1) ∧ decode cX7_hopefulFrom 35 = .ok (.ireturn, 1) := op_153p lk_dX7_hopefulFrom_22 rfl fun e => op_132p e rfl fun e => op_132p e rfl fun e => op_167n e rfl rfl fun e => op_28 e fun e => (op_172 e fun _ => True.intro).1
theorem dX7_hopefulFrom_22 : decode cX7_hopefulFrom 22 = .ok (.ifCond .eq 6, 3) := bl_dX7_hopefulFrom_22.1
theorem dX7_hopefulFrom_25 : decode cX7_hopefulFrom 25 = .ok (.iinc 2 1, 3) := bl_dX7_hopefulFrom_22.2.1
theorem dX7_hopefulFrom_28 : decode cX7_hopefulFrom 28 = .ok (.iinc 3 1, 3) := bl_dX7_hopefulFrom_22.2.2.1
theorem dX7_hopefulFrom_31 : decode cX7_hopefulFrom 31 = .ok (.goto (-27), 3) := bl_dX7_hopefulFrom_22.2.2.2.1
theorem dX7_hopefulFrom_34 : decode cX7_hopefulFrom 34 = .ok (.iload_n 2, 1) := bl_dX7_hopefulFrom_22.2.2.2.2.1
theorem dX7_hopefulFrom_35 : decode cX7_hopefulFrom 35 = .ok (.ireturn, 1) := bl_dX7_hopefulFrom_22.2.2.2.2.2
set_option maxRecDepth 20000 in
theorem gdwsX7_barredBy : wsX7_barredBy.all goodWord = true := by decide +kernel
set_option maxRecDepth 20000 in
theorem ggX7_narrow_X7_barredBy : GoodIn wsX7_narrow wsX7_barredBy := goodIn_q _ [(7, 5), (2, 1), (12, 103)] rfl gdwsX7_barredBy
set_option maxRecDepth 20000 in
theorem gX7_narrow_X7_barredBy : GoodIn wsX7_narrow (wsV RX7 100 RX7 yX7_barredBy wsX7_barredBy) := goodIn_app (goodIn_q _ [(3, 4)] rfl rfl) ggX7_narrow_X7_barredBy
theorem lk_dX7_narrow_0 : th_dr cX7_narrow 0 = 27 :: 4 :: 96 :: 62 :: 29 :: 42 :: 180 :: 0 :: 17 :: 162 :: 0 :: 54 :: 42 :: 180 :: 0 :: 21 :: 27 :: 8 :: 104 :: 29 :: 96 :: 46 :: th_dr cX7_narrow 22 := rfl
theorem bl_dX7_narrow_0 : decode cX7_narrow 0 = .ok (.iload_n 1, 1) ∧ decode cX7_narrow 1 = .ok (.iconst 1, 1) ∧ decode cX7_narrow 2 = .ok (.iadd, 1) ∧ decode cX7_narrow 3 = .ok (.istore_n 3, 1) ∧ decode cX7_narrow 4 = .ok (.iload_n 3, 1) ∧ decode cX7_narrow 5 = .ok (.aload_n 0, 1) ∧ decode cX7_narrow 6 = .ok (.getfield 17, 3) ∧ decode cX7_narrow 9 = .ok (.if_icmp .ge 54, 3) ∧ decode cX7_narrow 12 = .ok (.aload_n 0, 1) ∧ decode cX7_narrow 13 = .ok (.getfield 21, 3) ∧ decode cX7_narrow 16 = .ok (.iload_n 1, 1) ∧ decode cX7_narrow 17 = .ok (.iconst 5, 1) ∧ decode cX7_narrow 18 = .ok (.imul, 1) ∧ decode cX7_narrow 19 = .ok (.iload_n 3, 1) ∧ decode cX7_narrow 20 = .ok (.iadd, 1) ∧ decode cX7_narrow 21 = .ok (.iaload, 1) := op_27 lk_dX7_narrow_0 fun e => op_4 e fun e => op_96 e fun e => op_62 e fun e => op_29 e fun e => op_42 e fun e => op_180 e fun e => op_162p e rfl fun e => op_42 e fun e => op_180 e fun e => op_27 e fun e => op_8 e fun e => op_104 e fun e => op_29 e fun e => op_96 e fun e => (op_46 e fun _ => True.intro).1
theorem dX7_narrow_0 : decode cX7_narrow 0 = .ok (.iload_n 1, 1) := bl_dX7_narrow_0.1
theorem dX7_narrow_1 : decode cX7_narrow 1 = .ok (.iconst 1, 1) := bl_dX7_narrow_0.2.1
theorem dX7_narrow_2 : decode cX7_narrow 2 = .ok (.iadd, 1) := bl_dX7_narrow_0.2.2.1
theorem dX7_narrow_3 : decode cX7_narrow 3 = .ok (.istore_n 3, 1) := bl_dX7_narrow_0.2.2.2.1
theorem dX7_narrow_4 : decode cX7_narrow 4 = .ok (.iload_n 3, 1) := bl_dX7_narrow_0.2.2.2.2.1
theorem dX7_narrow_5 : decode cX7_narrow 5 = .ok (.aload_n 0, 1) := bl_dX7_narrow_0.2.2.2.2.2.1
theorem dX7_narrow_6 : decode cX7_narrow 6 = .ok (.getfield 17, 3) := bl_dX7_narrow_0.2.2.2.2.2.2.1
theorem dX7_narrow_9 : decode cX7_narrow 9 = .ok (.if_icmp .ge 54, 3) := bl_dX7_narrow_0.2.2.2.2.2.2.2.1
theorem dX7_narrow_12 : decode cX7_narrow 12 = .ok (.aload_n 0, 1) := bl_dX7_narrow_0.2.2.2.2.2.2.2.2.1
theorem dX7_narrow_13 : decode cX7_narrow 13 = .ok (.getfield 21, 3) := bl_dX7_narrow_0.2.2.2.2.2.2.2.2.2.1
theorem dX7_narrow_16 : decode cX7_narrow 16 = .ok (.iload_n 1, 1) := bl_dX7_narrow_0.2.2.2.2.2.2.2.2.2.2.1
theorem dX7_narrow_17 : decode cX7_narrow 17 = .ok (.iconst 5, 1) := bl_dX7_narrow_0.2.2.2.2.2.2.2.2.2.2.2.1
theorem dX7_narrow_18 : decode cX7_narrow 18 = .ok (.imul, 1) := bl_dX7_narrow_0.2.2.2.2.2.2.2.2.2.2.2.2.1
theorem dX7_narrow_19 : decode cX7_narrow 19 = .ok (.iload_n 3, 1) := bl_dX7_narrow_0.2.2.2.2.2.2.2.2.2.2.2.2.2.1
theorem dX7_narrow_20 : decode cX7_narrow 20 = .ok (.iadd, 1) := bl_dX7_narrow_0.2.2.2.2.2.2.2.2.2.2.2.2.2.2.1
theorem dX7_narrow_21 : decode cX7_narrow 21 = .ok (.iaload, 1) := bl_dX7_narrow_0.2.2.2.2.2.2.2.2.2.2.2.2.2.2.2
theorem lk_dX7_narrow_22 : th_dr cX7_narrow 22 = 54 :: 4 :: 28 :: 2 :: 159 :: 0 :: 17 :: 21 :: 4 :: 42 :: 27 :: 28 :: 29 :: 182 :: 0 :: 100 :: 2 :: 130 :: 126 :: 54 :: 4 :: 42 :: 180 :: 0 :: 21 :: th_dr cX7_narrow 47 := rfl
theorem bl_dX7_narrow_22 : decode cX7_narrow 22 = .ok (.istore 4, 2) ∧ decode cX7_narrow 24 = .ok (.iload_n 2, 1) ∧ decode cX7_narrow 25 = .ok (.iconst (-1), 1) ∧ decode cX7_narrow 26 = .ok (.if_icmp .eq 17, 3) ∧ decode cX7_narrow 29 = .ok (.iload 4, 2) ∧ decode cX7_narrow 31 = .ok (.aload_n 0, 1) ∧ decode cX7_narrow 32 = .ok (.iload_n 1, 1) ∧ decode cX7_narrow 33 = .ok (.iload_n 2, 1) ∧ decode cX7_narrow 34 = .ok (.iload_n 3, 1) ∧ decode cX7_narrow 35 = .ok (.invokevirtual 100, 3) ∧ decode cX7_narrow 38 = .ok (.iconst (-1), 1) ∧ decode cX7_narrow 39 = .ok (.ixor, 1) ∧ decode cX7_narrow 40 = .ok (.iand, 1) ∧ decode cX7_narrow 41 = .ok (.istore 4, 2) ∧ decode cX7_narrow 43 = .ok (.aload_n 0, 1) ∧ decode cX7_narrow 44 = .ok (.getfield 21, 3) := op_54 lk_dX7_narrow_22 fun e => op_28 e fun e => op_2 e fun e => op_159p e rfl fun e => op_21 e fun e => op_42 e fun e => op_27 e fun e => op_28 e fun e => op_29 e fun e => op_182 e fun e => op_2 e fun e => op_130 e fun e => op_126 e fun e => op_54 e fun e => op_42 e fun e => (op_180 e fun _ => True.intro).1
theorem dX7_narrow_22 : decode cX7_narrow 22 = .ok (.istore 4, 2) := bl_dX7_narrow_22.1
theorem dX7_narrow_24 : decode cX7_narrow 24 = .ok (.iload_n 2, 1) := bl_dX7_narrow_22.2.1
theorem dX7_narrow_25 : decode cX7_narrow 25 = .ok (.iconst (-1), 1) := bl_dX7_narrow_22.2.2.1
theorem dX7_narrow_26 : decode cX7_narrow 26 = .ok (.if_icmp .eq 17, 3) := bl_dX7_narrow_22.2.2.2.1
theorem dX7_narrow_29 : decode cX7_narrow 29 = .ok (.iload 4, 2) := bl_dX7_narrow_22.2.2.2.2.1
theorem dX7_narrow_31 : decode cX7_narrow 31 = .ok (.aload_n 0, 1) := bl_dX7_narrow_22.2.2.2.2.2.1
theorem dX7_narrow_32 : decode cX7_narrow 32 = .ok (.iload_n 1, 1) := bl_dX7_narrow_22.2.2.2.2.2.2.1
theorem dX7_narrow_33 : decode cX7_narrow 33 = .ok (.iload_n 2, 1) := bl_dX7_narrow_22.2.2.2.2.2.2.2.1
theorem dX7_narrow_34 : decode cX7_narrow 34 = .ok (.iload_n 3, 1) := bl_dX7_narrow_22.2.2.2.2.2.2.2.2.1
theorem dX7_narrow_35 : decode cX7_narrow 35 = .ok (.invokevirtual 100, 3) := bl_dX7_narrow_22.2.2.2.2.2.2.2.2.2.1
theorem dX7_narrow_38 : decode cX7_narrow 38 = .ok (.iconst (-1), 1) := bl_dX7_narrow_22.2.2.2.2.2.2.2.2.2.2.1
theorem dX7_narrow_39 : decode cX7_narrow 39 = .ok (.ixor, 1) := bl_dX7_narrow_22.2.2.2.2.2.2.2.2.2.2.2.1
theorem dX7_narrow_40 : decode cX7_narrow 40 = .ok (.iand, 1) := bl_dX7_narrow_22.2.2.2.2.2.2.2.2.2.2.2.2.1
theorem dX7_narrow_41 : decode cX7_narrow 41 = .ok (.istore 4, 2) := bl_dX7_narrow_22.2.2.2.2.2.2.2.2.2.2.2.2.2.1
theorem dX7_narrow_43 : decode cX7_narrow 43 = .ok (.aload_n 0, 1) := bl_dX7_narrow_22.2.2.2.2.2.2.2.2.2.2.2.2.2.2.1
theorem dX7_narrow_44 : decode cX7_narrow 44 = .ok (.getfield 21, 3) := bl_dX7_narrow_22.2.2.2.2.2.2.2.2.2.2.2.2.2.2.2
set_option maxRecDepth 20000 in
theorem lk_dX7_narrow_47 : th_dr cX7_narrow 47 = 27 :: 4 :: 96 :: 8 :: 104 :: 29 :: 96 :: 21 :: 4 :: 79 :: 132 :: 3 :: 1 :: 167 :: 255 :: 200 :: 177 :: th_dr cX7_narrow 64 := rfl
theorem bl_dX7_narrow_47 : decode cX7_narrow 47 = .ok (.iload_n 1, 1) ∧ decode cX7_narrow 48 = .ok (.iconst 1, 1) ∧ decode cX7_narrow 49 = .ok (.iadd, 1) ∧ decode cX7_narrow 50 = .ok (.iconst 5, 1) ∧ decode cX7_narrow 51 = .ok (.imul, 1) ∧ decode cX7_narrow 52 = .ok (.iload_n 3, 1) ∧ decode cX7_narrow 53 = .ok (.iadd, 1) ∧ decode cX7_narrow 54 = .ok (.iload 4, 2) ∧ decode cX7_narrow 56 = .ok (.iastore, 1) ∧ decode cX7_narrow 57 = .ok (.iinc 3 1, 3) ∧ decode cX7_narrow 60 = .ok (.goto (-56), 3) ∧ decode cX7_narrow 63 = .ok (.return_, 1) := op_27 lk_dX7_narrow_47 fun e => op_4 e fun e => op_96 e fun e => op_8 e fun e => op_104 e fun e => op_29 e fun e => op_96 e fun e => op_21 e fun e => op_79 e fun e => op_132p e rfl fun e => op_167n e rfl rfl fun e => (op_177 e fun _ => True.intro).1
theorem dX7_narrow_47 : decode cX7_narrow 47 = .ok (.iload_n 1, 1) := bl_dX7_narrow_47.1
theorem dX7_narrow_48 : decode cX7_narrow 48 = .ok (.iconst 1, 1) := bl_dX7_narrow_47.2.1
theorem dX7_narrow_49 : decode cX7_narrow 49 = .ok (.iadd, 1) := bl_dX7_narrow_47.2.2.1
theorem dX7_narrow_50 : decode cX7_narrow 50 = .ok (.iconst 5, 1) := bl_dX7_narrow_47.2.2.2.1
theorem dX7_narrow_51 : decode cX7_narrow 51 = .ok (.imul, 1) := bl_dX7_narrow_47.2.2.2.2.1
theorem dX7_narrow_52 : decode cX7_narrow 52 = .ok (.iload_n 3, 1) := bl_dX7_narrow_47.2.2.2.2.2.1
theorem dX7_narrow_53 : decode cX7_narrow 53 = .ok (.iadd, 1) := bl_dX7_narrow_47.2.2.2.2.2.2.1
theorem dX7_narrow_54 : decode cX7_narrow 54 = .ok (.iload 4, 2) := bl_dX7_narrow_47.2.2.2.2.2.2.2.1
theorem dX7_narrow_56 : decode cX7_narrow 56 = .ok (.iastore, 1) := bl_dX7_narrow_47.2.2.2.2.2.2.2.2.1
theorem dX7_narrow_57 : decode cX7_narrow 57 = .ok (.iinc 3 1, 3) := bl_dX7_narrow_47.2.2.2.2.2.2.2.2.2.1
theorem dX7_narrow_60 : decode cX7_narrow 60 = .ok (.goto (-56), 3) := bl_dX7_narrow_47.2.2.2.2.2.2.2.2.2.2.1
theorem dX7_narrow_63 : decode cX7_narrow 63 = .ok (.return_, 1) := bl_dX7_narrow_47.2.2.2.2.2.2.2.2.2.2.2
set_option maxRecDepth 20000 in
theorem ggX7_barredBy_X0_buoyAt : GoodIn wsX7_barredBy wsX0_buoyAt := goodIn_q _ [(10, 6), (74, 9)] rfl gdwsX0_buoyAt
set_option maxRecDepth 20000 in
theorem gX7_barredBy_X0_buoyAt : GoodIn wsX7_barredBy (wsV RX7 71 RX0 yX0_buoyAt wsX0_buoyAt) := goodIn_app (goodIn_q _ [(6, 4)] rfl rfl) ggX7_barredBy_X0_buoyAt
set_option maxRecDepth 20000 in
theorem ggX7_barredBy_X0_firstTouch : GoodIn wsX7_barredBy wsX0_firstTouch := goodIn_q _ [(19, 28), (9, 1), (47, 19), (83, 8), (74, 9), (91, 18)] rfl gdwsX0_firstTouch
set_option maxRecDepth 20000 in
theorem gX7_barredBy_X0_firstTouch : GoodIn wsX7_barredBy (wsV RX7 104 RX0 yX0_firstTouch wsX0_firstTouch) := goodIn_app (goodIn_q _ [(16, 3), (9, 1)] rfl rfl) ggX7_barredBy_X0_firstTouch
theorem lk_dX7_barredBy_0 : th_dr cX7_barredBy 0 = 27 :: th_dr cX7_barredBy 1 := rfl
theorem dX7_barredBy_0 : decode cX7_barredBy 0 = .ok (.iload_n 1, 1) := (op_27 lk_dX7_barredBy_0 fun _ => True.intro).1
