set_option maxRecDepth 20000 in
theorem gdwsX1_init : wsX1_init.all goodWord = true := by decide +kernel
set_option maxRecDepth 20000 in
theorem ggX0_init_X1_init : GoodIn wsX0_init wsX1_init := goodIn_q _ [(22, 2), (2, 2), (8, 1), (24, 6), (39, 2)] rfl gdwsX1_init
set_option maxRecDepth 20000 in
theorem gX0_init_X1_init : GoodIn wsX0_init (wsX1_init) := ggX0_init_X1_init
theorem lk_dX0_init_0 : th_dr cX0_init 0 = 42 :: 183 :: 0 :: 3 :: 42 :: 16 :: 12 :: 189 :: 0 :: 9 :: 181 :: 0 :: 11 :: 42 :: 16 :: 16 :: 189 :: 0 :: 17 :: 181 :: 0 :: 19 :: 42 :: 16 :: 24 :: 188 :: 10 :: 181 :: 0 :: 23 :: 42 :: 16 :: 24 :: th_dr cX0_init 33 := rfl
theorem bl_dX0_init_0 : decode cX0_init 0 = .ok (.aload_n 0, 1) ∧ decode cX0_init 1 = .ok (.invokespecial 3, 3) ∧ decode cX0_init 4 = .ok (.aload_n 0, 1) ∧ decode cX0_init 5 = .ok (.bipush 12, 2) ∧ decode cX0_init 7 = .ok (.anewarray 9, 3) ∧ decode cX0_init 10 = .ok (.putfield 11, 3) ∧ decode cX0_init 13 = .ok (.aload_n 0, 1) ∧ decode cX0_init 14 = .ok (.bipush 16, 2) ∧ decode cX0_init 16 = .ok (.anewarray 17, 3) ∧ decode cX0_init 19 = .ok (.putfield 19, 3) ∧ decode cX0_init 22 = .ok (.aload_n 0, 1) ∧ decode cX0_init 23 = .ok (.bipush 24, 2) ∧ decode cX0_init 25 = .ok (.newarray .int, 2) ∧ decode cX0_init 27 = .ok (.putfield 23, 3) ∧ decode cX0_init 30 = .ok (.aload_n 0, 1) ∧ decode cX0_init 31 = .ok (.bipush 24, 2) := op_42 lk_dX0_init_0 fun e => op_183 e fun e => op_42 e fun e => op_16p e rfl fun e => op_189 e fun e => op_181 e fun e => op_42 e fun e => op_16p e rfl fun e => op_189 e fun e => op_181 e fun e => op_42 e fun e => op_16p e rfl fun e => op_188_10 e fun e => op_181 e fun e => op_42 e fun e => (op_16p e rfl fun _ => True.intro).1
theorem dX0_init_0 : decode cX0_init 0 = .ok (.aload_n 0, 1) := bl_dX0_init_0.1
theorem dX0_init_1 : decode cX0_init 1 = .ok (.invokespecial 3, 3) := bl_dX0_init_0.2.1
theorem dX0_init_4 : decode cX0_init 4 = .ok (.aload_n 0, 1) := bl_dX0_init_0.2.2.1
theorem dX0_init_5 : decode cX0_init 5 = .ok (.bipush 12, 2) := bl_dX0_init_0.2.2.2.1
theorem dX0_init_7 : decode cX0_init 7 = .ok (.anewarray 9, 3) := bl_dX0_init_0.2.2.2.2.1
theorem dX0_init_10 : decode cX0_init 10 = .ok (.putfield 11, 3) := bl_dX0_init_0.2.2.2.2.2.1
theorem dX0_init_13 : decode cX0_init 13 = .ok (.aload_n 0, 1) := bl_dX0_init_0.2.2.2.2.2.2.1
theorem dX0_init_14 : decode cX0_init 14 = .ok (.bipush 16, 2) := bl_dX0_init_0.2.2.2.2.2.2.2.1
theorem dX0_init_16 : decode cX0_init 16 = .ok (.anewarray 17, 3) := bl_dX0_init_0.2.2.2.2.2.2.2.2.1
theorem dX0_init_19 : decode cX0_init 19 = .ok (.putfield 19, 3) := bl_dX0_init_0.2.2.2.2.2.2.2.2.2.1
theorem dX0_init_22 : decode cX0_init 22 = .ok (.aload_n 0, 1) := bl_dX0_init_0.2.2.2.2.2.2.2.2.2.2.1
theorem dX0_init_23 : decode cX0_init 23 = .ok (.bipush 24, 2) := bl_dX0_init_0.2.2.2.2.2.2.2.2.2.2.2.1
theorem dX0_init_25 : decode cX0_init 25 = .ok (.newarray .int, 2) := bl_dX0_init_0.2.2.2.2.2.2.2.2.2.2.2.2.1
theorem dX0_init_27 : decode cX0_init 27 = .ok (.putfield 23, 3) := bl_dX0_init_0.2.2.2.2.2.2.2.2.2.2.2.2.2.1
theorem dX0_init_30 : decode cX0_init 30 = .ok (.aload_n 0, 1) := bl_dX0_init_0.2.2.2.2.2.2.2.2.2.2.2.2.2.2.1
theorem dX0_init_31 : decode cX0_init 31 = .ok (.bipush 24, 2) := bl_dX0_init_0.2.2.2.2.2.2.2.2.2.2.2.2.2.2.2
set_option maxRecDepth 20000 in
theorem lk_dX0_init_33 : th_dr cX0_init 33 = 188 :: 4 :: 181 :: 0 :: 27 :: 42 :: 187 :: 0 :: 31 :: 89 :: 183 :: 0 :: 33 :: 181 :: 0 :: 34 :: 42 :: 3 :: 181 :: 0 :: 38 :: 42 :: 3 :: 181 :: 0 :: 42 :: 42 :: 17 :: 0 :: 255 :: 181 :: 0 :: 45 :: th_dr cX0_init 66 := rfl
theorem bl_dX0_init_33 : decode cX0_init 33 = .ok (.newarray .boolean, 2) ∧ decode cX0_init 35 = .ok (.putfield 27, 3) ∧ decode cX0_init 38 = .ok (.aload_n 0, 1) ∧ decode cX0_init 39 = .ok (.new 31, 3) ∧ decode cX0_init 42 = .ok (.dup, 1) ∧ decode cX0_init 43 = .ok (.invokespecial 33, 3) ∧ decode cX0_init 46 = .ok (.putfield 34, 3) ∧ decode cX0_init 49 = .ok (.aload_n 0, 1) ∧ decode cX0_init 50 = .ok (.iconst 0, 1) ∧ decode cX0_init 51 = .ok (.putfield 38, 3) ∧ decode cX0_init 54 = .ok (.aload_n 0, 1) ∧ decode cX0_init 55 = .ok (.iconst 0, 1) ∧ decode cX0_init 56 = .ok (.putfield 42, 3) ∧ decode cX0_init 59 = .ok (.aload_n 0, 1) ∧ decode cX0_init 60 = .ok (.sipush 255, 3) ∧ decode cX0_init 63 = .ok (.putfield 45, 3) := op_188_4 lk_dX0_init_33 fun e => op_181 e fun e => op_42 e fun e => op_187 e fun e => op_89 e fun e => op_183 e fun e => op_181 e fun e => op_42 e fun e => op_3 e fun e => op_181 e fun e => op_42 e fun e => op_3 e fun e => op_181 e fun e => op_42 e fun e => op_17p e rfl fun e => (op_181 e fun _ => True.intro).1
theorem dX0_init_33 : decode cX0_init 33 = .ok (.newarray .boolean, 2) := bl_dX0_init_33.1
theorem dX0_init_35 : decode cX0_init 35 = .ok (.putfield 27, 3) := bl_dX0_init_33.2.1
theorem dX0_init_38 : decode cX0_init 38 = .ok (.aload_n 0, 1) := bl_dX0_init_33.2.2.1
theorem dX0_init_39 : decode cX0_init 39 = .ok (.new 31, 3) := bl_dX0_init_33.2.2.2.1
theorem dX0_init_42 : decode cX0_init 42 = .ok (.dup, 1) := bl_dX0_init_33.2.2.2.2.1
theorem dX0_init_43 : decode cX0_init 43 = .ok (.invokespecial 33, 3) := bl_dX0_init_33.2.2.2.2.2.1
theorem dX0_init_46 : decode cX0_init 46 = .ok (.putfield 34, 3) := bl_dX0_init_33.2.2.2.2.2.2.1
theorem dX0_init_49 : decode cX0_init 49 = .ok (.aload_n 0, 1) := bl_dX0_init_33.2.2.2.2.2.2.2.1
theorem dX0_init_50 : decode cX0_init 50 = .ok (.iconst 0, 1) := bl_dX0_init_33.2.2.2.2.2.2.2.2.1
theorem dX0_init_51 : decode cX0_init 51 = .ok (.putfield 38, 3) := bl_dX0_init_33.2.2.2.2.2.2.2.2.2.1
theorem dX0_init_54 : decode cX0_init 54 = .ok (.aload_n 0, 1) := bl_dX0_init_33.2.2.2.2.2.2.2.2.2.2.1
theorem dX0_init_55 : decode cX0_init 55 = .ok (.iconst 0, 1) := bl_dX0_init_33.2.2.2.2.2.2.2.2.2.2.2.1
theorem dX0_init_56 : decode cX0_init 56 = .ok (.putfield 42, 3) := bl_dX0_init_33.2.2.2.2.2.2.2.2.2.2.2.2.1
theorem dX0_init_59 : decode cX0_init 59 = .ok (.aload_n 0, 1) := bl_dX0_init_33.2.2.2.2.2.2.2.2.2.2.2.2.2.1
theorem dX0_init_60 : decode cX0_init 60 = .ok (.sipush 255, 3) := bl_dX0_init_33.2.2.2.2.2.2.2.2.2.2.2.2.2.2.1
theorem dX0_init_63 : decode cX0_init 63 = .ok (.putfield 45, 3) := bl_dX0_init_33.2.2.2.2.2.2.2.2.2.2.2.2.2.2.2
set_option maxRecDepth 20000 in
theorem lk_dX0_init_66 : th_dr cX0_init 66 = 42 :: 3 :: 181 :: 0 :: 48 :: 4 :: 60 :: 27 :: 16 :: 24 :: 162 :: 0 :: 16 :: 42 :: 180 :: 0 :: 27 :: 27 :: 4 :: 84 :: 132 :: 1 :: 1 :: 167 :: 255 :: 240 :: 177 :: th_dr cX0_init 93 := rfl
theorem bl_dX0_init_66 : decode cX0_init 66 = .ok (.aload_n 0, 1) ∧ decode cX0_init 67 = .ok (.iconst 0, 1) ∧ decode cX0_init 68 = .ok (.putfield 48, 3) ∧ decode cX0_init 71 = .ok (.iconst 1, 1) ∧ decode cX0_init 72 = .ok (.istore_n 1, 1) ∧ decode cX0_init 73 = .ok (.iload_n 1, 1) ∧ decode cX0_init 74 = .ok (.bipush 24, 2) ∧ decode cX0_init 76 = .ok (.if_icmp .ge 16, 3) ∧ decode cX0_init 79 = .ok (.aload_n 0, 1) ∧ decode cX0_init 80 = .ok (.getfield 27, 3) ∧ decode cX0_init 83 = .ok (.iload_n 1, 1) ∧ decode cX0_init 84 = .ok (.iconst 1, 1) ∧ decode cX0_init 85 = .ok (.bastore, 1) ∧ decode cX0_init 86 = .ok (.iinc 1 1, 3) ∧ decode cX0_init 89 = .ok (.goto (-16), 3) ∧ decode cX0_init 92 = .ok (.return_, 1) := op_42 lk_dX0_init_66 fun e => op_3 e fun e => op_181 e fun e => op_4 e fun e => op_60 e fun e => op_27 e fun e => op_16p e rfl fun e => op_162p e rfl fun e => op_42 e fun e => op_180 e fun e => op_27 e fun e => op_4 e fun e => op_84 e fun e => op_132p e rfl fun e => op_167n e rfl rfl fun e => (op_177 e fun _ => True.intro).1
theorem dX0_init_66 : decode cX0_init 66 = .ok (.aload_n 0, 1) := bl_dX0_init_66.1
theorem dX0_init_67 : decode cX0_init 67 = .ok (.iconst 0, 1) := bl_dX0_init_66.2.1
theorem dX0_init_68 : decode cX0_init 68 = .ok (.putfield 48, 3) := bl_dX0_init_66.2.2.1
theorem dX0_init_71 : decode cX0_init 71 = .ok (.iconst 1, 1) := bl_dX0_init_66.2.2.2.1
theorem dX0_init_72 : decode cX0_init 72 = .ok (.istore_n 1, 1) := bl_dX0_init_66.2.2.2.2.1
theorem dX0_init_73 : decode cX0_init 73 = .ok (.iload_n 1, 1) := bl_dX0_init_66.2.2.2.2.2.1
theorem dX0_init_74 : decode cX0_init 74 = .ok (.bipush 24, 2) := bl_dX0_init_66.2.2.2.2.2.2.1
theorem dX0_init_76 : decode cX0_init 76 = .ok (.if_icmp .ge 16, 3) := bl_dX0_init_66.2.2.2.2.2.2.2.1
theorem dX0_init_79 : decode cX0_init 79 = .ok (.aload_n 0, 1) := bl_dX0_init_66.2.2.2.2.2.2.2.2.1
theorem dX0_init_80 : decode cX0_init 80 = .ok (.getfield 27, 3) := bl_dX0_init_66.2.2.2.2.2.2.2.2.2.1
theorem dX0_init_83 : decode cX0_init 83 = .ok (.iload_n 1, 1) := bl_dX0_init_66.2.2.2.2.2.2.2.2.2.2.1
theorem dX0_init_84 : decode cX0_init 84 = .ok (.iconst 1, 1) := bl_dX0_init_66.2.2.2.2.2.2.2.2.2.2.2.1
theorem dX0_init_85 : decode cX0_init 85 = .ok (.bastore, 1) := bl_dX0_init_66.2.2.2.2.2.2.2.2.2.2.2.2.1
theorem dX0_init_86 : decode cX0_init 86 = .ok (.iinc 1 1, 3) := bl_dX0_init_66.2.2.2.2.2.2.2.2.2.2.2.2.2.1
theorem dX0_init_89 : decode cX0_init 89 = .ok (.goto (-16), 3) := bl_dX0_init_66.2.2.2.2.2.2.2.2.2.2.2.2.2.2.1
theorem dX0_init_92 : decode cX0_init 92 = .ok (.return_, 1) := bl_dX0_init_66.2.2.2.2.2.2.2.2.2.2.2.2.2.2.2
set_option maxRecDepth 20000 in
theorem gdwsX11_within : wsX11_within.all goodWord = true := by decide +kernel
set_option maxRecDepth 20000 in
theorem ggX0_buoyAt_X11_within : GoodIn wsX0_buoyAt wsX11_within := goodIn_q _ [(5, 1)] rfl gdwsX11_within
set_option maxRecDepth 20000 in
theorem gX0_buoyAt_X11_within_n51 : GoodIn wsX0_buoyAt (wsX11_within) := ggX0_buoyAt_X11_within
theorem lk_dX0_buoyAt_0 : th_dr cX0_buoyAt 0 = 27 :: 3 :: 42 :: 180 :: 0 :: 38 :: 4 :: 100 :: 184 :: 0 :: 51 :: 153 :: 0 :: 18 :: 27 :: 16 :: 12 :: 162 :: 0 :: 12 :: 42 :: 180 :: 0 :: 11 :: 27 :: 50 :: 167 :: 0 :: 4 :: th_dr cX0_buoyAt 29 := rfl
theorem bl_dX0_buoyAt_0 : decode cX0_buoyAt 0 = .ok (.iload_n 1, 1) ∧ decode cX0_buoyAt 1 = .ok (.iconst 0, 1) ∧ decode cX0_buoyAt 2 = .ok (.aload_n 0, 1) ∧ decode cX0_buoyAt 3 = .ok (.getfield 38, 3) ∧ decode cX0_buoyAt 6 = .ok (.iconst 1, 1) ∧ decode cX0_buoyAt 7 = .ok (.isub, 1) ∧ decode cX0_buoyAt 8 = .ok (.invokestatic 51, 3) ∧ decode cX0_buoyAt 11 = .ok (.ifCond .eq 18, 3) ∧ decode cX0_buoyAt 14 = .ok (.iload_n 1, 1) ∧ decode cX0_buoyAt 15 = .ok (.bipush 12, 2) ∧ decode cX0_buoyAt 17 = .ok (.if_icmp .ge 12, 3) ∧ decode cX0_buoyAt 20 = .ok (.aload_n 0, 1) ∧ decode cX0_buoyAt 21 = .ok (.getfield 11, 3) ∧ decode cX0_buoyAt 24 = .ok (.iload_n 1, 1) ∧ decode cX0_buoyAt 25 = .ok (.aaload, 1) ∧ decode cX0_buoyAt 26 = .ok (.goto 4, 3) := op_27 lk_dX0_buoyAt_0 fun e => op_3 e fun e => op_42 e fun e => op_180 e fun e => op_4 e fun e => op_100 e fun e => op_184 e fun e => op_153p e rfl fun e => op_27 e fun e => op_16p e rfl fun e => op_162p e rfl fun e => op_42 e fun e => op_180 e fun e => op_27 e fun e => op_50 e fun e => (op_167p e rfl fun _ => True.intro).1
theorem dX0_buoyAt_0 : decode cX0_buoyAt 0 = .ok (.iload_n 1, 1) := bl_dX0_buoyAt_0.1
theorem dX0_buoyAt_1 : decode cX0_buoyAt 1 = .ok (.iconst 0, 1) := bl_dX0_buoyAt_0.2.1
theorem dX0_buoyAt_2 : decode cX0_buoyAt 2 = .ok (.aload_n 0, 1) := bl_dX0_buoyAt_0.2.2.1
theorem dX0_buoyAt_3 : decode cX0_buoyAt 3 = .ok (.getfield 38, 3) := bl_dX0_buoyAt_0.2.2.2.1
theorem dX0_buoyAt_6 : decode cX0_buoyAt 6 = .ok (.iconst 1, 1) := bl_dX0_buoyAt_0.2.2.2.2.1
theorem dX0_buoyAt_7 : decode cX0_buoyAt 7 = .ok (.isub, 1) := bl_dX0_buoyAt_0.2.2.2.2.2.1
theorem dX0_buoyAt_8 : decode cX0_buoyAt 8 = .ok (.invokestatic 51, 3) := bl_dX0_buoyAt_0.2.2.2.2.2.2.1
theorem dX0_buoyAt_11 : decode cX0_buoyAt 11 = .ok (.ifCond .eq 18, 3) := bl_dX0_buoyAt_0.2.2.2.2.2.2.2.1
theorem dX0_buoyAt_14 : decode cX0_buoyAt 14 = .ok (.iload_n 1, 1) := bl_dX0_buoyAt_0.2.2.2.2.2.2.2.2.1
theorem dX0_buoyAt_15 : decode cX0_buoyAt 15 = .ok (.bipush 12, 2) := bl_dX0_buoyAt_0.2.2.2.2.2.2.2.2.2.1
theorem dX0_buoyAt_17 : decode cX0_buoyAt 17 = .ok (.if_icmp .ge 12, 3) := bl_dX0_buoyAt_0.2.2.2.2.2.2.2.2.2.2.1
theorem dX0_buoyAt_20 : decode cX0_buoyAt 20 = .ok (.aload_n 0, 1) := bl_dX0_buoyAt_0.2.2.2.2.2.2.2.2.2.2.2.1
theorem dX0_buoyAt_21 : decode cX0_buoyAt 21 = .ok (.getfield 11, 3) := bl_dX0_buoyAt_0.2.2.2.2.2.2.2.2.2.2.2.2.1
theorem dX0_buoyAt_24 : decode cX0_buoyAt 24 = .ok (.iload_n 1, 1) := bl_dX0_buoyAt_0.2.2.2.2.2.2.2.2.2.2.2.2.2.1
theorem dX0_buoyAt_25 : decode cX0_buoyAt 25 = .ok (.aaload, 1) := bl_dX0_buoyAt_0.2.2.2.2.2.2.2.2.2.2.2.2.2.2.1
theorem dX0_buoyAt_26 : decode cX0_buoyAt 26 = .ok (.goto 4, 3) := bl_dX0_buoyAt_0.2.2.2.2.2.2.2.2.2.2.2.2.2.2.2
theorem lk_dX0_buoyAt_29 : th_dr cX0_buoyAt 29 = 1 :: 176 :: th_dr cX0_buoyAt 31 := rfl
theorem bl_dX0_buoyAt_29 : decode cX0_buoyAt 29 = .ok (.aconst_null, 1) ∧ decode cX0_buoyAt 30 = .ok (.areturn, 1) := op_1 lk_dX0_buoyAt_29 fun e => (op_176 e fun _ => True.intro).1
theorem dX0_buoyAt_29 : decode cX0_buoyAt 29 = .ok (.aconst_null, 1) := bl_dX0_buoyAt_29.1
theorem dX0_buoyAt_30 : decode cX0_buoyAt 30 = .ok (.areturn, 1) := bl_dX0_buoyAt_29.2
set_option maxRecDepth 20000 in
theorem ggX0_boatAt_X11_within : GoodIn wsX0_boatAt wsX11_within := goodIn_q _ [(5, 1)] rfl gdwsX11_within
set_option maxRecDepth 20000 in
theorem gX0_boatAt_X11_within_n51 : GoodIn wsX0_boatAt (wsX11_within) := ggX0_boatAt_X11_within
theorem lk_dX0_boatAt_0 : th_dr cX0_boatAt 0 = 27 :: 3 :: 42 :: 180 :: 0 :: 42 :: 4 :: 100 :: 184 :: 0 :: 51 :: 153 :: 0 :: 18 :: 27 :: 16 :: 16 :: 162 :: 0 :: 12 :: 42 :: 180 :: 0 :: 19 :: 27 :: 50 :: 167 :: 0 :: 4 :: th_dr cX0_boatAt 29 := rfl
theorem bl_dX0_boatAt_0 : decode cX0_boatAt 0 = .ok (.iload_n 1, 1) ∧ decode cX0_boatAt 1 = .ok (.iconst 0, 1) ∧ decode cX0_boatAt 2 = .ok (.aload_n 0, 1) ∧ decode cX0_boatAt 3 = .ok (.getfield 42, 3) ∧ decode cX0_boatAt 6 = .ok (.iconst 1, 1) ∧ decode cX0_boatAt 7 = .ok (.isub, 1) ∧ decode cX0_boatAt 8 = .ok (.invokestatic 51, 3) ∧ decode cX0_boatAt 11 = .ok (.ifCond .eq 18, 3) ∧ decode cX0_boatAt 14 = .ok (.iload_n 1, 1) ∧ decode cX0_boatAt 15 = .ok (.bipush 16, 2) ∧ decode cX0_boatAt 17 = .ok (.if_icmp .ge 12, 3) ∧ decode cX0_boatAt 20 = .ok (.aload_n 0, 1) ∧ decode cX0_boatAt 21 = .ok (.getfield 19, 3) ∧ decode cX0_boatAt 24 = .ok (.iload_n 1, 1) ∧ decode cX0_boatAt 25 = .ok (.aaload, 1) ∧ decode cX0_boatAt 26 = .ok (.goto 4, 3) := op_27 lk_dX0_boatAt_0 fun e => op_3 e fun e => op_42 e fun e => op_180 e fun e => op_4 e fun e => op_100 e fun e => op_184 e fun e => op_153p e rfl fun e => op_27 e fun e => op_16p e rfl fun e => op_162p e rfl fun e => op_42 e fun e => op_180 e fun e => op_27 e fun e => op_50 e fun e => (op_167p e rfl fun _ => True.intro).1
theorem dX0_boatAt_0 : decode cX0_boatAt 0 = .ok (.iload_n 1, 1) := bl_dX0_boatAt_0.1
theorem dX0_boatAt_1 : decode cX0_boatAt 1 = .ok (.iconst 0, 1) := bl_dX0_boatAt_0.2.1
theorem dX0_boatAt_2 : decode cX0_boatAt 2 = .ok (.aload_n 0, 1) := bl_dX0_boatAt_0.2.2.1
theorem dX0_boatAt_3 : decode cX0_boatAt 3 = .ok (.getfield 42, 3) := bl_dX0_boatAt_0.2.2.2.1
theorem dX0_boatAt_6 : decode cX0_boatAt 6 = .ok (.iconst 1, 1) := bl_dX0_boatAt_0.2.2.2.2.1
theorem dX0_boatAt_7 : decode cX0_boatAt 7 = .ok (.isub, 1) := bl_dX0_boatAt_0.2.2.2.2.2.1
theorem dX0_boatAt_8 : decode cX0_boatAt 8 = .ok (.invokestatic 51, 3) := bl_dX0_boatAt_0.2.2.2.2.2.2.1
theorem dX0_boatAt_11 : decode cX0_boatAt 11 = .ok (.ifCond .eq 18, 3) := bl_dX0_boatAt_0.2.2.2.2.2.2.2.1
theorem dX0_boatAt_14 : decode cX0_boatAt 14 = .ok (.iload_n 1, 1) := bl_dX0_boatAt_0.2.2.2.2.2.2.2.2.1
theorem dX0_boatAt_15 : decode cX0_boatAt 15 = .ok (.bipush 16, 2) := bl_dX0_boatAt_0.2.2.2.2.2.2.2.2.2.1
theorem dX0_boatAt_17 : decode cX0_boatAt 17 = .ok (.if_icmp .ge 12, 3) := bl_dX0_boatAt_0.2.2.2.2.2.2.2.2.2.2.1
theorem dX0_boatAt_20 : decode cX0_boatAt 20 = .ok (.aload_n 0, 1) := bl_dX0_boatAt_0.2.2.2.2.2.2.2.2.2.2.2.1
theorem dX0_boatAt_21 : decode cX0_boatAt 21 = .ok (.getfield 19, 3) := bl_dX0_boatAt_0.2.2.2.2.2.2.2.2.2.2.2.2.1
theorem dX0_boatAt_24 : decode cX0_boatAt 24 = .ok (.iload_n 1, 1) := bl_dX0_boatAt_0.2.2.2.2.2.2.2.2.2.2.2.2.2.1
theorem dX0_boatAt_25 : decode cX0_boatAt 25 = .ok (.aaload, 1) := bl_dX0_boatAt_0.2.2.2.2.2.2.2.2.2.2.2.2.2.2.1
theorem dX0_boatAt_26 : decode cX0_boatAt 26 = .ok (.goto 4, 3) := bl_dX0_boatAt_0.2.2.2.2.2.2.2.2.2.2.2.2.2.2.2
theorem lk_dX0_boatAt_29 : th_dr cX0_boatAt 29 = 1 :: 176 :: th_dr cX0_boatAt 31 := rfl
theorem bl_dX0_boatAt_29 : decode cX0_boatAt 29 = .ok (.aconst_null, 1) ∧ decode cX0_boatAt 30 = .ok (.areturn, 1) := op_1 lk_dX0_boatAt_29 fun e => (op_176 e fun _ => True.intro).1
theorem dX0_boatAt_29 : decode cX0_boatAt 29 = .ok (.aconst_null, 1) := bl_dX0_boatAt_29.1
theorem dX0_boatAt_30 : decode cX0_boatAt 30 = .ok (.areturn, 1) := bl_dX0_boatAt_29.2
set_option maxRecDepth 20000 in
theorem gdwsX3_init : wsX3_init.all goodWord = true := by decide +kernel
set_option maxRecDepth 20000 in
theorem ggX0_addBuoy_X3_init : GoodIn wsX0_addBuoy wsX3_init := goodIn_q _ [(9, 13), (44, 8)] rfl gdwsX3_init
set_option maxRecDepth 20000 in
theorem gX0_addBuoy_X3_init : GoodIn wsX0_addBuoy (wsX3_init) := ggX0_addBuoy_X3_init
set_option maxRecDepth 20000 in
theorem gdwsX3_flood : wsX3_flood.all goodWord = true := by decide +kernel
set_option maxRecDepth 20000 in
theorem ggX0_addBuoy_X3_flood : GoodIn wsX0_addBuoy wsX3_flood := goodIn_q _ [(25, 1), (20, 1), (14, 1), (21, 1), (26, 8), (4, 1), (34, 1), (44, 8)] rfl gdwsX3_flood
set_option maxRecDepth 20000 in
theorem gX0_addBuoy_X3_flood : GoodIn wsX0_addBuoy (wsV RX0 58 RX3 yX3_flood wsX3_flood) := goodIn_app (goodIn_q _ [(22, 3), (4, 1)] rfl rfl) ggX0_addBuoy_X3_flood
theorem lk_dX0_addBuoy_0 : th_dr cX0_addBuoy 0 = 42 :: 180 :: 0 :: 38 :: 54 :: 5 :: 21 :: 5 :: 16 :: 12 :: 162 :: 0 :: 68 :: 187 :: 0 :: 9 :: 89 :: 21 :: 5 :: 27 :: 28 :: 29 :: 21 :: 4 :: 183 :: 0 :: 55 :: 58 :: 6 :: 3 :: th_dr cX0_addBuoy 30 := rfl
theorem bl_dX0_addBuoy_0 : decode cX0_addBuoy 0 = .ok (.aload_n 0, 1) ∧ decode cX0_addBuoy 1 = .ok (.getfield 38, 3) ∧ decode cX0_addBuoy 4 = .ok (.istore 5, 2) ∧ decode cX0_addBuoy 6 = .ok (.iload 5, 2) ∧ decode cX0_addBuoy 8 = .ok (.bipush 12, 2) ∧ decode cX0_addBuoy 10 = .ok (.if_icmp .ge 68, 3) ∧ decode cX0_addBuoy 13 = .ok (.new 9, 3) ∧ decode cX0_addBuoy 16 = .ok (.dup, 1) ∧ decode cX0_addBuoy 17 = .ok (.iload 5, 2) ∧ decode cX0_addBuoy 19 = .ok (.iload_n 1, 1) ∧ decode cX0_addBuoy 20 = .ok (.iload_n 2, 1) ∧ decode cX0_addBuoy 21 = .ok (.iload_n 3, 1) ∧ decode cX0_addBuoy 22 = .ok (.iload 4, 2) ∧ decode cX0_addBuoy 24 = .ok (.invokespecial 55, 3) ∧ decode cX0_addBuoy 27 = .ok (.astore 6, 2) ∧ decode cX0_addBuoy 29 = .ok (.iconst 0, 1) := op_42 lk_dX0_addBuoy_0 fun e => op_180 e fun e => op_54 e fun e => op_21 e fun e => op_16p e rfl fun e => op_162p e rfl fun e => op_187 e fun e => op_89 e fun e => op_21 e fun e => op_27 e fun e => op_28 e fun e => op_29 e fun e => op_21 e fun e => op_183 e fun e => op_58 e fun e => (op_3 e fun _ => True.intro).1
theorem dX0_addBuoy_0 : decode cX0_addBuoy 0 = .ok (.aload_n 0, 1) := bl_dX0_addBuoy_0.1
theorem dX0_addBuoy_1 : decode cX0_addBuoy 1 = .ok (.getfield 38, 3) := bl_dX0_addBuoy_0.2.1
theorem dX0_addBuoy_4 : decode cX0_addBuoy 4 = .ok (.istore 5, 2) := bl_dX0_addBuoy_0.2.2.1
theorem dX0_addBuoy_6 : decode cX0_addBuoy 6 = .ok (.iload 5, 2) := bl_dX0_addBuoy_0.2.2.2.1
theorem dX0_addBuoy_8 : decode cX0_addBuoy 8 = .ok (.bipush 12, 2) := bl_dX0_addBuoy_0.2.2.2.2.1
theorem dX0_addBuoy_10 : decode cX0_addBuoy 10 = .ok (.if_icmp .ge 68, 3) := bl_dX0_addBuoy_0.2.2.2.2.2.1
theorem dX0_addBuoy_13 : decode cX0_addBuoy 13 = .ok (.new 9, 3) := bl_dX0_addBuoy_0.2.2.2.2.2.2.1
theorem dX0_addBuoy_16 : decode cX0_addBuoy 16 = .ok (.dup, 1) := bl_dX0_addBuoy_0.2.2.2.2.2.2.2.1
theorem dX0_addBuoy_17 : decode cX0_addBuoy 17 = .ok (.iload 5, 2) := bl_dX0_addBuoy_0.2.2.2.2.2.2.2.2.1
theorem dX0_addBuoy_19 : decode cX0_addBuoy 19 = .ok (.iload_n 1, 1) := bl_dX0_addBuoy_0.2.2.2.2.2.2.2.2.2.1
theorem dX0_addBuoy_20 : decode cX0_addBuoy 20 = .ok (.iload_n 2, 1) := bl_dX0_addBuoy_0.2.2.2.2.2.2.2.2.2.2.1
theorem dX0_addBuoy_21 : decode cX0_addBuoy 21 = .ok (.iload_n 3, 1) := bl_dX0_addBuoy_0.2.2.2.2.2.2.2.2.2.2.2.1
theorem dX0_addBuoy_22 : decode cX0_addBuoy 22 = .ok (.iload 4, 2) := bl_dX0_addBuoy_0.2.2.2.2.2.2.2.2.2.2.2.2.1
theorem dX0_addBuoy_24 : decode cX0_addBuoy 24 = .ok (.invokespecial 55, 3) := bl_dX0_addBuoy_0.2.2.2.2.2.2.2.2.2.2.2.2.2.1
theorem dX0_addBuoy_27 : decode cX0_addBuoy 27 = .ok (.astore 6, 2) := bl_dX0_addBuoy_0.2.2.2.2.2.2.2.2.2.2.2.2.2.2.1
theorem dX0_addBuoy_29 : decode cX0_addBuoy 29 = .ok (.iconst 0, 1) := bl_dX0_addBuoy_0.2.2.2.2.2.2.2.2.2.2.2.2.2.2.2
set_option maxRecDepth 20000 in
theorem lk_dX0_addBuoy_30 : th_dr cX0_addBuoy 30 = 54 :: 7 :: 21 :: 7 :: 16 :: 24 :: 162 :: 0 :: 23 :: 25 :: 6 :: 21 :: 7 :: 42 :: 180 :: 0 :: 23 :: 21 :: 7 :: 46 :: 182 :: 0 :: 58 :: 132 :: 7 :: 1 :: 167 :: 255 :: 232 :: 42 :: 180 :: 0 :: 11 :: 21 :: 5 :: th_dr cX0_addBuoy 65 := rfl
theorem bl_dX0_addBuoy_30 : decode cX0_addBuoy 30 = .ok (.istore 7, 2) ∧ decode cX0_addBuoy 32 = .ok (.iload 7, 2) ∧ decode cX0_addBuoy 34 = .ok (.bipush 24, 2) ∧ decode cX0_addBuoy 36 = .ok (.if_icmp .ge 23, 3) ∧ decode cX0_addBuoy 39 = .ok (.aload 6, 2) ∧ decode cX0_addBuoy 41 = .ok (.iload 7, 2) ∧ decode cX0_addBuoy 43 = .ok (.aload_n 0, 1) ∧ decode cX0_addBuoy 44 = .ok (.getfield 23, 3) ∧ decode cX0_addBuoy 47 = .ok (.iload 7, 2) ∧ decode cX0_addBuoy 49 = .ok (.iaload, 1) ∧ decode cX0_addBuoy 50 = .ok (.invokevirtual 58, 3) ∧ decode cX0_addBuoy 53 = .ok (.iinc 7 1, 3) ∧ decode cX0_addBuoy 56 = .ok (.goto (-24), 3) ∧ decode cX0_addBuoy 59 = .ok (.aload_n 0, 1) ∧ decode cX0_addBuoy 60 = .ok (.getfield 11, 3) ∧ decode cX0_addBuoy 63 = .ok (.iload 5, 2) := op_54 lk_dX0_addBuoy_30 fun e => op_21 e fun e => op_16p e rfl fun e => op_162p e rfl fun e => op_25 e fun e => op_21 e fun e => op_42 e fun e => op_180 e fun e => op_21 e fun e => op_46 e fun e => op_182 e fun e => op_132p e rfl fun e => op_167n e rfl rfl fun e => op_42 e fun e => op_180 e fun e => (op_21 e fun _ => True.intro).1
theorem dX0_addBuoy_30 : decode cX0_addBuoy 30 = .ok (.istore 7, 2) := bl_dX0_addBuoy_30.1
theorem dX0_addBuoy_32 : decode cX0_addBuoy 32 = .ok (.iload 7, 2) := bl_dX0_addBuoy_30.2.1
theorem dX0_addBuoy_34 : decode cX0_addBuoy 34 = .ok (.bipush 24, 2) := bl_dX0_addBuoy_30.2.2.1
theorem dX0_addBuoy_36 : decode cX0_addBuoy 36 = .ok (.if_icmp .ge 23, 3) := bl_dX0_addBuoy_30.2.2.2.1
theorem dX0_addBuoy_39 : decode cX0_addBuoy 39 = .ok (.aload 6, 2) := bl_dX0_addBuoy_30.2.2.2.2.1
theorem dX0_addBuoy_41 : decode cX0_addBuoy 41 = .ok (.iload 7, 2) := bl_dX0_addBuoy_30.2.2.2.2.2.1
theorem dX0_addBuoy_43 : decode cX0_addBuoy 43 = .ok (.aload_n 0, 1) := bl_dX0_addBuoy_30.2.2.2.2.2.2.1
theorem dX0_addBuoy_44 : decode cX0_addBuoy 44 = .ok (.getfield 23, 3) := bl_dX0_addBuoy_30.2.2.2.2.2.2.2.1
theorem dX0_addBuoy_47 : decode cX0_addBuoy 47 = .ok (.iload 7, 2) := bl_dX0_addBuoy_30.2.2.2.2.2.2.2.2.1
theorem dX0_addBuoy_49 : decode cX0_addBuoy 49 = .ok (.iaload, 1) := bl_dX0_addBuoy_30.2.2.2.2.2.2.2.2.2.1
theorem dX0_addBuoy_50 : decode cX0_addBuoy 50 = .ok (.invokevirtual 58, 3) := bl_dX0_addBuoy_30.2.2.2.2.2.2.2.2.2.2.1
theorem dX0_addBuoy_53 : decode cX0_addBuoy 53 = .ok (.iinc 7 1, 3) := bl_dX0_addBuoy_30.2.2.2.2.2.2.2.2.2.2.2.1
theorem dX0_addBuoy_56 : decode cX0_addBuoy 56 = .ok (.goto (-24), 3) := bl_dX0_addBuoy_30.2.2.2.2.2.2.2.2.2.2.2.2.1
theorem dX0_addBuoy_59 : decode cX0_addBuoy 59 = .ok (.aload_n 0, 1) := bl_dX0_addBuoy_30.2.2.2.2.2.2.2.2.2.2.2.2.2.1
theorem dX0_addBuoy_60 : decode cX0_addBuoy 60 = .ok (.getfield 11, 3) := bl_dX0_addBuoy_30.2.2.2.2.2.2.2.2.2.2.2.2.2.2.1
theorem dX0_addBuoy_63 : decode cX0_addBuoy 63 = .ok (.iload 5, 2) := bl_dX0_addBuoy_30.2.2.2.2.2.2.2.2.2.2.2.2.2.2.2
set_option maxRecDepth 20000 in
theorem lk_dX0_addBuoy_65 : th_dr cX0_addBuoy 65 = 25 :: 6 :: 83 :: 42 :: 89 :: 180 :: 0 :: 38 :: 4 :: 96 :: 181 :: 0 :: 38 :: 21 :: 5 :: 172 :: th_dr cX0_addBuoy 81 := rfl
theorem bl_dX0_addBuoy_65 : decode cX0_addBuoy 65 = .ok (.aload 6, 2) ∧ decode cX0_addBuoy 67 = .ok (.aastore, 1) ∧ decode cX0_addBuoy 68 = .ok (.aload_n 0, 1) ∧ decode cX0_addBuoy 69 = .ok (.dup, 1) ∧ decode cX0_addBuoy 70 = .ok (.getfield 38, 3) ∧ decode cX0_addBuoy 73 = .ok (.iconst 1, 1) ∧ decode cX0_addBuoy 74 = .ok (.iadd, 1) ∧ decode cX0_addBuoy 75 = .ok (.putfield 38, 3) ∧ decode cX0_addBuoy 78 = .ok (.iload 5, 2) ∧ decode cX0_addBuoy 80 = .ok (.ireturn, 1) := op_25 lk_dX0_addBuoy_65 fun e => op_83 e fun e => op_42 e fun e => op_89 e fun e => op_180 e fun e => op_4 e fun e => op_96 e fun e => op_181 e fun e => op_21 e fun e => (op_172 e fun _ => True.intro).1
theorem dX0_addBuoy_65 : decode cX0_addBuoy 65 = .ok (.aload 6, 2) := bl_dX0_addBuoy_65.1
theorem dX0_addBuoy_67 : decode cX0_addBuoy 67 = .ok (.aastore, 1) := bl_dX0_addBuoy_65.2.1
theorem dX0_addBuoy_68 : decode cX0_addBuoy 68 = .ok (.aload_n 0, 1) := bl_dX0_addBuoy_65.2.2.1
theorem dX0_addBuoy_69 : decode cX0_addBuoy 69 = .ok (.dup, 1) := bl_dX0_addBuoy_65.2.2.2.1
theorem dX0_addBuoy_70 : decode cX0_addBuoy 70 = .ok (.getfield 38, 3) := bl_dX0_addBuoy_65.2.2.2.2.1
theorem dX0_addBuoy_73 : decode cX0_addBuoy 73 = .ok (.iconst 1, 1) := bl_dX0_addBuoy_65.2.2.2.2.2.1
theorem dX0_addBuoy_74 : decode cX0_addBuoy 74 = .ok (.iadd, 1) := bl_dX0_addBuoy_65.2.2.2.2.2.2.1
theorem dX0_addBuoy_75 : decode cX0_addBuoy 75 = .ok (.putfield 38, 3) := bl_dX0_addBuoy_65.2.2.2.2.2.2.2.1
theorem dX0_addBuoy_78 : decode cX0_addBuoy 78 = .ok (.iload 5, 2) := bl_dX0_addBuoy_65.2.2.2.2.2.2.2.2.1
theorem dX0_addBuoy_80 : decode cX0_addBuoy 80 = .ok (.ireturn, 1) := bl_dX0_addBuoy_65.2.2.2.2.2.2.2.2.2
set_option maxRecDepth 20000 in
theorem gdwsX0_newBoat : wsX0_newBoat.all goodWord = true := by decide +kernel
set_option maxRecDepth 20000 in
theorem ggX0_addBoat_X0_newBoat : GoodIn wsX0_addBoat wsX0_newBoat := goodIn_q _ [(6, 35), (50, 18)] rfl gdwsX0_newBoat
set_option maxRecDepth 20000 in
theorem gX0_addBoat_X0_newBoat : GoodIn wsX0_addBoat (va_wsS RX0 62 yX0_newBoat wsX0_newBoat) := goodIn_app (goodIn_q _ [(3, 3)] rfl rfl) ggX0_addBoat_X0_newBoat
theorem lk_dX0_addBoat_0 : th_dr cX0_addBoat 0 = 42 :: 180 :: 0 :: 42 :: 54 :: 4 :: 21 :: 4 :: 16 :: 16 :: 162 :: 0 :: 28 :: 42 :: 180 :: 0 :: 19 :: 21 :: 4 :: 27 :: 21 :: 4 :: 28 :: 29 :: 184 :: 0 :: 62 :: 83 :: 42 :: th_dr cX0_addBoat 29 := rfl
theorem bl_dX0_addBoat_0 : decode cX0_addBoat 0 = .ok (.aload_n 0, 1) ∧ decode cX0_addBoat 1 = .ok (.getfield 42, 3) ∧ decode cX0_addBoat 4 = .ok (.istore 4, 2) ∧ decode cX0_addBoat 6 = .ok (.iload 4, 2) ∧ decode cX0_addBoat 8 = .ok (.bipush 16, 2) ∧ decode cX0_addBoat 10 = .ok (.if_icmp .ge 28, 3) ∧ decode cX0_addBoat 13 = .ok (.aload_n 0, 1) ∧ decode cX0_addBoat 14 = .ok (.getfield 19, 3) ∧ decode cX0_addBoat 17 = .ok (.iload 4, 2) ∧ decode cX0_addBoat 19 = .ok (.iload_n 1, 1) ∧ decode cX0_addBoat 20 = .ok (.iload 4, 2) ∧ decode cX0_addBoat 22 = .ok (.iload_n 2, 1) ∧ decode cX0_addBoat 23 = .ok (.iload_n 3, 1) ∧ decode cX0_addBoat 24 = .ok (.invokestatic 62, 3) ∧ decode cX0_addBoat 27 = .ok (.aastore, 1) ∧ decode cX0_addBoat 28 = .ok (.aload_n 0, 1) := op_42 lk_dX0_addBoat_0 fun e => op_180 e fun e => op_54 e fun e => op_21 e fun e => op_16p e rfl fun e => op_162p e rfl fun e => op_42 e fun e => op_180 e fun e => op_21 e fun e => op_27 e fun e => op_21 e fun e => op_28 e fun e => op_29 e fun e => op_184 e fun e => op_83 e fun e => (op_42 e fun _ => True.intro).1
theorem dX0_addBoat_0 : decode cX0_addBoat 0 = .ok (.aload_n 0, 1) := bl_dX0_addBoat_0.1
theorem dX0_addBoat_1 : decode cX0_addBoat 1 = .ok (.getfield 42, 3) := bl_dX0_addBoat_0.2.1
theorem dX0_addBoat_4 : decode cX0_addBoat 4 = .ok (.istore 4, 2) := bl_dX0_addBoat_0.2.2.1
theorem dX0_addBoat_6 : decode cX0_addBoat 6 = .ok (.iload 4, 2) := bl_dX0_addBoat_0.2.2.2.1
theorem dX0_addBoat_8 : decode cX0_addBoat 8 = .ok (.bipush 16, 2) := bl_dX0_addBoat_0.2.2.2.2.1
theorem dX0_addBoat_10 : decode cX0_addBoat 10 = .ok (.if_icmp .ge 28, 3) := bl_dX0_addBoat_0.2.2.2.2.2.1
theorem dX0_addBoat_13 : decode cX0_addBoat 13 = .ok (.aload_n 0, 1) := bl_dX0_addBoat_0.2.2.2.2.2.2.1
theorem dX0_addBoat_14 : decode cX0_addBoat 14 = .ok (.getfield 19, 3) := bl_dX0_addBoat_0.2.2.2.2.2.2.2.1
theorem dX0_addBoat_17 : decode cX0_addBoat 17 = .ok (.iload 4, 2) := bl_dX0_addBoat_0.2.2.2.2.2.2.2.2.1
theorem dX0_addBoat_19 : decode cX0_addBoat 19 = .ok (.iload_n 1, 1) := bl_dX0_addBoat_0.2.2.2.2.2.2.2.2.2.1
theorem dX0_addBoat_20 : decode cX0_addBoat 20 = .ok (.iload 4, 2) := bl_dX0_addBoat_0.2.2.2.2.2.2.2.2.2.2.1
theorem dX0_addBoat_22 : decode cX0_addBoat 22 = .ok (.iload_n 2, 1) := bl_dX0_addBoat_0.2.2.2.2.2.2.2.2.2.2.2.1
theorem dX0_addBoat_23 : decode cX0_addBoat 23 = .ok (.iload_n 3, 1) := bl_dX0_addBoat_0.2.2.2.2.2.2.2.2.2.2.2.2.1
theorem dX0_addBoat_24 : decode cX0_addBoat 24 = .ok (.invokestatic 62, 3) := bl_dX0_addBoat_0.2.2.2.2.2.2.2.2.2.2.2.2.2.1
theorem dX0_addBoat_27 : decode cX0_addBoat 27 = .ok (.aastore, 1) := bl_dX0_addBoat_0.2.2.2.2.2.2.2.2.2.2.2.2.2.2.1
theorem dX0_addBoat_28 : decode cX0_addBoat 28 = .ok (.aload_n 0, 1) := bl_dX0_addBoat_0.2.2.2.2.2.2.2.2.2.2.2.2.2.2.2
theorem lk_dX0_addBoat_29 : th_dr cX0_addBoat 29 = 89 :: 180 :: 0 :: 42 :: 4 :: 96 :: 181 :: 0 :: 42 :: 21 :: 4 :: 172 :: th_dr cX0_addBoat 41 := rfl
theorem bl_dX0_addBoat_29 : decode cX0_addBoat 29 = .ok (.dup, 1) ∧ decode cX0_addBoat 30 = .ok (.getfield 42, 3) ∧ decode cX0_addBoat 33 = .ok (.iconst 1, 1) ∧ decode cX0_addBoat 34 = .ok (.iadd, 1) ∧ decode cX0_addBoat 35 = .ok (.putfield 42, 3) ∧ decode cX0_addBoat 38 = .ok (.iload 4, 2) ∧ decode cX0_addBoat 40 = .ok (.ireturn, 1) := op_89 lk_dX0_addBoat_29 fun e => op_180 e fun e => op_4 e fun e => op_96 e fun e => op_181 e fun e => op_21 e fun e => (op_172 e fun _ => True.intro).1
theorem dX0_addBoat_29 : decode cX0_addBoat 29 = .ok (.dup, 1) := bl_dX0_addBoat_29.1
theorem dX0_addBoat_30 : decode cX0_addBoat 30 = .ok (.getfield 42, 3) := bl_dX0_addBoat_29.2.1
theorem dX0_addBoat_33 : decode cX0_addBoat 33 = .ok (.iconst 1, 1) := bl_dX0_addBoat_29.2.2.1
theorem dX0_addBoat_34 : decode cX0_addBoat 34 = .ok (.iadd, 1) := bl_dX0_addBoat_29.2.2.2.1
theorem dX0_addBoat_35 : decode cX0_addBoat 35 = .ok (.putfield 42, 3) := bl_dX0_addBoat_29.2.2.2.2.1
theorem dX0_addBoat_38 : decode cX0_addBoat 38 = .ok (.iload 4, 2) := bl_dX0_addBoat_29.2.2.2.2.2.1
theorem dX0_addBoat_40 : decode cX0_addBoat 40 = .ok (.ireturn, 1) := bl_dX0_addBoat_29.2.2.2.2.2.2
set_option maxRecDepth 20000 in
theorem gdwsX9_init : wsX9_init.all goodWord = true := by decide +kernel
set_option maxRecDepth 20000 in
theorem ggX0_newBoat_X9_init : GoodIn wsX0_newBoat wsX9_init := goodIn_q _ [(12, 15), (41, 12), (35, 6)] rfl gdwsX9_init
set_option maxRecDepth 20000 in
theorem gX0_newBoat_X9_init : GoodIn wsX0_newBoat (wsX9_init) := ggX0_newBoat_X9_init
set_option maxRecDepth 20000 in
theorem gdwsX4_init : wsX4_init.all goodWord = true := by decide +kernel
set_option maxRecDepth 20000 in
theorem ggX0_newBoat_X4_init : GoodIn wsX0_newBoat wsX4_init := goodIn_q _ [(29, 2), (14, 13), (41, 12), (35, 6)] rfl gdwsX4_init
set_option maxRecDepth 20000 in
theorem gX0_newBoat_X4_init : GoodIn wsX0_newBoat (wsX4_init) := ggX0_newBoat_X4_init
set_option maxRecDepth 20000 in
theorem gdwsX8_init : wsX8_init.all goodWord = true := by decide +kernel
set_option maxRecDepth 20000 in
theorem ggX0_newBoat_X8_init : GoodIn wsX0_newBoat wsX8_init := goodIn_q _ [(33, 2), (14, 13), (41, 12), (35, 6)] rfl gdwsX8_init
set_option maxRecDepth 20000 in
theorem gX0_newBoat_X8_init : GoodIn wsX0_newBoat (wsX8_init) := ggX0_newBoat_X8_init
theorem lk_dX0_newBoat_0 : th_dr cX0_newBoat 0 = 26 :: th_dr cX0_newBoat 1 := rfl
theorem dX0_newBoat_0 : decode cX0_newBoat 0 = .ok (.iload_n 0, 1) := (op_26 lk_dX0_newBoat_0 fun _ => True.intro).1
theorem dX0_newBoat_1 : decode cX0_newBoat 1 = .ok (.lookupswitch 49 #[(1, 27), (2, 38)], 27) := by decide +kernel
theorem lk_dX0_newBoat_28 : th_dr cX0_newBoat 28 = 187 :: 0 :: 66 :: 89 :: 27 :: 28 :: 29 :: 183 :: 0 :: 68 :: 176 :: 187 :: 0 :: 71 :: 89 :: 27 :: 28 :: 29 :: 183 :: 0 :: 73 :: 176 :: 187 :: 0 :: 74 :: 89 :: th_dr cX0_newBoat 54 := rfl
theorem bl_dX0_newBoat_28 : decode cX0_newBoat 28 = .ok (.new 66, 3) ∧ decode cX0_newBoat 31 = .ok (.dup, 1) ∧ decode cX0_newBoat 32 = .ok (.iload_n 1, 1) ∧ decode cX0_newBoat 33 = .ok (.iload_n 2, 1) ∧ decode cX0_newBoat 34 = .ok (.iload_n 3, 1) ∧ decode cX0_newBoat 35 = .ok (.invokespecial 68, 3) ∧ decode cX0_newBoat 38 = .ok (.areturn, 1) ∧ decode cX0_newBoat 39 = .ok (.new 71, 3) ∧ decode cX0_newBoat 42 = .ok (.dup, 1) ∧ decode cX0_newBoat 43 = .ok (.iload_n 1, 1) ∧ decode cX0_newBoat 44 = .ok (.iload_n 2, 1) ∧ decode cX0_newBoat 45 = .ok (.iload_n 3, 1) ∧ decode cX0_newBoat 46 = .ok (.invokespecial 73, 3) ∧ decode cX0_newBoat 49 = .ok (.areturn, 1) ∧ decode cX0_newBoat 50 = .ok (.new 74, 3) ∧ decode cX0_newBoat 53 = .ok (.dup, 1) := op_187 lk_dX0_newBoat_28 fun e => op_89 e fun e => op_27 e fun e => op_28 e fun e => op_29 e fun e => op_183 e fun e => op_176 e fun e => op_187 e fun e => op_89 e fun e => op_27 e fun e => op_28 e fun e => op_29 e fun e => op_183 e fun e => op_176 e fun e => op_187 e fun e => (op_89 e fun _ => True.intro).1
theorem dX0_newBoat_28 : decode cX0_newBoat 28 = .ok (.new 66, 3) := bl_dX0_newBoat_28.1
theorem dX0_newBoat_31 : decode cX0_newBoat 31 = .ok (.dup, 1) := bl_dX0_newBoat_28.2.1
theorem dX0_newBoat_32 : decode cX0_newBoat 32 = .ok (.iload_n 1, 1) := bl_dX0_newBoat_28.2.2.1
theorem dX0_newBoat_33 : decode cX0_newBoat 33 = .ok (.iload_n 2, 1) := bl_dX0_newBoat_28.2.2.2.1
theorem dX0_newBoat_34 : decode cX0_newBoat 34 = .ok (.iload_n 3, 1) := bl_dX0_newBoat_28.2.2.2.2.1
theorem dX0_newBoat_35 : decode cX0_newBoat 35 = .ok (.invokespecial 68, 3) := bl_dX0_newBoat_28.2.2.2.2.2.1
theorem dX0_newBoat_38 : decode cX0_newBoat 38 = .ok (.areturn, 1) := bl_dX0_newBoat_28.2.2.2.2.2.2.1
theorem dX0_newBoat_39 : decode cX0_newBoat 39 = .ok (.new 71, 3) := bl_dX0_newBoat_28.2.2.2.2.2.2.2.1
theorem dX0_newBoat_42 : decode cX0_newBoat 42 = .ok (.dup, 1) := bl_dX0_newBoat_28.2.2.2.2.2.2.2.2.1
theorem dX0_newBoat_43 : decode cX0_newBoat 43 = .ok (.iload_n 1, 1) := bl_dX0_newBoat_28.2.2.2.2.2.2.2.2.2.1
theorem dX0_newBoat_44 : decode cX0_newBoat 44 = .ok (.iload_n 2, 1) := bl_dX0_newBoat_28.2.2.2.2.2.2.2.2.2.2.1
theorem dX0_newBoat_45 : decode cX0_newBoat 45 = .ok (.iload_n 3, 1) := bl_dX0_newBoat_28.2.2.2.2.2.2.2.2.2.2.2.1
theorem dX0_newBoat_46 : decode cX0_newBoat 46 = .ok (.invokespecial 73, 3) := bl_dX0_newBoat_28.2.2.2.2.2.2.2.2.2.2.2.2.1
theorem dX0_newBoat_49 : decode cX0_newBoat 49 = .ok (.areturn, 1) := bl_dX0_newBoat_28.2.2.2.2.2.2.2.2.2.2.2.2.2.1
theorem dX0_newBoat_50 : decode cX0_newBoat 50 = .ok (.new 74, 3) := bl_dX0_newBoat_28.2.2.2.2.2.2.2.2.2.2.2.2.2.2.1
theorem dX0_newBoat_53 : decode cX0_newBoat 53 = .ok (.dup, 1) := bl_dX0_newBoat_28.2.2.2.2.2.2.2.2.2.2.2.2.2.2.2
set_option maxRecDepth 20000 in
theorem lk_dX0_newBoat_54 : th_dr cX0_newBoat 54 = 27 :: 28 :: 29 :: 183 :: 0 :: 76 :: 176 :: th_dr cX0_newBoat 61 := rfl
theorem bl_dX0_newBoat_54 : decode cX0_newBoat 54 = .ok (.iload_n 1, 1) ∧ decode cX0_newBoat 55 = .ok (.iload_n 2, 1) ∧ decode cX0_newBoat 56 = .ok (.iload_n 3, 1) ∧ decode cX0_newBoat 57 = .ok (.invokespecial 76, 3) ∧ decode cX0_newBoat 60 = .ok (.areturn, 1) := op_27 lk_dX0_newBoat_54 fun e => op_28 e fun e => op_29 e fun e => op_183 e fun e => (op_176 e fun _ => True.intro).1
theorem dX0_newBoat_54 : decode cX0_newBoat 54 = .ok (.iload_n 1, 1) := bl_dX0_newBoat_54.1
theorem dX0_newBoat_55 : decode cX0_newBoat 55 = .ok (.iload_n 2, 1) := bl_dX0_newBoat_54.2.1
theorem dX0_newBoat_56 : decode cX0_newBoat 56 = .ok (.iload_n 3, 1) := bl_dX0_newBoat_54.2.2.1
theorem dX0_newBoat_57 : decode cX0_newBoat 57 = .ok (.invokespecial 76, 3) := bl_dX0_newBoat_54.2.2.2.1
theorem dX0_newBoat_60 : decode cX0_newBoat 60 = .ok (.areturn, 1) := bl_dX0_newBoat_54.2.2.2.2
set_option maxRecDepth 20000 in
theorem gdwsX11_isHour : wsX11_isHour.all goodWord = true := by decide +kernel
set_option maxRecDepth 20000 in
theorem ggX0_setTide_X11_isHour : GoodIn wsX0_setTide wsX11_isHour := goodIn_q _ [(11, 3), (10, 1), (14, 1)] rfl gdwsX11_isHour
set_option maxRecDepth 20000 in
theorem gX0_setTide_X11_isHour_n77 : GoodIn wsX0_setTide (wsX11_isHour) := ggX0_setTide_X11_isHour
set_option maxRecDepth 20000 in
theorem gdwsX0_buoyAt : wsX0_buoyAt.all goodWord = true := by decide +kernel
set_option maxRecDepth 20000 in
theorem ggX0_setTide_X0_buoyAt : GoodIn wsX0_setTide wsX0_buoyAt := goodIn_q _ [(19, 1), (2, 1), (20, 1), (13, 1), (10, 1), (14, 1), (36, 9)] rfl gdwsX0_buoyAt
set_option maxRecDepth 20000 in
theorem gX0_setTide_X0_buoyAt : GoodIn wsX0_setTide (wsV RX0 81 RX0 yX0_buoyAt wsX0_buoyAt) := goodIn_app (goodIn_q _ [(15, 4)] rfl rfl) ggX0_setTide_X0_buoyAt
set_option maxRecDepth 20000 in
theorem ggX0_setTide_X3_flood : GoodIn wsX0_setTide wsX3_flood := goodIn_q _ [(25, 4), (9, 6), (29, 2), (24, 1), (31, 1), (45, 8)] rfl gdwsX3_flood
set_option maxRecDepth 20000 in
theorem gX0_setTide_X3_flood : GoodIn wsX0_setTide (wsV RX0 58 RX3 yX3_flood wsX3_flood) := goodIn_app (goodIn_q _ [(21, 4)] rfl rfl) ggX0_setTide_X3_flood
set_option maxRecDepth 20000 in
theorem gdwsX0_isEarlierTide : wsX0_isEarlierTide.all goodWord = true := by decide +kernel
set_option maxRecDepth 20000 in
theorem ggX0_setTide_X0_isEarlierTide : GoodIn wsX0_setTide wsX0_isEarlierTide := goodIn_q _ [(35, 1), (1, 1), (36, 9)] rfl gdwsX0_isEarlierTide
set_option maxRecDepth 20000 in
theorem gX0_setTide_X0_isEarlierTide : GoodIn wsX0_setTide (wsV RX0 91 RX0 yX0_isEarlierTide wsX0_isEarlierTide) := goodIn_app (goodIn_q _ [(32, 3), (18, 1)] rfl rfl) ggX0_setTide_X0_isEarlierTide
theorem lk_dX0_setTide_0 : th_dr cX0_setTide 0 = 27 :: 184 :: 0 :: 77 :: 154 :: 0 :: 4 :: 177 :: 42 :: 180 :: 0 :: 23 :: 27 :: 28 :: 79 :: 3 :: 62 :: 29 :: 42 :: 180 :: 0 :: 38 :: 162 :: 0 :: 28 :: 42 :: th_dr cX0_setTide 26 := rfl
theorem bl_dX0_setTide_0 : decode cX0_setTide 0 = .ok (.iload_n 1, 1) ∧ decode cX0_setTide 1 = .ok (.invokestatic 77, 3) ∧ decode cX0_setTide 4 = .ok (.ifCond .ne 4, 3) ∧ decode cX0_setTide 7 = .ok (.return_, 1) ∧ decode cX0_setTide 8 = .ok (.aload_n 0, 1) ∧ decode cX0_setTide 9 = .ok (.getfield 23, 3) ∧ decode cX0_setTide 12 = .ok (.iload_n 1, 1) ∧ decode cX0_setTide 13 = .ok (.iload_n 2, 1) ∧ decode cX0_setTide 14 = .ok (.iastore, 1) ∧ decode cX0_setTide 15 = .ok (.iconst 0, 1) ∧ decode cX0_setTide 16 = .ok (.istore_n 3, 1) ∧ decode cX0_setTide 17 = .ok (.iload_n 3, 1) ∧ decode cX0_setTide 18 = .ok (.aload_n 0, 1) ∧ decode cX0_setTide 19 = .ok (.getfield 38, 3) ∧ decode cX0_setTide 22 = .ok (.if_icmp .ge 28, 3) ∧ decode cX0_setTide 25 = .ok (.aload_n 0, 1) := op_27 lk_dX0_setTide_0 fun e => op_184 e fun e => op_154p e rfl fun e => op_177 e fun e => op_42 e fun e => op_180 e fun e => op_27 e fun e => op_28 e fun e => op_79 e fun e => op_3 e fun e => op_62 e fun e => op_29 e fun e => op_42 e fun e => op_180 e fun e => op_162p e rfl fun e => (op_42 e fun _ => True.intro).1
theorem dX0_setTide_0 : decode cX0_setTide 0 = .ok (.iload_n 1, 1) := bl_dX0_setTide_0.1
theorem dX0_setTide_1 : decode cX0_setTide 1 = .ok (.invokestatic 77, 3) := bl_dX0_setTide_0.2.1
theorem dX0_setTide_4 : decode cX0_setTide 4 = .ok (.ifCond .ne 4, 3) := bl_dX0_setTide_0.2.2.1
theorem dX0_setTide_7 : decode cX0_setTide 7 = .ok (.return_, 1) := bl_dX0_setTide_0.2.2.2.1
theorem dX0_setTide_8 : decode cX0_setTide 8 = .ok (.aload_n 0, 1) := bl_dX0_setTide_0.2.2.2.2.1
theorem dX0_setTide_9 : decode cX0_setTide 9 = .ok (.getfield 23, 3) := bl_dX0_setTide_0.2.2.2.2.2.1
theorem dX0_setTide_12 : decode cX0_setTide 12 = .ok (.iload_n 1, 1) := bl_dX0_setTide_0.2.2.2.2.2.2.1
theorem dX0_setTide_13 : decode cX0_setTide 13 = .ok (.iload_n 2, 1) := bl_dX0_setTide_0.2.2.2.2.2.2.2.1
theorem dX0_setTide_14 : decode cX0_setTide 14 = .ok (.iastore, 1) := bl_dX0_setTide_0.2.2.2.2.2.2.2.2.1
theorem dX0_setTide_15 : decode cX0_setTide 15 = .ok (.iconst 0, 1) := bl_dX0_setTide_0.2.2.2.2.2.2.2.2.2.1
theorem dX0_setTide_16 : decode cX0_setTide 16 = .ok (.istore_n 3, 1) := bl_dX0_setTide_0.2.2.2.2.2.2.2.2.2.2.1
theorem dX0_setTide_17 : decode cX0_setTide 17 = .ok (.iload_n 3, 1) := bl_dX0_setTide_0.2.2.2.2.2.2.2.2.2.2.2.1
theorem dX0_setTide_18 : decode cX0_setTide 18 = .ok (.aload_n 0, 1) := bl_dX0_setTide_0.2.2.2.2.2.2.2.2.2.2.2.2.1
theorem dX0_setTide_19 : decode cX0_setTide 19 = .ok (.getfield 38, 3) := bl_dX0_setTide_0.2.2.2.2.2.2.2.2.2.2.2.2.2.1
theorem dX0_setTide_22 : decode cX0_setTide 22 = .ok (.if_icmp .ge 28, 3) := bl_dX0_setTide_0.2.2.2.2.2.2.2.2.2.2.2.2.2.2.1
theorem dX0_setTide_25 : decode cX0_setTide 25 = .ok (.aload_n 0, 1) := bl_dX0_setTide_0.2.2.2.2.2.2.2.2.2.2.2.2.2.2.2
theorem lk_dX0_setTide_26 : th_dr cX0_setTide 26 = 29 :: 182 :: 0 :: 81 :: 58 :: 4 :: 25 :: 4 :: 198 :: 0 :: 10 :: 25 :: 4 :: 27 :: 28 :: 182 :: 0 :: 58 :: 132 :: 3 :: 1 :: 167 :: 255 :: 226 :: 42 :: 42 :: 180 :: 0 :: 23 :: 3 :: 46 :: th_dr cX0_setTide 57 := rfl
theorem bl_dX0_setTide_26 : decode cX0_setTide 26 = .ok (.iload_n 3, 1) ∧ decode cX0_setTide 27 = .ok (.invokevirtual 81, 3) ∧ decode cX0_setTide 30 = .ok (.astore 4, 2) ∧ decode cX0_setTide 32 = .ok (.aload 4, 2) ∧ decode cX0_setTide 34 = .ok (.ifnull 10, 3) ∧ decode cX0_setTide 37 = .ok (.aload 4, 2) ∧ decode cX0_setTide 39 = .ok (.iload_n 1, 1) ∧ decode cX0_setTide 40 = .ok (.iload_n 2, 1) ∧ decode cX0_setTide 41 = .ok (.invokevirtual 58, 3) ∧ decode cX0_setTide 44 = .ok (.iinc 3 1, 3) ∧ decode cX0_setTide 47 = .ok (.goto (-30), 3) ∧ decode cX0_setTide 50 = .ok (.aload_n 0, 1) ∧ decode cX0_setTide 51 = .ok (.aload_n 0, 1) ∧ decode cX0_setTide 52 = .ok (.getfield 23, 3) ∧ decode cX0_setTide 55 = .ok (.iconst 0, 1) ∧ decode cX0_setTide 56 = .ok (.iaload, 1) := op_29 lk_dX0_setTide_26 fun e => op_182 e fun e => op_58 e fun e => op_25 e fun e => op_198p e rfl fun e => op_25 e fun e => op_27 e fun e => op_28 e fun e => op_182 e fun e => op_132p e rfl fun e => op_167n e rfl rfl fun e => op_42 e fun e => op_42 e fun e => op_180 e fun e => op_3 e fun e => (op_46 e fun _ => True.intro).1
theorem dX0_setTide_26 : decode cX0_setTide 26 = .ok (.iload_n 3, 1) := bl_dX0_setTide_26.1
theorem dX0_setTide_27 : decode cX0_setTide 27 = .ok (.invokevirtual 81, 3) := bl_dX0_setTide_26.2.1
theorem dX0_setTide_30 : decode cX0_setTide 30 = .ok (.astore 4, 2) := bl_dX0_setTide_26.2.2.1
theorem dX0_setTide_32 : decode cX0_setTide 32 = .ok (.aload 4, 2) := bl_dX0_setTide_26.2.2.2.1
theorem dX0_setTide_34 : decode cX0_setTide 34 = .ok (.ifnull 10, 3) := bl_dX0_setTide_26.2.2.2.2.1
theorem dX0_setTide_37 : decode cX0_setTide 37 = .ok (.aload 4, 2) := bl_dX0_setTide_26.2.2.2.2.2.1
theorem dX0_setTide_39 : decode cX0_setTide 39 = .ok (.iload_n 1, 1) := bl_dX0_setTide_26.2.2.2.2.2.2.1
theorem dX0_setTide_40 : decode cX0_setTide 40 = .ok (.iload_n 2, 1) := bl_dX0_setTide_26.2.2.2.2.2.2.2.1
theorem dX0_setTide_41 : decode cX0_setTide 41 = .ok (.invokevirtual 58, 3) := bl_dX0_setTide_26.2.2.2.2.2.2.2.2.1
theorem dX0_setTide_44 : decode cX0_setTide 44 = .ok (.iinc 3 1, 3) := bl_dX0_setTide_26.2.2.2.2.2.2.2.2.2.1
theorem dX0_setTide_47 : decode cX0_setTide 47 = .ok (.goto (-30), 3) := bl_dX0_setTide_26.2.2.2.2.2.2.2.2.2.2.1
theorem dX0_setTide_50 : decode cX0_setTide 50 = .ok (.aload_n 0, 1) := bl_dX0_setTide_26.2.2.2.2.2.2.2.2.2.2.2.1
theorem dX0_setTide_51 : decode cX0_setTide 51 = .ok (.aload_n 0, 1) := bl_dX0_setTide_26.2.2.2.2.2.2.2.2.2.2.2.2.1
theorem dX0_setTide_52 : decode cX0_setTide 52 = .ok (.getfield 23, 3) := bl_dX0_setTide_26.2.2.2.2.2.2.2.2.2.2.2.2.2.1
theorem dX0_setTide_55 : decode cX0_setTide 55 = .ok (.iconst 0, 1) := bl_dX0_setTide_26.2.2.2.2.2.2.2.2.2.2.2.2.2.2.1
theorem dX0_setTide_56 : decode cX0_setTide 56 = .ok (.iaload, 1) := bl_dX0_setTide_26.2.2.2.2.2.2.2.2.2.2.2.2.2.2.2
set_option maxRecDepth 20000 in
theorem lk_dX0_setTide_57 : th_dr cX0_setTide 57 = 181 :: 0 :: 48 :: 3 :: 62 :: 29 :: 16 :: 24 :: 162 :: 0 :: 37 :: 42 :: 42 :: 180 :: 0 :: 48 :: 42 :: 180 :: 0 :: 23 :: 29 :: 46 :: 184 :: 0 :: 85 :: 181 :: 0 :: 48 :: 42 :: th_dr cX0_setTide 86 := rfl
theorem bl_dX0_setTide_57 : decode cX0_setTide 57 = .ok (.putfield 48, 3) ∧ decode cX0_setTide 60 = .ok (.iconst 0, 1) ∧ decode cX0_setTide 61 = .ok (.istore_n 3, 1) ∧ decode cX0_setTide 62 = .ok (.iload_n 3, 1) ∧ decode cX0_setTide 63 = .ok (.bipush 24, 2) ∧ decode cX0_setTide 65 = .ok (.if_icmp .ge 37, 3) ∧ decode cX0_setTide 68 = .ok (.aload_n 0, 1) ∧ decode cX0_setTide 69 = .ok (.aload_n 0, 1) ∧ decode cX0_setTide 70 = .ok (.getfield 48, 3) ∧ decode cX0_setTide 73 = .ok (.aload_n 0, 1) ∧ decode cX0_setTide 74 = .ok (.getfield 23, 3) ∧ decode cX0_setTide 77 = .ok (.iload_n 3, 1) ∧ decode cX0_setTide 78 = .ok (.iaload, 1) ∧ decode cX0_setTide 79 = .ok (.invokestatic 85, 3) ∧ decode cX0_setTide 82 = .ok (.putfield 48, 3) ∧ decode cX0_setTide 85 = .ok (.aload_n 0, 1) := op_181 lk_dX0_setTide_57 fun e => op_3 e fun e => op_62 e fun e => op_29 e fun e => op_16p e rfl fun e => op_162p e rfl fun e => op_42 e fun e => op_42 e fun e => op_180 e fun e => op_42 e fun e => op_180 e fun e => op_29 e fun e => op_46 e fun e => op_184 e fun e => op_181 e fun e => (op_42 e fun _ => True.intro).1
theorem dX0_setTide_57 : decode cX0_setTide 57 = .ok (.putfield 48, 3) := bl_dX0_setTide_57.1
theorem dX0_setTide_60 : decode cX0_setTide 60 = .ok (.iconst 0, 1) := bl_dX0_setTide_57.2.1
theorem dX0_setTide_61 : decode cX0_setTide 61 = .ok (.istore_n 3, 1) := bl_dX0_setTide_57.2.2.1
theorem dX0_setTide_62 : decode cX0_setTide 62 = .ok (.iload_n 3, 1) := bl_dX0_setTide_57.2.2.2.1
theorem dX0_setTide_63 : decode cX0_setTide 63 = .ok (.bipush 24, 2) := bl_dX0_setTide_57.2.2.2.2.1
theorem dX0_setTide_65 : decode cX0_setTide 65 = .ok (.if_icmp .ge 37, 3) := bl_dX0_setTide_57.2.2.2.2.2.1
theorem dX0_setTide_68 : decode cX0_setTide 68 = .ok (.aload_n 0, 1) := bl_dX0_setTide_57.2.2.2.2.2.2.1
theorem dX0_setTide_69 : decode cX0_setTide 69 = .ok (.aload_n 0, 1) := bl_dX0_setTide_57.2.2.2.2.2.2.2.1
theorem dX0_setTide_70 : decode cX0_setTide 70 = .ok (.getfield 48, 3) := bl_dX0_setTide_57.2.2.2.2.2.2.2.2.1
theorem dX0_setTide_73 : decode cX0_setTide 73 = .ok (.aload_n 0, 1) := bl_dX0_setTide_57.2.2.2.2.2.2.2.2.2.1
theorem dX0_setTide_74 : decode cX0_setTide 74 = .ok (.getfield 23, 3) := bl_dX0_setTide_57.2.2.2.2.2.2.2.2.2.2.1
theorem dX0_setTide_77 : decode cX0_setTide 77 = .ok (.iload_n 3, 1) := bl_dX0_setTide_57.2.2.2.2.2.2.2.2.2.2.2.1
theorem dX0_setTide_78 : decode cX0_setTide 78 = .ok (.iaload, 1) := bl_dX0_setTide_57.2.2.2.2.2.2.2.2.2.2.2.2.1
theorem dX0_setTide_79 : decode cX0_setTide 79 = .ok (.invokestatic 85, 3) := bl_dX0_setTide_57.2.2.2.2.2.2.2.2.2.2.2.2.2.1
theorem dX0_setTide_82 : decode cX0_setTide 82 = .ok (.putfield 48, 3) := bl_dX0_setTide_57.2.2.2.2.2.2.2.2.2.2.2.2.2.2.1
theorem dX0_setTide_85 : decode cX0_setTide 85 = .ok (.aload_n 0, 1) := bl_dX0_setTide_57.2.2.2.2.2.2.2.2.2.2.2.2.2.2.2
set_option maxRecDepth 20000 in
theorem lk_dX0_setTide_86 : th_dr cX0_setTide 86 = 180 :: 0 :: 27 :: 29 :: 42 :: 29 :: 182 :: 0 :: 91 :: 84 :: 132 :: 3 :: 1 :: 167 :: 255 :: 219 :: 177 :: th_dr cX0_setTide 103 := rfl
theorem bl_dX0_setTide_86 : decode cX0_setTide 86 = .ok (.getfield 27, 3) ∧ decode cX0_setTide 89 = .ok (.iload_n 3, 1) ∧ decode cX0_setTide 90 = .ok (.aload_n 0, 1) ∧ decode cX0_setTide 91 = .ok (.iload_n 3, 1) ∧ decode cX0_setTide 92 = .ok (.invokevirtual 91, 3) ∧ decode cX0_setTide 95 = .ok (.bastore, 1) ∧ decode cX0_setTide 96 = .ok (.iinc 3 1, 3) ∧ decode cX0_setTide 99 = .ok (.goto (-37), 3) ∧ decode cX0_setTide 102 = .ok (.return_, 1) := op_180 lk_dX0_setTide_86 fun e => op_29 e fun e => op_42 e fun e => op_29 e fun e => op_182 e fun e => op_84 e fun e => op_132p e rfl fun e => op_167n e rfl rfl fun e => (op_177 e fun _ => True.intro).1
theorem dX0_setTide_86 : decode cX0_setTide 86 = .ok (.getfield 27, 3) := bl_dX0_setTide_86.1
theorem dX0_setTide_89 : decode cX0_setTide 89 = .ok (.iload_n 3, 1) := bl_dX0_setTide_86.2.1
theorem dX0_setTide_90 : decode cX0_setTide 90 = .ok (.aload_n 0, 1) := bl_dX0_setTide_86.2.2.1
theorem dX0_setTide_91 : decode cX0_setTide 91 = .ok (.iload_n 3, 1) := bl_dX0_setTide_86.2.2.2.1
theorem dX0_setTide_92 : decode cX0_setTide 92 = .ok (.invokevirtual 91, 3) := bl_dX0_setTide_86.2.2.2.2.1
theorem dX0_setTide_95 : decode cX0_setTide 95 = .ok (.bastore, 1) := bl_dX0_setTide_86.2.2.2.2.2.1
theorem dX0_setTide_96 : decode cX0_setTide 96 = .ok (.iinc 3 1, 3) := bl_dX0_setTide_86.2.2.2.2.2.2.1
theorem dX0_setTide_99 : decode cX0_setTide 99 = .ok (.goto (-37), 3) := bl_dX0_setTide_86.2.2.2.2.2.2.2.1
theorem dX0_setTide_102 : decode cX0_setTide 102 = .ok (.return_, 1) := bl_dX0_setTide_86.2.2.2.2.2.2.2.2
theorem lk_dX0_isEarlierTide_0 : th_dr cX0_isEarlierTide 0 = 3 :: 61 :: 28 :: 27 :: 162 :: 0 :: 26 :: 42 :: 180 :: 0 :: 23 :: 28 :: 46 :: 42 :: 180 :: 0 :: 23 :: 27 :: 46 :: 160 :: 0 :: 5 :: 4 :: 172 :: th_dr cX0_isEarlierTide 24 := rfl
theorem bl_dX0_isEarlierTide_0 : decode cX0_isEarlierTide 0 = .ok (.iconst 0, 1) ∧ decode cX0_isEarlierTide 1 = .ok (.istore_n 2, 1) ∧ decode cX0_isEarlierTide 2 = .ok (.iload_n 2, 1) ∧ decode cX0_isEarlierTide 3 = .ok (.iload_n 1, 1) ∧ decode cX0_isEarlierTide 4 = .ok (.if_icmp .ge 26, 3) ∧ decode cX0_isEarlierTide 7 = .ok (.aload_n 0, 1) ∧ decode cX0_isEarlierTide 8 = .ok (.getfield 23, 3) ∧ decode cX0_isEarlierTide 11 = .ok (.iload_n 2, 1) ∧ decode cX0_isEarlierTide 12 = .ok (.iaload, 1) ∧ decode cX0_isEarlierTide 13 = .ok (.aload_n 0, 1) ∧ decode cX0_isEarlierTide 14 = .ok (.getfield 23, 3) ∧ decode cX0_isEarlierTide 17 = .ok (.iload_n 1, 1) ∧ decode cX0_isEarlierTide 18 = .ok (.iaload, 1) ∧ decode cX0_isEarlierTide 19 = .ok (.if_icmp .ne 5, 3) ∧ decode cX0_isEarlierTide 22 = .ok (.iconst 1, 1) ∧ decode cX0_isEarlierTide 23 = .ok (.ireturn, 1) := op_3 lk_dX0_isEarlierTide_0 fun e => op_61 e fun e => op_28 e fun e => op_27 e fun e => op_162p e rfl fun e => op_42 e fun e => op_180 e fun e => op_28 e fun e => op_46 e fun e => op_42 e fun e => op_180 e fun e => op_27 e fun e => op_46 e fun e => op_160p e rfl fun e => op_4 e fun e => (op_172 e fun _ => True.intro).1
theorem dX0_isEarlierTide_0 : decode cX0_isEarlierTide 0 = .ok (.iconst 0, 1) := bl_dX0_isEarlierTide_0.1
theorem dX0_isEarlierTide_1 : decode cX0_isEarlierTide 1 = .ok (.istore_n 2, 1) := bl_dX0_isEarlierTide_0.2.1
theorem dX0_isEarlierTide_2 : decode cX0_isEarlierTide 2 = .ok (.iload_n 2, 1) := bl_dX0_isEarlierTide_0.2.2.1
theorem dX0_isEarlierTide_3 : decode cX0_isEarlierTide 3 = .ok (.iload_n 1, 1) := bl_dX0_isEarlierTide_0.2.2.2.1
theorem dX0_isEarlierTide_4 : decode cX0_isEarlierTide 4 = .ok (.if_icmp .ge 26, 3) := bl_dX0_isEarlierTide_0.2.2.2.2.1
theorem dX0_isEarlierTide_7 : decode cX0_isEarlierTide 7 = .ok (.aload_n 0, 1) := bl_dX0_isEarlierTide_0.2.2.2.2.2.1
theorem dX0_isEarlierTide_8 : decode cX0_isEarlierTide 8 = .ok (.getfield 23, 3) := bl_dX0_isEarlierTide_0.2.2.2.2.2.2.1
theorem dX0_isEarlierTide_11 : decode cX0_isEarlierTide 11 = .ok (.iload_n 2, 1) := bl_dX0_isEarlierTide_0.2.2.2.2.2.2.2.1
theorem dX0_isEarlierTide_12 : decode cX0_isEarlierTide 12 = .ok (.iaload, 1) := bl_dX0_isEarlierTide_0.2.2.2.2.2.2.2.2.1
theorem dX0_isEarlierTide_13 : decode cX0_isEarlierTide 13 = .ok (.aload_n 0, 1) := bl_dX0_isEarlierTide_0.2.2.2.2.2.2.2.2.2.1
theorem dX0_isEarlierTide_14 : decode cX0_isEarlierTide 14 = .ok (.getfield 23, 3) := bl_dX0_isEarlierTide_0.2.2.2.2.2.2.2.2.2.2.1
theorem dX0_isEarlierTide_17 : decode cX0_isEarlierTide 17 = .ok (.iload_n 1, 1) := bl_dX0_isEarlierTide_0.2.2.2.2.2.2.2.2.2.2.2.1
theorem dX0_isEarlierTide_18 : decode cX0_isEarlierTide 18 = .ok (.iaload, 1) := bl_dX0_isEarlierTide_0.2.2.2.2.2.2.2.2.2.2.2.2.1
theorem dX0_isEarlierTide_19 : decode cX0_isEarlierTide 19 = .ok (.if_icmp .ne 5, 3) := bl_dX0_isEarlierTide_0.2.2.2.2.2.2.2.2.2.2.2.2.2.1
theorem dX0_isEarlierTide_22 : decode cX0_isEarlierTide 22 = .ok (.iconst 1, 1) := bl_dX0_isEarlierTide_0.2.2.2.2.2.2.2.2.2.2.2.2.2.2.1
theorem dX0_isEarlierTide_23 : decode cX0_isEarlierTide 23 = .ok (.ireturn, 1) := bl_dX0_isEarlierTide_0.2.2.2.2.2.2.2.2.2.2.2.2.2.2.2
theorem lk_dX0_isEarlierTide_24 : th_dr cX0_isEarlierTide 24 = 132 :: 2 :: 1 :: 167 :: 255 :: 231 :: 3 :: 172 :: th_dr cX0_isEarlierTide 32 := rfl
theorem bl_dX0_isEarlierTide_24 : decode cX0_isEarlierTide 24 = .ok (.iinc 2 1, 3) ∧ decode cX0_isEarlierTide 27 = .ok (.goto (-25), 3) ∧ decode cX0_isEarlierTide 30 = .ok (.iconst 0, 1) ∧ decode cX0_isEarlierTide 31 = .ok (.ireturn, 1) := op_132p lk_dX0_isEarlierTide_24 rfl fun e => op_167n e rfl rfl fun e => op_3 e fun e => (op_172 e fun _ => True.intro).1
theorem dX0_isEarlierTide_24 : decode cX0_isEarlierTide 24 = .ok (.iinc 2 1, 3) := bl_dX0_isEarlierTide_24.1
theorem dX0_isEarlierTide_27 : decode cX0_isEarlierTide 27 = .ok (.goto (-25), 3) := bl_dX0_isEarlierTide_24.2.1
theorem dX0_isEarlierTide_30 : decode cX0_isEarlierTide 30 = .ok (.iconst 0, 1) := bl_dX0_isEarlierTide_24.2.2.1
theorem dX0_isEarlierTide_31 : decode cX0_isEarlierTide 31 = .ok (.ireturn, 1) := bl_dX0_isEarlierTide_24.2.2.2
set_option maxRecDepth 20000 in
theorem gdwsX4_need : wsX4_need.all goodWord = true := by decide +kernel
set_option maxRecDepth 20000 in
theorem ggX0_suits_X4_need : GoodIn wsX0_suits wsX4_need := goodIn_q _ [(11, 3), (20, 18)] rfl gdwsX4_need
set_option maxRecDepth 20000 in
theorem gX0_suits_X4_need_u103X4 : GoodIn wsX0_suits (va_wsO RX0 103 RX4 "BayMoorings$Boat" ⟨"BayMoorings$Boat", "need", "()I"⟩ yX4_need wsX4_need) := goodIn_app (goodIn_q _ [(5, 6)] rfl rfl) ggX0_suits_X4_need
set_option maxRecDepth 20000 in
theorem gdwsX2_need : wsX2_need.all goodWord = true := by decide +kernel
set_option maxRecDepth 20000 in
theorem ggX0_suits_X2_need : GoodIn wsX0_suits wsX2_need := goodIn_q _ [(14, 1), (18, 1), (20, 18)] rfl gdwsX2_need
set_option maxRecDepth 20000 in
theorem gX0_suits_X2_need_u103X8 : GoodIn wsX0_suits (va_wsU RX0 103 RX8 "BayMoorings$Boat" ⟨"BayMoorings$Boat", "need", "()I"⟩ yX2_need wsX2_need) := goodIn_app (goodIn_q _ [(5, 2), (15, 1), (7, 1), (17, 1)] rfl rfl) ggX0_suits_X2_need
set_option maxRecDepth 20000 in
theorem gX0_suits_X2_need_u103X9 : GoodIn wsX0_suits (va_wsU RX0 103 RX9 "BayMoorings$Boat" ⟨"BayMoorings$Boat", "need", "()I"⟩ yX2_need wsX2_need) := goodIn_app (goodIn_q _ [(5, 2), (19, 1), (7, 1), (17, 1)] rfl rfl) ggX0_suits_X2_need
theorem lk_dX0_suits_0 : th_dr cX0_suits 0 = 43 :: 180 :: 0 :: 94 :: 44 :: 180 :: 0 :: 97 :: 163 :: 0 :: 23 :: 44 :: 180 :: 0 :: 100 :: 42 :: 180 :: 0 :: 48 :: 96 :: 43 :: 182 :: 0 :: 103 :: 161 :: 0 :: 7 :: 4 :: 167 :: 0 :: 4 :: 3 :: th_dr cX0_suits 32 := rfl
theorem bl_dX0_suits_0 : decode cX0_suits 0 = .ok (.aload_n 1, 1) ∧ decode cX0_suits 1 = .ok (.getfield 94, 3) ∧ decode cX0_suits 4 = .ok (.aload_n 2, 1) ∧ decode cX0_suits 5 = .ok (.getfield 97, 3) ∧ decode cX0_suits 8 = .ok (.if_icmp .gt 23, 3) ∧ decode cX0_suits 11 = .ok (.aload_n 2, 1) ∧ decode cX0_suits 12 = .ok (.getfield 100, 3) ∧ decode cX0_suits 15 = .ok (.aload_n 0, 1) ∧ decode cX0_suits 16 = .ok (.getfield 48, 3) ∧ decode cX0_suits 19 = .ok (.iadd, 1) ∧ decode cX0_suits 20 = .ok (.aload_n 1, 1) ∧ decode cX0_suits 21 = .ok (.invokevirtual 103, 3) ∧ decode cX0_suits 24 = .ok (.if_icmp .lt 7, 3) ∧ decode cX0_suits 27 = .ok (.iconst 1, 1) ∧ decode cX0_suits 28 = .ok (.goto 4, 3) ∧ decode cX0_suits 31 = .ok (.iconst 0, 1) := op_43 lk_dX0_suits_0 fun e => op_180 e fun e => op_44 e fun e => op_180 e fun e => op_163p e rfl fun e => op_44 e fun e => op_180 e fun e => op_42 e fun e => op_180 e fun e => op_96 e fun e => op_43 e fun e => op_182 e fun e => op_161p e rfl fun e => op_4 e fun e => op_167p e rfl fun e => (op_3 e fun _ => True.intro).1
theorem dX0_suits_0 : decode cX0_suits 0 = .ok (.aload_n 1, 1) := bl_dX0_suits_0.1
theorem dX0_suits_1 : decode cX0_suits 1 = .ok (.getfield 94, 3) := bl_dX0_suits_0.2.1
theorem dX0_suits_4 : decode cX0_suits 4 = .ok (.aload_n 2, 1) := bl_dX0_suits_0.2.2.1
theorem dX0_suits_5 : decode cX0_suits 5 = .ok (.getfield 97, 3) := bl_dX0_suits_0.2.2.2.1
theorem dX0_suits_8 : decode cX0_suits 8 = .ok (.if_icmp .gt 23, 3) := bl_dX0_suits_0.2.2.2.2.1
theorem dX0_suits_11 : decode cX0_suits 11 = .ok (.aload_n 2, 1) := bl_dX0_suits_0.2.2.2.2.2.1
theorem dX0_suits_12 : decode cX0_suits 12 = .ok (.getfield 100, 3) := bl_dX0_suits_0.2.2.2.2.2.2.1
theorem dX0_suits_15 : decode cX0_suits 15 = .ok (.aload_n 0, 1) := bl_dX0_suits_0.2.2.2.2.2.2.2.1
theorem dX0_suits_16 : decode cX0_suits 16 = .ok (.getfield 48, 3) := bl_dX0_suits_0.2.2.2.2.2.2.2.2.1
theorem dX0_suits_19 : decode cX0_suits 19 = .ok (.iadd, 1) := bl_dX0_suits_0.2.2.2.2.2.2.2.2.2.1
theorem dX0_suits_20 : decode cX0_suits 20 = .ok (.aload_n 1, 1) := bl_dX0_suits_0.2.2.2.2.2.2.2.2.2.2.1
theorem dX0_suits_21 : decode cX0_suits 21 = .ok (.invokevirtual 103, 3) := bl_dX0_suits_0.2.2.2.2.2.2.2.2.2.2.2.1
theorem dX0_suits_24 : decode cX0_suits 24 = .ok (.if_icmp .lt 7, 3) := bl_dX0_suits_0.2.2.2.2.2.2.2.2.2.2.2.2.1
theorem dX0_suits_27 : decode cX0_suits 27 = .ok (.iconst 1, 1) := bl_dX0_suits_0.2.2.2.2.2.2.2.2.2.2.2.2.2.1
theorem dX0_suits_28 : decode cX0_suits 28 = .ok (.goto 4, 3) := bl_dX0_suits_0.2.2.2.2.2.2.2.2.2.2.2.2.2.2.1
theorem dX0_suits_31 : decode cX0_suits 31 = .ok (.iconst 0, 1) := bl_dX0_suits_0.2.2.2.2.2.2.2.2.2.2.2.2.2.2.2
theorem lk_dX0_suits_32 : th_dr cX0_suits 32 = 172 :: th_dr cX0_suits 33 := rfl
theorem dX0_suits_32 : decode cX0_suits 32 = .ok (.ireturn, 1) := (op_172 lk_dX0_suits_32 fun _ => True.intro).1
set_option maxRecDepth 20000 in
theorem gdwsX1_boatOf : wsX1_boatOf.all goodWord = true := by decide +kernel
set_option maxRecDepth 20000 in
theorem ggX0_mayLie_X1_boatOf : GoodIn wsX0_mayLie wsX1_boatOf := goodIn_q _ [(8, 5), (137, 2)] rfl gdwsX1_boatOf
set_option maxRecDepth 20000 in
theorem gX0_mayLie_X1_boatOf : GoodIn wsX0_mayLie (wsV RX0 110 RX1 yX1_boatOf wsX1_boatOf) := goodIn_app (goodIn_q _ [(4, 4)] rfl rfl) ggX0_mayLie_X1_boatOf
set_option maxRecDepth 20000 in
theorem gdwsX0_suits : wsX0_suits.all goodWord = true := by decide +kernel
set_option maxRecDepth 20000 in
theorem ggX0_mayLie_X0_suits : GoodIn wsX0_mayLie wsX0_suits := goodIn_q _ [(17, 20), (119, 18), (102, 17)] rfl gdwsX0_suits
set_option maxRecDepth 20000 in
theorem gX0_mayLie_X0_suits : GoodIn wsX0_mayLie (wsV RX0 114 RX0 yX0_suits wsX0_suits) := goodIn_app (goodIn_q _ [(13, 4)] rfl rfl) ggX0_mayLie_X0_suits
set_option maxRecDepth 20000 in
theorem gdwsX0_boatAt : wsX0_boatAt.all goodWord = true := by decide +kernel
set_option maxRecDepth 20000 in
theorem ggX0_mayLie_X0_boatAt : GoodIn wsX0_mayLie wsX0_boatAt := goodIn_q _ [(40, 1), (2, 1), (41, 1), (10, 3), (110, 9)] rfl gdwsX0_boatAt
set_option maxRecDepth 20000 in
theorem gX0_mayLie_X0_boatAt : GoodIn wsX0_mayLie (wsV RX0 119 RX0 yX0_boatAt wsX0_boatAt) := goodIn_app (goodIn_q _ [(37, 3), (16, 1)] rfl rfl) ggX0_mayLie_X0_boatAt
set_option maxRecDepth 20000 in
theorem gdwsX1_buoyOf : wsX1_buoyOf.all goodWord = true := by decide +kernel
set_option maxRecDepth 20000 in
theorem ggX0_mayLie_X1_buoyOf : GoodIn wsX0_mayLie wsX1_buoyOf := goodIn_q _ [(45, 2), (10, 3), (137, 2)] rfl gdwsX1_buoyOf
set_option maxRecDepth 20000 in
theorem gX0_mayLie_X1_buoyOf : GoodIn wsX0_mayLie (wsV RX0 123 RX1 yX1_buoyOf wsX1_buoyOf) := goodIn_app (goodIn_q _ [(42, 3), (7, 1)] rfl rfl) ggX0_mayLie_X1_buoyOf
set_option maxRecDepth 20000 in
theorem ggX0_mayLie_X0_buoyAt : GoodIn wsX0_mayLie wsX0_buoyAt := goodIn_q _ [(50, 3), (10, 3), (110, 9)] rfl gdwsX0_buoyAt
set_option maxRecDepth 20000 in
theorem gX0_mayLie_X0_buoyAt : GoodIn wsX0_mayLie (wsV RX0 81 RX0 yX0_buoyAt wsX0_buoyAt) := goodIn_app (goodIn_q _ [(47, 3), (16, 1)] rfl rfl) ggX0_mayLie_X0_buoyAt
set_option maxRecDepth 20000 in
theorem gdwsX0_firstTouch : wsX0_firstTouch.all goodWord = true := by decide +kernel
set_option maxRecDepth 20000 in
theorem ggX0_mayLie_X0_firstTouch : GoodIn wsX0_mayLie wsX0_firstTouch := goodIn_q _ [(56, 8), (34, 1), (64, 19), (16, 1), (83, 54)] rfl gdwsX0_firstTouch
set_option maxRecDepth 20000 in
theorem gX0_mayLie_X0_firstTouch : GoodIn wsX0_mayLie (wsV RX0 126 RX0 yX0_firstTouch wsX0_firstTouch) := goodIn_app (goodIn_q _ [(53, 3), (16, 1)] rfl rfl) ggX0_mayLie_X0_firstTouch
theorem lk_dX0_mayLie_0 : th_dr cX0_mayLie 0 = 45 :: 44 :: 180 :: 0 :: 107 :: 182 :: 0 :: 110 :: 2 :: 160 :: 0 :: 12 :: 42 :: 43 :: 44 :: 182 :: 0 :: 114 :: 154 :: 0 :: 5 :: 3 :: 172 :: 3 :: 54 :: 4 :: 21 :: 4 :: th_dr cX0_mayLie 28 := rfl
theorem bl_dX0_mayLie_0 : decode cX0_mayLie 0 = .ok (.aload_n 3, 1) ∧ decode cX0_mayLie 1 = .ok (.aload_n 2, 1) ∧ decode cX0_mayLie 2 = .ok (.getfield 107, 3) ∧ decode cX0_mayLie 5 = .ok (.invokevirtual 110, 3) ∧ decode cX0_mayLie 8 = .ok (.iconst (-1), 1) ∧ decode cX0_mayLie 9 = .ok (.if_icmp .ne 12, 3) ∧ decode cX0_mayLie 12 = .ok (.aload_n 0, 1) ∧ decode cX0_mayLie 13 = .ok (.aload_n 1, 1) ∧ decode cX0_mayLie 14 = .ok (.aload_n 2, 1) ∧ decode cX0_mayLie 15 = .ok (.invokevirtual 114, 3) ∧ decode cX0_mayLie 18 = .ok (.ifCond .ne 5, 3) ∧ decode cX0_mayLie 21 = .ok (.iconst 0, 1) ∧ decode cX0_mayLie 22 = .ok (.ireturn, 1) ∧ decode cX0_mayLie 23 = .ok (.iconst 0, 1) ∧ decode cX0_mayLie 24 = .ok (.istore 4, 2) ∧ decode cX0_mayLie 26 = .ok (.iload 4, 2) := op_45 lk_dX0_mayLie_0 fun e => op_44 e fun e => op_180 e fun e => op_182 e fun e => op_2 e fun e => op_160p e rfl fun e => op_42 e fun e => op_43 e fun e => op_44 e fun e => op_182 e fun e => op_154p e rfl fun e => op_3 e fun e => op_172 e fun e => op_3 e fun e => op_54 e fun e => (op_21 e fun _ => True.intro).1
theorem dX0_mayLie_0 : decode cX0_mayLie 0 = .ok (.aload_n 3, 1) := bl_dX0_mayLie_0.1
theorem dX0_mayLie_1 : decode cX0_mayLie 1 = .ok (.aload_n 2, 1) := bl_dX0_mayLie_0.2.1
theorem dX0_mayLie_2 : decode cX0_mayLie 2 = .ok (.getfield 107, 3) := bl_dX0_mayLie_0.2.2.1
theorem dX0_mayLie_5 : decode cX0_mayLie 5 = .ok (.invokevirtual 110, 3) := bl_dX0_mayLie_0.2.2.2.1
theorem dX0_mayLie_8 : decode cX0_mayLie 8 = .ok (.iconst (-1), 1) := bl_dX0_mayLie_0.2.2.2.2.1
theorem dX0_mayLie_9 : decode cX0_mayLie 9 = .ok (.if_icmp .ne 12, 3) := bl_dX0_mayLie_0.2.2.2.2.2.1
theorem dX0_mayLie_12 : decode cX0_mayLie 12 = .ok (.aload_n 0, 1) := bl_dX0_mayLie_0.2.2.2.2.2.2.1
theorem dX0_mayLie_13 : decode cX0_mayLie 13 = .ok (.aload_n 1, 1) := bl_dX0_mayLie_0.2.2.2.2.2.2.2.1
theorem dX0_mayLie_14 : decode cX0_mayLie 14 = .ok (.aload_n 2, 1) := bl_dX0_mayLie_0.2.2.2.2.2.2.2.2.1
theorem dX0_mayLie_15 : decode cX0_mayLie 15 = .ok (.invokevirtual 114, 3) := bl_dX0_mayLie_0.2.2.2.2.2.2.2.2.2.1
theorem dX0_mayLie_18 : decode cX0_mayLie 18 = .ok (.ifCond .ne 5, 3) := bl_dX0_mayLie_0.2.2.2.2.2.2.2.2.2.2.1
theorem dX0_mayLie_21 : decode cX0_mayLie 21 = .ok (.iconst 0, 1) := bl_dX0_mayLie_0.2.2.2.2.2.2.2.2.2.2.2.1
theorem dX0_mayLie_22 : decode cX0_mayLie 22 = .ok (.ireturn, 1) := bl_dX0_mayLie_0.2.2.2.2.2.2.2.2.2.2.2.2.1
theorem dX0_mayLie_23 : decode cX0_mayLie 23 = .ok (.iconst 0, 1) := bl_dX0_mayLie_0.2.2.2.2.2.2.2.2.2.2.2.2.2.1
theorem dX0_mayLie_24 : decode cX0_mayLie 24 = .ok (.istore 4, 2) := bl_dX0_mayLie_0.2.2.2.2.2.2.2.2.2.2.2.2.2.2.1
theorem dX0_mayLie_26 : decode cX0_mayLie 26 = .ok (.iload 4, 2) := bl_dX0_mayLie_0.2.2.2.2.2.2.2.2.2.2.2.2.2.2.2
theorem lk_dX0_mayLie_28 : th_dr cX0_mayLie 28 = 42 :: 180 :: 0 :: 42 :: 162 :: 0 :: 68 :: 21 :: 4 :: 43 :: 180 :: 0 :: 118 :: 160 :: 0 :: 7 :: 1 :: 167 :: 0 :: 9 :: 42 :: 21 :: 4 :: 182 :: 0 :: 119 :: 58 :: 5 :: 42 :: 45 :: 21 :: 4 :: th_dr cX0_mayLie 60 := rfl
theorem bl_dX0_mayLie_28 : decode cX0_mayLie 28 = .ok (.aload_n 0, 1) ∧ decode cX0_mayLie 29 = .ok (.getfield 42, 3) ∧ decode cX0_mayLie 32 = .ok (.if_icmp .ge 68, 3) ∧ decode cX0_mayLie 35 = .ok (.iload 4, 2) ∧ decode cX0_mayLie 37 = .ok (.aload_n 1, 1) ∧ decode cX0_mayLie 38 = .ok (.getfield 118, 3) ∧ decode cX0_mayLie 41 = .ok (.if_icmp .ne 7, 3) ∧ decode cX0_mayLie 44 = .ok (.aconst_null, 1) ∧ decode cX0_mayLie 45 = .ok (.goto 9, 3) ∧ decode cX0_mayLie 48 = .ok (.aload_n 0, 1) ∧ decode cX0_mayLie 49 = .ok (.iload 4, 2) ∧ decode cX0_mayLie 51 = .ok (.invokevirtual 119, 3) ∧ decode cX0_mayLie 54 = .ok (.astore 5, 2) ∧ decode cX0_mayLie 56 = .ok (.aload_n 0, 1) ∧ decode cX0_mayLie 57 = .ok (.aload_n 3, 1) ∧ decode cX0_mayLie 58 = .ok (.iload 4, 2) := op_42 lk_dX0_mayLie_28 fun e => op_180 e fun e => op_162p e rfl fun e => op_21 e fun e => op_43 e fun e => op_180 e fun e => op_160p e rfl fun e => op_1 e fun e => op_167p e rfl fun e => op_42 e fun e => op_21 e fun e => op_182 e fun e => op_58 e fun e => op_42 e fun e => op_45 e fun e => (op_21 e fun _ => True.intro).1
theorem dX0_mayLie_28 : decode cX0_mayLie 28 = .ok (.aload_n 0, 1) := bl_dX0_mayLie_28.1
theorem dX0_mayLie_29 : decode cX0_mayLie 29 = .ok (.getfield 42, 3) := bl_dX0_mayLie_28.2.1
theorem dX0_mayLie_32 : decode cX0_mayLie 32 = .ok (.if_icmp .ge 68, 3) := bl_dX0_mayLie_28.2.2.1
theorem dX0_mayLie_35 : decode cX0_mayLie 35 = .ok (.iload 4, 2) := bl_dX0_mayLie_28.2.2.2.1
theorem dX0_mayLie_37 : decode cX0_mayLie 37 = .ok (.aload_n 1, 1) := bl_dX0_mayLie_28.2.2.2.2.1
theorem dX0_mayLie_38 : decode cX0_mayLie 38 = .ok (.getfield 118, 3) := bl_dX0_mayLie_28.2.2.2.2.2.1
theorem dX0_mayLie_41 : decode cX0_mayLie 41 = .ok (.if_icmp .ne 7, 3) := bl_dX0_mayLie_28.2.2.2.2.2.2.1
theorem dX0_mayLie_44 : decode cX0_mayLie 44 = .ok (.aconst_null, 1) := bl_dX0_mayLie_28.2.2.2.2.2.2.2.1
theorem dX0_mayLie_45 : decode cX0_mayLie 45 = .ok (.goto 9, 3) := bl_dX0_mayLie_28.2.2.2.2.2.2.2.2.1
theorem dX0_mayLie_48 : decode cX0_mayLie 48 = .ok (.aload_n 0, 1) := bl_dX0_mayLie_28.2.2.2.2.2.2.2.2.2.1
theorem dX0_mayLie_49 : decode cX0_mayLie 49 = .ok (.iload 4, 2) := bl_dX0_mayLie_28.2.2.2.2.2.2.2.2.2.2.1
theorem dX0_mayLie_51 : decode cX0_mayLie 51 = .ok (.invokevirtual 119, 3) := bl_dX0_mayLie_28.2.2.2.2.2.2.2.2.2.2.2.1
theorem dX0_mayLie_54 : decode cX0_mayLie 54 = .ok (.astore 5, 2) := bl_dX0_mayLie_28.2.2.2.2.2.2.2.2.2.2.2.2.1
theorem dX0_mayLie_56 : decode cX0_mayLie 56 = .ok (.aload_n 0, 1) := bl_dX0_mayLie_28.2.2.2.2.2.2.2.2.2.2.2.2.2.1
theorem dX0_mayLie_57 : decode cX0_mayLie 57 = .ok (.aload_n 3, 1) := bl_dX0_mayLie_28.2.2.2.2.2.2.2.2.2.2.2.2.2.2.1
theorem dX0_mayLie_58 : decode cX0_mayLie 58 = .ok (.iload 4, 2) := bl_dX0_mayLie_28.2.2.2.2.2.2.2.2.2.2.2.2.2.2.2
set_option maxRecDepth 20000 in
theorem lk_dX0_mayLie_60 : th_dr cX0_mayLie 60 = 182 :: 0 :: 123 :: 182 :: 0 :: 81 :: 58 :: 6 :: 25 :: 5 :: 198 :: 0 :: 24 :: 25 :: 6 :: 198 :: 0 :: 19 :: 42 :: 43 :: 44 :: 25 :: 5 :: 25 :: 6 :: 182 :: 0 :: 126 :: 2 :: 159 :: 0 :: 5 :: 3 :: th_dr cX0_mayLie 93 := rfl
theorem bl_dX0_mayLie_60 : decode cX0_mayLie 60 = .ok (.invokevirtual 123, 3) ∧ decode cX0_mayLie 63 = .ok (.invokevirtual 81, 3) ∧ decode cX0_mayLie 66 = .ok (.astore 6, 2) ∧ decode cX0_mayLie 68 = .ok (.aload 5, 2) ∧ decode cX0_mayLie 70 = .ok (.ifnull 24, 3) ∧ decode cX0_mayLie 73 = .ok (.aload 6, 2) ∧ decode cX0_mayLie 75 = .ok (.ifnull 19, 3) ∧ decode cX0_mayLie 78 = .ok (.aload_n 0, 1) ∧ decode cX0_mayLie 79 = .ok (.aload_n 1, 1) ∧ decode cX0_mayLie 80 = .ok (.aload_n 2, 1) ∧ decode cX0_mayLie 81 = .ok (.aload 5, 2) ∧ decode cX0_mayLie 83 = .ok (.aload 6, 2) ∧ decode cX0_mayLie 85 = .ok (.invokevirtual 126, 3) ∧ decode cX0_mayLie 88 = .ok (.iconst (-1), 1) ∧ decode cX0_mayLie 89 = .ok (.if_icmp .eq 5, 3) ∧ decode cX0_mayLie 92 = .ok (.iconst 0, 1) := op_182 lk_dX0_mayLie_60 fun e => op_182 e fun e => op_58 e fun e => op_25 e fun e => op_198p e rfl fun e => op_25 e fun e => op_198p e rfl fun e => op_42 e fun e => op_43 e fun e => op_44 e fun e => op_25 e fun e => op_25 e fun e => op_182 e fun e => op_2 e fun e => op_159p e rfl fun e => (op_3 e fun _ => True.intro).1
theorem dX0_mayLie_60 : decode cX0_mayLie 60 = .ok (.invokevirtual 123, 3) := bl_dX0_mayLie_60.1
theorem dX0_mayLie_63 : decode cX0_mayLie 63 = .ok (.invokevirtual 81, 3) := bl_dX0_mayLie_60.2.1
theorem dX0_mayLie_66 : decode cX0_mayLie 66 = .ok (.astore 6, 2) := bl_dX0_mayLie_60.2.2.1
theorem dX0_mayLie_68 : decode cX0_mayLie 68 = .ok (.aload 5, 2) := bl_dX0_mayLie_60.2.2.2.1
theorem dX0_mayLie_70 : decode cX0_mayLie 70 = .ok (.ifnull 24, 3) := bl_dX0_mayLie_60.2.2.2.2.1
theorem dX0_mayLie_73 : decode cX0_mayLie 73 = .ok (.aload 6, 2) := bl_dX0_mayLie_60.2.2.2.2.2.1
theorem dX0_mayLie_75 : decode cX0_mayLie 75 = .ok (.ifnull 19, 3) := bl_dX0_mayLie_60.2.2.2.2.2.2.1
theorem dX0_mayLie_78 : decode cX0_mayLie 78 = .ok (.aload_n 0, 1) := bl_dX0_mayLie_60.2.2.2.2.2.2.2.1
theorem dX0_mayLie_79 : decode cX0_mayLie 79 = .ok (.aload_n 1, 1) := bl_dX0_mayLie_60.2.2.2.2.2.2.2.2.1
theorem dX0_mayLie_80 : decode cX0_mayLie 80 = .ok (.aload_n 2, 1) := bl_dX0_mayLie_60.2.2.2.2.2.2.2.2.2.1
theorem dX0_mayLie_81 : decode cX0_mayLie 81 = .ok (.aload 5, 2) := bl_dX0_mayLie_60.2.2.2.2.2.2.2.2.2.2.1
theorem dX0_mayLie_83 : decode cX0_mayLie 83 = .ok (.aload 6, 2) := bl_dX0_mayLie_60.2.2.2.2.2.2.2.2.2.2.2.1
theorem dX0_mayLie_85 : decode cX0_mayLie 85 = .ok (.invokevirtual 126, 3) := bl_dX0_mayLie_60.2.2.2.2.2.2.2.2.2.2.2.2.1
theorem dX0_mayLie_88 : decode cX0_mayLie 88 = .ok (.iconst (-1), 1) := bl_dX0_mayLie_60.2.2.2.2.2.2.2.2.2.2.2.2.2.1
theorem dX0_mayLie_89 : decode cX0_mayLie 89 = .ok (.if_icmp .eq 5, 3) := bl_dX0_mayLie_60.2.2.2.2.2.2.2.2.2.2.2.2.2.2.1
theorem dX0_mayLie_92 : decode cX0_mayLie 92 = .ok (.iconst 0, 1) := bl_dX0_mayLie_60.2.2.2.2.2.2.2.2.2.2.2.2.2.2.2
set_option maxRecDepth 20000 in
theorem lk_dX0_mayLie_93 : th_dr cX0_mayLie 93 = 172 :: 132 :: 4 :: 1 :: 167 :: 255 :: 185 :: 4 :: 172 :: th_dr cX0_mayLie 102 := rfl
theorem bl_dX0_mayLie_93 : decode cX0_mayLie 93 = .ok (.ireturn, 1) ∧ decode cX0_mayLie 94 = .ok (.iinc 4 1, 3) ∧ decode cX0_mayLie 97 = .ok (.goto (-71), 3) ∧ decode cX0_mayLie 100 = .ok (.iconst 1, 1) ∧ decode cX0_mayLie 101 = .ok (.ireturn, 1) := op_172 lk_dX0_mayLie_93 fun e => op_132p e rfl fun e => op_167n e rfl rfl fun e => op_4 e fun e => (op_172 e fun _ => True.intro).1
theorem dX0_mayLie_93 : decode cX0_mayLie 93 = .ok (.ireturn, 1) := bl_dX0_mayLie_93.1
theorem dX0_mayLie_94 : decode cX0_mayLie 94 = .ok (.iinc 4 1, 3) := bl_dX0_mayLie_93.2.1
theorem dX0_mayLie_97 : decode cX0_mayLie 97 = .ok (.goto (-71), 3) := bl_dX0_mayLie_93.2.2.1
theorem dX0_mayLie_100 : decode cX0_mayLie 100 = .ok (.iconst 1, 1) := bl_dX0_mayLie_93.2.2.2.1
theorem dX0_mayLie_101 : decode cX0_mayLie 101 = .ok (.ireturn, 1) := bl_dX0_mayLie_93.2.2.2.2
set_option maxRecDepth 20000 in
theorem gdwsX2_reach : wsX2_reach.all goodWord = true := by decide +kernel
set_option maxRecDepth 20000 in
theorem ggX0_firstTouch_X2_reach : GoodIn wsX0_firstTouch wsX2_reach := goodIn_q _ [(9, 2), (65, 18)] rfl gdwsX2_reach
set_option maxRecDepth 20000 in
theorem gX0_firstTouch_X2_reach_u136X4 : GoodIn wsX0_firstTouch (va_wsU RX0 136 RX4 "BayMoorings$Boat" ⟨"BayMoorings$Boat", "reach", "()I"⟩ yX2_reach wsX2_reach) := goodIn_app (goodIn_q _ [(4, 5)] rfl rfl) ggX0_firstTouch_X2_reach
set_option maxRecDepth 20000 in
theorem gX0_firstTouch_X2_reach_u136X8 : GoodIn wsX0_firstTouch (va_wsU RX0 136 RX8 "BayMoorings$Boat" ⟨"BayMoorings$Boat", "reach", "()I"⟩ yX2_reach wsX2_reach) := goodIn_app (goodIn_q _ [(4, 2), (11, 1), (7, 2)] rfl rfl) ggX0_firstTouch_X2_reach
set_option maxRecDepth 20000 in
theorem gdwsX9_reach : wsX9_reach.all goodWord = true := by decide +kernel
set_option maxRecDepth 20000 in
theorem ggX0_firstTouch_X9_reach : GoodIn wsX0_firstTouch wsX9_reach := goodIn_q _ [(16, 3), (65, 18)] rfl gdwsX9_reach
set_option maxRecDepth 20000 in
theorem gX0_firstTouch_X9_reach_u136X9 : GoodIn wsX0_firstTouch (va_wsO RX0 136 RX9 "BayMoorings$Boat" ⟨"BayMoorings$Boat", "reach", "()I"⟩ yX9_reach wsX9_reach) := goodIn_app (goodIn_q _ [(4, 2), (7, 1), (13, 3)] rfl rfl) ggX0_firstTouch_X9_reach
set_option maxRecDepth 20000 in
theorem gdwsX3_slackAt : wsX3_slackAt.all goodWord = true := by decide +kernel
set_option maxRecDepth 20000 in
theorem ggX0_firstTouch_X3_slackAt : GoodIn wsX0_firstTouch wsX3_slackAt := goodIn_q _ [(23, 2), (48, 8)] rfl gdwsX3_slackAt
set_option maxRecDepth 20000 in
theorem gX0_firstTouch_X3_slackAt : GoodIn wsX0_firstTouch (wsV RX0 139 RX3 yX3_slackAt wsX3_slackAt) := goodIn_app (goodIn_q _ [(19, 4)] rfl rfl) ggX0_firstTouch_X3_slackAt
set_option maxRecDepth 20000 in
theorem gdwsX0_mayMeet : wsX0_mayMeet.all goodWord = true := by decide +kernel
set_option maxRecDepth 20000 in
theorem ggX0_firstTouch_X0_mayMeet : GoodIn wsX0_firstTouch wsX0_mayMeet := goodIn_q _ [(29, 14), (28, 1), (43, 5), (56, 9)] rfl gdwsX0_mayMeet
set_option maxRecDepth 20000 in
theorem gX0_firstTouch_X0_mayMeet : GoodIn wsX0_firstTouch (wsV RX0 142 RX0 yX0_mayMeet wsX0_mayMeet) := goodIn_app (goodIn_q _ [(25, 4)] rfl rfl) ggX0_firstTouch_X0_mayMeet
theorem lk_dX0_firstTouch_0 : th_dr cX0_firstTouch 0 = 25 :: 4 :: 180 :: 0 :: 130 :: 44 :: 180 :: 0 :: 130 :: 100 :: 54 :: 5 :: 25 :: 4 :: 180 :: 0 :: 133 :: 44 :: 180 :: 0 :: 133 :: 100 :: 54 :: 6 :: 43 :: 182 :: 0 :: 136 :: 54 :: 7 :: 45 :: th_dr cX0_firstTouch 31 := rfl
theorem bl_dX0_firstTouch_0 : decode cX0_firstTouch 0 = .ok (.aload 4, 2) ∧ decode cX0_firstTouch 2 = .ok (.getfield 130, 3) ∧ decode cX0_firstTouch 5 = .ok (.aload_n 2, 1) ∧ decode cX0_firstTouch 6 = .ok (.getfield 130, 3) ∧ decode cX0_firstTouch 9 = .ok (.isub, 1) ∧ decode cX0_firstTouch 10 = .ok (.istore 5, 2) ∧ decode cX0_firstTouch 12 = .ok (.aload 4, 2) ∧ decode cX0_firstTouch 14 = .ok (.getfield 133, 3) ∧ decode cX0_firstTouch 17 = .ok (.aload_n 2, 1) ∧ decode cX0_firstTouch 18 = .ok (.getfield 133, 3) ∧ decode cX0_firstTouch 21 = .ok (.isub, 1) ∧ decode cX0_firstTouch 22 = .ok (.istore 6, 2) ∧ decode cX0_firstTouch 24 = .ok (.aload_n 1, 1) ∧ decode cX0_firstTouch 25 = .ok (.invokevirtual 136, 3) ∧ decode cX0_firstTouch 28 = .ok (.istore 7, 2) ∧ decode cX0_firstTouch 30 = .ok (.aload_n 3, 1) := op_25 lk_dX0_firstTouch_0 fun e => op_180 e fun e => op_44 e fun e => op_180 e fun e => op_100 e fun e => op_54 e fun e => op_25 e fun e => op_180 e fun e => op_44 e fun e => op_180 e fun e => op_100 e fun e => op_54 e fun e => op_43 e fun e => op_182 e fun e => op_54 e fun e => (op_45 e fun _ => True.intro).1
theorem dX0_firstTouch_0 : decode cX0_firstTouch 0 = .ok (.aload 4, 2) := bl_dX0_firstTouch_0.1
theorem dX0_firstTouch_2 : decode cX0_firstTouch 2 = .ok (.getfield 130, 3) := bl_dX0_firstTouch_0.2.1
theorem dX0_firstTouch_5 : decode cX0_firstTouch 5 = .ok (.aload_n 2, 1) := bl_dX0_firstTouch_0.2.2.1
theorem dX0_firstTouch_6 : decode cX0_firstTouch 6 = .ok (.getfield 130, 3) := bl_dX0_firstTouch_0.2.2.2.1
theorem dX0_firstTouch_9 : decode cX0_firstTouch 9 = .ok (.isub, 1) := bl_dX0_firstTouch_0.2.2.2.2.1
theorem dX0_firstTouch_10 : decode cX0_firstTouch 10 = .ok (.istore 5, 2) := bl_dX0_firstTouch_0.2.2.2.2.2.1
theorem dX0_firstTouch_12 : decode cX0_firstTouch 12 = .ok (.aload 4, 2) := bl_dX0_firstTouch_0.2.2.2.2.2.2.1
theorem dX0_firstTouch_14 : decode cX0_firstTouch 14 = .ok (.getfield 133, 3) := bl_dX0_firstTouch_0.2.2.2.2.2.2.2.1
theorem dX0_firstTouch_17 : decode cX0_firstTouch 17 = .ok (.aload_n 2, 1) := bl_dX0_firstTouch_0.2.2.2.2.2.2.2.2.1
theorem dX0_firstTouch_18 : decode cX0_firstTouch 18 = .ok (.getfield 133, 3) := bl_dX0_firstTouch_0.2.2.2.2.2.2.2.2.2.1
theorem dX0_firstTouch_21 : decode cX0_firstTouch 21 = .ok (.isub, 1) := bl_dX0_firstTouch_0.2.2.2.2.2.2.2.2.2.2.1
theorem dX0_firstTouch_22 : decode cX0_firstTouch 22 = .ok (.istore 6, 2) := bl_dX0_firstTouch_0.2.2.2.2.2.2.2.2.2.2.2.1
theorem dX0_firstTouch_24 : decode cX0_firstTouch 24 = .ok (.aload_n 1, 1) := bl_dX0_firstTouch_0.2.2.2.2.2.2.2.2.2.2.2.2.1
theorem dX0_firstTouch_25 : decode cX0_firstTouch 25 = .ok (.invokevirtual 136, 3) := bl_dX0_firstTouch_0.2.2.2.2.2.2.2.2.2.2.2.2.2.1
theorem dX0_firstTouch_28 : decode cX0_firstTouch 28 = .ok (.istore 7, 2) := bl_dX0_firstTouch_0.2.2.2.2.2.2.2.2.2.2.2.2.2.2.1
theorem dX0_firstTouch_30 : decode cX0_firstTouch 30 = .ok (.aload_n 3, 1) := bl_dX0_firstTouch_0.2.2.2.2.2.2.2.2.2.2.2.2.2.2.2
set_option maxRecDepth 20000 in
theorem lk_dX0_firstTouch_31 : th_dr cX0_firstTouch 31 = 182 :: 0 :: 136 :: 54 :: 8 :: 3 :: 54 :: 9 :: 21 :: 9 :: 16 :: 24 :: 162 :: 0 :: 52 :: 42 :: 180 :: 0 :: 27 :: 21 :: 9 :: 51 :: 154 :: 0 :: 36 :: 42 :: 21 :: 5 :: 21 :: 6 :: 44 :: th_dr cX0_firstTouch 62 := rfl
theorem bl_dX0_firstTouch_31 : decode cX0_firstTouch 31 = .ok (.invokevirtual 136, 3) ∧ decode cX0_firstTouch 34 = .ok (.istore 8, 2) ∧ decode cX0_firstTouch 36 = .ok (.iconst 0, 1) ∧ decode cX0_firstTouch 37 = .ok (.istore 9, 2) ∧ decode cX0_firstTouch 39 = .ok (.iload 9, 2) ∧ decode cX0_firstTouch 41 = .ok (.bipush 24, 2) ∧ decode cX0_firstTouch 43 = .ok (.if_icmp .ge 52, 3) ∧ decode cX0_firstTouch 46 = .ok (.aload_n 0, 1) ∧ decode cX0_firstTouch 47 = .ok (.getfield 27, 3) ∧ decode cX0_firstTouch 50 = .ok (.iload 9, 2) ∧ decode cX0_firstTouch 52 = .ok (.baload, 1) ∧ decode cX0_firstTouch 53 = .ok (.ifCond .ne 36, 3) ∧ decode cX0_firstTouch 56 = .ok (.aload_n 0, 1) ∧ decode cX0_firstTouch 57 = .ok (.iload 5, 2) ∧ decode cX0_firstTouch 59 = .ok (.iload 6, 2) ∧ decode cX0_firstTouch 61 = .ok (.aload_n 2, 1) := op_182 lk_dX0_firstTouch_31 fun e => op_54 e fun e => op_3 e fun e => op_54 e fun e => op_21 e fun e => op_16p e rfl fun e => op_162p e rfl fun e => op_42 e fun e => op_180 e fun e => op_21 e fun e => op_51 e fun e => op_154p e rfl fun e => op_42 e fun e => op_21 e fun e => op_21 e fun e => (op_44 e fun _ => True.intro).1
theorem dX0_firstTouch_31 : decode cX0_firstTouch 31 = .ok (.invokevirtual 136, 3) := bl_dX0_firstTouch_31.1
theorem dX0_firstTouch_34 : decode cX0_firstTouch 34 = .ok (.istore 8, 2) := bl_dX0_firstTouch_31.2.1
theorem dX0_firstTouch_36 : decode cX0_firstTouch 36 = .ok (.iconst 0, 1) := bl_dX0_firstTouch_31.2.2.1
theorem dX0_firstTouch_37 : decode cX0_firstTouch 37 = .ok (.istore 9, 2) := bl_dX0_firstTouch_31.2.2.2.1
theorem dX0_firstTouch_39 : decode cX0_firstTouch 39 = .ok (.iload 9, 2) := bl_dX0_firstTouch_31.2.2.2.2.1
theorem dX0_firstTouch_41 : decode cX0_firstTouch 41 = .ok (.bipush 24, 2) := bl_dX0_firstTouch_31.2.2.2.2.2.1
theorem dX0_firstTouch_43 : decode cX0_firstTouch 43 = .ok (.if_icmp .ge 52, 3) := bl_dX0_firstTouch_31.2.2.2.2.2.2.1
theorem dX0_firstTouch_46 : decode cX0_firstTouch 46 = .ok (.aload_n 0, 1) := bl_dX0_firstTouch_31.2.2.2.2.2.2.2.1
theorem dX0_firstTouch_47 : decode cX0_firstTouch 47 = .ok (.getfield 27, 3) := bl_dX0_firstTouch_31.2.2.2.2.2.2.2.2.1
theorem dX0_firstTouch_50 : decode cX0_firstTouch 50 = .ok (.iload 9, 2) := bl_dX0_firstTouch_31.2.2.2.2.2.2.2.2.2.1
theorem dX0_firstTouch_52 : decode cX0_firstTouch 52 = .ok (.baload, 1) := bl_dX0_firstTouch_31.2.2.2.2.2.2.2.2.2.2.1
theorem dX0_firstTouch_53 : decode cX0_firstTouch 53 = .ok (.ifCond .ne 36, 3) := bl_dX0_firstTouch_31.2.2.2.2.2.2.2.2.2.2.2.1
theorem dX0_firstTouch_56 : decode cX0_firstTouch 56 = .ok (.aload_n 0, 1) := bl_dX0_firstTouch_31.2.2.2.2.2.2.2.2.2.2.2.2.1
theorem dX0_firstTouch_57 : decode cX0_firstTouch 57 = .ok (.iload 5, 2) := bl_dX0_firstTouch_31.2.2.2.2.2.2.2.2.2.2.2.2.2.1
theorem dX0_firstTouch_59 : decode cX0_firstTouch 59 = .ok (.iload 6, 2) := bl_dX0_firstTouch_31.2.2.2.2.2.2.2.2.2.2.2.2.2.2.1
theorem dX0_firstTouch_61 : decode cX0_firstTouch 61 = .ok (.aload_n 2, 1) := bl_dX0_firstTouch_31.2.2.2.2.2.2.2.2.2.2.2.2.2.2.2
set_option maxRecDepth 20000 in
theorem lk_dX0_firstTouch_62 : th_dr cX0_firstTouch 62 = 21 :: 9 :: 182 :: 0 :: 139 :: 21 :: 7 :: 96 :: 25 :: 4 :: 21 :: 9 :: 182 :: 0 :: 139 :: 21 :: 8 :: 96 :: 182 :: 0 :: 142 :: 153 :: 0 :: 6 :: 21 :: 9 :: 172 :: 132 :: 9 :: 1 :: 167 :: 255 :: 203 :: 2 :: th_dr cX0_firstTouch 96 := rfl
theorem bl_dX0_firstTouch_62 : decode cX0_firstTouch 62 = .ok (.iload 9, 2) ∧ decode cX0_firstTouch 64 = .ok (.invokevirtual 139, 3) ∧ decode cX0_firstTouch 67 = .ok (.iload 7, 2) ∧ decode cX0_firstTouch 69 = .ok (.iadd, 1) ∧ decode cX0_firstTouch 70 = .ok (.aload 4, 2) ∧ decode cX0_firstTouch 72 = .ok (.iload 9, 2) ∧ decode cX0_firstTouch 74 = .ok (.invokevirtual 139, 3) ∧ decode cX0_firstTouch 77 = .ok (.iload 8, 2) ∧ decode cX0_firstTouch 79 = .ok (.iadd, 1) ∧ decode cX0_firstTouch 80 = .ok (.invokevirtual 142, 3) ∧ decode cX0_firstTouch 83 = .ok (.ifCond .eq 6, 3) ∧ decode cX0_firstTouch 86 = .ok (.iload 9, 2) ∧ decode cX0_firstTouch 88 = .ok (.ireturn, 1) ∧ decode cX0_firstTouch 89 = .ok (.iinc 9 1, 3) ∧ decode cX0_firstTouch 92 = .ok (.goto (-53), 3) ∧ decode cX0_firstTouch 95 = .ok (.iconst (-1), 1) := op_21 lk_dX0_firstTouch_62 fun e => op_182 e fun e => op_21 e fun e => op_96 e fun e => op_25 e fun e => op_21 e fun e => op_182 e fun e => op_21 e fun e => op_96 e fun e => op_182 e fun e => op_153p e rfl fun e => op_21 e fun e => op_172 e fun e => op_132p e rfl fun e => op_167n e rfl rfl fun e => (op_2 e fun _ => True.intro).1
theorem dX0_firstTouch_62 : decode cX0_firstTouch 62 = .ok (.iload 9, 2) := bl_dX0_firstTouch_62.1
theorem dX0_firstTouch_64 : decode cX0_firstTouch 64 = .ok (.invokevirtual 139, 3) := bl_dX0_firstTouch_62.2.1
theorem dX0_firstTouch_67 : decode cX0_firstTouch 67 = .ok (.iload 7, 2) := bl_dX0_firstTouch_62.2.2.1
theorem dX0_firstTouch_69 : decode cX0_firstTouch 69 = .ok (.iadd, 1) := bl_dX0_firstTouch_62.2.2.2.1
theorem dX0_firstTouch_70 : decode cX0_firstTouch 70 = .ok (.aload 4, 2) := bl_dX0_firstTouch_62.2.2.2.2.1
theorem dX0_firstTouch_72 : decode cX0_firstTouch 72 = .ok (.iload 9, 2) := bl_dX0_firstTouch_62.2.2.2.2.2.1
theorem dX0_firstTouch_74 : decode cX0_firstTouch 74 = .ok (.invokevirtual 139, 3) := bl_dX0_firstTouch_62.2.2.2.2.2.2.1
theorem dX0_firstTouch_77 : decode cX0_firstTouch 77 = .ok (.iload 8, 2) := bl_dX0_firstTouch_62.2.2.2.2.2.2.2.1
theorem dX0_firstTouch_79 : decode cX0_firstTouch 79 = .ok (.iadd, 1) := bl_dX0_firstTouch_62.2.2.2.2.2.2.2.2.1
theorem dX0_firstTouch_80 : decode cX0_firstTouch 80 = .ok (.invokevirtual 142, 3) := bl_dX0_firstTouch_62.2.2.2.2.2.2.2.2.2.1
theorem dX0_firstTouch_83 : decode cX0_firstTouch 83 = .ok (.ifCond .eq 6, 3) := bl_dX0_firstTouch_62.2.2.2.2.2.2.2.2.2.2.1
theorem dX0_firstTouch_86 : decode cX0_firstTouch 86 = .ok (.iload 9, 2) := bl_dX0_firstTouch_62.2.2.2.2.2.2.2.2.2.2.2.1
theorem dX0_firstTouch_88 : decode cX0_firstTouch 88 = .ok (.ireturn, 1) := bl_dX0_firstTouch_62.2.2.2.2.2.2.2.2.2.2.2.2.1
theorem dX0_firstTouch_89 : decode cX0_firstTouch 89 = .ok (.iinc 9 1, 3) := bl_dX0_firstTouch_62.2.2.2.2.2.2.2.2.2.2.2.2.2.1
theorem dX0_firstTouch_92 : decode cX0_firstTouch 92 = .ok (.goto (-53), 3) := bl_dX0_firstTouch_62.2.2.2.2.2.2.2.2.2.2.2.2.2.2.1
theorem dX0_firstTouch_95 : decode cX0_firstTouch 95 = .ok (.iconst (-1), 1) := bl_dX0_firstTouch_62.2.2.2.2.2.2.2.2.2.2.2.2.2.2.2
set_option maxRecDepth 20000 in
theorem lk_dX0_firstTouch_96 : th_dr cX0_firstTouch 96 = 172 :: th_dr cX0_firstTouch 97 := rfl
theorem dX0_firstTouch_96 : decode cX0_firstTouch 96 = .ok (.ireturn, 1) := (op_172 lk_dX0_firstTouch_96 fun _ => True.intro).1
set_option maxRecDepth 20000 in
theorem gdwsX0_blows : wsX0_blows.all goodWord = true := by decide +kernel
set_option maxRecDepth 20000 in
theorem ggX0_mayMeet_X0_blows : GoodIn wsX0_mayMeet wsX0_blows := goodIn_q _ [(15, 2), (20, 9)] rfl gdwsX0_blows
set_option maxRecDepth 20000 in
theorem gX0_mayMeet_X0_blows : GoodIn wsX0_mayMeet (wsV RX0 152 RX0 yX0_blows wsX0_blows) := goodIn_app (goodIn_q _ [(11, 4)] rfl rfl) ggX0_mayMeet_X0_blows
set_option maxRecDepth 20000 in
theorem gdwsX0_endsMeet : wsX0_endsMeet.all goodWord = true := by decide +kernel
set_option maxRecDepth 20000 in
theorem ggX0_mayMeet_X0_endsMeet : GoodIn wsX0_mayMeet wsX0_endsMeet := goodIn_q _ [(19, 1)] rfl gdwsX0_endsMeet
set_option maxRecDepth 20000 in
theorem gX0_mayMeet_X0_endsMeet : GoodIn wsX0_mayMeet (va_wsS RX0 155 yX0_endsMeet wsX0_endsMeet) := goodIn_app (goodIn_q _ [(17, 2), (14, 1)] rfl rfl) ggX0_mayMeet_X0_endsMeet
theorem lk_dX0_mayMeet_0 : th_dr cX0_mayMeet 0 = 27 :: 184 :: 0 :: 146 :: 28 :: 184 :: 0 :: 146 :: 184 :: 0 :: 149 :: 54 :: 5 :: 21 :: 5 :: 29 :: 21 :: 4 :: 184 :: 0 :: 85 :: 162 :: 0 :: 5 :: 4 :: 172 :: 21 :: 5 :: 29 :: 21 :: 4 :: th_dr cX0_mayMeet 31 := rfl
theorem bl_dX0_mayMeet_0 : decode cX0_mayMeet 0 = .ok (.iload_n 1, 1) ∧ decode cX0_mayMeet 1 = .ok (.invokestatic 146, 3) ∧ decode cX0_mayMeet 4 = .ok (.iload_n 2, 1) ∧ decode cX0_mayMeet 5 = .ok (.invokestatic 146, 3) ∧ decode cX0_mayMeet 8 = .ok (.invokestatic 149, 3) ∧ decode cX0_mayMeet 11 = .ok (.istore 5, 2) ∧ decode cX0_mayMeet 13 = .ok (.iload 5, 2) ∧ decode cX0_mayMeet 15 = .ok (.iload_n 3, 1) ∧ decode cX0_mayMeet 16 = .ok (.iload 4, 2) ∧ decode cX0_mayMeet 18 = .ok (.invokestatic 85, 3) ∧ decode cX0_mayMeet 21 = .ok (.if_icmp .ge 5, 3) ∧ decode cX0_mayMeet 24 = .ok (.iconst 1, 1) ∧ decode cX0_mayMeet 25 = .ok (.ireturn, 1) ∧ decode cX0_mayMeet 26 = .ok (.iload 5, 2) ∧ decode cX0_mayMeet 28 = .ok (.iload_n 3, 1) ∧ decode cX0_mayMeet 29 = .ok (.iload 4, 2) := op_27 lk_dX0_mayMeet_0 fun e => op_184 e fun e => op_28 e fun e => op_184 e fun e => op_184 e fun e => op_54 e fun e => op_21 e fun e => op_29 e fun e => op_21 e fun e => op_184 e fun e => op_162p e rfl fun e => op_4 e fun e => op_172 e fun e => op_21 e fun e => op_29 e fun e => (op_21 e fun _ => True.intro).1
theorem dX0_mayMeet_0 : decode cX0_mayMeet 0 = .ok (.iload_n 1, 1) := bl_dX0_mayMeet_0.1
theorem dX0_mayMeet_1 : decode cX0_mayMeet 1 = .ok (.invokestatic 146, 3) := bl_dX0_mayMeet_0.2.1
theorem dX0_mayMeet_4 : decode cX0_mayMeet 4 = .ok (.iload_n 2, 1) := bl_dX0_mayMeet_0.2.2.1
theorem dX0_mayMeet_5 : decode cX0_mayMeet 5 = .ok (.invokestatic 146, 3) := bl_dX0_mayMeet_0.2.2.2.1
theorem dX0_mayMeet_8 : decode cX0_mayMeet 8 = .ok (.invokestatic 149, 3) := bl_dX0_mayMeet_0.2.2.2.2.1
theorem dX0_mayMeet_11 : decode cX0_mayMeet 11 = .ok (.istore 5, 2) := bl_dX0_mayMeet_0.2.2.2.2.2.1
theorem dX0_mayMeet_13 : decode cX0_mayMeet 13 = .ok (.iload 5, 2) := bl_dX0_mayMeet_0.2.2.2.2.2.2.1
theorem dX0_mayMeet_15 : decode cX0_mayMeet 15 = .ok (.iload_n 3, 1) := bl_dX0_mayMeet_0.2.2.2.2.2.2.2.1
theorem dX0_mayMeet_16 : decode cX0_mayMeet 16 = .ok (.iload 4, 2) := bl_dX0_mayMeet_0.2.2.2.2.2.2.2.2.1
theorem dX0_mayMeet_18 : decode cX0_mayMeet 18 = .ok (.invokestatic 85, 3) := bl_dX0_mayMeet_0.2.2.2.2.2.2.2.2.2.1
theorem dX0_mayMeet_21 : decode cX0_mayMeet 21 = .ok (.if_icmp .ge 5, 3) := bl_dX0_mayMeet_0.2.2.2.2.2.2.2.2.2.2.1
theorem dX0_mayMeet_24 : decode cX0_mayMeet 24 = .ok (.iconst 1, 1) := bl_dX0_mayMeet_0.2.2.2.2.2.2.2.2.2.2.2.1
theorem dX0_mayMeet_25 : decode cX0_mayMeet 25 = .ok (.ireturn, 1) := bl_dX0_mayMeet_0.2.2.2.2.2.2.2.2.2.2.2.2.1
theorem dX0_mayMeet_26 : decode cX0_mayMeet 26 = .ok (.iload 5, 2) := bl_dX0_mayMeet_0.2.2.2.2.2.2.2.2.2.2.2.2.2.1
theorem dX0_mayMeet_28 : decode cX0_mayMeet 28 = .ok (.iload_n 3, 1) := bl_dX0_mayMeet_0.2.2.2.2.2.2.2.2.2.2.2.2.2.2.1
theorem dX0_mayMeet_29 : decode cX0_mayMeet 29 = .ok (.iload 4, 2) := bl_dX0_mayMeet_0.2.2.2.2.2.2.2.2.2.2.2.2.2.2.2
set_option maxRecDepth 20000 in
theorem lk_dX0_mayMeet_31 : th_dr cX0_mayMeet 31 = 184 :: 0 :: 149 :: 16 :: 20 :: 96 :: 161 :: 0 :: 5 :: 3 :: 172 :: 3 :: 54 :: 6 :: 21 :: 6 :: 16 :: 7 :: 163 :: 0 :: 69 :: 2 :: 54 :: 7 :: 21 :: 7 :: 4 :: 163 :: 0 :: 54 :: th_dr cX0_mayMeet 61 := rfl
theorem bl_dX0_mayMeet_31 : decode cX0_mayMeet 31 = .ok (.invokestatic 149, 3) ∧ decode cX0_mayMeet 34 = .ok (.bipush 20, 2) ∧ decode cX0_mayMeet 36 = .ok (.iadd, 1) ∧ decode cX0_mayMeet 37 = .ok (.if_icmp .lt 5, 3) ∧ decode cX0_mayMeet 40 = .ok (.iconst 0, 1) ∧ decode cX0_mayMeet 41 = .ok (.ireturn, 1) ∧ decode cX0_mayMeet 42 = .ok (.iconst 0, 1) ∧ decode cX0_mayMeet 43 = .ok (.istore 6, 2) ∧ decode cX0_mayMeet 45 = .ok (.iload 6, 2) ∧ decode cX0_mayMeet 47 = .ok (.bipush 7, 2) ∧ decode cX0_mayMeet 49 = .ok (.if_icmp .gt 69, 3) ∧ decode cX0_mayMeet 52 = .ok (.iconst (-1), 1) ∧ decode cX0_mayMeet 53 = .ok (.istore 7, 2) ∧ decode cX0_mayMeet 55 = .ok (.iload 7, 2) ∧ decode cX0_mayMeet 57 = .ok (.iconst 1, 1) ∧ decode cX0_mayMeet 58 = .ok (.if_icmp .gt 54, 3) := op_184 lk_dX0_mayMeet_31 fun e => op_16p e rfl fun e => op_96 e fun e => op_161p e rfl fun e => op_3 e fun e => op_172 e fun e => op_3 e fun e => op_54 e fun e => op_21 e fun e => op_16p e rfl fun e => op_163p e rfl fun e => op_2 e fun e => op_54 e fun e => op_21 e fun e => op_4 e fun e => (op_163p e rfl fun _ => True.intro).1
theorem dX0_mayMeet_31 : decode cX0_mayMeet 31 = .ok (.invokestatic 149, 3) := bl_dX0_mayMeet_31.1
theorem dX0_mayMeet_34 : decode cX0_mayMeet 34 = .ok (.bipush 20, 2) := bl_dX0_mayMeet_31.2.1
theorem dX0_mayMeet_36 : decode cX0_mayMeet 36 = .ok (.iadd, 1) := bl_dX0_mayMeet_31.2.2.1
theorem dX0_mayMeet_37 : decode cX0_mayMeet 37 = .ok (.if_icmp .lt 5, 3) := bl_dX0_mayMeet_31.2.2.2.1
theorem dX0_mayMeet_40 : decode cX0_mayMeet 40 = .ok (.iconst 0, 1) := bl_dX0_mayMeet_31.2.2.2.2.1
theorem dX0_mayMeet_41 : decode cX0_mayMeet 41 = .ok (.ireturn, 1) := bl_dX0_mayMeet_31.2.2.2.2.2.1
theorem dX0_mayMeet_42 : decode cX0_mayMeet 42 = .ok (.iconst 0, 1) := bl_dX0_mayMeet_31.2.2.2.2.2.2.1
theorem dX0_mayMeet_43 : decode cX0_mayMeet 43 = .ok (.istore 6, 2) := bl_dX0_mayMeet_31.2.2.2.2.2.2.2.1
theorem dX0_mayMeet_45 : decode cX0_mayMeet 45 = .ok (.iload 6, 2) := bl_dX0_mayMeet_31.2.2.2.2.2.2.2.2.1
theorem dX0_mayMeet_47 : decode cX0_mayMeet 47 = .ok (.bipush 7, 2) := bl_dX0_mayMeet_31.2.2.2.2.2.2.2.2.2.1
theorem dX0_mayMeet_49 : decode cX0_mayMeet 49 = .ok (.if_icmp .gt 69, 3) := bl_dX0_mayMeet_31.2.2.2.2.2.2.2.2.2.2.1
theorem dX0_mayMeet_52 : decode cX0_mayMeet 52 = .ok (.iconst (-1), 1) := bl_dX0_mayMeet_31.2.2.2.2.2.2.2.2.2.2.2.1
theorem dX0_mayMeet_53 : decode cX0_mayMeet 53 = .ok (.istore 7, 2) := bl_dX0_mayMeet_31.2.2.2.2.2.2.2.2.2.2.2.2.1
theorem dX0_mayMeet_55 : decode cX0_mayMeet 55 = .ok (.iload 7, 2) := bl_dX0_mayMeet_31.2.2.2.2.2.2.2.2.2.2.2.2.2.1
theorem dX0_mayMeet_57 : decode cX0_mayMeet 57 = .ok (.iconst 1, 1) := bl_dX0_mayMeet_31.2.2.2.2.2.2.2.2.2.2.2.2.2.2.1
theorem dX0_mayMeet_58 : decode cX0_mayMeet 58 = .ok (.if_icmp .gt 54, 3) := bl_dX0_mayMeet_31.2.2.2.2.2.2.2.2.2.2.2.2.2.2.2
set_option maxRecDepth 20000 in
theorem lk_dX0_mayMeet_61 : th_dr cX0_mayMeet 61 = 21 :: 6 :: 21 :: 7 :: 96 :: 16 :: 7 :: 126 :: 54 :: 8 :: 42 :: 21 :: 6 :: 182 :: 0 :: 152 :: 153 :: 0 :: 29 :: 42 :: 21 :: 8 :: 182 :: 0 :: 152 :: 153 :: 0 :: 20 :: 27 :: 28 :: th_dr cX0_mayMeet 91 := rfl
theorem bl_dX0_mayMeet_61 : decode cX0_mayMeet 61 = .ok (.iload 6, 2) ∧ decode cX0_mayMeet 63 = .ok (.iload 7, 2) ∧ decode cX0_mayMeet 65 = .ok (.iadd, 1) ∧ decode cX0_mayMeet 66 = .ok (.bipush 7, 2) ∧ decode cX0_mayMeet 68 = .ok (.iand, 1) ∧ decode cX0_mayMeet 69 = .ok (.istore 8, 2) ∧ decode cX0_mayMeet 71 = .ok (.aload_n 0, 1) ∧ decode cX0_mayMeet 72 = .ok (.iload 6, 2) ∧ decode cX0_mayMeet 74 = .ok (.invokevirtual 152, 3) ∧ decode cX0_mayMeet 77 = .ok (.ifCond .eq 29, 3) ∧ decode cX0_mayMeet 80 = .ok (.aload_n 0, 1) ∧ decode cX0_mayMeet 81 = .ok (.iload 8, 2) ∧ decode cX0_mayMeet 83 = .ok (.invokevirtual 152, 3) ∧ decode cX0_mayMeet 86 = .ok (.ifCond .eq 20, 3) ∧ decode cX0_mayMeet 89 = .ok (.iload_n 1, 1) ∧ decode cX0_mayMeet 90 = .ok (.iload_n 2, 1) := op_21 lk_dX0_mayMeet_61 fun e => op_21 e fun e => op_96 e fun e => op_16p e rfl fun e => op_126 e fun e => op_54 e fun e => op_42 e fun e => op_21 e fun e => op_182 e fun e => op_153p e rfl fun e => op_42 e fun e => op_21 e fun e => op_182 e fun e => op_153p e rfl fun e => op_27 e fun e => (op_28 e fun _ => True.intro).1
theorem dX0_mayMeet_61 : decode cX0_mayMeet 61 = .ok (.iload 6, 2) := bl_dX0_mayMeet_61.1
theorem dX0_mayMeet_63 : decode cX0_mayMeet 63 = .ok (.iload 7, 2) := bl_dX0_mayMeet_61.2.1
theorem dX0_mayMeet_65 : decode cX0_mayMeet 65 = .ok (.iadd, 1) := bl_dX0_mayMeet_61.2.2.1
theorem dX0_mayMeet_66 : decode cX0_mayMeet 66 = .ok (.bipush 7, 2) := bl_dX0_mayMeet_61.2.2.2.1
theorem dX0_mayMeet_68 : decode cX0_mayMeet 68 = .ok (.iand, 1) := bl_dX0_mayMeet_61.2.2.2.2.1
theorem dX0_mayMeet_69 : decode cX0_mayMeet 69 = .ok (.istore 8, 2) := bl_dX0_mayMeet_61.2.2.2.2.2.1
theorem dX0_mayMeet_71 : decode cX0_mayMeet 71 = .ok (.aload_n 0, 1) := bl_dX0_mayMeet_61.2.2.2.2.2.2.1
theorem dX0_mayMeet_72 : decode cX0_mayMeet 72 = .ok (.iload 6, 2) := bl_dX0_mayMeet_61.2.2.2.2.2.2.2.1
theorem dX0_mayMeet_74 : decode cX0_mayMeet 74 = .ok (.invokevirtual 152, 3) := bl_dX0_mayMeet_61.2.2.2.2.2.2.2.2.1
theorem dX0_mayMeet_77 : decode cX0_mayMeet 77 = .ok (.ifCond .eq 29, 3) := bl_dX0_mayMeet_61.2.2.2.2.2.2.2.2.2.1
theorem dX0_mayMeet_80 : decode cX0_mayMeet 80 = .ok (.aload_n 0, 1) := bl_dX0_mayMeet_61.2.2.2.2.2.2.2.2.2.2.1
theorem dX0_mayMeet_81 : decode cX0_mayMeet 81 = .ok (.iload 8, 2) := bl_dX0_mayMeet_61.2.2.2.2.2.2.2.2.2.2.2.1
theorem dX0_mayMeet_83 : decode cX0_mayMeet 83 = .ok (.invokevirtual 152, 3) := bl_dX0_mayMeet_61.2.2.2.2.2.2.2.2.2.2.2.2.1
theorem dX0_mayMeet_86 : decode cX0_mayMeet 86 = .ok (.ifCond .eq 20, 3) := bl_dX0_mayMeet_61.2.2.2.2.2.2.2.2.2.2.2.2.2.1
theorem dX0_mayMeet_89 : decode cX0_mayMeet 89 = .ok (.iload_n 1, 1) := bl_dX0_mayMeet_61.2.2.2.2.2.2.2.2.2.2.2.2.2.2.1
theorem dX0_mayMeet_90 : decode cX0_mayMeet 90 = .ok (.iload_n 2, 1) := bl_dX0_mayMeet_61.2.2.2.2.2.2.2.2.2.2.2.2.2.2.2
set_option maxRecDepth 20000 in
theorem lk_dX0_mayMeet_91 : th_dr cX0_mayMeet 91 = 29 :: 21 :: 6 :: 21 :: 4 :: 21 :: 8 :: 184 :: 0 :: 155 :: 153 :: 0 :: 5 :: 4 :: 172 :: 132 :: 7 :: 1 :: 167 :: 255 :: 202 :: 132 :: 6 :: 1 :: 167 :: 255 :: 186 :: 3 :: 172 :: th_dr cX0_mayMeet 120 := rfl
theorem bl_dX0_mayMeet_91 : decode cX0_mayMeet 91 = .ok (.iload_n 3, 1) ∧ decode cX0_mayMeet 92 = .ok (.iload 6, 2) ∧ decode cX0_mayMeet 94 = .ok (.iload 4, 2) ∧ decode cX0_mayMeet 96 = .ok (.iload 8, 2) ∧ decode cX0_mayMeet 98 = .ok (.invokestatic 155, 3) ∧ decode cX0_mayMeet 101 = .ok (.ifCond .eq 5, 3) ∧ decode cX0_mayMeet 104 = .ok (.iconst 1, 1) ∧ decode cX0_mayMeet 105 = .ok (.ireturn, 1) ∧ decode cX0_mayMeet 106 = .ok (.iinc 7 1, 3) ∧ decode cX0_mayMeet 109 = .ok (.goto (-54), 3) ∧ decode cX0_mayMeet 112 = .ok (.iinc 6 1, 3) ∧ decode cX0_mayMeet 115 = .ok (.goto (-70), 3) ∧ decode cX0_mayMeet 118 = .ok (.iconst 0, 1) ∧ decode cX0_mayMeet 119 = .ok (.ireturn, 1) := op_29 lk_dX0_mayMeet_91 fun e => op_21 e fun e => op_21 e fun e => op_21 e fun e => op_184 e fun e => op_153p e rfl fun e => op_4 e fun e => op_172 e fun e => op_132p e rfl fun e => op_167n e rfl rfl fun e => op_132p e rfl fun e => op_167n e rfl rfl fun e => op_3 e fun e => (op_172 e fun _ => True.intro).1
theorem dX0_mayMeet_91 : decode cX0_mayMeet 91 = .ok (.iload_n 3, 1) := bl_dX0_mayMeet_91.1
theorem dX0_mayMeet_92 : decode cX0_mayMeet 92 = .ok (.iload 6, 2) := bl_dX0_mayMeet_91.2.1
theorem dX0_mayMeet_94 : decode cX0_mayMeet 94 = .ok (.iload 4, 2) := bl_dX0_mayMeet_91.2.2.1
theorem dX0_mayMeet_96 : decode cX0_mayMeet 96 = .ok (.iload 8, 2) := bl_dX0_mayMeet_91.2.2.2.1
theorem dX0_mayMeet_98 : decode cX0_mayMeet 98 = .ok (.invokestatic 155, 3) := bl_dX0_mayMeet_91.2.2.2.2.1
theorem dX0_mayMeet_101 : decode cX0_mayMeet 101 = .ok (.ifCond .eq 5, 3) := bl_dX0_mayMeet_91.2.2.2.2.2.1
theorem dX0_mayMeet_104 : decode cX0_mayMeet 104 = .ok (.iconst 1, 1) := bl_dX0_mayMeet_91.2.2.2.2.2.2.1
theorem dX0_mayMeet_105 : decode cX0_mayMeet 105 = .ok (.ireturn, 1) := bl_dX0_mayMeet_91.2.2.2.2.2.2.2.1
theorem dX0_mayMeet_106 : decode cX0_mayMeet 106 = .ok (.iinc 7 1, 3) := bl_dX0_mayMeet_91.2.2.2.2.2.2.2.2.1
theorem dX0_mayMeet_109 : decode cX0_mayMeet 109 = .ok (.goto (-54), 3) := bl_dX0_mayMeet_91.2.2.2.2.2.2.2.2.2.1
theorem dX0_mayMeet_112 : decode cX0_mayMeet 112 = .ok (.iinc 6 1, 3) := bl_dX0_mayMeet_91.2.2.2.2.2.2.2.2.2.2.1
theorem dX0_mayMeet_115 : decode cX0_mayMeet 115 = .ok (.goto (-70), 3) := bl_dX0_mayMeet_91.2.2.2.2.2.2.2.2.2.2.2.1
theorem dX0_mayMeet_118 : decode cX0_mayMeet 118 = .ok (.iconst 0, 1) := bl_dX0_mayMeet_91.2.2.2.2.2.2.2.2.2.2.2.2.1
theorem dX0_mayMeet_119 : decode cX0_mayMeet 119 = .ok (.ireturn, 1) := bl_dX0_mayMeet_91.2.2.2.2.2.2.2.2.2.2.2.2.2
theorem lk_dX0_blows_0 : th_dr cX0_blows 0 = 42 :: 180 :: 0 :: 45 :: 27 :: 122 :: 4 :: 126 :: 153 :: 0 :: 7 :: 4 :: 167 :: 0 :: 4 :: 3 :: 172 :: th_dr cX0_blows 17 := rfl
theorem bl_dX0_blows_0 : decode cX0_blows 0 = .ok (.aload_n 0, 1) ∧ decode cX0_blows 1 = .ok (.getfield 45, 3) ∧ decode cX0_blows 4 = .ok (.iload_n 1, 1) ∧ decode cX0_blows 5 = .ok (.ishr, 1) ∧ decode cX0_blows 6 = .ok (.iconst 1, 1) ∧ decode cX0_blows 7 = .ok (.iand, 1) ∧ decode cX0_blows 8 = .ok (.ifCond .eq 7, 3) ∧ decode cX0_blows 11 = .ok (.iconst 1, 1) ∧ decode cX0_blows 12 = .ok (.goto 4, 3) ∧ decode cX0_blows 15 = .ok (.iconst 0, 1) ∧ decode cX0_blows 16 = .ok (.ireturn, 1) := op_42 lk_dX0_blows_0 fun e => op_180 e fun e => op_27 e fun e => op_122 e fun e => op_4 e fun e => op_126 e fun e => op_153p e rfl fun e => op_4 e fun e => op_167p e rfl fun e => op_3 e fun e => (op_172 e fun _ => True.intro).1
theorem dX0_blows_0 : decode cX0_blows 0 = .ok (.aload_n 0, 1) := bl_dX0_blows_0.1
theorem dX0_blows_1 : decode cX0_blows 1 = .ok (.getfield 45, 3) := bl_dX0_blows_0.2.1
theorem dX0_blows_4 : decode cX0_blows 4 = .ok (.iload_n 1, 1) := bl_dX0_blows_0.2.2.1
theorem dX0_blows_5 : decode cX0_blows 5 = .ok (.ishr, 1) := bl_dX0_blows_0.2.2.2.1
theorem dX0_blows_6 : decode cX0_blows 6 = .ok (.iconst 1, 1) := bl_dX0_blows_0.2.2.2.2.1
theorem dX0_blows_7 : decode cX0_blows 7 = .ok (.iand, 1) := bl_dX0_blows_0.2.2.2.2.2.1
theorem dX0_blows_8 : decode cX0_blows 8 = .ok (.ifCond .eq 7, 3) := bl_dX0_blows_0.2.2.2.2.2.2.1
theorem dX0_blows_11 : decode cX0_blows 11 = .ok (.iconst 1, 1) := bl_dX0_blows_0.2.2.2.2.2.2.2.1
theorem dX0_blows_12 : decode cX0_blows 12 = .ok (.goto 4, 3) := bl_dX0_blows_0.2.2.2.2.2.2.2.2.1
theorem dX0_blows_15 : decode cX0_blows 15 = .ok (.iconst 0, 1) := bl_dX0_blows_0.2.2.2.2.2.2.2.2.2.1
theorem dX0_blows_16 : decode cX0_blows 16 = .ok (.ireturn, 1) := bl_dX0_blows_0.2.2.2.2.2.2.2.2.2.2
theorem lk_dX0_endsMeet_0 : th_dr cX0_endsMeet 0 = 29 :: 4 :: 126 :: 153 :: 0 :: 13 :: 28 :: 16 :: 7 :: 104 :: 16 :: 10 :: 108 :: 167 :: 0 :: 4 :: 28 :: 54 :: 6 :: 21 :: 5 :: 4 :: 126 :: 153 :: 0 :: 14 :: th_dr cX0_endsMeet 26 := rfl
theorem bl_dX0_endsMeet_0 : decode cX0_endsMeet 0 = .ok (.iload_n 3, 1) ∧ decode cX0_endsMeet 1 = .ok (.iconst 1, 1) ∧ decode cX0_endsMeet 2 = .ok (.iand, 1) ∧ decode cX0_endsMeet 3 = .ok (.ifCond .eq 13, 3) ∧ decode cX0_endsMeet 6 = .ok (.iload_n 2, 1) ∧ decode cX0_endsMeet 7 = .ok (.bipush 7, 2) ∧ decode cX0_endsMeet 9 = .ok (.imul, 1) ∧ decode cX0_endsMeet 10 = .ok (.bipush 10, 2) ∧ decode cX0_endsMeet 12 = .ok (.idiv, 1) ∧ decode cX0_endsMeet 13 = .ok (.goto 4, 3) ∧ decode cX0_endsMeet 16 = .ok (.iload_n 2, 1) ∧ decode cX0_endsMeet 17 = .ok (.istore 6, 2) ∧ decode cX0_endsMeet 19 = .ok (.iload 5, 2) ∧ decode cX0_endsMeet 21 = .ok (.iconst 1, 1) ∧ decode cX0_endsMeet 22 = .ok (.iand, 1) ∧ decode cX0_endsMeet 23 = .ok (.ifCond .eq 14, 3) := op_29 lk_dX0_endsMeet_0 fun e => op_4 e fun e => op_126 e fun e => op_153p e rfl fun e => op_28 e fun e => op_16p e rfl fun e => op_104 e fun e => op_16p e rfl fun e => op_108 e fun e => op_167p e rfl fun e => op_28 e fun e => op_54 e fun e => op_21 e fun e => op_4 e fun e => op_126 e fun e => (op_153p e rfl fun _ => True.intro).1
theorem dX0_endsMeet_0 : decode cX0_endsMeet 0 = .ok (.iload_n 3, 1) := bl_dX0_endsMeet_0.1
theorem dX0_endsMeet_1 : decode cX0_endsMeet 1 = .ok (.iconst 1, 1) := bl_dX0_endsMeet_0.2.1
theorem dX0_endsMeet_2 : decode cX0_endsMeet 2 = .ok (.iand, 1) := bl_dX0_endsMeet_0.2.2.1
theorem dX0_endsMeet_3 : decode cX0_endsMeet 3 = .ok (.ifCond .eq 13, 3) := bl_dX0_endsMeet_0.2.2.2.1
theorem dX0_endsMeet_6 : decode cX0_endsMeet 6 = .ok (.iload_n 2, 1) := bl_dX0_endsMeet_0.2.2.2.2.1
theorem dX0_endsMeet_7 : decode cX0_endsMeet 7 = .ok (.bipush 7, 2) := bl_dX0_endsMeet_0.2.2.2.2.2.1
theorem dX0_endsMeet_9 : decode cX0_endsMeet 9 = .ok (.imul, 1) := bl_dX0_endsMeet_0.2.2.2.2.2.2.1
theorem dX0_endsMeet_10 : decode cX0_endsMeet 10 = .ok (.bipush 10, 2) := bl_dX0_endsMeet_0.2.2.2.2.2.2.2.1
theorem dX0_endsMeet_12 : decode cX0_endsMeet 12 = .ok (.idiv, 1) := bl_dX0_endsMeet_0.2.2.2.2.2.2.2.2.1
theorem dX0_endsMeet_13 : decode cX0_endsMeet 13 = .ok (.goto 4, 3) := bl_dX0_endsMeet_0.2.2.2.2.2.2.2.2.2.1
theorem dX0_endsMeet_16 : decode cX0_endsMeet 16 = .ok (.iload_n 2, 1) := bl_dX0_endsMeet_0.2.2.2.2.2.2.2.2.2.2.1
theorem dX0_endsMeet_17 : decode cX0_endsMeet 17 = .ok (.istore 6, 2) := bl_dX0_endsMeet_0.2.2.2.2.2.2.2.2.2.2.2.1
theorem dX0_endsMeet_19 : decode cX0_endsMeet 19 = .ok (.iload 5, 2) := bl_dX0_endsMeet_0.2.2.2.2.2.2.2.2.2.2.2.2.1
theorem dX0_endsMeet_21 : decode cX0_endsMeet 21 = .ok (.iconst 1, 1) := bl_dX0_endsMeet_0.2.2.2.2.2.2.2.2.2.2.2.2.2.1
theorem dX0_endsMeet_22 : decode cX0_endsMeet 22 = .ok (.iand, 1) := bl_dX0_endsMeet_0.2.2.2.2.2.2.2.2.2.2.2.2.2.2.1
theorem dX0_endsMeet_23 : decode cX0_endsMeet 23 = .ok (.ifCond .eq 14, 3) := bl_dX0_endsMeet_0.2.2.2.2.2.2.2.2.2.2.2.2.2.2.2
theorem lk_dX0_endsMeet_26 : th_dr cX0_endsMeet 26 = 21 :: 4 :: 16 :: 7 :: 104 :: 16 :: 10 :: 108 :: 167 :: 0 :: 5 :: 21 :: 4 :: 54 :: 7 :: 29 :: 16 :: 7 :: 126 :: 54 :: 8 :: 21 :: 5 :: 16 :: 7 :: 126 :: 54 :: 9 :: th_dr cX0_endsMeet 54 := rfl
theorem bl_dX0_endsMeet_26 : decode cX0_endsMeet 26 = .ok (.iload 4, 2) ∧ decode cX0_endsMeet 28 = .ok (.bipush 7, 2) ∧ decode cX0_endsMeet 30 = .ok (.imul, 1) ∧ decode cX0_endsMeet 31 = .ok (.bipush 10, 2) ∧ decode cX0_endsMeet 33 = .ok (.idiv, 1) ∧ decode cX0_endsMeet 34 = .ok (.goto 5, 3) ∧ decode cX0_endsMeet 37 = .ok (.iload 4, 2) ∧ decode cX0_endsMeet 39 = .ok (.istore 7, 2) ∧ decode cX0_endsMeet 41 = .ok (.iload_n 3, 1) ∧ decode cX0_endsMeet 42 = .ok (.bipush 7, 2) ∧ decode cX0_endsMeet 44 = .ok (.iand, 1) ∧ decode cX0_endsMeet 45 = .ok (.istore 8, 2) ∧ decode cX0_endsMeet 47 = .ok (.iload 5, 2) ∧ decode cX0_endsMeet 49 = .ok (.bipush 7, 2) ∧ decode cX0_endsMeet 51 = .ok (.iand, 1) ∧ decode cX0_endsMeet 52 = .ok (.istore 9, 2) := op_21 lk_dX0_endsMeet_26 fun e => op_16p e rfl fun e => op_104 e fun e => op_16p e rfl fun e => op_108 e fun e => op_167p e rfl fun e => op_21 e fun e => op_54 e fun e => op_29 e fun e => op_16p e rfl fun e => op_126 e fun e => op_54 e fun e => op_21 e fun e => op_16p e rfl fun e => op_126 e fun e => (op_54 e fun _ => True.intro).1
theorem dX0_endsMeet_26 : decode cX0_endsMeet 26 = .ok (.iload 4, 2) := bl_dX0_endsMeet_26.1
theorem dX0_endsMeet_28 : decode cX0_endsMeet 28 = .ok (.bipush 7, 2) := bl_dX0_endsMeet_26.2.1
theorem dX0_endsMeet_30 : decode cX0_endsMeet 30 = .ok (.imul, 1) := bl_dX0_endsMeet_26.2.2.1
theorem dX0_endsMeet_31 : decode cX0_endsMeet 31 = .ok (.bipush 10, 2) := bl_dX0_endsMeet_26.2.2.2.1
theorem dX0_endsMeet_33 : decode cX0_endsMeet 33 = .ok (.idiv, 1) := bl_dX0_endsMeet_26.2.2.2.2.1
theorem dX0_endsMeet_34 : decode cX0_endsMeet 34 = .ok (.goto 5, 3) := bl_dX0_endsMeet_26.2.2.2.2.2.1
theorem dX0_endsMeet_37 : decode cX0_endsMeet 37 = .ok (.iload 4, 2) := bl_dX0_endsMeet_26.2.2.2.2.2.2.1
theorem dX0_endsMeet_39 : decode cX0_endsMeet 39 = .ok (.istore 7, 2) := bl_dX0_endsMeet_26.2.2.2.2.2.2.2.1
theorem dX0_endsMeet_41 : decode cX0_endsMeet 41 = .ok (.iload_n 3, 1) := bl_dX0_endsMeet_26.2.2.2.2.2.2.2.2.1
theorem dX0_endsMeet_42 : decode cX0_endsMeet 42 = .ok (.bipush 7, 2) := bl_dX0_endsMeet_26.2.2.2.2.2.2.2.2.2.1
theorem dX0_endsMeet_44 : decode cX0_endsMeet 44 = .ok (.iand, 1) := bl_dX0_endsMeet_26.2.2.2.2.2.2.2.2.2.2.1
theorem dX0_endsMeet_45 : decode cX0_endsMeet 45 = .ok (.istore 8, 2) := bl_dX0_endsMeet_26.2.2.2.2.2.2.2.2.2.2.2.1
theorem dX0_endsMeet_47 : decode cX0_endsMeet 47 = .ok (.iload 5, 2) := bl_dX0_endsMeet_26.2.2.2.2.2.2.2.2.2.2.2.2.1
theorem dX0_endsMeet_49 : decode cX0_endsMeet 49 = .ok (.bipush 7, 2) := bl_dX0_endsMeet_26.2.2.2.2.2.2.2.2.2.2.2.2.2.1
theorem dX0_endsMeet_51 : decode cX0_endsMeet 51 = .ok (.iand, 1) := bl_dX0_endsMeet_26.2.2.2.2.2.2.2.2.2.2.2.2.2.2.1
theorem dX0_endsMeet_52 : decode cX0_endsMeet 52 = .ok (.istore 9, 2) := bl_dX0_endsMeet_26.2.2.2.2.2.2.2.2.2.2.2.2.2.2.2
set_option maxRecDepth 20000 in
theorem lk_dX0_endsMeet_54 : th_dr cX0_endsMeet 54 = 26 :: 21 :: 7 :: 178 :: 0 :: 159 :: 21 :: 9 :: 46 :: 104 :: 96 :: 21 :: 6 :: 178 :: 0 :: 159 :: 21 :: 8 :: 46 :: 104 :: 100 :: 54 :: 10 :: 27 :: 21 :: 7 :: th_dr cX0_endsMeet 80 := rfl
theorem bl_dX0_endsMeet_54 : decode cX0_endsMeet 54 = .ok (.iload_n 0, 1) ∧ decode cX0_endsMeet 55 = .ok (.iload 7, 2) ∧ decode cX0_endsMeet 57 = .ok (.getstatic 159, 3) ∧ decode cX0_endsMeet 60 = .ok (.iload 9, 2) ∧ decode cX0_endsMeet 62 = .ok (.iaload, 1) ∧ decode cX0_endsMeet 63 = .ok (.imul, 1) ∧ decode cX0_endsMeet 64 = .ok (.iadd, 1) ∧ decode cX0_endsMeet 65 = .ok (.iload 6, 2) ∧ decode cX0_endsMeet 67 = .ok (.getstatic 159, 3) ∧ decode cX0_endsMeet 70 = .ok (.iload 8, 2) ∧ decode cX0_endsMeet 72 = .ok (.iaload, 1) ∧ decode cX0_endsMeet 73 = .ok (.imul, 1) ∧ decode cX0_endsMeet 74 = .ok (.isub, 1) ∧ decode cX0_endsMeet 75 = .ok (.istore 10, 2) ∧ decode cX0_endsMeet 77 = .ok (.iload_n 1, 1) ∧ decode cX0_endsMeet 78 = .ok (.iload 7, 2) := op_26 lk_dX0_endsMeet_54 fun e => op_21 e fun e => op_178 e fun e => op_21 e fun e => op_46 e fun e => op_104 e fun e => op_96 e fun e => op_21 e fun e => op_178 e fun e => op_21 e fun e => op_46 e fun e => op_104 e fun e => op_100 e fun e => op_54 e fun e => op_27 e fun e => (op_21 e fun _ => True.intro).1
theorem dX0_endsMeet_54 : decode cX0_endsMeet 54 = .ok (.iload_n 0, 1) := bl_dX0_endsMeet_54.1
theorem dX0_endsMeet_55 : decode cX0_endsMeet 55 = .ok (.iload 7, 2) := bl_dX0_endsMeet_54.2.1
theorem dX0_endsMeet_57 : decode cX0_endsMeet 57 = .ok (.getstatic 159, 3) := bl_dX0_endsMeet_54.2.2.1
theorem dX0_endsMeet_60 : decode cX0_endsMeet 60 = .ok (.iload 9, 2) := bl_dX0_endsMeet_54.2.2.2.1
theorem dX0_endsMeet_62 : decode cX0_endsMeet 62 = .ok (.iaload, 1) := bl_dX0_endsMeet_54.2.2.2.2.1
theorem dX0_endsMeet_63 : decode cX0_endsMeet 63 = .ok (.imul, 1) := bl_dX0_endsMeet_54.2.2.2.2.2.1
theorem dX0_endsMeet_64 : decode cX0_endsMeet 64 = .ok (.iadd, 1) := bl_dX0_endsMeet_54.2.2.2.2.2.2.1
theorem dX0_endsMeet_65 : decode cX0_endsMeet 65 = .ok (.iload 6, 2) := bl_dX0_endsMeet_54.2.2.2.2.2.2.2.1
theorem dX0_endsMeet_67 : decode cX0_endsMeet 67 = .ok (.getstatic 159, 3) := bl_dX0_endsMeet_54.2.2.2.2.2.2.2.2.1
theorem dX0_endsMeet_70 : decode cX0_endsMeet 70 = .ok (.iload 8, 2) := bl_dX0_endsMeet_54.2.2.2.2.2.2.2.2.2.1
theorem dX0_endsMeet_72 : decode cX0_endsMeet 72 = .ok (.iaload, 1) := bl_dX0_endsMeet_54.2.2.2.2.2.2.2.2.2.2.1
theorem dX0_endsMeet_73 : decode cX0_endsMeet 73 = .ok (.imul, 1) := bl_dX0_endsMeet_54.2.2.2.2.2.2.2.2.2.2.2.1
theorem dX0_endsMeet_74 : decode cX0_endsMeet 74 = .ok (.isub, 1) := bl_dX0_endsMeet_54.2.2.2.2.2.2.2.2.2.2.2.2.1
theorem dX0_endsMeet_75 : decode cX0_endsMeet 75 = .ok (.istore 10, 2) := bl_dX0_endsMeet_54.2.2.2.2.2.2.2.2.2.2.2.2.2.1
theorem dX0_endsMeet_77 : decode cX0_endsMeet 77 = .ok (.iload_n 1, 1) := bl_dX0_endsMeet_54.2.2.2.2.2.2.2.2.2.2.2.2.2.2.1
theorem dX0_endsMeet_78 : decode cX0_endsMeet 78 = .ok (.iload 7, 2) := bl_dX0_endsMeet_54.2.2.2.2.2.2.2.2.2.2.2.2.2.2.2
set_option maxRecDepth 20000 in
theorem lk_dX0_endsMeet_80 : th_dr cX0_endsMeet 80 = 178 :: 0 :: 162 :: 21 :: 9 :: 46 :: 104 :: 96 :: 21 :: 6 :: 178 :: 0 :: 162 :: 21 :: 8 :: 46 :: 104 :: 100 :: 54 :: 11 :: 21 :: 10 :: 16 :: 20 :: 162 :: 0 :: 28 :: 21 :: 10 :: th_dr cX0_endsMeet 109 := rfl
theorem bl_dX0_endsMeet_80 : decode cX0_endsMeet 80 = .ok (.getstatic 162, 3) ∧ decode cX0_endsMeet 83 = .ok (.iload 9, 2) ∧ decode cX0_endsMeet 85 = .ok (.iaload, 1) ∧ decode cX0_endsMeet 86 = .ok (.imul, 1) ∧ decode cX0_endsMeet 87 = .ok (.iadd, 1) ∧ decode cX0_endsMeet 88 = .ok (.iload 6, 2) ∧ decode cX0_endsMeet 90 = .ok (.getstatic 162, 3) ∧ decode cX0_endsMeet 93 = .ok (.iload 8, 2) ∧ decode cX0_endsMeet 95 = .ok (.iaload, 1) ∧ decode cX0_endsMeet 96 = .ok (.imul, 1) ∧ decode cX0_endsMeet 97 = .ok (.isub, 1) ∧ decode cX0_endsMeet 98 = .ok (.istore 11, 2) ∧ decode cX0_endsMeet 100 = .ok (.iload 10, 2) ∧ decode cX0_endsMeet 102 = .ok (.bipush 20, 2) ∧ decode cX0_endsMeet 104 = .ok (.if_icmp .ge 28, 3) ∧ decode cX0_endsMeet 107 = .ok (.iload 10, 2) := op_178 lk_dX0_endsMeet_80 fun e => op_21 e fun e => op_46 e fun e => op_104 e fun e => op_96 e fun e => op_21 e fun e => op_178 e fun e => op_21 e fun e => op_46 e fun e => op_104 e fun e => op_100 e fun e => op_54 e fun e => op_21 e fun e => op_16p e rfl fun e => op_162p e rfl fun e => (op_21 e fun _ => True.intro).1
theorem dX0_endsMeet_80 : decode cX0_endsMeet 80 = .ok (.getstatic 162, 3) := bl_dX0_endsMeet_80.1
theorem dX0_endsMeet_83 : decode cX0_endsMeet 83 = .ok (.iload 9, 2) := bl_dX0_endsMeet_80.2.1
theorem dX0_endsMeet_85 : decode cX0_endsMeet 85 = .ok (.iaload, 1) := bl_dX0_endsMeet_80.2.2.1
theorem dX0_endsMeet_86 : decode cX0_endsMeet 86 = .ok (.imul, 1) := bl_dX0_endsMeet_80.2.2.2.1
theorem dX0_endsMeet_87 : decode cX0_endsMeet 87 = .ok (.iadd, 1) := bl_dX0_endsMeet_80.2.2.2.2.1
theorem dX0_endsMeet_88 : decode cX0_endsMeet 88 = .ok (.iload 6, 2) := bl_dX0_endsMeet_80.2.2.2.2.2.1
theorem dX0_endsMeet_90 : decode cX0_endsMeet 90 = .ok (.getstatic 162, 3) := bl_dX0_endsMeet_80.2.2.2.2.2.2.1
theorem dX0_endsMeet_93 : decode cX0_endsMeet 93 = .ok (.iload 8, 2) := bl_dX0_endsMeet_80.2.2.2.2.2.2.2.1
theorem dX0_endsMeet_95 : decode cX0_endsMeet 95 = .ok (.iaload, 1) := bl_dX0_endsMeet_80.2.2.2.2.2.2.2.2.1
theorem dX0_endsMeet_96 : decode cX0_endsMeet 96 = .ok (.imul, 1) := bl_dX0_endsMeet_80.2.2.2.2.2.2.2.2.2.1
theorem dX0_endsMeet_97 : decode cX0_endsMeet 97 = .ok (.isub, 1) := bl_dX0_endsMeet_80.2.2.2.2.2.2.2.2.2.2.1
theorem dX0_endsMeet_98 : decode cX0_endsMeet 98 = .ok (.istore 11, 2) := bl_dX0_endsMeet_80.2.2.2.2.2.2.2.2.2.2.2.1
theorem dX0_endsMeet_100 : decode cX0_endsMeet 100 = .ok (.iload 10, 2) := bl_dX0_endsMeet_80.2.2.2.2.2.2.2.2.2.2.2.2.1
theorem dX0_endsMeet_102 : decode cX0_endsMeet 102 = .ok (.bipush 20, 2) := bl_dX0_endsMeet_80.2.2.2.2.2.2.2.2.2.2.2.2.2.1
theorem dX0_endsMeet_104 : decode cX0_endsMeet 104 = .ok (.if_icmp .ge 28, 3) := bl_dX0_endsMeet_80.2.2.2.2.2.2.2.2.2.2.2.2.2.2.1
theorem dX0_endsMeet_107 : decode cX0_endsMeet 107 = .ok (.iload 10, 2) := bl_dX0_endsMeet_80.2.2.2.2.2.2.2.2.2.2.2.2.2.2.2
set_option maxRecDepth 20000 in
theorem lk_dX0_endsMeet_109 : th_dr cX0_endsMeet 109 = 16 :: 236 :: 164 :: 0 :: 21 :: 21 :: 11 :: 16 :: 20 :: 162 :: 0 :: 14 :: 21 :: 11 :: 16 :: 236 :: 164 :: 0 :: 7 :: 4 :: 167 :: 0 :: 4 :: 3 :: 172 :: th_dr cX0_endsMeet 134 := rfl
theorem bl_dX0_endsMeet_109 : decode cX0_endsMeet 109 = .ok (.bipush (-20), 2) ∧ decode cX0_endsMeet 111 = .ok (.if_icmp .le 21, 3) ∧ decode cX0_endsMeet 114 = .ok (.iload 11, 2) ∧ decode cX0_endsMeet 116 = .ok (.bipush 20, 2) ∧ decode cX0_endsMeet 118 = .ok (.if_icmp .ge 14, 3) ∧ decode cX0_endsMeet 121 = .ok (.iload 11, 2) ∧ decode cX0_endsMeet 123 = .ok (.bipush (-20), 2) ∧ decode cX0_endsMeet 125 = .ok (.if_icmp .le 7, 3) ∧ decode cX0_endsMeet 128 = .ok (.iconst 1, 1) ∧ decode cX0_endsMeet 129 = .ok (.goto 4, 3) ∧ decode cX0_endsMeet 132 = .ok (.iconst 0, 1) ∧ decode cX0_endsMeet 133 = .ok (.ireturn, 1) := op_16n lk_dX0_endsMeet_109 rfl rfl fun e => op_164p e rfl fun e => op_21 e fun e => op_16p e rfl fun e => op_162p e rfl fun e => op_21 e fun e => op_16n e rfl rfl fun e => op_164p e rfl fun e => op_4 e fun e => op_167p e rfl fun e => op_3 e fun e => (op_172 e fun _ => True.intro).1
theorem dX0_endsMeet_109 : decode cX0_endsMeet 109 = .ok (.bipush (-20), 2) := bl_dX0_endsMeet_109.1
theorem dX0_endsMeet_111 : decode cX0_endsMeet 111 = .ok (.if_icmp .le 21, 3) := bl_dX0_endsMeet_109.2.1
theorem dX0_endsMeet_114 : decode cX0_endsMeet 114 = .ok (.iload 11, 2) := bl_dX0_endsMeet_109.2.2.1
theorem dX0_endsMeet_116 : decode cX0_endsMeet 116 = .ok (.bipush 20, 2) := bl_dX0_endsMeet_109.2.2.2.1
theorem dX0_endsMeet_118 : decode cX0_endsMeet 118 = .ok (.if_icmp .ge 14, 3) := bl_dX0_endsMeet_109.2.2.2.2.1
theorem dX0_endsMeet_121 : decode cX0_endsMeet 121 = .ok (.iload 11, 2) := bl_dX0_endsMeet_109.2.2.2.2.2.1
theorem dX0_endsMeet_123 : decode cX0_endsMeet 123 = .ok (.bipush (-20), 2) := bl_dX0_endsMeet_109.2.2.2.2.2.2.1
theorem dX0_endsMeet_125 : decode cX0_endsMeet 125 = .ok (.if_icmp .le 7, 3) := bl_dX0_endsMeet_109.2.2.2.2.2.2.2.1
theorem dX0_endsMeet_128 : decode cX0_endsMeet 128 = .ok (.iconst 1, 1) := bl_dX0_endsMeet_109.2.2.2.2.2.2.2.2.1
theorem dX0_endsMeet_129 : decode cX0_endsMeet 129 = .ok (.goto 4, 3) := bl_dX0_endsMeet_109.2.2.2.2.2.2.2.2.2.1
theorem dX0_endsMeet_132 : decode cX0_endsMeet 132 = .ok (.iconst 0, 1) := bl_dX0_endsMeet_109.2.2.2.2.2.2.2.2.2.2.1
theorem dX0_endsMeet_133 : decode cX0_endsMeet 133 = .ok (.ireturn, 1) := bl_dX0_endsMeet_109.2.2.2.2.2.2.2.2.2.2.2
set_option maxRecDepth 20000 in
theorem ggX0_anyLies_X1_buoyOf : GoodIn wsX0_anyLies wsX1_buoyOf := goodIn_q _ [(7, 5), (21, 2)] rfl gdwsX1_buoyOf
set_option maxRecDepth 20000 in
theorem gX0_anyLies_X1_buoyOf : GoodIn wsX0_anyLies (wsV RX0 123 RX1 yX1_buoyOf wsX1_buoyOf) := goodIn_app (goodIn_q _ [(3, 4)] rfl rfl) ggX0_anyLies_X1_buoyOf
theorem lk_dX0_anyLies_0 : th_dr cX0_anyLies 0 = 3 :: 61 :: 28 :: 42 :: 180 :: 0 :: 42 :: 162 :: 0 :: 31 :: 27 :: 28 :: 122 :: 4 :: 126 :: 153 :: 0 :: 17 :: 42 :: 180 :: 0 :: 34 :: 28 :: 182 :: 0 :: 123 :: th_dr cX0_anyLies 26 := rfl
theorem bl_dX0_anyLies_0 : decode cX0_anyLies 0 = .ok (.iconst 0, 1) ∧ decode cX0_anyLies 1 = .ok (.istore_n 2, 1) ∧ decode cX0_anyLies 2 = .ok (.iload_n 2, 1) ∧ decode cX0_anyLies 3 = .ok (.aload_n 0, 1) ∧ decode cX0_anyLies 4 = .ok (.getfield 42, 3) ∧ decode cX0_anyLies 7 = .ok (.if_icmp .ge 31, 3) ∧ decode cX0_anyLies 10 = .ok (.iload_n 1, 1) ∧ decode cX0_anyLies 11 = .ok (.iload_n 2, 1) ∧ decode cX0_anyLies 12 = .ok (.ishr, 1) ∧ decode cX0_anyLies 13 = .ok (.iconst 1, 1) ∧ decode cX0_anyLies 14 = .ok (.iand, 1) ∧ decode cX0_anyLies 15 = .ok (.ifCond .eq 17, 3) ∧ decode cX0_anyLies 18 = .ok (.aload_n 0, 1) ∧ decode cX0_anyLies 19 = .ok (.getfield 34, 3) ∧ decode cX0_anyLies 22 = .ok (.iload_n 2, 1) ∧ decode cX0_anyLies 23 = .ok (.invokevirtual 123, 3) := op_3 lk_dX0_anyLies_0 fun e => op_61 e fun e => op_28 e fun e => op_42 e fun e => op_180 e fun e => op_162p e rfl fun e => op_27 e fun e => op_28 e fun e => op_122 e fun e => op_4 e fun e => op_126 e fun e => op_153p e rfl fun e => op_42 e fun e => op_180 e fun e => op_28 e fun e => (op_182 e fun _ => True.intro).1
theorem dX0_anyLies_0 : decode cX0_anyLies 0 = .ok (.iconst 0, 1) := bl_dX0_anyLies_0.1
theorem dX0_anyLies_1 : decode cX0_anyLies 1 = .ok (.istore_n 2, 1) := bl_dX0_anyLies_0.2.1
theorem dX0_anyLies_2 : decode cX0_anyLies 2 = .ok (.iload_n 2, 1) := bl_dX0_anyLies_0.2.2.1
theorem dX0_anyLies_3 : decode cX0_anyLies 3 = .ok (.aload_n 0, 1) := bl_dX0_anyLies_0.2.2.2.1
theorem dX0_anyLies_4 : decode cX0_anyLies 4 = .ok (.getfield 42, 3) := bl_dX0_anyLies_0.2.2.2.2.1
theorem dX0_anyLies_7 : decode cX0_anyLies 7 = .ok (.if_icmp .ge 31, 3) := bl_dX0_anyLies_0.2.2.2.2.2.1
theorem dX0_anyLies_10 : decode cX0_anyLies 10 = .ok (.iload_n 1, 1) := bl_dX0_anyLies_0.2.2.2.2.2.2.1
theorem dX0_anyLies_11 : decode cX0_anyLies 11 = .ok (.iload_n 2, 1) := bl_dX0_anyLies_0.2.2.2.2.2.2.2.1
theorem dX0_anyLies_12 : decode cX0_anyLies 12 = .ok (.ishr, 1) := bl_dX0_anyLies_0.2.2.2.2.2.2.2.2.1
theorem dX0_anyLies_13 : decode cX0_anyLies 13 = .ok (.iconst 1, 1) := bl_dX0_anyLies_0.2.2.2.2.2.2.2.2.2.1
theorem dX0_anyLies_14 : decode cX0_anyLies 14 = .ok (.iand, 1) := bl_dX0_anyLies_0.2.2.2.2.2.2.2.2.2.2.1
theorem dX0_anyLies_15 : decode cX0_anyLies 15 = .ok (.ifCond .eq 17, 3) := bl_dX0_anyLies_0.2.2.2.2.2.2.2.2.2.2.2.1
theorem dX0_anyLies_18 : decode cX0_anyLies 18 = .ok (.aload_n 0, 1) := bl_dX0_anyLies_0.2.2.2.2.2.2.2.2.2.2.2.2.1
theorem dX0_anyLies_19 : decode cX0_anyLies 19 = .ok (.getfield 34, 3) := bl_dX0_anyLies_0.2.2.2.2.2.2.2.2.2.2.2.2.2.1
theorem dX0_anyLies_22 : decode cX0_anyLies 22 = .ok (.iload_n 2, 1) := bl_dX0_anyLies_0.2.2.2.2.2.2.2.2.2.2.2.2.2.2.1
theorem dX0_anyLies_23 : decode cX0_anyLies 23 = .ok (.invokevirtual 123, 3) := bl_dX0_anyLies_0.2.2.2.2.2.2.2.2.2.2.2.2.2.2.2
theorem lk_dX0_anyLies_26 : th_dr cX0_anyLies 26 = 2 :: 159 :: 0 :: 5 :: 4 :: 172 :: 132 :: 2 :: 1 :: 167 :: 255 :: 223 :: 3 :: 172 :: th_dr cX0_anyLies 40 := rfl
theorem bl_dX0_anyLies_26 : decode cX0_anyLies 26 = .ok (.iconst (-1), 1) ∧ decode cX0_anyLies 27 = .ok (.if_icmp .eq 5, 3) ∧ decode cX0_anyLies 30 = .ok (.iconst 1, 1) ∧ decode cX0_anyLies 31 = .ok (.ireturn, 1) ∧ decode cX0_anyLies 32 = .ok (.iinc 2 1, 3) ∧ decode cX0_anyLies 35 = .ok (.goto (-33), 3) ∧ decode cX0_anyLies 38 = .ok (.iconst 0, 1) ∧ decode cX0_anyLies 39 = .ok (.ireturn, 1) := op_2 lk_dX0_anyLies_26 fun e => op_159p e rfl fun e => op_4 e fun e => op_172 e fun e => op_132p e rfl fun e => op_167n e rfl rfl fun e => op_3 e fun e => (op_172 e fun _ => True.intro).1
theorem dX0_anyLies_26 : decode cX0_anyLies 26 = .ok (.iconst (-1), 1) := bl_dX0_anyLies_26.1
theorem dX0_anyLies_27 : decode cX0_anyLies 27 = .ok (.if_icmp .eq 5, 3) := bl_dX0_anyLies_26.2.1
theorem dX0_anyLies_30 : decode cX0_anyLies 30 = .ok (.iconst 1, 1) := bl_dX0_anyLies_26.2.2.1
theorem dX0_anyLies_31 : decode cX0_anyLies 31 = .ok (.ireturn, 1) := bl_dX0_anyLies_26.2.2.2.1
theorem dX0_anyLies_32 : decode cX0_anyLies 32 = .ok (.iinc 2 1, 3) := bl_dX0_anyLies_26.2.2.2.2.1
theorem dX0_anyLies_35 : decode cX0_anyLies 35 = .ok (.goto (-33), 3) := bl_dX0_anyLies_26.2.2.2.2.2.1
theorem dX0_anyLies_38 : decode cX0_anyLies 38 = .ok (.iconst 0, 1) := bl_dX0_anyLies_26.2.2.2.2.2.2.1
theorem dX0_anyLies_39 : decode cX0_anyLies 39 = .ok (.ireturn, 1) := bl_dX0_anyLies_26.2.2.2.2.2.2.2
set_option maxRecDepth 20000 in
theorem ggX0_lyingBoats_X1_buoyOf : GoodIn wsX0_lyingBoats wsX1_buoyOf := goodIn_q _ [(7, 5), (21, 2)] rfl gdwsX1_buoyOf
set_option maxRecDepth 20000 in
theorem gX0_lyingBoats_X1_buoyOf : GoodIn wsX0_lyingBoats (wsV RX0 123 RX1 yX1_buoyOf wsX1_buoyOf) := goodIn_app (goodIn_q _ [(3, 4)] rfl rfl) ggX0_lyingBoats_X1_buoyOf
theorem lk_dX0_lyingBoats_0 : th_dr cX0_lyingBoats 0 = 3 :: 60 :: 3 :: 61 :: 28 :: 42 :: 180 :: 0 :: 42 :: 162 :: 0 :: 24 :: 42 :: 180 :: 0 :: 34 :: 28 :: 182 :: 0 :: 123 :: 2 :: 159 :: 0 :: 6 :: 132 :: 1 :: 1 :: 132 :: 2 :: 1 :: th_dr cX0_lyingBoats 30 := rfl
theorem bl_dX0_lyingBoats_0 : decode cX0_lyingBoats 0 = .ok (.iconst 0, 1) ∧ decode cX0_lyingBoats 1 = .ok (.istore_n 1, 1) ∧ decode cX0_lyingBoats 2 = .ok (.iconst 0, 1) ∧ decode cX0_lyingBoats 3 = .ok (.istore_n 2, 1) ∧ decode cX0_lyingBoats 4 = .ok (.iload_n 2, 1) ∧ decode cX0_lyingBoats 5 = .ok (.aload_n 0, 1) ∧ decode cX0_lyingBoats 6 = .ok (.getfield 42, 3) ∧ decode cX0_lyingBoats 9 = .ok (.if_icmp .ge 24, 3) ∧ decode cX0_lyingBoats 12 = .ok (.aload_n 0, 1) ∧ decode cX0_lyingBoats 13 = .ok (.getfield 34, 3) ∧ decode cX0_lyingBoats 16 = .ok (.iload_n 2, 1) ∧ decode cX0_lyingBoats 17 = .ok (.invokevirtual 123, 3) ∧ decode cX0_lyingBoats 20 = .ok (.iconst (-1), 1) ∧ decode cX0_lyingBoats 21 = .ok (.if_icmp .eq 6, 3) ∧ decode cX0_lyingBoats 24 = .ok (.iinc 1 1, 3) ∧ decode cX0_lyingBoats 27 = .ok (.iinc 2 1, 3) := op_3 lk_dX0_lyingBoats_0 fun e => op_60 e fun e => op_3 e fun e => op_61 e fun e => op_28 e fun e => op_42 e fun e => op_180 e fun e => op_162p e rfl fun e => op_42 e fun e => op_180 e fun e => op_28 e fun e => op_182 e fun e => op_2 e fun e => op_159p e rfl fun e => op_132p e rfl fun e => (op_132p e rfl fun _ => True.intro).1
theorem dX0_lyingBoats_0 : decode cX0_lyingBoats 0 = .ok (.iconst 0, 1) := bl_dX0_lyingBoats_0.1
theorem dX0_lyingBoats_1 : decode cX0_lyingBoats 1 = .ok (.istore_n 1, 1) := bl_dX0_lyingBoats_0.2.1
theorem dX0_lyingBoats_2 : decode cX0_lyingBoats 2 = .ok (.iconst 0, 1) := bl_dX0_lyingBoats_0.2.2.1
theorem dX0_lyingBoats_3 : decode cX0_lyingBoats 3 = .ok (.istore_n 2, 1) := bl_dX0_lyingBoats_0.2.2.2.1
theorem dX0_lyingBoats_4 : decode cX0_lyingBoats 4 = .ok (.iload_n 2, 1) := bl_dX0_lyingBoats_0.2.2.2.2.1
theorem dX0_lyingBoats_5 : decode cX0_lyingBoats 5 = .ok (.aload_n 0, 1) := bl_dX0_lyingBoats_0.2.2.2.2.2.1
theorem dX0_lyingBoats_6 : decode cX0_lyingBoats 6 = .ok (.getfield 42, 3) := bl_dX0_lyingBoats_0.2.2.2.2.2.2.1
theorem dX0_lyingBoats_9 : decode cX0_lyingBoats 9 = .ok (.if_icmp .ge 24, 3) := bl_dX0_lyingBoats_0.2.2.2.2.2.2.2.1
theorem dX0_lyingBoats_12 : decode cX0_lyingBoats 12 = .ok (.aload_n 0, 1) := bl_dX0_lyingBoats_0.2.2.2.2.2.2.2.2.1
theorem dX0_lyingBoats_13 : decode cX0_lyingBoats 13 = .ok (.getfield 34, 3) := bl_dX0_lyingBoats_0.2.2.2.2.2.2.2.2.2.1
theorem dX0_lyingBoats_16 : decode cX0_lyingBoats 16 = .ok (.iload_n 2, 1) := bl_dX0_lyingBoats_0.2.2.2.2.2.2.2.2.2.2.1
theorem dX0_lyingBoats_17 : decode cX0_lyingBoats 17 = .ok (.invokevirtual 123, 3) := bl_dX0_lyingBoats_0.2.2.2.2.2.2.2.2.2.2.2.1
theorem dX0_lyingBoats_20 : decode cX0_lyingBoats 20 = .ok (.iconst (-1), 1) := bl_dX0_lyingBoats_0.2.2.2.2.2.2.2.2.2.2.2.2.1
theorem dX0_lyingBoats_21 : decode cX0_lyingBoats 21 = .ok (.if_icmp .eq 6, 3) := bl_dX0_lyingBoats_0.2.2.2.2.2.2.2.2.2.2.2.2.2.1
theorem dX0_lyingBoats_24 : decode cX0_lyingBoats 24 = .ok (.iinc 1 1, 3) := bl_dX0_lyingBoats_0.2.2.2.2.2.2.2.2.2.2.2.2.2.2.1
theorem dX0_lyingBoats_27 : decode cX0_lyingBoats 27 = .ok (.iinc 2 1, 3) := bl_dX0_lyingBoats_0.2.2.2.2.2.2.2.2.2.2.2.2.2.2.2
theorem lk_dX0_lyingBoats_30 : th_dr cX0_lyingBoats 30 = 167 :: 255 :: 230 :: 27 :: 172 :: th_dr cX0_lyingBoats 35 := rfl
theorem bl_dX0_lyingBoats_30 : decode cX0_lyingBoats 30 = .ok (.goto (-26), 3) ∧ decode cX0_lyingBoats 33 = .ok (.iload_n 1, 1) ∧ decode cX0_lyingBoats 34 = .ok (.ireturn, 1) := op_167n lk_dX0_lyingBoats_30 rfl rfl fun e => op_27 e fun e => (op_172 e fun _ => True.intro).1
theorem dX0_lyingBoats_30 : decode cX0_lyingBoats 30 = .ok (.goto (-26), 3) := bl_dX0_lyingBoats_30.1
theorem dX0_lyingBoats_33 : decode cX0_lyingBoats 33 = .ok (.iload_n 1, 1) := bl_dX0_lyingBoats_30.2.1
theorem dX0_lyingBoats_34 : decode cX0_lyingBoats 34 = .ok (.ireturn, 1) := bl_dX0_lyingBoats_30.2.2
set_option maxRecDepth 20000 in
theorem ggX0_dropWishes_X0_boatAt : GoodIn wsX0_dropWishes wsX0_boatAt := goodIn_q _ [(7, 1), (1, 1), (8, 13)] rfl gdwsX0_boatAt
set_option maxRecDepth 20000 in
theorem gX0_dropWishes_X0_boatAt : GoodIn wsX0_dropWishes (wsV RX0 119 RX0 yX0_boatAt wsX0_boatAt) := goodIn_app (goodIn_q _ [(3, 4)] rfl rfl) ggX0_dropWishes_X0_boatAt
theorem lk_dX0_dropWishes_0 : th_dr cX0_dropWishes 0 = 3 :: 60 :: 27 :: 42 :: 180 :: 0 :: 42 :: 162 :: 0 :: 24 :: 42 :: 27 :: 182 :: 0 :: 119 :: 77 :: 44 :: 198 :: 0 :: 8 :: 44 :: 3 :: 181 :: 0 :: 165 :: 132 :: 1 :: 1 :: th_dr cX0_dropWishes 28 := rfl
theorem bl_dX0_dropWishes_0 : decode cX0_dropWishes 0 = .ok (.iconst 0, 1) ∧ decode cX0_dropWishes 1 = .ok (.istore_n 1, 1) ∧ decode cX0_dropWishes 2 = .ok (.iload_n 1, 1) ∧ decode cX0_dropWishes 3 = .ok (.aload_n 0, 1) ∧ decode cX0_dropWishes 4 = .ok (.getfield 42, 3) ∧ decode cX0_dropWishes 7 = .ok (.if_icmp .ge 24, 3) ∧ decode cX0_dropWishes 10 = .ok (.aload_n 0, 1) ∧ decode cX0_dropWishes 11 = .ok (.iload_n 1, 1) ∧ decode cX0_dropWishes 12 = .ok (.invokevirtual 119, 3) ∧ decode cX0_dropWishes 15 = .ok (.astore_n 2, 1) ∧ decode cX0_dropWishes 16 = .ok (.aload_n 2, 1) ∧ decode cX0_dropWishes 17 = .ok (.ifnull 8, 3) ∧ decode cX0_dropWishes 20 = .ok (.aload_n 2, 1) ∧ decode cX0_dropWishes 21 = .ok (.iconst 0, 1) ∧ decode cX0_dropWishes 22 = .ok (.putfield 165, 3) ∧ decode cX0_dropWishes 25 = .ok (.iinc 1 1, 3) := op_3 lk_dX0_dropWishes_0 fun e => op_60 e fun e => op_27 e fun e => op_42 e fun e => op_180 e fun e => op_162p e rfl fun e => op_42 e fun e => op_27 e fun e => op_182 e fun e => op_77 e fun e => op_44 e fun e => op_198p e rfl fun e => op_44 e fun e => op_3 e fun e => op_181 e fun e => (op_132p e rfl fun _ => True.intro).1
theorem dX0_dropWishes_0 : decode cX0_dropWishes 0 = .ok (.iconst 0, 1) := bl_dX0_dropWishes_0.1
theorem dX0_dropWishes_1 : decode cX0_dropWishes 1 = .ok (.istore_n 1, 1) := bl_dX0_dropWishes_0.2.1
theorem dX0_dropWishes_2 : decode cX0_dropWishes 2 = .ok (.iload_n 1, 1) := bl_dX0_dropWishes_0.2.2.1
theorem dX0_dropWishes_3 : decode cX0_dropWishes 3 = .ok (.aload_n 0, 1) := bl_dX0_dropWishes_0.2.2.2.1
theorem dX0_dropWishes_4 : decode cX0_dropWishes 4 = .ok (.getfield 42, 3) := bl_dX0_dropWishes_0.2.2.2.2.1
theorem dX0_dropWishes_7 : decode cX0_dropWishes 7 = .ok (.if_icmp .ge 24, 3) := bl_dX0_dropWishes_0.2.2.2.2.2.1
theorem dX0_dropWishes_10 : decode cX0_dropWishes 10 = .ok (.aload_n 0, 1) := bl_dX0_dropWishes_0.2.2.2.2.2.2.1
theorem dX0_dropWishes_11 : decode cX0_dropWishes 11 = .ok (.iload_n 1, 1) := bl_dX0_dropWishes_0.2.2.2.2.2.2.2.1
theorem dX0_dropWishes_12 : decode cX0_dropWishes 12 = .ok (.invokevirtual 119, 3) := bl_dX0_dropWishes_0.2.2.2.2.2.2.2.2.1
theorem dX0_dropWishes_15 : decode cX0_dropWishes 15 = .ok (.astore_n 2, 1) := bl_dX0_dropWishes_0.2.2.2.2.2.2.2.2.2.1
theorem dX0_dropWishes_16 : decode cX0_dropWishes 16 = .ok (.aload_n 2, 1) := bl_dX0_dropWishes_0.2.2.2.2.2.2.2.2.2.2.1
theorem dX0_dropWishes_17 : decode cX0_dropWishes 17 = .ok (.ifnull 8, 3) := bl_dX0_dropWishes_0.2.2.2.2.2.2.2.2.2.2.2.1
theorem dX0_dropWishes_20 : decode cX0_dropWishes 20 = .ok (.aload_n 2, 1) := bl_dX0_dropWishes_0.2.2.2.2.2.2.2.2.2.2.2.2.1
theorem dX0_dropWishes_21 : decode cX0_dropWishes 21 = .ok (.iconst 0, 1) := bl_dX0_dropWishes_0.2.2.2.2.2.2.2.2.2.2.2.2.2.1
theorem dX0_dropWishes_22 : decode cX0_dropWishes 22 = .ok (.putfield 165, 3) := bl_dX0_dropWishes_0.2.2.2.2.2.2.2.2.2.2.2.2.2.2.1
theorem dX0_dropWishes_25 : decode cX0_dropWishes 25 = .ok (.iinc 1 1, 3) := bl_dX0_dropWishes_0.2.2.2.2.2.2.2.2.2.2.2.2.2.2.2
theorem lk_dX0_dropWishes_28 : th_dr cX0_dropWishes 28 = 167 :: 255 :: 230 :: 177 :: th_dr cX0_dropWishes 32 := rfl
theorem bl_dX0_dropWishes_28 : decode cX0_dropWishes 28 = .ok (.goto (-26), 3) ∧ decode cX0_dropWishes 31 = .ok (.return_, 1) := op_167n lk_dX0_dropWishes_28 rfl rfl fun e => (op_177 e fun _ => True.intro).1
theorem dX0_dropWishes_28 : decode cX0_dropWishes 28 = .ok (.goto (-26), 3) := bl_dX0_dropWishes_28.1
theorem dX0_dropWishes_31 : decode cX0_dropWishes 31 = .ok (.return_, 1) := bl_dX0_dropWishes_28.2
set_option maxRecDepth 20000 in
theorem ggX0_passYear_X0_buoyAt : GoodIn wsX0_passYear wsX0_buoyAt := goodIn_q _ [(8, 1), (1, 1), (9, 4), (36, 9)] rfl gdwsX0_buoyAt
set_option maxRecDepth 20000 in
theorem gX0_passYear_X0_buoyAt : GoodIn wsX0_passYear (wsV RX0 81 RX0 yX0_buoyAt wsX0_buoyAt) := goodIn_app (goodIn_q _ [(4, 4)] rfl rfl) ggX0_passYear_X0_buoyAt
set_option maxRecDepth 20000 in
theorem ggX0_passYear_X1_boatOf : GoodIn wsX0_passYear wsX1_boatOf := goodIn_q _ [(17, 2), (10, 3), (63, 2)] rfl gdwsX1_boatOf
set_option maxRecDepth 20000 in
theorem gX0_passYear_X1_boatOf : GoodIn wsX0_passYear (wsV RX0 110 RX1 yX1_boatOf wsX1_boatOf) := goodIn_app (goodIn_q _ [(13, 4)] rfl rfl) ggX0_passYear_X1_boatOf
set_option maxRecDepth 20000 in
theorem ggX0_passYear_X0_boatAt : GoodIn wsX0_passYear wsX0_boatAt := goodIn_q _ [(22, 3), (10, 3), (36, 9)] rfl gdwsX0_boatAt
set_option maxRecDepth 20000 in
theorem gX0_passYear_X0_boatAt : GoodIn wsX0_passYear (wsV RX0 119 RX0 yX0_boatAt wsX0_boatAt) := goodIn_app (goodIn_q _ [(19, 3), (7, 1)] rfl rfl) ggX0_passYear_X0_boatAt
set_option maxRecDepth 20000 in
theorem gdwsX3_wear : wsX3_wear.all goodWord = true := by decide +kernel
set_option maxRecDepth 20000 in
theorem ggX0_passYear_X3_wear : GoodIn wsX0_passYear wsX3_wear := goodIn_q _ [(29, 7), (65, 8)] rfl gdwsX3_wear
set_option maxRecDepth 20000 in
theorem gX0_passYear_X3_wear : GoodIn wsX0_passYear (wsV RX0 168 RX3 yX3_wear wsX3_wear) := goodIn_app (goodIn_q _ [(25, 4)] rfl rfl) ggX0_passYear_X3_wear
theorem lk_dX0_passYear_0 : th_dr cX0_passYear 0 = 3 :: 60 :: 27 :: 42 :: 180 :: 0 :: 38 :: 162 :: 0 :: 55 :: 42 :: 27 :: 182 :: 0 :: 81 :: 77 :: 42 :: 42 :: 180 :: 0 :: 34 :: 27 :: 182 :: 0 :: 110 :: 182 :: 0 :: 119 :: th_dr cX0_passYear 28 := rfl
theorem bl_dX0_passYear_0 : decode cX0_passYear 0 = .ok (.iconst 0, 1) ∧ decode cX0_passYear 1 = .ok (.istore_n 1, 1) ∧ decode cX0_passYear 2 = .ok (.iload_n 1, 1) ∧ decode cX0_passYear 3 = .ok (.aload_n 0, 1) ∧ decode cX0_passYear 4 = .ok (.getfield 38, 3) ∧ decode cX0_passYear 7 = .ok (.if_icmp .ge 55, 3) ∧ decode cX0_passYear 10 = .ok (.aload_n 0, 1) ∧ decode cX0_passYear 11 = .ok (.iload_n 1, 1) ∧ decode cX0_passYear 12 = .ok (.invokevirtual 81, 3) ∧ decode cX0_passYear 15 = .ok (.astore_n 2, 1) ∧ decode cX0_passYear 16 = .ok (.aload_n 0, 1) ∧ decode cX0_passYear 17 = .ok (.aload_n 0, 1) ∧ decode cX0_passYear 18 = .ok (.getfield 34, 3) ∧ decode cX0_passYear 21 = .ok (.iload_n 1, 1) ∧ decode cX0_passYear 22 = .ok (.invokevirtual 110, 3) ∧ decode cX0_passYear 25 = .ok (.invokevirtual 119, 3) := op_3 lk_dX0_passYear_0 fun e => op_60 e fun e => op_27 e fun e => op_42 e fun e => op_180 e fun e => op_162p e rfl fun e => op_42 e fun e => op_27 e fun e => op_182 e fun e => op_77 e fun e => op_42 e fun e => op_42 e fun e => op_180 e fun e => op_27 e fun e => op_182 e fun e => (op_182 e fun _ => True.intro).1
theorem dX0_passYear_0 : decode cX0_passYear 0 = .ok (.iconst 0, 1) := bl_dX0_passYear_0.1
theorem dX0_passYear_1 : decode cX0_passYear 1 = .ok (.istore_n 1, 1) := bl_dX0_passYear_0.2.1
theorem dX0_passYear_2 : decode cX0_passYear 2 = .ok (.iload_n 1, 1) := bl_dX0_passYear_0.2.2.1
theorem dX0_passYear_3 : decode cX0_passYear 3 = .ok (.aload_n 0, 1) := bl_dX0_passYear_0.2.2.2.1
theorem dX0_passYear_4 : decode cX0_passYear 4 = .ok (.getfield 38, 3) := bl_dX0_passYear_0.2.2.2.2.1
theorem dX0_passYear_7 : decode cX0_passYear 7 = .ok (.if_icmp .ge 55, 3) := bl_dX0_passYear_0.2.2.2.2.2.1
theorem dX0_passYear_10 : decode cX0_passYear 10 = .ok (.aload_n 0, 1) := bl_dX0_passYear_0.2.2.2.2.2.2.1
theorem dX0_passYear_11 : decode cX0_passYear 11 = .ok (.iload_n 1, 1) := bl_dX0_passYear_0.2.2.2.2.2.2.2.1
theorem dX0_passYear_12 : decode cX0_passYear 12 = .ok (.invokevirtual 81, 3) := bl_dX0_passYear_0.2.2.2.2.2.2.2.2.1
theorem dX0_passYear_15 : decode cX0_passYear 15 = .ok (.astore_n 2, 1) := bl_dX0_passYear_0.2.2.2.2.2.2.2.2.2.1
theorem dX0_passYear_16 : decode cX0_passYear 16 = .ok (.aload_n 0, 1) := bl_dX0_passYear_0.2.2.2.2.2.2.2.2.2.2.1
theorem dX0_passYear_17 : decode cX0_passYear 17 = .ok (.aload_n 0, 1) := bl_dX0_passYear_0.2.2.2.2.2.2.2.2.2.2.2.1
theorem dX0_passYear_18 : decode cX0_passYear 18 = .ok (.getfield 34, 3) := bl_dX0_passYear_0.2.2.2.2.2.2.2.2.2.2.2.2.1
theorem dX0_passYear_21 : decode cX0_passYear 21 = .ok (.iload_n 1, 1) := bl_dX0_passYear_0.2.2.2.2.2.2.2.2.2.2.2.2.2.1
theorem dX0_passYear_22 : decode cX0_passYear 22 = .ok (.invokevirtual 110, 3) := bl_dX0_passYear_0.2.2.2.2.2.2.2.2.2.2.2.2.2.2.1
theorem dX0_passYear_25 : decode cX0_passYear 25 = .ok (.invokevirtual 119, 3) := bl_dX0_passYear_0.2.2.2.2.2.2.2.2.2.2.2.2.2.2.2
set_option maxRecDepth 20000 in
theorem lk_dX0_passYear_28 : th_dr cX0_passYear 28 = 78 :: 44 :: 198 :: 0 :: 26 :: 44 :: 45 :: 198 :: 0 :: 17 :: 45 :: 180 :: 0 :: 94 :: 17 :: 0 :: 150 :: 161 :: 0 :: 7 :: 4 :: 167 :: 0 :: 4 :: 3 :: 182 :: 0 :: 168 :: 132 :: 1 :: 1 :: 167 :: 255 :: 199 :: th_dr cX0_passYear 62 := rfl
theorem bl_dX0_passYear_28 : decode cX0_passYear 28 = .ok (.astore_n 3, 1) ∧ decode cX0_passYear 29 = .ok (.aload_n 2, 1) ∧ decode cX0_passYear 30 = .ok (.ifnull 26, 3) ∧ decode cX0_passYear 33 = .ok (.aload_n 2, 1) ∧ decode cX0_passYear 34 = .ok (.aload_n 3, 1) ∧ decode cX0_passYear 35 = .ok (.ifnull 17, 3) ∧ decode cX0_passYear 38 = .ok (.aload_n 3, 1) ∧ decode cX0_passYear 39 = .ok (.getfield 94, 3) ∧ decode cX0_passYear 42 = .ok (.sipush 150, 3) ∧ decode cX0_passYear 45 = .ok (.if_icmp .lt 7, 3) ∧ decode cX0_passYear 48 = .ok (.iconst 1, 1) ∧ decode cX0_passYear 49 = .ok (.goto 4, 3) ∧ decode cX0_passYear 52 = .ok (.iconst 0, 1) ∧ decode cX0_passYear 53 = .ok (.invokevirtual 168, 3) ∧ decode cX0_passYear 56 = .ok (.iinc 1 1, 3) ∧ decode cX0_passYear 59 = .ok (.goto (-57), 3) := op_78 lk_dX0_passYear_28 fun e => op_44 e fun e => op_198p e rfl fun e => op_44 e fun e => op_45 e fun e => op_198p e rfl fun e => op_45 e fun e => op_180 e fun e => op_17p e rfl fun e => op_161p e rfl fun e => op_4 e fun e => op_167p e rfl fun e => op_3 e fun e => op_182 e fun e => op_132p e rfl fun e => (op_167n e rfl rfl fun _ => True.intro).1
theorem dX0_passYear_28 : decode cX0_passYear 28 = .ok (.astore_n 3, 1) := bl_dX0_passYear_28.1
theorem dX0_passYear_29 : decode cX0_passYear 29 = .ok (.aload_n 2, 1) := bl_dX0_passYear_28.2.1
theorem dX0_passYear_30 : decode cX0_passYear 30 = .ok (.ifnull 26, 3) := bl_dX0_passYear_28.2.2.1
theorem dX0_passYear_33 : decode cX0_passYear 33 = .ok (.aload_n 2, 1) := bl_dX0_passYear_28.2.2.2.1
theorem dX0_passYear_34 : decode cX0_passYear 34 = .ok (.aload_n 3, 1) := bl_dX0_passYear_28.2.2.2.2.1
theorem dX0_passYear_35 : decode cX0_passYear 35 = .ok (.ifnull 17, 3) := bl_dX0_passYear_28.2.2.2.2.2.1
theorem dX0_passYear_38 : decode cX0_passYear 38 = .ok (.aload_n 3, 1) := bl_dX0_passYear_28.2.2.2.2.2.2.1
theorem dX0_passYear_39 : decode cX0_passYear 39 = .ok (.getfield 94, 3) := bl_dX0_passYear_28.2.2.2.2.2.2.2.1
theorem dX0_passYear_42 : decode cX0_passYear 42 = .ok (.sipush 150, 3) := bl_dX0_passYear_28.2.2.2.2.2.2.2.2.1
theorem dX0_passYear_45 : decode cX0_passYear 45 = .ok (.if_icmp .lt 7, 3) := bl_dX0_passYear_28.2.2.2.2.2.2.2.2.2.1
theorem dX0_passYear_48 : decode cX0_passYear 48 = .ok (.iconst 1, 1) := bl_dX0_passYear_28.2.2.2.2.2.2.2.2.2.2.1
theorem dX0_passYear_49 : decode cX0_passYear 49 = .ok (.goto 4, 3) := bl_dX0_passYear_28.2.2.2.2.2.2.2.2.2.2.2.1
theorem dX0_passYear_52 : decode cX0_passYear 52 = .ok (.iconst 0, 1) := bl_dX0_passYear_28.2.2.2.2.2.2.2.2.2.2.2.2.1
theorem dX0_passYear_53 : decode cX0_passYear 53 = .ok (.invokevirtual 168, 3) := bl_dX0_passYear_28.2.2.2.2.2.2.2.2.2.2.2.2.2.1
theorem dX0_passYear_56 : decode cX0_passYear 56 = .ok (.iinc 1 1, 3) := bl_dX0_passYear_28.2.2.2.2.2.2.2.2.2.2.2.2.2.2.1
theorem dX0_passYear_59 : decode cX0_passYear 59 = .ok (.goto (-57), 3) := bl_dX0_passYear_28.2.2.2.2.2.2.2.2.2.2.2.2.2.2.2
set_option maxRecDepth 20000 in
theorem lk_dX0_passYear_62 : th_dr cX0_passYear 62 = 177 :: th_dr cX0_passYear 63 := rfl
theorem dX0_passYear_62 : decode cX0_passYear 62 = .ok (.return_, 1) := (op_177 lk_dX0_passYear_62 fun _ => True.intro).1
set_option maxRecDepth 20000 in
theorem ggX0_partedChains_X0_buoyAt : GoodIn wsX0_partedChains wsX0_buoyAt := goodIn_q _ [(6, 1), (1, 1), (7, 4), (17, 9)] rfl gdwsX0_buoyAt
set_option maxRecDepth 20000 in
theorem gX0_partedChains_X0_buoyAt : GoodIn wsX0_partedChains (wsV RX0 81 RX0 yX0_buoyAt wsX0_buoyAt) := goodIn_app (goodIn_q _ [(2, 4)] rfl rfl) ggX0_partedChains_X0_buoyAt
set_option maxRecDepth 20000 in
theorem gdwsX3_isParted : wsX3_isParted.all goodWord = true := by decide +kernel
set_option maxRecDepth 20000 in
theorem ggX0_partedChains_X3_isParted : GoodIn wsX0_partedChains wsX3_isParted := goodIn_q _ [(15, 2), (26, 8)] rfl gdwsX3_isParted
set_option maxRecDepth 20000 in
theorem gX0_partedChains_X3_isParted : GoodIn wsX0_partedChains (wsV RX0 172 RX3 yX3_isParted wsX3_isParted) := goodIn_app (goodIn_q _ [(11, 4)] rfl rfl) ggX0_partedChains_X3_isParted
theorem lk_dX0_partedChains_0 : th_dr cX0_partedChains 0 = 3 :: 60 :: 3 :: 61 :: 28 :: 42 :: 180 :: 0 :: 38 :: 162 :: 0 :: 29 :: 42 :: 28 :: 182 :: 0 :: 81 :: 78 :: 45 :: 198 :: 0 :: 13 :: 45 :: 182 :: 0 :: 172 :: th_dr cX0_partedChains 26 := rfl
theorem bl_dX0_partedChains_0 : decode cX0_partedChains 0 = .ok (.iconst 0, 1) ∧ decode cX0_partedChains 1 = .ok (.istore_n 1, 1) ∧ decode cX0_partedChains 2 = .ok (.iconst 0, 1) ∧ decode cX0_partedChains 3 = .ok (.istore_n 2, 1) ∧ decode cX0_partedChains 4 = .ok (.iload_n 2, 1) ∧ decode cX0_partedChains 5 = .ok (.aload_n 0, 1) ∧ decode cX0_partedChains 6 = .ok (.getfield 38, 3) ∧ decode cX0_partedChains 9 = .ok (.if_icmp .ge 29, 3) ∧ decode cX0_partedChains 12 = .ok (.aload_n 0, 1) ∧ decode cX0_partedChains 13 = .ok (.iload_n 2, 1) ∧ decode cX0_partedChains 14 = .ok (.invokevirtual 81, 3) ∧ decode cX0_partedChains 17 = .ok (.astore_n 3, 1) ∧ decode cX0_partedChains 18 = .ok (.aload_n 3, 1) ∧ decode cX0_partedChains 19 = .ok (.ifnull 13, 3) ∧ decode cX0_partedChains 22 = .ok (.aload_n 3, 1) ∧ decode cX0_partedChains 23 = .ok (.invokevirtual 172, 3) := op_3 lk_dX0_partedChains_0 fun e => op_60 e fun e => op_3 e fun e => op_61 e fun e => op_28 e fun e => op_42 e fun e => op_180 e fun e => op_162p e rfl fun e => op_42 e fun e => op_28 e fun e => op_182 e fun e => op_78 e fun e => op_45 e fun e => op_198p e rfl fun e => op_45 e fun e => (op_182 e fun _ => True.intro).1
theorem dX0_partedChains_0 : decode cX0_partedChains 0 = .ok (.iconst 0, 1) := bl_dX0_partedChains_0.1
theorem dX0_partedChains_1 : decode cX0_partedChains 1 = .ok (.istore_n 1, 1) := bl_dX0_partedChains_0.2.1
theorem dX0_partedChains_2 : decode cX0_partedChains 2 = .ok (.iconst 0, 1) := bl_dX0_partedChains_0.2.2.1
theorem dX0_partedChains_3 : decode cX0_partedChains 3 = .ok (.istore_n 2, 1) := bl_dX0_partedChains_0.2.2.2.1
theorem dX0_partedChains_4 : decode cX0_partedChains 4 = .ok (.iload_n 2, 1) := bl_dX0_partedChains_0.2.2.2.2.1
theorem dX0_partedChains_5 : decode cX0_partedChains 5 = .ok (.aload_n 0, 1) := bl_dX0_partedChains_0.2.2.2.2.2.1
theorem dX0_partedChains_6 : decode cX0_partedChains 6 = .ok (.getfield 38, 3) := bl_dX0_partedChains_0.2.2.2.2.2.2.1
theorem dX0_partedChains_9 : decode cX0_partedChains 9 = .ok (.if_icmp .ge 29, 3) := bl_dX0_partedChains_0.2.2.2.2.2.2.2.1
theorem dX0_partedChains_12 : decode cX0_partedChains 12 = .ok (.aload_n 0, 1) := bl_dX0_partedChains_0.2.2.2.2.2.2.2.2.1
theorem dX0_partedChains_13 : decode cX0_partedChains 13 = .ok (.iload_n 2, 1) := bl_dX0_partedChains_0.2.2.2.2.2.2.2.2.2.1
theorem dX0_partedChains_14 : decode cX0_partedChains 14 = .ok (.invokevirtual 81, 3) := bl_dX0_partedChains_0.2.2.2.2.2.2.2.2.2.2.1
theorem dX0_partedChains_17 : decode cX0_partedChains 17 = .ok (.astore_n 3, 1) := bl_dX0_partedChains_0.2.2.2.2.2.2.2.2.2.2.2.1
theorem dX0_partedChains_18 : decode cX0_partedChains 18 = .ok (.aload_n 3, 1) := bl_dX0_partedChains_0.2.2.2.2.2.2.2.2.2.2.2.2.1
theorem dX0_partedChains_19 : decode cX0_partedChains 19 = .ok (.ifnull 13, 3) := bl_dX0_partedChains_0.2.2.2.2.2.2.2.2.2.2.2.2.2.1
theorem dX0_partedChains_22 : decode cX0_partedChains 22 = .ok (.aload_n 3, 1) := bl_dX0_partedChains_0.2.2.2.2.2.2.2.2.2.2.2.2.2.2.1
theorem dX0_partedChains_23 : decode cX0_partedChains 23 = .ok (.invokevirtual 172, 3) := bl_dX0_partedChains_0.2.2.2.2.2.2.2.2.2.2.2.2.2.2.2
theorem lk_dX0_partedChains_26 : th_dr cX0_partedChains 26 = 153 :: 0 :: 6 :: 132 :: 1 :: 1 :: 132 :: 2 :: 1 :: 167 :: 255 :: 225 :: 27 :: 172 :: th_dr cX0_partedChains 40 := rfl
theorem bl_dX0_partedChains_26 : decode cX0_partedChains 26 = .ok (.ifCond .eq 6, 3) ∧ decode cX0_partedChains 29 = .ok (.iinc 1 1, 3) ∧ decode cX0_partedChains 32 = .ok (.iinc 2 1, 3) ∧ decode cX0_partedChains 35 = .ok (.goto (-31), 3) ∧ decode cX0_partedChains 38 = .ok (.iload_n 1, 1) ∧ decode cX0_partedChains 39 = .ok (.ireturn, 1) := op_153p lk_dX0_partedChains_26 rfl fun e => op_132p e rfl fun e => op_132p e rfl fun e => op_167n e rfl rfl fun e => op_27 e fun e => (op_172 e fun _ => True.intro).1
theorem dX0_partedChains_26 : decode cX0_partedChains 26 = .ok (.ifCond .eq 6, 3) := bl_dX0_partedChains_26.1
theorem dX0_partedChains_29 : decode cX0_partedChains 29 = .ok (.iinc 1 1, 3) := bl_dX0_partedChains_26.2.1
theorem dX0_partedChains_32 : decode cX0_partedChains 32 = .ok (.iinc 2 1, 3) := bl_dX0_partedChains_26.2.2.1
theorem dX0_partedChains_35 : decode cX0_partedChains 35 = .ok (.goto (-31), 3) := bl_dX0_partedChains_26.2.2.2.1
theorem dX0_partedChains_38 : decode cX0_partedChains 38 = .ok (.iload_n 1, 1) := bl_dX0_partedChains_26.2.2.2.2.1
theorem dX0_partedChains_39 : decode cX0_partedChains 39 = .ok (.ireturn, 1) := bl_dX0_partedChains_26.2.2.2.2.2
set_option maxRecDepth 20000 in
theorem ggX0_leastKnown_X0_buoyAt : GoodIn wsX0_leastKnown wsX0_buoyAt := goodIn_q _ [(7, 1), (1, 1), (8, 4), (23, 9)] rfl gdwsX0_buoyAt
set_option maxRecDepth 20000 in
theorem gX0_leastKnown_X0_buoyAt : GoodIn wsX0_leastKnown (wsV RX0 81 RX0 yX0_buoyAt wsX0_buoyAt) := goodIn_app (goodIn_q _ [(3, 4)] rfl rfl) ggX0_leastKnown_X0_buoyAt
set_option maxRecDepth 20000 in
theorem gdwsX0_isLessKnown : wsX0_isLessKnown.all goodWord = true := by decide +kernel
set_option maxRecDepth 20000 in
theorem ggX0_leastKnown_X0_isLessKnown : GoodIn wsX0_leastKnown wsX0_isLessKnown := goodIn_q _ [(14, 9), (32, 8)] rfl gdwsX0_isLessKnown
set_option maxRecDepth 20000 in
theorem gX0_leastKnown_X0_isLessKnown : GoodIn wsX0_leastKnown (va_wsS RX0 176 yX0_isLessKnown wsX0_isLessKnown) := goodIn_app (goodIn_q _ [(12, 2), (6, 1)] rfl rfl) ggX0_leastKnown_X0_isLessKnown
theorem lk_dX0_leastKnown_0 : th_dr cX0_leastKnown 0 = 1 :: 76 :: 3 :: 61 :: 28 :: 42 :: 180 :: 0 :: 38 :: 162 :: 0 :: 33 :: 42 :: 28 :: 182 :: 0 :: 81 :: 78 :: 45 :: 198 :: 0 :: 17 :: 43 :: 198 :: 0 :: 11 :: th_dr cX0_leastKnown 26 := rfl
theorem bl_dX0_leastKnown_0 : decode cX0_leastKnown 0 = .ok (.aconst_null, 1) ∧ decode cX0_leastKnown 1 = .ok (.astore_n 1, 1) ∧ decode cX0_leastKnown 2 = .ok (.iconst 0, 1) ∧ decode cX0_leastKnown 3 = .ok (.istore_n 2, 1) ∧ decode cX0_leastKnown 4 = .ok (.iload_n 2, 1) ∧ decode cX0_leastKnown 5 = .ok (.aload_n 0, 1) ∧ decode cX0_leastKnown 6 = .ok (.getfield 38, 3) ∧ decode cX0_leastKnown 9 = .ok (.if_icmp .ge 33, 3) ∧ decode cX0_leastKnown 12 = .ok (.aload_n 0, 1) ∧ decode cX0_leastKnown 13 = .ok (.iload_n 2, 1) ∧ decode cX0_leastKnown 14 = .ok (.invokevirtual 81, 3) ∧ decode cX0_leastKnown 17 = .ok (.astore_n 3, 1) ∧ decode cX0_leastKnown 18 = .ok (.aload_n 3, 1) ∧ decode cX0_leastKnown 19 = .ok (.ifnull 17, 3) ∧ decode cX0_leastKnown 22 = .ok (.aload_n 1, 1) ∧ decode cX0_leastKnown 23 = .ok (.ifnull 11, 3) := op_1 lk_dX0_leastKnown_0 fun e => op_76 e fun e => op_3 e fun e => op_61 e fun e => op_28 e fun e => op_42 e fun e => op_180 e fun e => op_162p e rfl fun e => op_42 e fun e => op_28 e fun e => op_182 e fun e => op_78 e fun e => op_45 e fun e => op_198p e rfl fun e => op_43 e fun e => (op_198p e rfl fun _ => True.intro).1
theorem dX0_leastKnown_0 : decode cX0_leastKnown 0 = .ok (.aconst_null, 1) := bl_dX0_leastKnown_0.1
theorem dX0_leastKnown_1 : decode cX0_leastKnown 1 = .ok (.astore_n 1, 1) := bl_dX0_leastKnown_0.2.1
theorem dX0_leastKnown_2 : decode cX0_leastKnown 2 = .ok (.iconst 0, 1) := bl_dX0_leastKnown_0.2.2.1
theorem dX0_leastKnown_3 : decode cX0_leastKnown 3 = .ok (.istore_n 2, 1) := bl_dX0_leastKnown_0.2.2.2.1
theorem dX0_leastKnown_4 : decode cX0_leastKnown 4 = .ok (.iload_n 2, 1) := bl_dX0_leastKnown_0.2.2.2.2.1
theorem dX0_leastKnown_5 : decode cX0_leastKnown 5 = .ok (.aload_n 0, 1) := bl_dX0_leastKnown_0.2.2.2.2.2.1
theorem dX0_leastKnown_6 : decode cX0_leastKnown 6 = .ok (.getfield 38, 3) := bl_dX0_leastKnown_0.2.2.2.2.2.2.1
theorem dX0_leastKnown_9 : decode cX0_leastKnown 9 = .ok (.if_icmp .ge 33, 3) := bl_dX0_leastKnown_0.2.2.2.2.2.2.2.1
theorem dX0_leastKnown_12 : decode cX0_leastKnown 12 = .ok (.aload_n 0, 1) := bl_dX0_leastKnown_0.2.2.2.2.2.2.2.2.1
theorem dX0_leastKnown_13 : decode cX0_leastKnown 13 = .ok (.iload_n 2, 1) := bl_dX0_leastKnown_0.2.2.2.2.2.2.2.2.2.1
theorem dX0_leastKnown_14 : decode cX0_leastKnown 14 = .ok (.invokevirtual 81, 3) := bl_dX0_leastKnown_0.2.2.2.2.2.2.2.2.2.2.1
theorem dX0_leastKnown_17 : decode cX0_leastKnown 17 = .ok (.astore_n 3, 1) := bl_dX0_leastKnown_0.2.2.2.2.2.2.2.2.2.2.2.1
theorem dX0_leastKnown_18 : decode cX0_leastKnown 18 = .ok (.aload_n 3, 1) := bl_dX0_leastKnown_0.2.2.2.2.2.2.2.2.2.2.2.2.1
theorem dX0_leastKnown_19 : decode cX0_leastKnown 19 = .ok (.ifnull 17, 3) := bl_dX0_leastKnown_0.2.2.2.2.2.2.2.2.2.2.2.2.2.1
theorem dX0_leastKnown_22 : decode cX0_leastKnown 22 = .ok (.aload_n 1, 1) := bl_dX0_leastKnown_0.2.2.2.2.2.2.2.2.2.2.2.2.2.2.1
theorem dX0_leastKnown_23 : decode cX0_leastKnown 23 = .ok (.ifnull 11, 3) := bl_dX0_leastKnown_0.2.2.2.2.2.2.2.2.2.2.2.2.2.2.2
theorem lk_dX0_leastKnown_26 : th_dr cX0_leastKnown 26 = 45 :: 43 :: 184 :: 0 :: 176 :: 153 :: 0 :: 5 :: 45 :: 76 :: 132 :: 2 :: 1 :: 167 :: 255 :: 221 :: 43 :: 199 :: 0 :: 7 :: 2 :: 167 :: 0 :: 7 :: 43 :: 180 :: 0 :: 107 :: 172 :: th_dr cX0_leastKnown 55 := rfl
theorem bl_dX0_leastKnown_26 : decode cX0_leastKnown 26 = .ok (.aload_n 3, 1) ∧ decode cX0_leastKnown 27 = .ok (.aload_n 1, 1) ∧ decode cX0_leastKnown 28 = .ok (.invokestatic 176, 3) ∧ decode cX0_leastKnown 31 = .ok (.ifCond .eq 5, 3) ∧ decode cX0_leastKnown 34 = .ok (.aload_n 3, 1) ∧ decode cX0_leastKnown 35 = .ok (.astore_n 1, 1) ∧ decode cX0_leastKnown 36 = .ok (.iinc 2 1, 3) ∧ decode cX0_leastKnown 39 = .ok (.goto (-35), 3) ∧ decode cX0_leastKnown 42 = .ok (.aload_n 1, 1) ∧ decode cX0_leastKnown 43 = .ok (.ifnonnull 7, 3) ∧ decode cX0_leastKnown 46 = .ok (.iconst (-1), 1) ∧ decode cX0_leastKnown 47 = .ok (.goto 7, 3) ∧ decode cX0_leastKnown 50 = .ok (.aload_n 1, 1) ∧ decode cX0_leastKnown 51 = .ok (.getfield 107, 3) ∧ decode cX0_leastKnown 54 = .ok (.ireturn, 1) := op_45 lk_dX0_leastKnown_26 fun e => op_43 e fun e => op_184 e fun e => op_153p e rfl fun e => op_45 e fun e => op_76 e fun e => op_132p e rfl fun e => op_167n e rfl rfl fun e => op_43 e fun e => op_199p e rfl fun e => op_2 e fun e => op_167p e rfl fun e => op_43 e fun e => op_180 e fun e => (op_172 e fun _ => True.intro).1
theorem dX0_leastKnown_26 : decode cX0_leastKnown 26 = .ok (.aload_n 3, 1) := bl_dX0_leastKnown_26.1
theorem dX0_leastKnown_27 : decode cX0_leastKnown 27 = .ok (.aload_n 1, 1) := bl_dX0_leastKnown_26.2.1
theorem dX0_leastKnown_28 : decode cX0_leastKnown 28 = .ok (.invokestatic 176, 3) := bl_dX0_leastKnown_26.2.2.1
theorem dX0_leastKnown_31 : decode cX0_leastKnown 31 = .ok (.ifCond .eq 5, 3) := bl_dX0_leastKnown_26.2.2.2.1
theorem dX0_leastKnown_34 : decode cX0_leastKnown 34 = .ok (.aload_n 3, 1) := bl_dX0_leastKnown_26.2.2.2.2.1
theorem dX0_leastKnown_35 : decode cX0_leastKnown 35 = .ok (.astore_n 1, 1) := bl_dX0_leastKnown_26.2.2.2.2.2.1
theorem dX0_leastKnown_36 : decode cX0_leastKnown 36 = .ok (.iinc 2 1, 3) := bl_dX0_leastKnown_26.2.2.2.2.2.2.1
theorem dX0_leastKnown_39 : decode cX0_leastKnown 39 = .ok (.goto (-35), 3) := bl_dX0_leastKnown_26.2.2.2.2.2.2.2.1
theorem dX0_leastKnown_42 : decode cX0_leastKnown 42 = .ok (.aload_n 1, 1) := bl_dX0_leastKnown_26.2.2.2.2.2.2.2.2.1
theorem dX0_leastKnown_43 : decode cX0_leastKnown 43 = .ok (.ifnonnull 7, 3) := bl_dX0_leastKnown_26.2.2.2.2.2.2.2.2.2.1
theorem dX0_leastKnown_46 : decode cX0_leastKnown 46 = .ok (.iconst (-1), 1) := bl_dX0_leastKnown_26.2.2.2.2.2.2.2.2.2.2.1
theorem dX0_leastKnown_47 : decode cX0_leastKnown 47 = .ok (.goto 7, 3) := bl_dX0_leastKnown_26.2.2.2.2.2.2.2.2.2.2.2.1
theorem dX0_leastKnown_50 : decode cX0_leastKnown 50 = .ok (.aload_n 1, 1) := bl_dX0_leastKnown_26.2.2.2.2.2.2.2.2.2.2.2.2.1
theorem dX0_leastKnown_51 : decode cX0_leastKnown 51 = .ok (.getfield 107, 3) := bl_dX0_leastKnown_26.2.2.2.2.2.2.2.2.2.2.2.2.2.1
theorem dX0_leastKnown_54 : decode cX0_leastKnown 54 = .ok (.ireturn, 1) := bl_dX0_leastKnown_26.2.2.2.2.2.2.2.2.2.2.2.2.2.2
set_option maxRecDepth 20000 in
theorem gdwsX3_doubt : wsX3_doubt.all goodWord = true := by decide +kernel
set_option maxRecDepth 20000 in
theorem ggX0_isLessKnown_X3_doubt : GoodIn wsX0_isLessKnown wsX3_doubt := goodIn_q _ [(6, 11)] rfl gdwsX3_doubt
set_option maxRecDepth 20000 in
theorem gX0_isLessKnown_X3_doubt : GoodIn wsX0_isLessKnown (wsV RX0 180 RX3 yX3_doubt wsX3_doubt) := goodIn_app (goodIn_q _ [(2, 4)] rfl rfl) ggX0_isLessKnown_X3_doubt
theorem lk_dX0_isLessKnown_0 : th_dr cX0_isLessKnown 0 = 42 :: 182 :: 0 :: 180 :: 43 :: 182 :: 0 :: 180 :: 159 :: 0 :: 20 :: 42 :: 182 :: 0 :: 180 :: 43 :: 182 :: 0 :: 180 :: 164 :: 0 :: 7 :: 4 :: 167 :: 0 :: 4 :: 3 :: 172 :: 42 :: 180 :: 0 :: 183 :: th_dr cX0_isLessKnown 32 := rfl
theorem bl_dX0_isLessKnown_0 : decode cX0_isLessKnown 0 = .ok (.aload_n 0, 1) ∧ decode cX0_isLessKnown 1 = .ok (.invokevirtual 180, 3) ∧ decode cX0_isLessKnown 4 = .ok (.aload_n 1, 1) ∧ decode cX0_isLessKnown 5 = .ok (.invokevirtual 180, 3) ∧ decode cX0_isLessKnown 8 = .ok (.if_icmp .eq 20, 3) ∧ decode cX0_isLessKnown 11 = .ok (.aload_n 0, 1) ∧ decode cX0_isLessKnown 12 = .ok (.invokevirtual 180, 3) ∧ decode cX0_isLessKnown 15 = .ok (.aload_n 1, 1) ∧ decode cX0_isLessKnown 16 = .ok (.invokevirtual 180, 3) ∧ decode cX0_isLessKnown 19 = .ok (.if_icmp .le 7, 3) ∧ decode cX0_isLessKnown 22 = .ok (.iconst 1, 1) ∧ decode cX0_isLessKnown 23 = .ok (.goto 4, 3) ∧ decode cX0_isLessKnown 26 = .ok (.iconst 0, 1) ∧ decode cX0_isLessKnown 27 = .ok (.ireturn, 1) ∧ decode cX0_isLessKnown 28 = .ok (.aload_n 0, 1) ∧ decode cX0_isLessKnown 29 = .ok (.getfield 183, 3) := op_42 lk_dX0_isLessKnown_0 fun e => op_182 e fun e => op_43 e fun e => op_182 e fun e => op_159p e rfl fun e => op_42 e fun e => op_182 e fun e => op_43 e fun e => op_182 e fun e => op_164p e rfl fun e => op_4 e fun e => op_167p e rfl fun e => op_3 e fun e => op_172 e fun e => op_42 e fun e => (op_180 e fun _ => True.intro).1
theorem dX0_isLessKnown_0 : decode cX0_isLessKnown 0 = .ok (.aload_n 0, 1) := bl_dX0_isLessKnown_0.1
theorem dX0_isLessKnown_1 : decode cX0_isLessKnown 1 = .ok (.invokevirtual 180, 3) := bl_dX0_isLessKnown_0.2.1
theorem dX0_isLessKnown_4 : decode cX0_isLessKnown 4 = .ok (.aload_n 1, 1) := bl_dX0_isLessKnown_0.2.2.1
theorem dX0_isLessKnown_5 : decode cX0_isLessKnown 5 = .ok (.invokevirtual 180, 3) := bl_dX0_isLessKnown_0.2.2.2.1
theorem dX0_isLessKnown_8 : decode cX0_isLessKnown 8 = .ok (.if_icmp .eq 20, 3) := bl_dX0_isLessKnown_0.2.2.2.2.1
theorem dX0_isLessKnown_11 : decode cX0_isLessKnown 11 = .ok (.aload_n 0, 1) := bl_dX0_isLessKnown_0.2.2.2.2.2.1
theorem dX0_isLessKnown_12 : decode cX0_isLessKnown 12 = .ok (.invokevirtual 180, 3) := bl_dX0_isLessKnown_0.2.2.2.2.2.2.1
theorem dX0_isLessKnown_15 : decode cX0_isLessKnown 15 = .ok (.aload_n 1, 1) := bl_dX0_isLessKnown_0.2.2.2.2.2.2.2.1
theorem dX0_isLessKnown_16 : decode cX0_isLessKnown 16 = .ok (.invokevirtual 180, 3) := bl_dX0_isLessKnown_0.2.2.2.2.2.2.2.2.1
theorem dX0_isLessKnown_19 : decode cX0_isLessKnown 19 = .ok (.if_icmp .le 7, 3) := bl_dX0_isLessKnown_0.2.2.2.2.2.2.2.2.2.1
theorem dX0_isLessKnown_22 : decode cX0_isLessKnown 22 = .ok (.iconst 1, 1) := bl_dX0_isLessKnown_0.2.2.2.2.2.2.2.2.2.2.1
theorem dX0_isLessKnown_23 : decode cX0_isLessKnown 23 = .ok (.goto 4, 3) := bl_dX0_isLessKnown_0.2.2.2.2.2.2.2.2.2.2.2.1
theorem dX0_isLessKnown_26 : decode cX0_isLessKnown 26 = .ok (.iconst 0, 1) := bl_dX0_isLessKnown_0.2.2.2.2.2.2.2.2.2.2.2.2.1
theorem dX0_isLessKnown_27 : decode cX0_isLessKnown 27 = .ok (.ireturn, 1) := bl_dX0_isLessKnown_0.2.2.2.2.2.2.2.2.2.2.2.2.2.1
theorem dX0_isLessKnown_28 : decode cX0_isLessKnown 28 = .ok (.aload_n 0, 1) := bl_dX0_isLessKnown_0.2.2.2.2.2.2.2.2.2.2.2.2.2.2.1
theorem dX0_isLessKnown_29 : decode cX0_isLessKnown 29 = .ok (.getfield 183, 3) := bl_dX0_isLessKnown_0.2.2.2.2.2.2.2.2.2.2.2.2.2.2.2
theorem lk_dX0_isLessKnown_32 : th_dr cX0_isLessKnown 32 = 43 :: 180 :: 0 :: 183 :: 164 :: 0 :: 7 :: 4 :: 167 :: 0 :: 4 :: 3 :: 172 :: th_dr cX0_isLessKnown 45 := rfl
theorem bl_dX0_isLessKnown_32 : decode cX0_isLessKnown 32 = .ok (.aload_n 1, 1) ∧ decode cX0_isLessKnown 33 = .ok (.getfield 183, 3) ∧ decode cX0_isLessKnown 36 = .ok (.if_icmp .le 7, 3) ∧ decode cX0_isLessKnown 39 = .ok (.iconst 1, 1) ∧ decode cX0_isLessKnown 40 = .ok (.goto 4, 3) ∧ decode cX0_isLessKnown 43 = .ok (.iconst 0, 1) ∧ decode cX0_isLessKnown 44 = .ok (.ireturn, 1) := op_43 lk_dX0_isLessKnown_32 fun e => op_180 e fun e => op_164p e rfl fun e => op_4 e fun e => op_167p e rfl fun e => op_3 e fun e => (op_172 e fun _ => True.intro).1
theorem dX0_isLessKnown_32 : decode cX0_isLessKnown 32 = .ok (.aload_n 1, 1) := bl_dX0_isLessKnown_32.1
theorem dX0_isLessKnown_33 : decode cX0_isLessKnown 33 = .ok (.getfield 183, 3) := bl_dX0_isLessKnown_32.2.1
theorem dX0_isLessKnown_36 : decode cX0_isLessKnown 36 = .ok (.if_icmp .le 7, 3) := bl_dX0_isLessKnown_32.2.2.1
theorem dX0_isLessKnown_39 : decode cX0_isLessKnown 39 = .ok (.iconst 1, 1) := bl_dX0_isLessKnown_32.2.2.2.1
theorem dX0_isLessKnown_40 : decode cX0_isLessKnown 40 = .ok (.goto 4, 3) := bl_dX0_isLessKnown_32.2.2.2.2.1
theorem dX0_isLessKnown_43 : decode cX0_isLessKnown 43 = .ok (.iconst 0, 1) := bl_dX0_isLessKnown_32.2.2.2.2.2.1
theorem dX0_isLessKnown_44 : decode cX0_isLessKnown 44 = .ok (.ireturn, 1) := bl_dX0_isLessKnown_32.2.2.2.2.2.2
set_option maxRecDepth 20000 in
theorem gdwsJ7_fill_53178 : wsJ7_fill_53178.all goodWord = true := by decide +kernel
set_option maxRecDepth 20000 in
theorem ggX1_init_J7_fill_53178 : GoodIn wsX1_init wsJ7_fill_53178 := goodIn_q _ [(10, 1)] rfl gdwsJ7_fill_53178
set_option maxRecDepth 20000 in
theorem gX1_init_J7_fill_53178 : GoodIn wsX1_init (va_wsS RX1 18 yJ7_fill_53178 wsJ7_fill_53178) := goodIn_app (goodIn_q _ [(7, 3)] rfl rfl) ggX1_init_J7_fill_53178
theorem lk_dX1_init_0 : th_dr cX1_init 0 = 42 :: 183 :: 0 :: 3 :: 42 :: 16 :: 16 :: 188 :: 10 :: 181 :: 0 :: 9 :: 42 :: 16 :: 12 :: 188 :: 10 :: 181 :: 0 :: 15 :: 42 :: 180 :: 0 :: 9 :: 2 :: 184 :: 0 :: 18 :: 42 :: 180 :: 0 :: 15 :: th_dr cX1_init 32 := rfl
theorem bl_dX1_init_0 : decode cX1_init 0 = .ok (.aload_n 0, 1) ∧ decode cX1_init 1 = .ok (.invokespecial 3, 3) ∧ decode cX1_init 4 = .ok (.aload_n 0, 1) ∧ decode cX1_init 5 = .ok (.bipush 16, 2) ∧ decode cX1_init 7 = .ok (.newarray .int, 2) ∧ decode cX1_init 9 = .ok (.putfield 9, 3) ∧ decode cX1_init 12 = .ok (.aload_n 0, 1) ∧ decode cX1_init 13 = .ok (.bipush 12, 2) ∧ decode cX1_init 15 = .ok (.newarray .int, 2) ∧ decode cX1_init 17 = .ok (.putfield 15, 3) ∧ decode cX1_init 20 = .ok (.aload_n 0, 1) ∧ decode cX1_init 21 = .ok (.getfield 9, 3) ∧ decode cX1_init 24 = .ok (.iconst (-1), 1) ∧ decode cX1_init 25 = .ok (.invokestatic 18, 3) ∧ decode cX1_init 28 = .ok (.aload_n 0, 1) ∧ decode cX1_init 29 = .ok (.getfield 15, 3) := op_42 lk_dX1_init_0 fun e => op_183 e fun e => op_42 e fun e => op_16p e rfl fun e => op_188_10 e fun e => op_181 e fun e => op_42 e fun e => op_16p e rfl fun e => op_188_10 e fun e => op_181 e fun e => op_42 e fun e => op_180 e fun e => op_2 e fun e => op_184 e fun e => op_42 e fun e => (op_180 e fun _ => True.intro).1
theorem dX1_init_0 : decode cX1_init 0 = .ok (.aload_n 0, 1) := bl_dX1_init_0.1
theorem dX1_init_1 : decode cX1_init 1 = .ok (.invokespecial 3, 3) := bl_dX1_init_0.2.1
theorem dX1_init_4 : decode cX1_init 4 = .ok (.aload_n 0, 1) := bl_dX1_init_0.2.2.1
theorem dX1_init_5 : decode cX1_init 5 = .ok (.bipush 16, 2) := bl_dX1_init_0.2.2.2.1
theorem dX1_init_7 : decode cX1_init 7 = .ok (.newarray .int, 2) := bl_dX1_init_0.2.2.2.2.1
theorem dX1_init_9 : decode cX1_init 9 = .ok (.putfield 9, 3) := bl_dX1_init_0.2.2.2.2.2.1
theorem dX1_init_12 : decode cX1_init 12 = .ok (.aload_n 0, 1) := bl_dX1_init_0.2.2.2.2.2.2.1
theorem dX1_init_13 : decode cX1_init 13 = .ok (.bipush 12, 2) := bl_dX1_init_0.2.2.2.2.2.2.2.1
theorem dX1_init_15 : decode cX1_init 15 = .ok (.newarray .int, 2) := bl_dX1_init_0.2.2.2.2.2.2.2.2.1
theorem dX1_init_17 : decode cX1_init 17 = .ok (.putfield 15, 3) := bl_dX1_init_0.2.2.2.2.2.2.2.2.2.1
theorem dX1_init_20 : decode cX1_init 20 = .ok (.aload_n 0, 1) := bl_dX1_init_0.2.2.2.2.2.2.2.2.2.2.1
theorem dX1_init_21 : decode cX1_init 21 = .ok (.getfield 9, 3) := bl_dX1_init_0.2.2.2.2.2.2.2.2.2.2.2.1
theorem dX1_init_24 : decode cX1_init 24 = .ok (.iconst (-1), 1) := bl_dX1_init_0.2.2.2.2.2.2.2.2.2.2.2.2.1
theorem dX1_init_25 : decode cX1_init 25 = .ok (.invokestatic 18, 3) := bl_dX1_init_0.2.2.2.2.2.2.2.2.2.2.2.2.2.1
theorem dX1_init_28 : decode cX1_init 28 = .ok (.aload_n 0, 1) := bl_dX1_init_0.2.2.2.2.2.2.2.2.2.2.2.2.2.2.1
theorem dX1_init_29 : decode cX1_init 29 = .ok (.getfield 15, 3) := bl_dX1_init_0.2.2.2.2.2.2.2.2.2.2.2.2.2.2.2
theorem lk_dX1_init_32 : th_dr cX1_init 32 = 2 :: 184 :: 0 :: 18 :: 177 :: th_dr cX1_init 37 := rfl
theorem bl_dX1_init_32 : decode cX1_init 32 = .ok (.iconst (-1), 1) ∧ decode cX1_init 33 = .ok (.invokestatic 18, 3) ∧ decode cX1_init 36 = .ok (.return_, 1) := op_2 lk_dX1_init_32 fun e => op_184 e fun e => (op_177 e fun _ => True.intro).1
theorem dX1_init_32 : decode cX1_init 32 = .ok (.iconst (-1), 1) := bl_dX1_init_32.1
theorem dX1_init_33 : decode cX1_init 33 = .ok (.invokestatic 18, 3) := bl_dX1_init_32.2.1
theorem dX1_init_36 : decode cX1_init 36 = .ok (.return_, 1) := bl_dX1_init_32.2.2
set_option maxRecDepth 20000 in
theorem ggX1_buoyOf_X11_within : GoodIn wsX1_buoyOf wsX11_within := goodIn_q _ [(4, 1)] rfl gdwsX11_within
set_option maxRecDepth 20000 in
theorem gX1_buoyOf_X11_within_n24 : GoodIn wsX1_buoyOf (wsX11_within) := ggX1_buoyOf_X11_within
theorem lk_dX1_buoyOf_0 : th_dr cX1_buoyOf 0 = 27 :: 3 :: 16 :: 15 :: 184 :: 0 :: 24 :: 153 :: 0 :: 12 :: 42 :: 180 :: 0 :: 9 :: 27 :: 46 :: 167 :: 0 :: 4 :: 2 :: 172 :: th_dr cX1_buoyOf 21 := rfl
theorem bl_dX1_buoyOf_0 : decode cX1_buoyOf 0 = .ok (.iload_n 1, 1) ∧ decode cX1_buoyOf 1 = .ok (.iconst 0, 1) ∧ decode cX1_buoyOf 2 = .ok (.bipush 15, 2) ∧ decode cX1_buoyOf 4 = .ok (.invokestatic 24, 3) ∧ decode cX1_buoyOf 7 = .ok (.ifCond .eq 12, 3) ∧ decode cX1_buoyOf 10 = .ok (.aload_n 0, 1) ∧ decode cX1_buoyOf 11 = .ok (.getfield 9, 3) ∧ decode cX1_buoyOf 14 = .ok (.iload_n 1, 1) ∧ decode cX1_buoyOf 15 = .ok (.iaload, 1) ∧ decode cX1_buoyOf 16 = .ok (.goto 4, 3) ∧ decode cX1_buoyOf 19 = .ok (.iconst (-1), 1) ∧ decode cX1_buoyOf 20 = .ok (.ireturn, 1) := op_27 lk_dX1_buoyOf_0 fun e => op_3 e fun e => op_16p e rfl fun e => op_184 e fun e => op_153p e rfl fun e => op_42 e fun e => op_180 e fun e => op_27 e fun e => op_46 e fun e => op_167p e rfl fun e => op_2 e fun e => (op_172 e fun _ => True.intro).1
theorem dX1_buoyOf_0 : decode cX1_buoyOf 0 = .ok (.iload_n 1, 1) := bl_dX1_buoyOf_0.1
theorem dX1_buoyOf_1 : decode cX1_buoyOf 1 = .ok (.iconst 0, 1) := bl_dX1_buoyOf_0.2.1
theorem dX1_buoyOf_2 : decode cX1_buoyOf 2 = .ok (.bipush 15, 2) := bl_dX1_buoyOf_0.2.2.1
theorem dX1_buoyOf_4 : decode cX1_buoyOf 4 = .ok (.invokestatic 24, 3) := bl_dX1_buoyOf_0.2.2.2.1
theorem dX1_buoyOf_7 : decode cX1_buoyOf 7 = .ok (.ifCond .eq 12, 3) := bl_dX1_buoyOf_0.2.2.2.2.1
theorem dX1_buoyOf_10 : decode cX1_buoyOf 10 = .ok (.aload_n 0, 1) := bl_dX1_buoyOf_0.2.2.2.2.2.1
theorem dX1_buoyOf_11 : decode cX1_buoyOf 11 = .ok (.getfield 9, 3) := bl_dX1_buoyOf_0.2.2.2.2.2.2.1
theorem dX1_buoyOf_14 : decode cX1_buoyOf 14 = .ok (.iload_n 1, 1) := bl_dX1_buoyOf_0.2.2.2.2.2.2.2.1
theorem dX1_buoyOf_15 : decode cX1_buoyOf 15 = .ok (.iaload, 1) := bl_dX1_buoyOf_0.2.2.2.2.2.2.2.2.1
theorem dX1_buoyOf_16 : decode cX1_buoyOf 16 = .ok (.goto 4, 3) := bl_dX1_buoyOf_0.2.2.2.2.2.2.2.2.2.1
theorem dX1_buoyOf_19 : decode cX1_buoyOf 19 = .ok (.iconst (-1), 1) := bl_dX1_buoyOf_0.2.2.2.2.2.2.2.2.2.2.1
theorem dX1_buoyOf_20 : decode cX1_buoyOf 20 = .ok (.ireturn, 1) := bl_dX1_buoyOf_0.2.2.2.2.2.2.2.2.2.2.2
set_option maxRecDepth 20000 in
theorem ggX1_boatOf_X11_within : GoodIn wsX1_boatOf wsX11_within := goodIn_q _ [(4, 1)] rfl gdwsX11_within
set_option maxRecDepth 20000 in
theorem gX1_boatOf_X11_within_n24 : GoodIn wsX1_boatOf (wsX11_within) := ggX1_boatOf_X11_within
theorem lk_dX1_boatOf_0 : th_dr cX1_boatOf 0 = 27 :: 3 :: 16 :: 11 :: 184 :: 0 :: 24 :: 153 :: 0 :: 12 :: 42 :: 180 :: 0 :: 15 :: 27 :: 46 :: 167 :: 0 :: 4 :: 2 :: 172 :: th_dr cX1_boatOf 21 := rfl
theorem bl_dX1_boatOf_0 : decode cX1_boatOf 0 = .ok (.iload_n 1, 1) ∧ decode cX1_boatOf 1 = .ok (.iconst 0, 1) ∧ decode cX1_boatOf 2 = .ok (.bipush 11, 2) ∧ decode cX1_boatOf 4 = .ok (.invokestatic 24, 3) ∧ decode cX1_boatOf 7 = .ok (.ifCond .eq 12, 3) ∧ decode cX1_boatOf 10 = .ok (.aload_n 0, 1) ∧ decode cX1_boatOf 11 = .ok (.getfield 15, 3) ∧ decode cX1_boatOf 14 = .ok (.iload_n 1, 1) ∧ decode cX1_boatOf 15 = .ok (.iaload, 1) ∧ decode cX1_boatOf 16 = .ok (.goto 4, 3) ∧ decode cX1_boatOf 19 = .ok (.iconst (-1), 1) ∧ decode cX1_boatOf 20 = .ok (.ireturn, 1) := op_27 lk_dX1_boatOf_0 fun e => op_3 e fun e => op_16p e rfl fun e => op_184 e fun e => op_153p e rfl fun e => op_42 e fun e => op_180 e fun e => op_27 e fun e => op_46 e fun e => op_167p e rfl fun e => op_2 e fun e => (op_172 e fun _ => True.intro).1
theorem dX1_boatOf_0 : decode cX1_boatOf 0 = .ok (.iload_n 1, 1) := bl_dX1_boatOf_0.1
theorem dX1_boatOf_1 : decode cX1_boatOf 1 = .ok (.iconst 0, 1) := bl_dX1_boatOf_0.2.1
theorem dX1_boatOf_2 : decode cX1_boatOf 2 = .ok (.bipush 11, 2) := bl_dX1_boatOf_0.2.2.1
theorem dX1_boatOf_4 : decode cX1_boatOf 4 = .ok (.invokestatic 24, 3) := bl_dX1_boatOf_0.2.2.2.1
theorem dX1_boatOf_7 : decode cX1_boatOf 7 = .ok (.ifCond .eq 12, 3) := bl_dX1_boatOf_0.2.2.2.2.1
theorem dX1_boatOf_10 : decode cX1_boatOf 10 = .ok (.aload_n 0, 1) := bl_dX1_boatOf_0.2.2.2.2.2.1
theorem dX1_boatOf_11 : decode cX1_boatOf 11 = .ok (.getfield 15, 3) := bl_dX1_boatOf_0.2.2.2.2.2.2.1
theorem dX1_boatOf_14 : decode cX1_boatOf 14 = .ok (.iload_n 1, 1) := bl_dX1_boatOf_0.2.2.2.2.2.2.2.1
theorem dX1_boatOf_15 : decode cX1_boatOf 15 = .ok (.iaload, 1) := bl_dX1_boatOf_0.2.2.2.2.2.2.2.2.1
theorem dX1_boatOf_16 : decode cX1_boatOf 16 = .ok (.goto 4, 3) := bl_dX1_boatOf_0.2.2.2.2.2.2.2.2.2.1
theorem dX1_boatOf_19 : decode cX1_boatOf 19 = .ok (.iconst (-1), 1) := bl_dX1_boatOf_0.2.2.2.2.2.2.2.2.2.2.1
theorem dX1_boatOf_20 : decode cX1_boatOf 20 = .ok (.ireturn, 1) := bl_dX1_boatOf_0.2.2.2.2.2.2.2.2.2.2.2
set_option maxRecDepth 20000 in
theorem ggX1_put_X11_within : GoodIn wsX1_put wsX11_within := goodIn_q _ [(5, 1)] rfl gdwsX11_within
set_option maxRecDepth 20000 in
theorem gX1_put_X11_within_n24 : GoodIn wsX1_put (wsX11_within) := ggX1_put_X11_within
theorem lk_dX1_put_0 : th_dr cX1_put 0 = 27 :: 3 :: 16 :: 15 :: 184 :: 0 :: 24 :: 153 :: 0 :: 27 :: 28 :: 3 :: 16 :: 11 :: 184 :: 0 :: 24 :: 153 :: 0 :: 17 :: 42 :: 180 :: 0 :: 9 :: 27 :: 28 :: 79 :: 42 :: th_dr cX1_put 28 := rfl
theorem bl_dX1_put_0 : decode cX1_put 0 = .ok (.iload_n 1, 1) ∧ decode cX1_put 1 = .ok (.iconst 0, 1) ∧ decode cX1_put 2 = .ok (.bipush 15, 2) ∧ decode cX1_put 4 = .ok (.invokestatic 24, 3) ∧ decode cX1_put 7 = .ok (.ifCond .eq 27, 3) ∧ decode cX1_put 10 = .ok (.iload_n 2, 1) ∧ decode cX1_put 11 = .ok (.iconst 0, 1) ∧ decode cX1_put 12 = .ok (.bipush 11, 2) ∧ decode cX1_put 14 = .ok (.invokestatic 24, 3) ∧ decode cX1_put 17 = .ok (.ifCond .eq 17, 3) ∧ decode cX1_put 20 = .ok (.aload_n 0, 1) ∧ decode cX1_put 21 = .ok (.getfield 9, 3) ∧ decode cX1_put 24 = .ok (.iload_n 1, 1) ∧ decode cX1_put 25 = .ok (.iload_n 2, 1) ∧ decode cX1_put 26 = .ok (.iastore, 1) ∧ decode cX1_put 27 = .ok (.aload_n 0, 1) := op_27 lk_dX1_put_0 fun e => op_3 e fun e => op_16p e rfl fun e => op_184 e fun e => op_153p e rfl fun e => op_28 e fun e => op_3 e fun e => op_16p e rfl fun e => op_184 e fun e => op_153p e rfl fun e => op_42 e fun e => op_180 e fun e => op_27 e fun e => op_28 e fun e => op_79 e fun e => (op_42 e fun _ => True.intro).1
theorem dX1_put_0 : decode cX1_put 0 = .ok (.iload_n 1, 1) := bl_dX1_put_0.1
theorem dX1_put_1 : decode cX1_put 1 = .ok (.iconst 0, 1) := bl_dX1_put_0.2.1
theorem dX1_put_2 : decode cX1_put 2 = .ok (.bipush 15, 2) := bl_dX1_put_0.2.2.1
theorem dX1_put_4 : decode cX1_put 4 = .ok (.invokestatic 24, 3) := bl_dX1_put_0.2.2.2.1
theorem dX1_put_7 : decode cX1_put 7 = .ok (.ifCond .eq 27, 3) := bl_dX1_put_0.2.2.2.2.1
theorem dX1_put_10 : decode cX1_put 10 = .ok (.iload_n 2, 1) := bl_dX1_put_0.2.2.2.2.2.1
theorem dX1_put_11 : decode cX1_put 11 = .ok (.iconst 0, 1) := bl_dX1_put_0.2.2.2.2.2.2.1
theorem dX1_put_12 : decode cX1_put 12 = .ok (.bipush 11, 2) := bl_dX1_put_0.2.2.2.2.2.2.2.1
theorem dX1_put_14 : decode cX1_put 14 = .ok (.invokestatic 24, 3) := bl_dX1_put_0.2.2.2.2.2.2.2.2.1
theorem dX1_put_17 : decode cX1_put 17 = .ok (.ifCond .eq 17, 3) := bl_dX1_put_0.2.2.2.2.2.2.2.2.2.1
theorem dX1_put_20 : decode cX1_put 20 = .ok (.aload_n 0, 1) := bl_dX1_put_0.2.2.2.2.2.2.2.2.2.2.1
theorem dX1_put_21 : decode cX1_put 21 = .ok (.getfield 9, 3) := bl_dX1_put_0.2.2.2.2.2.2.2.2.2.2.2.1
theorem dX1_put_24 : decode cX1_put 24 = .ok (.iload_n 1, 1) := bl_dX1_put_0.2.2.2.2.2.2.2.2.2.2.2.2.1
theorem dX1_put_25 : decode cX1_put 25 = .ok (.iload_n 2, 1) := bl_dX1_put_0.2.2.2.2.2.2.2.2.2.2.2.2.2.1
theorem dX1_put_26 : decode cX1_put 26 = .ok (.iastore, 1) := bl_dX1_put_0.2.2.2.2.2.2.2.2.2.2.2.2.2.2.1
theorem dX1_put_27 : decode cX1_put 27 = .ok (.aload_n 0, 1) := bl_dX1_put_0.2.2.2.2.2.2.2.2.2.2.2.2.2.2.2
theorem lk_dX1_put_28 : th_dr cX1_put 28 = 180 :: 0 :: 15 :: 28 :: 27 :: 79 :: 177 :: th_dr cX1_put 35 := rfl
theorem bl_dX1_put_28 : decode cX1_put 28 = .ok (.getfield 15, 3) ∧ decode cX1_put 31 = .ok (.iload_n 2, 1) ∧ decode cX1_put 32 = .ok (.iload_n 1, 1) ∧ decode cX1_put 33 = .ok (.iastore, 1) ∧ decode cX1_put 34 = .ok (.return_, 1) := op_180 lk_dX1_put_28 fun e => op_28 e fun e => op_27 e fun e => op_79 e fun e => (op_177 e fun _ => True.intro).1
theorem dX1_put_28 : decode cX1_put 28 = .ok (.getfield 15, 3) := bl_dX1_put_28.1
theorem dX1_put_31 : decode cX1_put 31 = .ok (.iload_n 2, 1) := bl_dX1_put_28.2.1
theorem dX1_put_32 : decode cX1_put 32 = .ok (.iload_n 1, 1) := bl_dX1_put_28.2.2.1
theorem dX1_put_33 : decode cX1_put 33 = .ok (.iastore, 1) := bl_dX1_put_28.2.2.2.1
theorem dX1_put_34 : decode cX1_put 34 = .ok (.return_, 1) := bl_dX1_put_28.2.2.2.2
set_option maxRecDepth 20000 in
theorem ggX1_lift_X1_buoyOf : GoodIn wsX1_lift wsX1_buoyOf := goodIn_q _ [(7, 1), (2, 1), (8, 5)] rfl gdwsX1_buoyOf
set_option maxRecDepth 20000 in
theorem gX1_lift_X1_buoyOf : GoodIn wsX1_lift (wsV RX1 28 RX1 yX1_buoyOf wsX1_buoyOf) := goodIn_app (goodIn_q _ [(3, 4)] rfl rfl) ggX1_lift_X1_buoyOf
set_option maxRecDepth 20000 in
theorem ggX1_lift_X11_within : GoodIn wsX1_lift wsX11_within := goodIn_q _ [(10, 1)] rfl gdwsX11_within
set_option maxRecDepth 20000 in
theorem gX1_lift_X11_within_n24 : GoodIn wsX1_lift (wsX11_within) := ggX1_lift_X11_within
theorem lk_dX1_lift_0 : th_dr cX1_lift 0 = 42 :: 27 :: 182 :: 0 :: 28 :: 61 :: 27 :: 3 :: 16 :: 15 :: 184 :: 0 :: 24 :: 153 :: 0 :: 27 :: 28 :: 3 :: 16 :: 11 :: 184 :: 0 :: 24 :: 153 :: 0 :: 17 :: 42 :: 180 :: 0 :: 15 :: th_dr cX1_lift 30 := rfl
theorem bl_dX1_lift_0 : decode cX1_lift 0 = .ok (.aload_n 0, 1) ∧ decode cX1_lift 1 = .ok (.iload_n 1, 1) ∧ decode cX1_lift 2 = .ok (.invokevirtual 28, 3) ∧ decode cX1_lift 5 = .ok (.istore_n 2, 1) ∧ decode cX1_lift 6 = .ok (.iload_n 1, 1) ∧ decode cX1_lift 7 = .ok (.iconst 0, 1) ∧ decode cX1_lift 8 = .ok (.bipush 15, 2) ∧ decode cX1_lift 10 = .ok (.invokestatic 24, 3) ∧ decode cX1_lift 13 = .ok (.ifCond .eq 27, 3) ∧ decode cX1_lift 16 = .ok (.iload_n 2, 1) ∧ decode cX1_lift 17 = .ok (.iconst 0, 1) ∧ decode cX1_lift 18 = .ok (.bipush 11, 2) ∧ decode cX1_lift 20 = .ok (.invokestatic 24, 3) ∧ decode cX1_lift 23 = .ok (.ifCond .eq 17, 3) ∧ decode cX1_lift 26 = .ok (.aload_n 0, 1) ∧ decode cX1_lift 27 = .ok (.getfield 15, 3) := op_42 lk_dX1_lift_0 fun e => op_27 e fun e => op_182 e fun e => op_61 e fun e => op_27 e fun e => op_3 e fun e => op_16p e rfl fun e => op_184 e fun e => op_153p e rfl fun e => op_28 e fun e => op_3 e fun e => op_16p e rfl fun e => op_184 e fun e => op_153p e rfl fun e => op_42 e fun e => (op_180 e fun _ => True.intro).1
theorem dX1_lift_0 : decode cX1_lift 0 = .ok (.aload_n 0, 1) := bl_dX1_lift_0.1
theorem dX1_lift_1 : decode cX1_lift 1 = .ok (.iload_n 1, 1) := bl_dX1_lift_0.2.1
theorem dX1_lift_2 : decode cX1_lift 2 = .ok (.invokevirtual 28, 3) := bl_dX1_lift_0.2.2.1
theorem dX1_lift_5 : decode cX1_lift 5 = .ok (.istore_n 2, 1) := bl_dX1_lift_0.2.2.2.1
theorem dX1_lift_6 : decode cX1_lift 6 = .ok (.iload_n 1, 1) := bl_dX1_lift_0.2.2.2.2.1
theorem dX1_lift_7 : decode cX1_lift 7 = .ok (.iconst 0, 1) := bl_dX1_lift_0.2.2.2.2.2.1
theorem dX1_lift_8 : decode cX1_lift 8 = .ok (.bipush 15, 2) := bl_dX1_lift_0.2.2.2.2.2.2.1
theorem dX1_lift_10 : decode cX1_lift 10 = .ok (.invokestatic 24, 3) := bl_dX1_lift_0.2.2.2.2.2.2.2.1
theorem dX1_lift_13 : decode cX1_lift 13 = .ok (.ifCond .eq 27, 3) := bl_dX1_lift_0.2.2.2.2.2.2.2.2.1
theorem dX1_lift_16 : decode cX1_lift 16 = .ok (.iload_n 2, 1) := bl_dX1_lift_0.2.2.2.2.2.2.2.2.2.1
theorem dX1_lift_17 : decode cX1_lift 17 = .ok (.iconst 0, 1) := bl_dX1_lift_0.2.2.2.2.2.2.2.2.2.2.1
theorem dX1_lift_18 : decode cX1_lift 18 = .ok (.bipush 11, 2) := bl_dX1_lift_0.2.2.2.2.2.2.2.2.2.2.2.1
theorem dX1_lift_20 : decode cX1_lift 20 = .ok (.invokestatic 24, 3) := bl_dX1_lift_0.2.2.2.2.2.2.2.2.2.2.2.2.1
theorem dX1_lift_23 : decode cX1_lift 23 = .ok (.ifCond .eq 17, 3) := bl_dX1_lift_0.2.2.2.2.2.2.2.2.2.2.2.2.2.1
theorem dX1_lift_26 : decode cX1_lift 26 = .ok (.aload_n 0, 1) := bl_dX1_lift_0.2.2.2.2.2.2.2.2.2.2.2.2.2.2.1
theorem dX1_lift_27 : decode cX1_lift 27 = .ok (.getfield 15, 3) := bl_dX1_lift_0.2.2.2.2.2.2.2.2.2.2.2.2.2.2.2
theorem lk_dX1_lift_30 : th_dr cX1_lift 30 = 28 :: 2 :: 79 :: 42 :: 180 :: 0 :: 9 :: 27 :: 2 :: 79 :: 177 :: th_dr cX1_lift 41 := rfl
theorem bl_dX1_lift_30 : decode cX1_lift 30 = .ok (.iload_n 2, 1) ∧ decode cX1_lift 31 = .ok (.iconst (-1), 1) ∧ decode cX1_lift 32 = .ok (.iastore, 1) ∧ decode cX1_lift 33 = .ok (.aload_n 0, 1) ∧ decode cX1_lift 34 = .ok (.getfield 9, 3) ∧ decode cX1_lift 37 = .ok (.iload_n 1, 1) ∧ decode cX1_lift 38 = .ok (.iconst (-1), 1) ∧ decode cX1_lift 39 = .ok (.iastore, 1) ∧ decode cX1_lift 40 = .ok (.return_, 1) := op_28 lk_dX1_lift_30 fun e => op_2 e fun e => op_79 e fun e => op_42 e fun e => op_180 e fun e => op_27 e fun e => op_2 e fun e => op_79 e fun e => (op_177 e fun _ => True.intro).1
theorem dX1_lift_30 : decode cX1_lift 30 = .ok (.iload_n 2, 1) := bl_dX1_lift_30.1
theorem dX1_lift_31 : decode cX1_lift 31 = .ok (.iconst (-1), 1) := bl_dX1_lift_30.2.1
theorem dX1_lift_32 : decode cX1_lift 32 = .ok (.iastore, 1) := bl_dX1_lift_30.2.2.1
theorem dX1_lift_33 : decode cX1_lift 33 = .ok (.aload_n 0, 1) := bl_dX1_lift_30.2.2.2.1
theorem dX1_lift_34 : decode cX1_lift 34 = .ok (.getfield 9, 3) := bl_dX1_lift_30.2.2.2.2.1
theorem dX1_lift_37 : decode cX1_lift 37 = .ok (.iload_n 1, 1) := bl_dX1_lift_30.2.2.2.2.2.1
theorem dX1_lift_38 : decode cX1_lift 38 = .ok (.iconst (-1), 1) := bl_dX1_lift_30.2.2.2.2.2.2.1
theorem dX1_lift_39 : decode cX1_lift 39 = .ok (.iastore, 1) := bl_dX1_lift_30.2.2.2.2.2.2.2.1
theorem dX1_lift_40 : decode cX1_lift 40 = .ok (.return_, 1) := bl_dX1_lift_30.2.2.2.2.2.2.2.2
theorem lk_dX1_copyFrom_0 : th_dr cX1_copyFrom 0 = 43 :: 180 :: 0 :: 9 :: 3 :: 42 :: 180 :: 0 :: 9 :: 3 :: 16 :: 16 :: 184 :: 0 :: 32 :: 43 :: 180 :: 0 :: 15 :: 3 :: 42 :: 180 :: 0 :: 15 :: 3 :: 16 :: 12 :: 184 :: 0 :: 32 :: th_dr cX1_copyFrom 30 := rfl
theorem bl_dX1_copyFrom_0 : decode cX1_copyFrom 0 = .ok (.aload_n 1, 1) ∧ decode cX1_copyFrom 1 = .ok (.getfield 9, 3) ∧ decode cX1_copyFrom 4 = .ok (.iconst 0, 1) ∧ decode cX1_copyFrom 5 = .ok (.aload_n 0, 1) ∧ decode cX1_copyFrom 6 = .ok (.getfield 9, 3) ∧ decode cX1_copyFrom 9 = .ok (.iconst 0, 1) ∧ decode cX1_copyFrom 10 = .ok (.bipush 16, 2) ∧ decode cX1_copyFrom 12 = .ok (.invokestatic 32, 3) ∧ decode cX1_copyFrom 15 = .ok (.aload_n 1, 1) ∧ decode cX1_copyFrom 16 = .ok (.getfield 15, 3) ∧ decode cX1_copyFrom 19 = .ok (.iconst 0, 1) ∧ decode cX1_copyFrom 20 = .ok (.aload_n 0, 1) ∧ decode cX1_copyFrom 21 = .ok (.getfield 15, 3) ∧ decode cX1_copyFrom 24 = .ok (.iconst 0, 1) ∧ decode cX1_copyFrom 25 = .ok (.bipush 12, 2) ∧ decode cX1_copyFrom 27 = .ok (.invokestatic 32, 3) := op_43 lk_dX1_copyFrom_0 fun e => op_180 e fun e => op_3 e fun e => op_42 e fun e => op_180 e fun e => op_3 e fun e => op_16p e rfl fun e => op_184 e fun e => op_43 e fun e => op_180 e fun e => op_3 e fun e => op_42 e fun e => op_180 e fun e => op_3 e fun e => op_16p e rfl fun e => (op_184 e fun _ => True.intro).1
theorem dX1_copyFrom_0 : decode cX1_copyFrom 0 = .ok (.aload_n 1, 1) := bl_dX1_copyFrom_0.1
theorem dX1_copyFrom_1 : decode cX1_copyFrom 1 = .ok (.getfield 9, 3) := bl_dX1_copyFrom_0.2.1
theorem dX1_copyFrom_4 : decode cX1_copyFrom 4 = .ok (.iconst 0, 1) := bl_dX1_copyFrom_0.2.2.1
theorem dX1_copyFrom_5 : decode cX1_copyFrom 5 = .ok (.aload_n 0, 1) := bl_dX1_copyFrom_0.2.2.2.1
theorem dX1_copyFrom_6 : decode cX1_copyFrom 6 = .ok (.getfield 9, 3) := bl_dX1_copyFrom_0.2.2.2.2.1
theorem dX1_copyFrom_9 : decode cX1_copyFrom 9 = .ok (.iconst 0, 1) := bl_dX1_copyFrom_0.2.2.2.2.2.1
theorem dX1_copyFrom_10 : decode cX1_copyFrom 10 = .ok (.bipush 16, 2) := bl_dX1_copyFrom_0.2.2.2.2.2.2.1
theorem dX1_copyFrom_12 : decode cX1_copyFrom 12 = .ok (.invokestatic 32, 3) := bl_dX1_copyFrom_0.2.2.2.2.2.2.2.1
theorem dX1_copyFrom_15 : decode cX1_copyFrom 15 = .ok (.aload_n 1, 1) := bl_dX1_copyFrom_0.2.2.2.2.2.2.2.2.1
theorem dX1_copyFrom_16 : decode cX1_copyFrom 16 = .ok (.getfield 15, 3) := bl_dX1_copyFrom_0.2.2.2.2.2.2.2.2.2.1
theorem dX1_copyFrom_19 : decode cX1_copyFrom 19 = .ok (.iconst 0, 1) := bl_dX1_copyFrom_0.2.2.2.2.2.2.2.2.2.2.1
theorem dX1_copyFrom_20 : decode cX1_copyFrom 20 = .ok (.aload_n 0, 1) := bl_dX1_copyFrom_0.2.2.2.2.2.2.2.2.2.2.2.1
theorem dX1_copyFrom_21 : decode cX1_copyFrom 21 = .ok (.getfield 15, 3) := bl_dX1_copyFrom_0.2.2.2.2.2.2.2.2.2.2.2.2.1
theorem dX1_copyFrom_24 : decode cX1_copyFrom 24 = .ok (.iconst 0, 1) := bl_dX1_copyFrom_0.2.2.2.2.2.2.2.2.2.2.2.2.2.1
theorem dX1_copyFrom_25 : decode cX1_copyFrom 25 = .ok (.bipush 12, 2) := bl_dX1_copyFrom_0.2.2.2.2.2.2.2.2.2.2.2.2.2.2.1
theorem dX1_copyFrom_27 : decode cX1_copyFrom 27 = .ok (.invokestatic 32, 3) := bl_dX1_copyFrom_0.2.2.2.2.2.2.2.2.2.2.2.2.2.2.2
theorem lk_dX1_copyFrom_30 : th_dr cX1_copyFrom 30 = 177 :: th_dr cX1_copyFrom 31 := rfl
theorem dX1_copyFrom_30 : decode cX1_copyFrom 30 = .ok (.return_, 1) := (op_177 lk_dX1_copyFrom_30 fun _ => True.intro).1
theorem lk_dX2_init_0 : th_dr cX2_init 0 = 42 :: 183 :: 0 :: 3 :: 42 :: 7 :: 188 :: 10 :: 181 :: 0 :: 9 :: 42 :: 3 :: 181 :: 0 :: 15 :: 42 :: 3 :: 181 :: 0 :: 19 :: 42 :: 27 :: 181 :: 0 :: 22 :: 42 :: th_dr cX2_init 27 := rfl
theorem bl_dX2_init_0 : decode cX2_init 0 = .ok (.aload_n 0, 1) ∧ decode cX2_init 1 = .ok (.invokespecial 3, 3) ∧ decode cX2_init 4 = .ok (.aload_n 0, 1) ∧ decode cX2_init 5 = .ok (.iconst 4, 1) ∧ decode cX2_init 6 = .ok (.newarray .int, 2) ∧ decode cX2_init 8 = .ok (.putfield 9, 3) ∧ decode cX2_init 11 = .ok (.aload_n 0, 1) ∧ decode cX2_init 12 = .ok (.iconst 0, 1) ∧ decode cX2_init 13 = .ok (.putfield 15, 3) ∧ decode cX2_init 16 = .ok (.aload_n 0, 1) ∧ decode cX2_init 17 = .ok (.iconst 0, 1) ∧ decode cX2_init 18 = .ok (.putfield 19, 3) ∧ decode cX2_init 21 = .ok (.aload_n 0, 1) ∧ decode cX2_init 22 = .ok (.iload_n 1, 1) ∧ decode cX2_init 23 = .ok (.putfield 22, 3) ∧ decode cX2_init 26 = .ok (.aload_n 0, 1) := op_42 lk_dX2_init_0 fun e => op_183 e fun e => op_42 e fun e => op_7 e fun e => op_188_10 e fun e => op_181 e fun e => op_42 e fun e => op_3 e fun e => op_181 e fun e => op_42 e fun e => op_3 e fun e => op_181 e fun e => op_42 e fun e => op_27 e fun e => op_181 e fun e => (op_42 e fun _ => True.intro).1
theorem dX2_init_0 : decode cX2_init 0 = .ok (.aload_n 0, 1) := bl_dX2_init_0.1
theorem dX2_init_1 : decode cX2_init 1 = .ok (.invokespecial 3, 3) := bl_dX2_init_0.2.1
theorem dX2_init_4 : decode cX2_init 4 = .ok (.aload_n 0, 1) := bl_dX2_init_0.2.2.1
theorem dX2_init_5 : decode cX2_init 5 = .ok (.iconst 4, 1) := bl_dX2_init_0.2.2.2.1
theorem dX2_init_6 : decode cX2_init 6 = .ok (.newarray .int, 2) := bl_dX2_init_0.2.2.2.2.1
theorem dX2_init_8 : decode cX2_init 8 = .ok (.putfield 9, 3) := bl_dX2_init_0.2.2.2.2.2.1
theorem dX2_init_11 : decode cX2_init 11 = .ok (.aload_n 0, 1) := bl_dX2_init_0.2.2.2.2.2.2.1
theorem dX2_init_12 : decode cX2_init 12 = .ok (.iconst 0, 1) := bl_dX2_init_0.2.2.2.2.2.2.2.1
theorem dX2_init_13 : decode cX2_init 13 = .ok (.putfield 15, 3) := bl_dX2_init_0.2.2.2.2.2.2.2.2.1
theorem dX2_init_16 : decode cX2_init 16 = .ok (.aload_n 0, 1) := bl_dX2_init_0.2.2.2.2.2.2.2.2.2.1
theorem dX2_init_17 : decode cX2_init 17 = .ok (.iconst 0, 1) := bl_dX2_init_0.2.2.2.2.2.2.2.2.2.2.1
theorem dX2_init_18 : decode cX2_init 18 = .ok (.putfield 19, 3) := bl_dX2_init_0.2.2.2.2.2.2.2.2.2.2.2.1
theorem dX2_init_21 : decode cX2_init 21 = .ok (.aload_n 0, 1) := bl_dX2_init_0.2.2.2.2.2.2.2.2.2.2.2.2.1
theorem dX2_init_22 : decode cX2_init 22 = .ok (.iload_n 1, 1) := bl_dX2_init_0.2.2.2.2.2.2.2.2.2.2.2.2.2.1
theorem dX2_init_23 : decode cX2_init 23 = .ok (.putfield 22, 3) := bl_dX2_init_0.2.2.2.2.2.2.2.2.2.2.2.2.2.2.1
theorem dX2_init_26 : decode cX2_init 26 = .ok (.aload_n 0, 1) := bl_dX2_init_0.2.2.2.2.2.2.2.2.2.2.2.2.2.2.2
theorem lk_dX2_init_27 : th_dr cX2_init 27 = 28 :: 181 :: 0 :: 25 :: 42 :: 29 :: 181 :: 0 :: 28 :: 177 :: th_dr cX2_init 37 := rfl
theorem bl_dX2_init_27 : decode cX2_init 27 = .ok (.iload_n 2, 1) ∧ decode cX2_init 28 = .ok (.putfield 25, 3) ∧ decode cX2_init 31 = .ok (.aload_n 0, 1) ∧ decode cX2_init 32 = .ok (.iload_n 3, 1) ∧ decode cX2_init 33 = .ok (.putfield 28, 3) ∧ decode cX2_init 36 = .ok (.return_, 1) := op_28 lk_dX2_init_27 fun e => op_181 e fun e => op_42 e fun e => op_29 e fun e => op_181 e fun e => (op_177 e fun _ => True.intro).1
theorem dX2_init_27 : decode cX2_init 27 = .ok (.iload_n 2, 1) := bl_dX2_init_27.1
theorem dX2_init_28 : decode cX2_init 28 = .ok (.putfield 25, 3) := bl_dX2_init_27.2.1
theorem dX2_init_31 : decode cX2_init 31 = .ok (.aload_n 0, 1) := bl_dX2_init_27.2.2.1
theorem dX2_init_32 : decode cX2_init 32 = .ok (.iload_n 3, 1) := bl_dX2_init_27.2.2.2.1
theorem dX2_init_33 : decode cX2_init 33 = .ok (.putfield 28, 3) := bl_dX2_init_27.2.2.2.2.1
theorem dX2_init_36 : decode cX2_init 36 = .ok (.return_, 1) := bl_dX2_init_27.2.2.2.2.2
theorem lk_dX2_reach_0 : th_dr cX2_reach 0 = 42 :: 180 :: 0 :: 25 :: 172 :: th_dr cX2_reach 5 := rfl
theorem bl_dX2_reach_0 : decode cX2_reach 0 = .ok (.aload_n 0, 1) ∧ decode cX2_reach 1 = .ok (.getfield 25, 3) ∧ decode cX2_reach 4 = .ok (.ireturn, 1) := op_42 lk_dX2_reach_0 fun e => op_180 e fun e => (op_172 e fun _ => True.intro).1
theorem dX2_reach_0 : decode cX2_reach 0 = .ok (.aload_n 0, 1) := bl_dX2_reach_0.1
theorem dX2_reach_1 : decode cX2_reach 1 = .ok (.getfield 25, 3) := bl_dX2_reach_0.2.1
theorem dX2_reach_4 : decode cX2_reach 4 = .ok (.ireturn, 1) := bl_dX2_reach_0.2.2
theorem lk_dX2_need_0 : th_dr cX2_need 0 = 42 :: 180 :: 0 :: 28 :: 172 :: th_dr cX2_need 5 := rfl
theorem bl_dX2_need_0 : decode cX2_need 0 = .ok (.aload_n 0, 1) ∧ decode cX2_need 1 = .ok (.getfield 28, 3) ∧ decode cX2_need 4 = .ok (.ireturn, 1) := op_42 lk_dX2_need_0 fun e => op_180 e fun e => (op_172 e fun _ => True.intro).1
theorem dX2_need_0 : decode cX2_need 0 = .ok (.aload_n 0, 1) := bl_dX2_need_0.1
theorem dX2_need_1 : decode cX2_need 1 = .ok (.getfield 28, 3) := bl_dX2_need_0.2.1
theorem dX2_need_4 : decode cX2_need 4 = .ok (.ireturn, 1) := bl_dX2_need_0.2.2
set_option maxRecDepth 20000 in
theorem gdwsX2_plainFee : wsX2_plainFee.all goodWord = true := by decide +kernel
set_option maxRecDepth 20000 in
theorem ggX2_fee_X2_plainFee : GoodIn wsX2_fee wsX2_plainFee := goodIn_q _ [(6, 2), (10, 18)] rfl gdwsX2_plainFee
set_option maxRecDepth 20000 in
theorem gX2_fee_X2_plainFee_u31X4 : GoodIn wsX2_fee (va_wsU RX2 31 RX4 "BayMoorings$Boat" ⟨"BayMoorings$Boat", "plainFee", "(I)I"⟩ yX2_plainFee wsX2_plainFee) := goodIn_app (goodIn_q _ [(1, 5)] rfl rfl) ggX2_fee_X2_plainFee
set_option maxRecDepth 20000 in
theorem gX2_fee_X2_plainFee_u31X8 : GoodIn wsX2_fee (va_wsU RX2 31 RX8 "BayMoorings$Boat" ⟨"BayMoorings$Boat", "plainFee", "(I)I"⟩ yX2_plainFee wsX2_plainFee) := goodIn_app (goodIn_q _ [(1, 2), (8, 1), (4, 2)] rfl rfl) ggX2_fee_X2_plainFee
set_option maxRecDepth 20000 in
theorem gX2_fee_X2_plainFee_u31X9 : GoodIn wsX2_fee (va_wsU RX2 31 RX9 "BayMoorings$Boat" ⟨"BayMoorings$Boat", "plainFee", "(I)I"⟩ yX2_plainFee wsX2_plainFee) := goodIn_app (goodIn_q _ [(1, 2), (9, 1), (4, 2)] rfl rfl) ggX2_fee_X2_plainFee
theorem lk_dX2_fee_0 : th_dr cX2_fee 0 = 42 :: 27 :: 182 :: 0 :: 31 :: 172 :: th_dr cX2_fee 6 := rfl
theorem bl_dX2_fee_0 : decode cX2_fee 0 = .ok (.aload_n 0, 1) ∧ decode cX2_fee 1 = .ok (.iload_n 1, 1) ∧ decode cX2_fee 2 = .ok (.invokevirtual 31, 3) ∧ decode cX2_fee 5 = .ok (.ireturn, 1) := op_42 lk_dX2_fee_0 fun e => op_27 e fun e => op_182 e fun e => (op_172 e fun _ => True.intro).1
theorem dX2_fee_0 : decode cX2_fee 0 = .ok (.aload_n 0, 1) := bl_dX2_fee_0.1
theorem dX2_fee_1 : decode cX2_fee 1 = .ok (.iload_n 1, 1) := bl_dX2_fee_0.2.1
theorem dX2_fee_2 : decode cX2_fee 2 = .ok (.invokevirtual 31, 3) := bl_dX2_fee_0.2.2.1
theorem dX2_fee_5 : decode cX2_fee 5 = .ok (.ireturn, 1) := bl_dX2_fee_0.2.2.2
set_option maxRecDepth 20000 in
theorem gdwsX4_kindNumber : wsX4_kindNumber.all goodWord = true := by decide +kernel
set_option maxRecDepth 20000 in
theorem ggX2_isOf_X4_kindNumber : GoodIn wsX2_isOf wsX4_kindNumber := goodIn_q _ [(6, 1)] rfl gdwsX4_kindNumber
set_option maxRecDepth 20000 in
theorem gX2_isOf_X4_kindNumber_u35X4 : GoodIn wsX2_isOf (va_wsU RX2 35 RX4 "BayMoorings$Boat" ⟨"BayMoorings$Boat", "kindNumber", "()I"⟩ yX4_kindNumber wsX4_kindNumber) := goodIn_app (goodIn_q _ [(1, 5)] rfl rfl) ggX2_isOf_X4_kindNumber
set_option maxRecDepth 20000 in
theorem gdwsX8_kindNumber : wsX8_kindNumber.all goodWord = true := by decide +kernel
set_option maxRecDepth 20000 in
theorem ggX2_isOf_X8_kindNumber : GoodIn wsX2_isOf wsX8_kindNumber := goodIn_q _ [(10, 1)] rfl gdwsX8_kindNumber
set_option maxRecDepth 20000 in
theorem gX2_isOf_X8_kindNumber_u35X8 : GoodIn wsX2_isOf (va_wsU RX2 35 RX8 "BayMoorings$Boat" ⟨"BayMoorings$Boat", "kindNumber", "()I"⟩ yX8_kindNumber wsX8_kindNumber) := goodIn_app (goodIn_q _ [(1, 2), (7, 3)] rfl rfl) ggX2_isOf_X8_kindNumber
set_option maxRecDepth 20000 in
theorem gdwsX9_kindNumber : wsX9_kindNumber.all goodWord = true := by decide +kernel
set_option maxRecDepth 20000 in
theorem ggX2_isOf_X9_kindNumber : GoodIn wsX2_isOf wsX9_kindNumber := goodIn_q _ [(14, 1)] rfl gdwsX9_kindNumber
set_option maxRecDepth 20000 in
theorem gX2_isOf_X9_kindNumber_u35X9 : GoodIn wsX2_isOf (va_wsU RX2 35 RX9 "BayMoorings$Boat" ⟨"BayMoorings$Boat", "kindNumber", "()I"⟩ yX9_kindNumber wsX9_kindNumber) := goodIn_app (goodIn_q _ [(1, 2), (11, 3)] rfl rfl) ggX2_isOf_X9_kindNumber
theorem lk_dX2_isOf_0 : th_dr cX2_isOf 0 = 27 :: 153 :: 0 :: 11 :: 27 :: 42 :: 182 :: 0 :: 35 :: 160 :: 0 :: 7 :: 4 :: 167 :: 0 :: 4 :: 3 :: 172 :: th_dr cX2_isOf 18 := rfl
theorem bl_dX2_isOf_0 : decode cX2_isOf 0 = .ok (.iload_n 1, 1) ∧ decode cX2_isOf 1 = .ok (.ifCond .eq 11, 3) ∧ decode cX2_isOf 4 = .ok (.iload_n 1, 1) ∧ decode cX2_isOf 5 = .ok (.aload_n 0, 1) ∧ decode cX2_isOf 6 = .ok (.invokevirtual 35, 3) ∧ decode cX2_isOf 9 = .ok (.if_icmp .ne 7, 3) ∧ decode cX2_isOf 12 = .ok (.iconst 1, 1) ∧ decode cX2_isOf 13 = .ok (.goto 4, 3) ∧ decode cX2_isOf 16 = .ok (.iconst 0, 1) ∧ decode cX2_isOf 17 = .ok (.ireturn, 1) := op_27 lk_dX2_isOf_0 fun e => op_153p e rfl fun e => op_27 e fun e => op_42 e fun e => op_182 e fun e => op_160p e rfl fun e => op_4 e fun e => op_167p e rfl fun e => op_3 e fun e => (op_172 e fun _ => True.intro).1
theorem dX2_isOf_0 : decode cX2_isOf 0 = .ok (.iload_n 1, 1) := bl_dX2_isOf_0.1
theorem dX2_isOf_1 : decode cX2_isOf 1 = .ok (.ifCond .eq 11, 3) := bl_dX2_isOf_0.2.1
theorem dX2_isOf_4 : decode cX2_isOf 4 = .ok (.iload_n 1, 1) := bl_dX2_isOf_0.2.2.1
theorem dX2_isOf_5 : decode cX2_isOf 5 = .ok (.aload_n 0, 1) := bl_dX2_isOf_0.2.2.2.1
theorem dX2_isOf_6 : decode cX2_isOf 6 = .ok (.invokevirtual 35, 3) := bl_dX2_isOf_0.2.2.2.2.1
theorem dX2_isOf_9 : decode cX2_isOf 9 = .ok (.if_icmp .ne 7, 3) := bl_dX2_isOf_0.2.2.2.2.2.1
theorem dX2_isOf_12 : decode cX2_isOf 12 = .ok (.iconst 1, 1) := bl_dX2_isOf_0.2.2.2.2.2.2.1
theorem dX2_isOf_13 : decode cX2_isOf 13 = .ok (.goto 4, 3) := bl_dX2_isOf_0.2.2.2.2.2.2.2.1
theorem dX2_isOf_16 : decode cX2_isOf 16 = .ok (.iconst 0, 1) := bl_dX2_isOf_0.2.2.2.2.2.2.2.2.1
theorem dX2_isOf_17 : decode cX2_isOf 17 = .ok (.ireturn, 1) := bl_dX2_isOf_0.2.2.2.2.2.2.2.2.2
theorem lk_dX2_plainFee_0 : th_dr cX2_plainFee 0 = 42 :: 180 :: 0 :: 25 :: 27 :: 104 :: 16 :: 9 :: 96 :: 16 :: 10 :: 108 :: 172 :: th_dr cX2_plainFee 13 := rfl
theorem bl_dX2_plainFee_0 : decode cX2_plainFee 0 = .ok (.aload_n 0, 1) ∧ decode cX2_plainFee 1 = .ok (.getfield 25, 3) ∧ decode cX2_plainFee 4 = .ok (.iload_n 1, 1) ∧ decode cX2_plainFee 5 = .ok (.imul, 1) ∧ decode cX2_plainFee 6 = .ok (.bipush 9, 2) ∧ decode cX2_plainFee 8 = .ok (.iadd, 1) ∧ decode cX2_plainFee 9 = .ok (.bipush 10, 2) ∧ decode cX2_plainFee 11 = .ok (.idiv, 1) ∧ decode cX2_plainFee 12 = .ok (.ireturn, 1) := op_42 lk_dX2_plainFee_0 fun e => op_180 e fun e => op_27 e fun e => op_104 e fun e => op_16p e rfl fun e => op_96 e fun e => op_16p e rfl fun e => op_108 e fun e => (op_172 e fun _ => True.intro).1
theorem dX2_plainFee_0 : decode cX2_plainFee 0 = .ok (.aload_n 0, 1) := bl_dX2_plainFee_0.1
theorem dX2_plainFee_1 : decode cX2_plainFee 1 = .ok (.getfield 25, 3) := bl_dX2_plainFee_0.2.1
theorem dX2_plainFee_4 : decode cX2_plainFee 4 = .ok (.iload_n 1, 1) := bl_dX2_plainFee_0.2.2.1
theorem dX2_plainFee_5 : decode cX2_plainFee 5 = .ok (.imul, 1) := bl_dX2_plainFee_0.2.2.2.1
theorem dX2_plainFee_6 : decode cX2_plainFee 6 = .ok (.bipush 9, 2) := bl_dX2_plainFee_0.2.2.2.2.1
theorem dX2_plainFee_8 : decode cX2_plainFee 8 = .ok (.iadd, 1) := bl_dX2_plainFee_0.2.2.2.2.2.1
theorem dX2_plainFee_9 : decode cX2_plainFee 9 = .ok (.bipush 10, 2) := bl_dX2_plainFee_0.2.2.2.2.2.2.1
theorem dX2_plainFee_11 : decode cX2_plainFee 11 = .ok (.idiv, 1) := bl_dX2_plainFee_0.2.2.2.2.2.2.2.1
theorem dX2_plainFee_12 : decode cX2_plainFee 12 = .ok (.ireturn, 1) := bl_dX2_plainFee_0.2.2.2.2.2.2.2.2
theorem lk_dX2_hasRefused_0 : th_dr cX2_hasRefused 0 = 42 :: 180 :: 0 :: 19 :: 27 :: 122 :: 4 :: 126 :: 153 :: 0 :: 7 :: 4 :: 167 :: 0 :: 4 :: 3 :: 172 :: th_dr cX2_hasRefused 17 := rfl
theorem bl_dX2_hasRefused_0 : decode cX2_hasRefused 0 = .ok (.aload_n 0, 1) ∧ decode cX2_hasRefused 1 = .ok (.getfield 19, 3) ∧ decode cX2_hasRefused 4 = .ok (.iload_n 1, 1) ∧ decode cX2_hasRefused 5 = .ok (.ishr, 1) ∧ decode cX2_hasRefused 6 = .ok (.iconst 1, 1) ∧ decode cX2_hasRefused 7 = .ok (.iand, 1) ∧ decode cX2_hasRefused 8 = .ok (.ifCond .eq 7, 3) ∧ decode cX2_hasRefused 11 = .ok (.iconst 1, 1) ∧ decode cX2_hasRefused 12 = .ok (.goto 4, 3) ∧ decode cX2_hasRefused 15 = .ok (.iconst 0, 1) ∧ decode cX2_hasRefused 16 = .ok (.ireturn, 1) := op_42 lk_dX2_hasRefused_0 fun e => op_180 e fun e => op_27 e fun e => op_122 e fun e => op_4 e fun e => op_126 e fun e => op_153p e rfl fun e => op_4 e fun e => op_167p e rfl fun e => op_3 e fun e => (op_172 e fun _ => True.intro).1
theorem dX2_hasRefused_0 : decode cX2_hasRefused 0 = .ok (.aload_n 0, 1) := bl_dX2_hasRefused_0.1
theorem dX2_hasRefused_1 : decode cX2_hasRefused 1 = .ok (.getfield 19, 3) := bl_dX2_hasRefused_0.2.1
theorem dX2_hasRefused_4 : decode cX2_hasRefused 4 = .ok (.iload_n 1, 1) := bl_dX2_hasRefused_0.2.2.1
theorem dX2_hasRefused_5 : decode cX2_hasRefused 5 = .ok (.ishr, 1) := bl_dX2_hasRefused_0.2.2.2.1
theorem dX2_hasRefused_6 : decode cX2_hasRefused 6 = .ok (.iconst 1, 1) := bl_dX2_hasRefused_0.2.2.2.2.1
theorem dX2_hasRefused_7 : decode cX2_hasRefused 7 = .ok (.iand, 1) := bl_dX2_hasRefused_0.2.2.2.2.2.1
theorem dX2_hasRefused_8 : decode cX2_hasRefused 8 = .ok (.ifCond .eq 7, 3) := bl_dX2_hasRefused_0.2.2.2.2.2.2.1
theorem dX2_hasRefused_11 : decode cX2_hasRefused 11 = .ok (.iconst 1, 1) := bl_dX2_hasRefused_0.2.2.2.2.2.2.2.1
theorem dX2_hasRefused_12 : decode cX2_hasRefused 12 = .ok (.goto 4, 3) := bl_dX2_hasRefused_0.2.2.2.2.2.2.2.2.1
theorem dX2_hasRefused_15 : decode cX2_hasRefused 15 = .ok (.iconst 0, 1) := bl_dX2_hasRefused_0.2.2.2.2.2.2.2.2.2.1
theorem dX2_hasRefused_16 : decode cX2_hasRefused 16 = .ok (.ireturn, 1) := bl_dX2_hasRefused_0.2.2.2.2.2.2.2.2.2.2
set_option maxRecDepth 20000 in
theorem ggX2_wishAt_X11_within : GoodIn wsX2_wishAt wsX11_within := goodIn_q _ [(5, 1)] rfl gdwsX11_within
set_option maxRecDepth 20000 in
theorem gX2_wishAt_X11_within_n39 : GoodIn wsX2_wishAt (wsX11_within) := ggX2_wishAt_X11_within
theorem lk_dX2_wishAt_0 : th_dr cX2_wishAt 0 = 27 :: 3 :: 42 :: 180 :: 0 :: 15 :: 4 :: 100 :: 184 :: 0 :: 39 :: 153 :: 0 :: 17 :: 27 :: 7 :: 162 :: 0 :: 12 :: 42 :: 180 :: 0 :: 9 :: 27 :: 46 :: 167 :: 0 :: 4 :: th_dr cX2_wishAt 28 := rfl
theorem bl_dX2_wishAt_0 : decode cX2_wishAt 0 = .ok (.iload_n 1, 1) ∧ decode cX2_wishAt 1 = .ok (.iconst 0, 1) ∧ decode cX2_wishAt 2 = .ok (.aload_n 0, 1) ∧ decode cX2_wishAt 3 = .ok (.getfield 15, 3) ∧ decode cX2_wishAt 6 = .ok (.iconst 1, 1) ∧ decode cX2_wishAt 7 = .ok (.isub, 1) ∧ decode cX2_wishAt 8 = .ok (.invokestatic 39, 3) ∧ decode cX2_wishAt 11 = .ok (.ifCond .eq 17, 3) ∧ decode cX2_wishAt 14 = .ok (.iload_n 1, 1) ∧ decode cX2_wishAt 15 = .ok (.iconst 4, 1) ∧ decode cX2_wishAt 16 = .ok (.if_icmp .ge 12, 3) ∧ decode cX2_wishAt 19 = .ok (.aload_n 0, 1) ∧ decode cX2_wishAt 20 = .ok (.getfield 9, 3) ∧ decode cX2_wishAt 23 = .ok (.iload_n 1, 1) ∧ decode cX2_wishAt 24 = .ok (.iaload, 1) ∧ decode cX2_wishAt 25 = .ok (.goto 4, 3) := op_27 lk_dX2_wishAt_0 fun e => op_3 e fun e => op_42 e fun e => op_180 e fun e => op_4 e fun e => op_100 e fun e => op_184 e fun e => op_153p e rfl fun e => op_27 e fun e => op_7 e fun e => op_162p e rfl fun e => op_42 e fun e => op_180 e fun e => op_27 e fun e => op_46 e fun e => (op_167p e rfl fun _ => True.intro).1
theorem dX2_wishAt_0 : decode cX2_wishAt 0 = .ok (.iload_n 1, 1) := bl_dX2_wishAt_0.1
theorem dX2_wishAt_1 : decode cX2_wishAt 1 = .ok (.iconst 0, 1) := bl_dX2_wishAt_0.2.1
theorem dX2_wishAt_2 : decode cX2_wishAt 2 = .ok (.aload_n 0, 1) := bl_dX2_wishAt_0.2.2.1
theorem dX2_wishAt_3 : decode cX2_wishAt 3 = .ok (.getfield 15, 3) := bl_dX2_wishAt_0.2.2.2.1
theorem dX2_wishAt_6 : decode cX2_wishAt 6 = .ok (.iconst 1, 1) := bl_dX2_wishAt_0.2.2.2.2.1
theorem dX2_wishAt_7 : decode cX2_wishAt 7 = .ok (.isub, 1) := bl_dX2_wishAt_0.2.2.2.2.2.1
theorem dX2_wishAt_8 : decode cX2_wishAt 8 = .ok (.invokestatic 39, 3) := bl_dX2_wishAt_0.2.2.2.2.2.2.1
theorem dX2_wishAt_11 : decode cX2_wishAt 11 = .ok (.ifCond .eq 17, 3) := bl_dX2_wishAt_0.2.2.2.2.2.2.2.1
theorem dX2_wishAt_14 : decode cX2_wishAt 14 = .ok (.iload_n 1, 1) := bl_dX2_wishAt_0.2.2.2.2.2.2.2.2.1
theorem dX2_wishAt_15 : decode cX2_wishAt 15 = .ok (.iconst 4, 1) := bl_dX2_wishAt_0.2.2.2.2.2.2.2.2.2.1
theorem dX2_wishAt_16 : decode cX2_wishAt 16 = .ok (.if_icmp .ge 12, 3) := bl_dX2_wishAt_0.2.2.2.2.2.2.2.2.2.2.1
theorem dX2_wishAt_19 : decode cX2_wishAt 19 = .ok (.aload_n 0, 1) := bl_dX2_wishAt_0.2.2.2.2.2.2.2.2.2.2.2.1
theorem dX2_wishAt_20 : decode cX2_wishAt 20 = .ok (.getfield 9, 3) := bl_dX2_wishAt_0.2.2.2.2.2.2.2.2.2.2.2.2.1
theorem dX2_wishAt_23 : decode cX2_wishAt 23 = .ok (.iload_n 1, 1) := bl_dX2_wishAt_0.2.2.2.2.2.2.2.2.2.2.2.2.2.1
theorem dX2_wishAt_24 : decode cX2_wishAt 24 = .ok (.iaload, 1) := bl_dX2_wishAt_0.2.2.2.2.2.2.2.2.2.2.2.2.2.2.1
theorem dX2_wishAt_25 : decode cX2_wishAt 25 = .ok (.goto 4, 3) := bl_dX2_wishAt_0.2.2.2.2.2.2.2.2.2.2.2.2.2.2.2
theorem lk_dX2_wishAt_28 : th_dr cX2_wishAt 28 = 2 :: 172 :: th_dr cX2_wishAt 30 := rfl
theorem bl_dX2_wishAt_28 : decode cX2_wishAt 28 = .ok (.iconst (-1), 1) ∧ decode cX2_wishAt 29 = .ok (.ireturn, 1) := op_2 lk_dX2_wishAt_28 fun e => (op_172 e fun _ => True.intro).1
theorem dX2_wishAt_28 : decode cX2_wishAt 28 = .ok (.iconst (-1), 1) := bl_dX2_wishAt_28.1
theorem dX2_wishAt_29 : decode cX2_wishAt 29 = .ok (.ireturn, 1) := bl_dX2_wishAt_28.2
set_option maxRecDepth 20000 in
theorem gdwsX2_wishAt : wsX2_wishAt.all goodWord = true := by decide +kernel
set_option maxRecDepth 20000 in
theorem ggX2_wishesFor_X2_wishAt : GoodIn wsX2_wishesFor wsX2_wishAt := goodIn_q _ [(7, 1), (1, 1), (8, 4), (14, 18)] rfl gdwsX2_wishAt
