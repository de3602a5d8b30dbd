set_option maxRecDepth 20000 in
theorem lk_dX11_most_95 : th_dr cX11_most 95 = 182 :: 0 :: 210 :: 172 :: th_dr cX11_most 99 := rfl
theorem bl_dX11_most_95 : decode cX11_most 95 = .ok (.invokevirtual 210, 3) ∧ decode cX11_most 98 = .ok (.ireturn, 1) := op_182 lk_dX11_most_95 fun e => (op_172 e fun _ => True.intro).1
theorem dX11_most_95 : decode cX11_most 95 = .ok (.invokevirtual 210, 3) := bl_dX11_most_95.1
theorem dX11_most_98 : decode cX11_most 98 = .ok (.ireturn, 1) := bl_dX11_most_95.2
set_option maxRecDepth 20000 in
theorem ggX11_wait_X0_boatAt : GoodIn wsX11_wait wsX0_boatAt := goodIn_q _ [(10, 6), (50, 9)] rfl gdwsX0_boatAt
set_option maxRecDepth 20000 in
theorem gX11_wait_X0_boatAt : GoodIn wsX11_wait (wsV RX11 90 RX0 yX0_boatAt wsX0_boatAt) := goodIn_app (goodIn_q _ [(6, 4)] rfl rfl) ggX11_wait_X0_boatAt
set_option maxRecDepth 20000 in
theorem ggX11_wait_X11_finding : GoodIn wsX11_wait wsX11_finding := goodIn_q _ [(19, 4), (13, 3), (40, 10)] rfl gdwsX11_finding
set_option maxRecDepth 20000 in
theorem gX11_wait_X11_finding : GoodIn wsX11_wait (wsV RX11 68 RX11 yX11_finding wsX11_finding) := goodIn_app (goodIn_q _ [(16, 3), (14, 1)] rfl rfl) ggX11_wait_X11_finding
set_option maxRecDepth 20000 in
theorem ggX11_wait_X1_buoyOf : GoodIn wsX11_wait wsX1_buoyOf := goodIn_q _ [(27, 2), (13, 3), (80, 2)] rfl gdwsX1_buoyOf
set_option maxRecDepth 20000 in
theorem gX11_wait_X1_buoyOf : GoodIn wsX11_wait (wsV RX11 129 RX1 yX1_buoyOf wsX1_buoyOf) := goodIn_app (goodIn_q _ [(23, 4)] rfl rfl) ggX11_wait_X1_buoyOf
set_option maxRecDepth 20000 in
theorem ggX11_wait_X10_placeOf : GoodIn wsX11_wait wsX10_placeOf := goodIn_q _ [(33, 3), (59, 3)] rfl gdwsX10_placeOf
set_option maxRecDepth 20000 in
theorem gX11_wait_X10_placeOf : GoodIn wsX11_wait (wsV RX11 134 RX10 yX10_placeOf wsX10_placeOf) := goodIn_app (goodIn_q _ [(29, 4)] rfl rfl) ggX11_wait_X10_placeOf
set_option maxRecDepth 20000 in
theorem gdwsX10_append : wsX10_append.all goodWord = true := by decide +kernel
set_option maxRecDepth 20000 in
theorem ggX11_wait_X10_append : GoodIn wsX11_wait wsX10_append := goodIn_q _ [(39, 1), (34, 2), (59, 3)] rfl gdwsX10_append
set_option maxRecDepth 20000 in
theorem gX11_wait_X10_append : GoodIn wsX11_wait (wsV RX11 219 RX10 yX10_append wsX10_append) := goodIn_app (goodIn_q _ [(36, 3), (32, 1)] rfl rfl) ggX11_wait_X10_append
theorem lk_dX11_wait_0 : th_dr cX11_wait 0 = 42 :: 180 :: 0 :: 10 :: 27 :: 182 :: 0 :: 90 :: 77 :: 44 :: 199 :: 0 :: 9 :: 42 :: 4 :: 182 :: 0 :: 68 :: 172 :: 42 :: 180 :: 0 :: 10 :: 180 :: 0 :: 125 :: 27 :: 182 :: 0 :: 129 :: th_dr cX11_wait 30 := rfl
theorem bl_dX11_wait_0 : decode cX11_wait 0 = .ok (.aload_n 0, 1) ∧ decode cX11_wait 1 = .ok (.getfield 10, 3) ∧ decode cX11_wait 4 = .ok (.iload_n 1, 1) ∧ decode cX11_wait 5 = .ok (.invokevirtual 90, 3) ∧ decode cX11_wait 8 = .ok (.astore_n 2, 1) ∧ decode cX11_wait 9 = .ok (.aload_n 2, 1) ∧ decode cX11_wait 10 = .ok (.ifnonnull 9, 3) ∧ decode cX11_wait 13 = .ok (.aload_n 0, 1) ∧ decode cX11_wait 14 = .ok (.iconst 1, 1) ∧ decode cX11_wait 15 = .ok (.invokevirtual 68, 3) ∧ decode cX11_wait 18 = .ok (.ireturn, 1) ∧ decode cX11_wait 19 = .ok (.aload_n 0, 1) ∧ decode cX11_wait 20 = .ok (.getfield 10, 3) ∧ decode cX11_wait 23 = .ok (.getfield 125, 3) ∧ decode cX11_wait 26 = .ok (.iload_n 1, 1) ∧ decode cX11_wait 27 = .ok (.invokevirtual 129, 3) := op_42 lk_dX11_wait_0 fun e => op_180 e fun e => op_27 e fun e => op_182 e fun e => op_77 e fun e => op_44 e fun e => op_199p e rfl fun e => op_42 e fun e => op_4 e fun e => op_182 e fun e => op_172 e fun e => op_42 e fun e => op_180 e fun e => op_180 e fun e => op_27 e fun e => (op_182 e fun _ => True.intro).1
theorem dX11_wait_0 : decode cX11_wait 0 = .ok (.aload_n 0, 1) := bl_dX11_wait_0.1
theorem dX11_wait_1 : decode cX11_wait 1 = .ok (.getfield 10, 3) := bl_dX11_wait_0.2.1
theorem dX11_wait_4 : decode cX11_wait 4 = .ok (.iload_n 1, 1) := bl_dX11_wait_0.2.2.1
theorem dX11_wait_5 : decode cX11_wait 5 = .ok (.invokevirtual 90, 3) := bl_dX11_wait_0.2.2.2.1
theorem dX11_wait_8 : decode cX11_wait 8 = .ok (.astore_n 2, 1) := bl_dX11_wait_0.2.2.2.2.1
theorem dX11_wait_9 : decode cX11_wait 9 = .ok (.aload_n 2, 1) := bl_dX11_wait_0.2.2.2.2.2.1
theorem dX11_wait_10 : decode cX11_wait 10 = .ok (.ifnonnull 9, 3) := bl_dX11_wait_0.2.2.2.2.2.2.1
theorem dX11_wait_13 : decode cX11_wait 13 = .ok (.aload_n 0, 1) := bl_dX11_wait_0.2.2.2.2.2.2.2.1
theorem dX11_wait_14 : decode cX11_wait 14 = .ok (.iconst 1, 1) := bl_dX11_wait_0.2.2.2.2.2.2.2.2.1
theorem dX11_wait_15 : decode cX11_wait 15 = .ok (.invokevirtual 68, 3) := bl_dX11_wait_0.2.2.2.2.2.2.2.2.2.1
theorem dX11_wait_18 : decode cX11_wait 18 = .ok (.ireturn, 1) := bl_dX11_wait_0.2.2.2.2.2.2.2.2.2.2.1
theorem dX11_wait_19 : decode cX11_wait 19 = .ok (.aload_n 0, 1) := bl_dX11_wait_0.2.2.2.2.2.2.2.2.2.2.2.1
theorem dX11_wait_20 : decode cX11_wait 20 = .ok (.getfield 10, 3) := bl_dX11_wait_0.2.2.2.2.2.2.2.2.2.2.2.2.1
theorem dX11_wait_23 : decode cX11_wait 23 = .ok (.getfield 125, 3) := bl_dX11_wait_0.2.2.2.2.2.2.2.2.2.2.2.2.2.1
theorem dX11_wait_26 : decode cX11_wait 26 = .ok (.iload_n 1, 1) := bl_dX11_wait_0.2.2.2.2.2.2.2.2.2.2.2.2.2.2.1
theorem dX11_wait_27 : decode cX11_wait 27 = .ok (.invokevirtual 129, 3) := bl_dX11_wait_0.2.2.2.2.2.2.2.2.2.2.2.2.2.2.2
set_option maxRecDepth 20000 in
theorem lk_dX11_wait_30 : th_dr cX11_wait 30 = 2 :: 160 :: 0 :: 14 :: 42 :: 180 :: 0 :: 21 :: 27 :: 182 :: 0 :: 134 :: 155 :: 0 :: 9 :: 42 :: 6 :: 182 :: 0 :: 68 :: 172 :: 42 :: 180 :: 0 :: 21 :: 180 :: 0 :: 213 :: 16 :: 10 :: 161 :: 0 :: 9 :: th_dr cX11_wait 63 := rfl
theorem bl_dX11_wait_30 : decode cX11_wait 30 = .ok (.iconst (-1), 1) ∧ decode cX11_wait 31 = .ok (.if_icmp .ne 14, 3) ∧ decode cX11_wait 34 = .ok (.aload_n 0, 1) ∧ decode cX11_wait 35 = .ok (.getfield 21, 3) ∧ decode cX11_wait 38 = .ok (.iload_n 1, 1) ∧ decode cX11_wait 39 = .ok (.invokevirtual 134, 3) ∧ decode cX11_wait 42 = .ok (.ifCond .lt 9, 3) ∧ decode cX11_wait 45 = .ok (.aload_n 0, 1) ∧ decode cX11_wait 46 = .ok (.iconst 3, 1) ∧ decode cX11_wait 47 = .ok (.invokevirtual 68, 3) ∧ decode cX11_wait 50 = .ok (.ireturn, 1) ∧ decode cX11_wait 51 = .ok (.aload_n 0, 1) ∧ decode cX11_wait 52 = .ok (.getfield 21, 3) ∧ decode cX11_wait 55 = .ok (.getfield 213, 3) ∧ decode cX11_wait 58 = .ok (.bipush 10, 2) ∧ decode cX11_wait 60 = .ok (.if_icmp .lt 9, 3) := op_2 lk_dX11_wait_30 fun e => op_160p e rfl fun e => op_42 e fun e => op_180 e fun e => op_27 e fun e => op_182 e fun e => op_155p e rfl fun e => op_42 e fun e => op_6 e fun e => op_182 e fun e => op_172 e fun e => op_42 e fun e => op_180 e fun e => op_180 e fun e => op_16p e rfl fun e => (op_161p e rfl fun _ => True.intro).1
theorem dX11_wait_30 : decode cX11_wait 30 = .ok (.iconst (-1), 1) := bl_dX11_wait_30.1
theorem dX11_wait_31 : decode cX11_wait 31 = .ok (.if_icmp .ne 14, 3) := bl_dX11_wait_30.2.1
theorem dX11_wait_34 : decode cX11_wait 34 = .ok (.aload_n 0, 1) := bl_dX11_wait_30.2.2.1
theorem dX11_wait_35 : decode cX11_wait 35 = .ok (.getfield 21, 3) := bl_dX11_wait_30.2.2.2.1
theorem dX11_wait_38 : decode cX11_wait 38 = .ok (.iload_n 1, 1) := bl_dX11_wait_30.2.2.2.2.1
theorem dX11_wait_39 : decode cX11_wait 39 = .ok (.invokevirtual 134, 3) := bl_dX11_wait_30.2.2.2.2.2.1
theorem dX11_wait_42 : decode cX11_wait 42 = .ok (.ifCond .lt 9, 3) := bl_dX11_wait_30.2.2.2.2.2.2.1
theorem dX11_wait_45 : decode cX11_wait 45 = .ok (.aload_n 0, 1) := bl_dX11_wait_30.2.2.2.2.2.2.2.1
theorem dX11_wait_46 : decode cX11_wait 46 = .ok (.iconst 3, 1) := bl_dX11_wait_30.2.2.2.2.2.2.2.2.1
theorem dX11_wait_47 : decode cX11_wait 47 = .ok (.invokevirtual 68, 3) := bl_dX11_wait_30.2.2.2.2.2.2.2.2.2.1
theorem dX11_wait_50 : decode cX11_wait 50 = .ok (.ireturn, 1) := bl_dX11_wait_30.2.2.2.2.2.2.2.2.2.2.1
theorem dX11_wait_51 : decode cX11_wait 51 = .ok (.aload_n 0, 1) := bl_dX11_wait_30.2.2.2.2.2.2.2.2.2.2.2.1
theorem dX11_wait_52 : decode cX11_wait 52 = .ok (.getfield 21, 3) := bl_dX11_wait_30.2.2.2.2.2.2.2.2.2.2.2.2.1
theorem dX11_wait_55 : decode cX11_wait 55 = .ok (.getfield 213, 3) := bl_dX11_wait_30.2.2.2.2.2.2.2.2.2.2.2.2.2.1
theorem dX11_wait_58 : decode cX11_wait 58 = .ok (.bipush 10, 2) := bl_dX11_wait_30.2.2.2.2.2.2.2.2.2.2.2.2.2.2.1
theorem dX11_wait_60 : decode cX11_wait 60 = .ok (.if_icmp .lt 9, 3) := bl_dX11_wait_30.2.2.2.2.2.2.2.2.2.2.2.2.2.2.2
set_option maxRecDepth 20000 in
theorem lk_dX11_wait_63 : th_dr cX11_wait 63 = 42 :: 7 :: 182 :: 0 :: 68 :: 172 :: 44 :: 3 :: 181 :: 0 :: 216 :: 42 :: 180 :: 0 :: 21 :: 27 :: 182 :: 0 :: 219 :: 42 :: 180 :: 0 :: 21 :: 180 :: 0 :: 213 :: 172 :: th_dr cX11_wait 90 := rfl
theorem bl_dX11_wait_63 : decode cX11_wait 63 = .ok (.aload_n 0, 1) ∧ decode cX11_wait 64 = .ok (.iconst 4, 1) ∧ decode cX11_wait 65 = .ok (.invokevirtual 68, 3) ∧ decode cX11_wait 68 = .ok (.ireturn, 1) ∧ decode cX11_wait 69 = .ok (.aload_n 2, 1) ∧ decode cX11_wait 70 = .ok (.iconst 0, 1) ∧ decode cX11_wait 71 = .ok (.putfield 216, 3) ∧ decode cX11_wait 74 = .ok (.aload_n 0, 1) ∧ decode cX11_wait 75 = .ok (.getfield 21, 3) ∧ decode cX11_wait 78 = .ok (.iload_n 1, 1) ∧ decode cX11_wait 79 = .ok (.invokevirtual 219, 3) ∧ decode cX11_wait 82 = .ok (.aload_n 0, 1) ∧ decode cX11_wait 83 = .ok (.getfield 21, 3) ∧ decode cX11_wait 86 = .ok (.getfield 213, 3) ∧ decode cX11_wait 89 = .ok (.ireturn, 1) := op_42 lk_dX11_wait_63 fun e => op_7 e fun e => op_182 e fun e => op_172 e fun e => op_44 e fun e => op_3 e fun e => op_181 e fun e => op_42 e fun e => op_180 e fun e => op_27 e fun e => op_182 e fun e => op_42 e fun e => op_180 e fun e => op_180 e fun e => (op_172 e fun _ => True.intro).1
theorem dX11_wait_63 : decode cX11_wait 63 = .ok (.aload_n 0, 1) := bl_dX11_wait_63.1
theorem dX11_wait_64 : decode cX11_wait 64 = .ok (.iconst 4, 1) := bl_dX11_wait_63.2.1
theorem dX11_wait_65 : decode cX11_wait 65 = .ok (.invokevirtual 68, 3) := bl_dX11_wait_63.2.2.1
theorem dX11_wait_68 : decode cX11_wait 68 = .ok (.ireturn, 1) := bl_dX11_wait_63.2.2.2.1
theorem dX11_wait_69 : decode cX11_wait 69 = .ok (.aload_n 2, 1) := bl_dX11_wait_63.2.2.2.2.1
theorem dX11_wait_70 : decode cX11_wait 70 = .ok (.iconst 0, 1) := bl_dX11_wait_63.2.2.2.2.2.1
theorem dX11_wait_71 : decode cX11_wait 71 = .ok (.putfield 216, 3) := bl_dX11_wait_63.2.2.2.2.2.2.1
theorem dX11_wait_74 : decode cX11_wait 74 = .ok (.aload_n 0, 1) := bl_dX11_wait_63.2.2.2.2.2.2.2.1
theorem dX11_wait_75 : decode cX11_wait 75 = .ok (.getfield 21, 3) := bl_dX11_wait_63.2.2.2.2.2.2.2.2.1
theorem dX11_wait_78 : decode cX11_wait 78 = .ok (.iload_n 1, 1) := bl_dX11_wait_63.2.2.2.2.2.2.2.2.2.1
theorem dX11_wait_79 : decode cX11_wait 79 = .ok (.invokevirtual 219, 3) := bl_dX11_wait_63.2.2.2.2.2.2.2.2.2.2.1
theorem dX11_wait_82 : decode cX11_wait 82 = .ok (.aload_n 0, 1) := bl_dX11_wait_63.2.2.2.2.2.2.2.2.2.2.2.1
theorem dX11_wait_83 : decode cX11_wait 83 = .ok (.getfield 21, 3) := bl_dX11_wait_63.2.2.2.2.2.2.2.2.2.2.2.2.1
theorem dX11_wait_86 : decode cX11_wait 86 = .ok (.getfield 213, 3) := bl_dX11_wait_63.2.2.2.2.2.2.2.2.2.2.2.2.2.1
theorem dX11_wait_89 : decode cX11_wait 89 = .ok (.ireturn, 1) := bl_dX11_wait_63.2.2.2.2.2.2.2.2.2.2.2.2.2.2
set_option maxRecDepth 20000 in
theorem ggX11_away_X0_boatAt : GoodIn wsX11_away wsX0_boatAt := goodIn_q _ [(7, 6), (41, 9)] rfl gdwsX0_boatAt
set_option maxRecDepth 20000 in
theorem gX11_away_X0_boatAt : GoodIn wsX11_away (wsV RX11 90 RX0 yX0_boatAt wsX0_boatAt) := goodIn_app (goodIn_q _ [(3, 4)] rfl rfl) ggX11_away_X0_boatAt
set_option maxRecDepth 20000 in
theorem ggX11_away_X11_finding : GoodIn wsX11_away wsX11_finding := goodIn_q _ [(16, 4), (10, 3), (31, 10)] rfl gdwsX11_finding
set_option maxRecDepth 20000 in
theorem gX11_away_X11_finding : GoodIn wsX11_away (wsV RX11 68 RX11 yX11_finding wsX11_finding) := goodIn_app (goodIn_q _ [(13, 3), (11, 1)] rfl rfl) ggX11_away_X11_finding
set_option maxRecDepth 20000 in
theorem ggX11_away_X10_placeOf : GoodIn wsX11_away wsX10_placeOf := goodIn_q _ [(24, 3), (50, 3)] rfl gdwsX10_placeOf
set_option maxRecDepth 20000 in
theorem gX11_away_X10_placeOf : GoodIn wsX11_away (wsV RX11 134 RX10 yX10_placeOf wsX10_placeOf) := goodIn_app (goodIn_q _ [(20, 4)] rfl rfl) ggX11_away_X10_placeOf
set_option maxRecDepth 20000 in
theorem ggX11_away_X10_drop : GoodIn wsX11_away wsX10_drop := goodIn_q _ [(30, 1), (25, 2), (10, 3), (50, 3)] rfl gdwsX10_drop
set_option maxRecDepth 20000 in
theorem gX11_away_X10_drop : GoodIn wsX11_away (wsV RX11 189 RX10 yX10_drop wsX10_drop) := goodIn_app (goodIn_q _ [(27, 3), (23, 1)] rfl rfl) ggX11_away_X10_drop
theorem lk_dX11_away_0 : th_dr cX11_away 0 = 42 :: 180 :: 0 :: 10 :: 27 :: 182 :: 0 :: 90 :: 199 :: 0 :: 9 :: 42 :: 4 :: 182 :: 0 :: 68 :: 172 :: 42 :: 180 :: 0 :: 21 :: 27 :: 182 :: 0 :: 134 :: 61 :: 28 :: 156 :: 0 :: 9 :: th_dr cX11_away 30 := rfl
theorem bl_dX11_away_0 : decode cX11_away 0 = .ok (.aload_n 0, 1) ∧ decode cX11_away 1 = .ok (.getfield 10, 3) ∧ decode cX11_away 4 = .ok (.iload_n 1, 1) ∧ decode cX11_away 5 = .ok (.invokevirtual 90, 3) ∧ decode cX11_away 8 = .ok (.ifnonnull 9, 3) ∧ decode cX11_away 11 = .ok (.aload_n 0, 1) ∧ decode cX11_away 12 = .ok (.iconst 1, 1) ∧ decode cX11_away 13 = .ok (.invokevirtual 68, 3) ∧ decode cX11_away 16 = .ok (.ireturn, 1) ∧ decode cX11_away 17 = .ok (.aload_n 0, 1) ∧ decode cX11_away 18 = .ok (.getfield 21, 3) ∧ decode cX11_away 21 = .ok (.iload_n 1, 1) ∧ decode cX11_away 22 = .ok (.invokevirtual 134, 3) ∧ decode cX11_away 25 = .ok (.istore_n 2, 1) ∧ decode cX11_away 26 = .ok (.iload_n 2, 1) ∧ decode cX11_away 27 = .ok (.ifCond .ge 9, 3) := op_42 lk_dX11_away_0 fun e => op_180 e fun e => op_27 e fun e => op_182 e fun e => op_199p e rfl fun e => op_42 e fun e => op_4 e fun e => op_182 e fun e => op_172 e fun e => op_42 e fun e => op_180 e fun e => op_27 e fun e => op_182 e fun e => op_61 e fun e => op_28 e fun e => (op_156p e rfl fun _ => True.intro).1
theorem dX11_away_0 : decode cX11_away 0 = .ok (.aload_n 0, 1) := bl_dX11_away_0.1
theorem dX11_away_1 : decode cX11_away 1 = .ok (.getfield 10, 3) := bl_dX11_away_0.2.1
theorem dX11_away_4 : decode cX11_away 4 = .ok (.iload_n 1, 1) := bl_dX11_away_0.2.2.1
theorem dX11_away_5 : decode cX11_away 5 = .ok (.invokevirtual 90, 3) := bl_dX11_away_0.2.2.2.1
theorem dX11_away_8 : decode cX11_away 8 = .ok (.ifnonnull 9, 3) := bl_dX11_away_0.2.2.2.2.1
theorem dX11_away_11 : decode cX11_away 11 = .ok (.aload_n 0, 1) := bl_dX11_away_0.2.2.2.2.2.1
theorem dX11_away_12 : decode cX11_away 12 = .ok (.iconst 1, 1) := bl_dX11_away_0.2.2.2.2.2.2.1
theorem dX11_away_13 : decode cX11_away 13 = .ok (.invokevirtual 68, 3) := bl_dX11_away_0.2.2.2.2.2.2.2.1
theorem dX11_away_16 : decode cX11_away 16 = .ok (.ireturn, 1) := bl_dX11_away_0.2.2.2.2.2.2.2.2.1
theorem dX11_away_17 : decode cX11_away 17 = .ok (.aload_n 0, 1) := bl_dX11_away_0.2.2.2.2.2.2.2.2.2.1
theorem dX11_away_18 : decode cX11_away 18 = .ok (.getfield 21, 3) := bl_dX11_away_0.2.2.2.2.2.2.2.2.2.2.1
theorem dX11_away_21 : decode cX11_away 21 = .ok (.iload_n 1, 1) := bl_dX11_away_0.2.2.2.2.2.2.2.2.2.2.2.1
theorem dX11_away_22 : decode cX11_away 22 = .ok (.invokevirtual 134, 3) := bl_dX11_away_0.2.2.2.2.2.2.2.2.2.2.2.2.1
theorem dX11_away_25 : decode cX11_away 25 = .ok (.istore_n 2, 1) := bl_dX11_away_0.2.2.2.2.2.2.2.2.2.2.2.2.2.1
theorem dX11_away_26 : decode cX11_away 26 = .ok (.iload_n 2, 1) := bl_dX11_away_0.2.2.2.2.2.2.2.2.2.2.2.2.2.2.1
theorem dX11_away_27 : decode cX11_away 27 = .ok (.ifCond .ge 9, 3) := bl_dX11_away_0.2.2.2.2.2.2.2.2.2.2.2.2.2.2.2
theorem lk_dX11_away_30 : th_dr cX11_away 30 = 42 :: 6 :: 182 :: 0 :: 68 :: 172 :: 42 :: 180 :: 0 :: 21 :: 28 :: 182 :: 0 :: 189 :: 28 :: 172 :: th_dr cX11_away 46 := rfl
theorem bl_dX11_away_30 : decode cX11_away 30 = .ok (.aload_n 0, 1) ∧ decode cX11_away 31 = .ok (.iconst 3, 1) ∧ decode cX11_away 32 = .ok (.invokevirtual 68, 3) ∧ decode cX11_away 35 = .ok (.ireturn, 1) ∧ decode cX11_away 36 = .ok (.aload_n 0, 1) ∧ decode cX11_away 37 = .ok (.getfield 21, 3) ∧ decode cX11_away 40 = .ok (.iload_n 2, 1) ∧ decode cX11_away 41 = .ok (.invokevirtual 189, 3) ∧ decode cX11_away 44 = .ok (.iload_n 2, 1) ∧ decode cX11_away 45 = .ok (.ireturn, 1) := op_42 lk_dX11_away_30 fun e => op_6 e fun e => op_182 e fun e => op_172 e fun e => op_42 e fun e => op_180 e fun e => op_28 e fun e => op_182 e fun e => op_28 e fun e => (op_172 e fun _ => True.intro).1
theorem dX11_away_30 : decode cX11_away 30 = .ok (.aload_n 0, 1) := bl_dX11_away_30.1
theorem dX11_away_31 : decode cX11_away 31 = .ok (.iconst 3, 1) := bl_dX11_away_30.2.1
theorem dX11_away_32 : decode cX11_away 32 = .ok (.invokevirtual 68, 3) := bl_dX11_away_30.2.2.1
theorem dX11_away_35 : decode cX11_away 35 = .ok (.ireturn, 1) := bl_dX11_away_30.2.2.2.1
theorem dX11_away_36 : decode cX11_away 36 = .ok (.aload_n 0, 1) := bl_dX11_away_30.2.2.2.2.1
theorem dX11_away_37 : decode cX11_away 37 = .ok (.getfield 21, 3) := bl_dX11_away_30.2.2.2.2.2.1
theorem dX11_away_40 : decode cX11_away 40 = .ok (.iload_n 2, 1) := bl_dX11_away_30.2.2.2.2.2.2.1
theorem dX11_away_41 : decode cX11_away 41 = .ok (.invokevirtual 189, 3) := bl_dX11_away_30.2.2.2.2.2.2.2.1
theorem dX11_away_44 : decode cX11_away 44 = .ok (.iload_n 2, 1) := bl_dX11_away_30.2.2.2.2.2.2.2.2.1
theorem dX11_away_45 : decode cX11_away 45 = .ok (.ireturn, 1) := bl_dX11_away_30.2.2.2.2.2.2.2.2.2
set_option maxRecDepth 20000 in
theorem gdwsX11_offeredBoat : wsX11_offeredBoat.all goodWord = true := by decide +kernel
set_option maxRecDepth 20000 in
theorem ggX11_offer_X11_offeredBoat : GoodIn wsX11_offer wsX11_offeredBoat := goodIn_q _ [(5, 12), (4, 1), (17, 174)] rfl gdwsX11_offeredBoat
set_option maxRecDepth 20000 in
theorem gX11_offer_X11_offeredBoat : GoodIn wsX11_offer (wsV RX11 222 RX11 yX11_offeredBoat wsX11_offeredBoat) := goodIn_app (goodIn_q _ [(1, 4)] rfl rfl) ggX11_offer_X11_offeredBoat
theorem lk_dX11_offer_0 : th_dr cX11_offer 0 = 42 :: 27 :: 182 :: 0 :: 222 :: 172 :: th_dr cX11_offer 6 := rfl
theorem bl_dX11_offer_0 : decode cX11_offer 0 = .ok (.aload_n 0, 1) ∧ decode cX11_offer 1 = .ok (.iload_n 1, 1) ∧ decode cX11_offer 2 = .ok (.invokevirtual 222, 3) ∧ decode cX11_offer 5 = .ok (.ireturn, 1) := op_42 lk_dX11_offer_0 fun e => op_27 e fun e => op_182 e fun e => (op_172 e fun _ => True.intro).1
theorem dX11_offer_0 : decode cX11_offer 0 = .ok (.aload_n 0, 1) := bl_dX11_offer_0.1
theorem dX11_offer_1 : decode cX11_offer 1 = .ok (.iload_n 1, 1) := bl_dX11_offer_0.2.1
theorem dX11_offer_2 : decode cX11_offer 2 = .ok (.invokevirtual 222, 3) := bl_dX11_offer_0.2.2.1
theorem dX11_offer_5 : decode cX11_offer 5 = .ok (.ireturn, 1) := bl_dX11_offer_0.2.2.2
set_option maxRecDepth 20000 in
theorem gdwsX11_isFlag : wsX11_isFlag.all goodWord = true := by decide +kernel
set_option maxRecDepth 20000 in
theorem ggX11_answer_X11_isFlag : GoodIn wsX11_answer wsX11_isFlag := goodIn_q _ [(9, 3), (8, 1), (12, 1)] rfl gdwsX11_isFlag
set_option maxRecDepth 20000 in
theorem gX11_answer_X11_isFlag : GoodIn wsX11_answer (va_wsS RX11 225 yX11_isFlag wsX11_isFlag) := goodIn_app (goodIn_q _ [(6, 3)] rfl rfl) ggX11_answer_X11_isFlag
set_option maxRecDepth 20000 in
theorem ggX11_answer_X11_finding : GoodIn wsX11_answer wsX11_finding := goodIn_q _ [(16, 3), (10, 2), (8, 1), (12, 1), (163, 10)] rfl gdwsX11_finding
set_option maxRecDepth 20000 in
theorem gX11_answer_X11_finding : GoodIn wsX11_answer (wsV RX11 68 RX11 yX11_finding wsX11_finding) := goodIn_app (goodIn_q _ [(13, 3), (8, 1)] rfl rfl) ggX11_answer_X11_finding
set_option maxRecDepth 20000 in
theorem ggX11_answer_X11_offeredBoat : GoodIn wsX11_answer wsX11_offeredBoat := goodIn_q _ [(22, 1), (1, 1), (3, 1), (2, 1), (23, 7), (11, 1), (8, 1), (12, 7), (10, 1), (30, 116), (163, 19), (200, 13), (182, 18)] rfl gdwsX11_offeredBoat
set_option maxRecDepth 20000 in
theorem gX11_answer_X11_offeredBoat : GoodIn wsX11_answer (wsV RX11 222 RX11 yX11_offeredBoat wsX11_offeredBoat) := goodIn_app (goodIn_q _ [(19, 3), (8, 1)] rfl rfl) ggX11_answer_X11_offeredBoat
set_option maxRecDepth 20000 in
theorem ggX11_answer_X0_boatAt : GoodIn wsX11_answer wsX0_boatAt := goodIn_q _ [(49, 3), (11, 1), (8, 1), (12, 1), (173, 9)] rfl gdwsX0_boatAt
set_option maxRecDepth 20000 in
theorem gX11_answer_X0_boatAt : GoodIn wsX11_answer (wsV RX11 90 RX0 yX0_boatAt wsX0_boatAt) := goodIn_app (goodIn_q _ [(146, 1), (47, 2), (26, 1)] rfl rfl) ggX11_answer_X0_boatAt
set_option maxRecDepth 20000 in
theorem ggX11_answer_X10_placeOf : GoodIn wsX11_answer wsX10_placeOf := goodIn_q _ [(150, 1), (41, 1), (43, 1), (202, 3)] rfl gdwsX10_placeOf
set_option maxRecDepth 20000 in
theorem gX11_answer_X10_placeOf : GoodIn wsX11_answer (wsV RX11 134 RX10 yX10_placeOf wsX10_placeOf) := goodIn_app (goodIn_q _ [(147, 3), (39, 1)] rfl rfl) ggX11_answer_X10_placeOf
set_option maxRecDepth 20000 in
theorem ggX11_answer_X10_drop : GoodIn wsX11_answer wsX10_drop := goodIn_q _ [(154, 1), (41, 1), (43, 1), (11, 1), (8, 1), (12, 1), (202, 3)] rfl gdwsX10_drop
set_option maxRecDepth 20000 in
theorem gX11_answer_X10_drop : GoodIn wsX11_answer (wsV RX11 189 RX10 yX10_drop wsX10_drop) := goodIn_app (goodIn_q _ [(151, 3), (39, 1)] rfl rfl) ggX11_answer_X10_drop
set_option maxRecDepth 20000 in
theorem ggX11_answer_X1_put : GoodIn wsX11_answer wsX1_put := goodIn_q _ [(158, 1), (95, 1), (35, 1), (11, 1), (8, 1), (12, 1), (200, 2)] rfl gdwsX1_put
set_option maxRecDepth 20000 in
theorem gX11_answer_X1_put : GoodIn wsX11_answer (wsV RX11 186 RX1 yX1_put wsX1_put) := goodIn_app (goodIn_q _ [(155, 3), (33, 1)] rfl rfl) ggX11_answer_X1_put
set_option maxRecDepth 20000 in
theorem ggX11_answer_X10_append : GoodIn wsX11_answer wsX10_append := goodIn_q _ [(162, 1), (41, 1), (43, 1), (202, 3)] rfl gdwsX10_append
set_option maxRecDepth 20000 in
theorem gX11_answer_X10_append : GoodIn wsX11_answer (wsV RX11 219 RX10 yX10_append wsX10_append) := goodIn_app (goodIn_q _ [(159, 3), (39, 1)] rfl rfl) ggX11_answer_X10_append
theorem lk_dX11_answer_0 : th_dr cX11_answer 0 = 28 :: 184 :: 0 :: 225 :: 154 :: 0 :: 9 :: 42 :: 4 :: 182 :: 0 :: 68 :: 172 :: 42 :: 27 :: 182 :: 0 :: 222 :: 62 :: 42 :: 180 :: 0 :: 10 :: 29 :: 182 :: 0 :: 90 :: 58 :: 4 :: th_dr cX11_answer 29 := rfl
theorem bl_dX11_answer_0 : decode cX11_answer 0 = .ok (.iload_n 2, 1) ∧ decode cX11_answer 1 = .ok (.invokestatic 225, 3) ∧ decode cX11_answer 4 = .ok (.ifCond .ne 9, 3) ∧ decode cX11_answer 7 = .ok (.aload_n 0, 1) ∧ decode cX11_answer 8 = .ok (.iconst 1, 1) ∧ decode cX11_answer 9 = .ok (.invokevirtual 68, 3) ∧ decode cX11_answer 12 = .ok (.ireturn, 1) ∧ decode cX11_answer 13 = .ok (.aload_n 0, 1) ∧ decode cX11_answer 14 = .ok (.iload_n 1, 1) ∧ decode cX11_answer 15 = .ok (.invokevirtual 222, 3) ∧ decode cX11_answer 18 = .ok (.istore_n 3, 1) ∧ decode cX11_answer 19 = .ok (.aload_n 0, 1) ∧ decode cX11_answer 20 = .ok (.getfield 10, 3) ∧ decode cX11_answer 23 = .ok (.iload_n 3, 1) ∧ decode cX11_answer 24 = .ok (.invokevirtual 90, 3) ∧ decode cX11_answer 27 = .ok (.astore 4, 2) := op_28 lk_dX11_answer_0 fun e => op_184 e fun e => op_154p e rfl fun e => op_42 e fun e => op_4 e fun e => op_182 e fun e => op_172 e fun e => op_42 e fun e => op_27 e fun e => op_182 e fun e => op_62 e fun e => op_42 e fun e => op_180 e fun e => op_29 e fun e => op_182 e fun e => (op_58 e fun _ => True.intro).1
theorem dX11_answer_0 : decode cX11_answer 0 = .ok (.iload_n 2, 1) := bl_dX11_answer_0.1
theorem dX11_answer_1 : decode cX11_answer 1 = .ok (.invokestatic 225, 3) := bl_dX11_answer_0.2.1
theorem dX11_answer_4 : decode cX11_answer 4 = .ok (.ifCond .ne 9, 3) := bl_dX11_answer_0.2.2.1
theorem dX11_answer_7 : decode cX11_answer 7 = .ok (.aload_n 0, 1) := bl_dX11_answer_0.2.2.2.1
theorem dX11_answer_8 : decode cX11_answer 8 = .ok (.iconst 1, 1) := bl_dX11_answer_0.2.2.2.2.1
theorem dX11_answer_9 : decode cX11_answer 9 = .ok (.invokevirtual 68, 3) := bl_dX11_answer_0.2.2.2.2.2.1
theorem dX11_answer_12 : decode cX11_answer 12 = .ok (.ireturn, 1) := bl_dX11_answer_0.2.2.2.2.2.2.1
theorem dX11_answer_13 : decode cX11_answer 13 = .ok (.aload_n 0, 1) := bl_dX11_answer_0.2.2.2.2.2.2.2.1
theorem dX11_answer_14 : decode cX11_answer 14 = .ok (.iload_n 1, 1) := bl_dX11_answer_0.2.2.2.2.2.2.2.2.1
theorem dX11_answer_15 : decode cX11_answer 15 = .ok (.invokevirtual 222, 3) := bl_dX11_answer_0.2.2.2.2.2.2.2.2.2.1
theorem dX11_answer_18 : decode cX11_answer 18 = .ok (.istore_n 3, 1) := bl_dX11_answer_0.2.2.2.2.2.2.2.2.2.2.1
theorem dX11_answer_19 : decode cX11_answer 19 = .ok (.aload_n 0, 1) := bl_dX11_answer_0.2.2.2.2.2.2.2.2.2.2.2.1
theorem dX11_answer_20 : decode cX11_answer 20 = .ok (.getfield 10, 3) := bl_dX11_answer_0.2.2.2.2.2.2.2.2.2.2.2.2.1
theorem dX11_answer_23 : decode cX11_answer 23 = .ok (.iload_n 3, 1) := bl_dX11_answer_0.2.2.2.2.2.2.2.2.2.2.2.2.2.1
theorem dX11_answer_24 : decode cX11_answer 24 = .ok (.invokevirtual 90, 3) := bl_dX11_answer_0.2.2.2.2.2.2.2.2.2.2.2.2.2.2.1
theorem dX11_answer_27 : decode cX11_answer 27 = .ok (.astore 4, 2) := bl_dX11_answer_0.2.2.2.2.2.2.2.2.2.2.2.2.2.2.2
theorem lk_dX11_answer_29 : th_dr cX11_answer 29 = 25 :: 4 :: 199 :: 0 :: 5 :: 29 :: 172 :: 28 :: 4 :: 160 :: 0 :: 33 :: 42 :: 180 :: 0 :: 21 :: 42 :: 180 :: 0 :: 21 :: 29 :: 182 :: 0 :: 134 :: 182 :: 0 :: 189 :: 42 :: 180 :: 0 :: 10 :: th_dr cX11_answer 60 := rfl
theorem bl_dX11_answer_29 : decode cX11_answer 29 = .ok (.aload 4, 2) ∧ decode cX11_answer 31 = .ok (.ifnonnull 5, 3) ∧ decode cX11_answer 34 = .ok (.iload_n 3, 1) ∧ decode cX11_answer 35 = .ok (.ireturn, 1) ∧ decode cX11_answer 36 = .ok (.iload_n 2, 1) ∧ decode cX11_answer 37 = .ok (.iconst 1, 1) ∧ decode cX11_answer 38 = .ok (.if_icmp .ne 33, 3) ∧ decode cX11_answer 41 = .ok (.aload_n 0, 1) ∧ decode cX11_answer 42 = .ok (.getfield 21, 3) ∧ decode cX11_answer 45 = .ok (.aload_n 0, 1) ∧ decode cX11_answer 46 = .ok (.getfield 21, 3) ∧ decode cX11_answer 49 = .ok (.iload_n 3, 1) ∧ decode cX11_answer 50 = .ok (.invokevirtual 134, 3) ∧ decode cX11_answer 53 = .ok (.invokevirtual 189, 3) ∧ decode cX11_answer 56 = .ok (.aload_n 0, 1) ∧ decode cX11_answer 57 = .ok (.getfield 10, 3) := op_25 lk_dX11_answer_29 fun e => op_199p e rfl fun e => op_29 e fun e => op_172 e fun e => op_28 e fun e => op_4 e fun e => op_160p e rfl fun e => op_42 e fun e => op_180 e fun e => op_42 e fun e => op_180 e fun e => op_29 e fun e => op_182 e fun e => op_182 e fun e => op_42 e fun e => (op_180 e fun _ => True.intro).1
theorem dX11_answer_29 : decode cX11_answer 29 = .ok (.aload 4, 2) := bl_dX11_answer_29.1
theorem dX11_answer_31 : decode cX11_answer 31 = .ok (.ifnonnull 5, 3) := bl_dX11_answer_29.2.1
theorem dX11_answer_34 : decode cX11_answer 34 = .ok (.iload_n 3, 1) := bl_dX11_answer_29.2.2.1
theorem dX11_answer_35 : decode cX11_answer 35 = .ok (.ireturn, 1) := bl_dX11_answer_29.2.2.2.1
theorem dX11_answer_36 : decode cX11_answer 36 = .ok (.iload_n 2, 1) := bl_dX11_answer_29.2.2.2.2.1
theorem dX11_answer_37 : decode cX11_answer 37 = .ok (.iconst 1, 1) := bl_dX11_answer_29.2.2.2.2.2.1
theorem dX11_answer_38 : decode cX11_answer 38 = .ok (.if_icmp .ne 33, 3) := bl_dX11_answer_29.2.2.2.2.2.2.1
theorem dX11_answer_41 : decode cX11_answer 41 = .ok (.aload_n 0, 1) := bl_dX11_answer_29.2.2.2.2.2.2.2.1
theorem dX11_answer_42 : decode cX11_answer 42 = .ok (.getfield 21, 3) := bl_dX11_answer_29.2.2.2.2.2.2.2.2.1
theorem dX11_answer_45 : decode cX11_answer 45 = .ok (.aload_n 0, 1) := bl_dX11_answer_29.2.2.2.2.2.2.2.2.2.1
theorem dX11_answer_46 : decode cX11_answer 46 = .ok (.getfield 21, 3) := bl_dX11_answer_29.2.2.2.2.2.2.2.2.2.2.1
theorem dX11_answer_49 : decode cX11_answer 49 = .ok (.iload_n 3, 1) := bl_dX11_answer_29.2.2.2.2.2.2.2.2.2.2.2.1
theorem dX11_answer_50 : decode cX11_answer 50 = .ok (.invokevirtual 134, 3) := bl_dX11_answer_29.2.2.2.2.2.2.2.2.2.2.2.2.1
theorem dX11_answer_53 : decode cX11_answer 53 = .ok (.invokevirtual 189, 3) := bl_dX11_answer_29.2.2.2.2.2.2.2.2.2.2.2.2.2.1
theorem dX11_answer_56 : decode cX11_answer 56 = .ok (.aload_n 0, 1) := bl_dX11_answer_29.2.2.2.2.2.2.2.2.2.2.2.2.2.2.1
theorem dX11_answer_57 : decode cX11_answer 57 = .ok (.getfield 10, 3) := bl_dX11_answer_29.2.2.2.2.2.2.2.2.2.2.2.2.2.2.2
set_option maxRecDepth 20000 in
theorem lk_dX11_answer_60 : th_dr cX11_answer 60 = 180 :: 0 :: 125 :: 29 :: 27 :: 182 :: 0 :: 186 :: 167 :: 0 :: 46 :: 25 :: 4 :: 89 :: 180 :: 0 :: 216 :: 4 :: 27 :: 120 :: 128 :: 181 :: 0 :: 216 :: 42 :: 180 :: 0 :: 60 :: 154 :: 0 :: 26 :: th_dr cX11_answer 91 := rfl
theorem bl_dX11_answer_60 : decode cX11_answer 60 = .ok (.getfield 125, 3) ∧ decode cX11_answer 63 = .ok (.iload_n 3, 1) ∧ decode cX11_answer 64 = .ok (.iload_n 1, 1) ∧ decode cX11_answer 65 = .ok (.invokevirtual 186, 3) ∧ decode cX11_answer 68 = .ok (.goto 46, 3) ∧ decode cX11_answer 71 = .ok (.aload 4, 2) ∧ decode cX11_answer 73 = .ok (.dup, 1) ∧ decode cX11_answer 74 = .ok (.getfield 216, 3) ∧ decode cX11_answer 77 = .ok (.iconst 1, 1) ∧ decode cX11_answer 78 = .ok (.iload_n 1, 1) ∧ decode cX11_answer 79 = .ok (.ishl, 1) ∧ decode cX11_answer 80 = .ok (.ior, 1) ∧ decode cX11_answer 81 = .ok (.putfield 216, 3) ∧ decode cX11_answer 84 = .ok (.aload_n 0, 1) ∧ decode cX11_answer 85 = .ok (.getfield 60, 3) ∧ decode cX11_answer 88 = .ok (.ifCond .ne 26, 3) := op_180 lk_dX11_answer_60 fun e => op_29 e fun e => op_27 e fun e => op_182 e fun e => op_167p e rfl fun e => op_25 e fun e => op_89 e fun e => op_180 e fun e => op_4 e fun e => op_27 e fun e => op_120 e fun e => op_128 e fun e => op_181 e fun e => op_42 e fun e => op_180 e fun e => (op_154p e rfl fun _ => True.intro).1
theorem dX11_answer_60 : decode cX11_answer 60 = .ok (.getfield 125, 3) := bl_dX11_answer_60.1
theorem dX11_answer_63 : decode cX11_answer 63 = .ok (.iload_n 3, 1) := bl_dX11_answer_60.2.1
theorem dX11_answer_64 : decode cX11_answer 64 = .ok (.iload_n 1, 1) := bl_dX11_answer_60.2.2.1
theorem dX11_answer_65 : decode cX11_answer 65 = .ok (.invokevirtual 186, 3) := bl_dX11_answer_60.2.2.2.1
theorem dX11_answer_68 : decode cX11_answer 68 = .ok (.goto 46, 3) := bl_dX11_answer_60.2.2.2.2.1
theorem dX11_answer_71 : decode cX11_answer 71 = .ok (.aload 4, 2) := bl_dX11_answer_60.2.2.2.2.2.1
theorem dX11_answer_73 : decode cX11_answer 73 = .ok (.dup, 1) := bl_dX11_answer_60.2.2.2.2.2.2.1
theorem dX11_answer_74 : decode cX11_answer 74 = .ok (.getfield 216, 3) := bl_dX11_answer_60.2.2.2.2.2.2.2.1
theorem dX11_answer_77 : decode cX11_answer 77 = .ok (.iconst 1, 1) := bl_dX11_answer_60.2.2.2.2.2.2.2.2.1
theorem dX11_answer_78 : decode cX11_answer 78 = .ok (.iload_n 1, 1) := bl_dX11_answer_60.2.2.2.2.2.2.2.2.2.1
theorem dX11_answer_79 : decode cX11_answer 79 = .ok (.ishl, 1) := bl_dX11_answer_60.2.2.2.2.2.2.2.2.2.2.1
theorem dX11_answer_80 : decode cX11_answer 80 = .ok (.ior, 1) := bl_dX11_answer_60.2.2.2.2.2.2.2.2.2.2.2.1
theorem dX11_answer_81 : decode cX11_answer 81 = .ok (.putfield 216, 3) := bl_dX11_answer_60.2.2.2.2.2.2.2.2.2.2.2.2.1
theorem dX11_answer_84 : decode cX11_answer 84 = .ok (.aload_n 0, 1) := bl_dX11_answer_60.2.2.2.2.2.2.2.2.2.2.2.2.2.1
theorem dX11_answer_85 : decode cX11_answer 85 = .ok (.getfield 60, 3) := bl_dX11_answer_60.2.2.2.2.2.2.2.2.2.2.2.2.2.2.1
theorem dX11_answer_88 : decode cX11_answer 88 = .ok (.ifCond .ne 26, 3) := bl_dX11_answer_60.2.2.2.2.2.2.2.2.2.2.2.2.2.2.2
set_option maxRecDepth 20000 in
theorem lk_dX11_answer_91 : th_dr cX11_answer 91 = 42 :: 180 :: 0 :: 21 :: 42 :: 180 :: 0 :: 21 :: 29 :: 182 :: 0 :: 134 :: 182 :: 0 :: 189 :: 42 :: 180 :: 0 :: 21 :: 29 :: 182 :: 0 :: 219 :: 29 :: 172 :: th_dr cX11_answer 116 := rfl
theorem bl_dX11_answer_91 : decode cX11_answer 91 = .ok (.aload_n 0, 1) ∧ decode cX11_answer 92 = .ok (.getfield 21, 3) ∧ decode cX11_answer 95 = .ok (.aload_n 0, 1) ∧ decode cX11_answer 96 = .ok (.getfield 21, 3) ∧ decode cX11_answer 99 = .ok (.iload_n 3, 1) ∧ decode cX11_answer 100 = .ok (.invokevirtual 134, 3) ∧ decode cX11_answer 103 = .ok (.invokevirtual 189, 3) ∧ decode cX11_answer 106 = .ok (.aload_n 0, 1) ∧ decode cX11_answer 107 = .ok (.getfield 21, 3) ∧ decode cX11_answer 110 = .ok (.iload_n 3, 1) ∧ decode cX11_answer 111 = .ok (.invokevirtual 219, 3) ∧ decode cX11_answer 114 = .ok (.iload_n 3, 1) ∧ decode cX11_answer 115 = .ok (.ireturn, 1) := op_42 lk_dX11_answer_91 fun e => op_180 e fun e => op_42 e fun e => op_180 e fun e => op_29 e fun e => op_182 e fun e => op_182 e fun e => op_42 e fun e => op_180 e fun e => op_29 e fun e => op_182 e fun e => op_29 e fun e => (op_172 e fun _ => True.intro).1
theorem dX11_answer_91 : decode cX11_answer 91 = .ok (.aload_n 0, 1) := bl_dX11_answer_91.1
theorem dX11_answer_92 : decode cX11_answer 92 = .ok (.getfield 21, 3) := bl_dX11_answer_91.2.1
theorem dX11_answer_95 : decode cX11_answer 95 = .ok (.aload_n 0, 1) := bl_dX11_answer_91.2.2.1
theorem dX11_answer_96 : decode cX11_answer 96 = .ok (.getfield 21, 3) := bl_dX11_answer_91.2.2.2.1
theorem dX11_answer_99 : decode cX11_answer 99 = .ok (.iload_n 3, 1) := bl_dX11_answer_91.2.2.2.2.1
theorem dX11_answer_100 : decode cX11_answer 100 = .ok (.invokevirtual 134, 3) := bl_dX11_answer_91.2.2.2.2.2.1
theorem dX11_answer_103 : decode cX11_answer 103 = .ok (.invokevirtual 189, 3) := bl_dX11_answer_91.2.2.2.2.2.2.1
theorem dX11_answer_106 : decode cX11_answer 106 = .ok (.aload_n 0, 1) := bl_dX11_answer_91.2.2.2.2.2.2.2.1
theorem dX11_answer_107 : decode cX11_answer 107 = .ok (.getfield 21, 3) := bl_dX11_answer_91.2.2.2.2.2.2.2.2.1
theorem dX11_answer_110 : decode cX11_answer 110 = .ok (.iload_n 3, 1) := bl_dX11_answer_91.2.2.2.2.2.2.2.2.2.1
theorem dX11_answer_111 : decode cX11_answer 111 = .ok (.invokevirtual 219, 3) := bl_dX11_answer_91.2.2.2.2.2.2.2.2.2.2.1
theorem dX11_answer_114 : decode cX11_answer 114 = .ok (.iload_n 3, 1) := bl_dX11_answer_91.2.2.2.2.2.2.2.2.2.2.2.1
theorem dX11_answer_115 : decode cX11_answer 115 = .ok (.ireturn, 1) := bl_dX11_answer_91.2.2.2.2.2.2.2.2.2.2.2.2
set_option maxRecDepth 20000 in
theorem ggX11_stays_X11_isFlag : GoodIn wsX11_stays wsX11_isFlag := goodIn_q _ [(5, 3), (4, 1), (8, 1)] rfl gdwsX11_isFlag
set_option maxRecDepth 20000 in
theorem gX11_stays_X11_isFlag : GoodIn wsX11_stays (va_wsS RX11 225 yX11_isFlag wsX11_isFlag) := goodIn_app (goodIn_q _ [(2, 3)] rfl rfl) ggX11_stays_X11_isFlag
set_option maxRecDepth 20000 in
theorem ggX11_stays_X11_finding : GoodIn wsX11_stays wsX11_finding := goodIn_q _ [(12, 3), (6, 2), (4, 1), (8, 1), (15, 10)] rfl gdwsX11_finding
set_option maxRecDepth 20000 in
theorem gX11_stays_X11_finding : GoodIn wsX11_stays (wsV RX11 68 RX11 yX11_finding wsX11_finding) := goodIn_app (goodIn_q _ [(9, 3), (4, 1)] rfl rfl) ggX11_stays_X11_finding
theorem lk_dX11_stays_0 : th_dr cX11_stays 0 = 27 :: 184 :: 0 :: 225 :: 154 :: 0 :: 9 :: 42 :: 4 :: 182 :: 0 :: 68 :: 172 :: 42 :: 180 :: 0 :: 60 :: 153 :: 0 :: 7 :: 4 :: 167 :: 0 :: 4 :: 3 :: 61 :: 42 :: 27 :: th_dr cX11_stays 28 := rfl
theorem bl_dX11_stays_0 : decode cX11_stays 0 = .ok (.iload_n 1, 1) ∧ decode cX11_stays 1 = .ok (.invokestatic 225, 3) ∧ decode cX11_stays 4 = .ok (.ifCond .ne 9, 3) ∧ decode cX11_stays 7 = .ok (.aload_n 0, 1) ∧ decode cX11_stays 8 = .ok (.iconst 1, 1) ∧ decode cX11_stays 9 = .ok (.invokevirtual 68, 3) ∧ decode cX11_stays 12 = .ok (.ireturn, 1) ∧ decode cX11_stays 13 = .ok (.aload_n 0, 1) ∧ decode cX11_stays 14 = .ok (.getfield 60, 3) ∧ decode cX11_stays 17 = .ok (.ifCond .eq 7, 3) ∧ decode cX11_stays 20 = .ok (.iconst 1, 1) ∧ decode cX11_stays 21 = .ok (.goto 4, 3) ∧ decode cX11_stays 24 = .ok (.iconst 0, 1) ∧ decode cX11_stays 25 = .ok (.istore_n 2, 1) ∧ decode cX11_stays 26 = .ok (.aload_n 0, 1) ∧ decode cX11_stays 27 = .ok (.iload_n 1, 1) := op_27 lk_dX11_stays_0 fun e => op_184 e fun e => op_154p e rfl fun e => op_42 e fun e => op_4 e fun e => op_182 e fun e => op_172 e fun e => op_42 e fun e => op_180 e fun e => op_153p e rfl fun e => op_4 e fun e => op_167p e rfl fun e => op_3 e fun e => op_61 e fun e => op_42 e fun e => (op_27 e fun _ => True.intro).1
theorem dX11_stays_0 : decode cX11_stays 0 = .ok (.iload_n 1, 1) := bl_dX11_stays_0.1
theorem dX11_stays_1 : decode cX11_stays 1 = .ok (.invokestatic 225, 3) := bl_dX11_stays_0.2.1
theorem dX11_stays_4 : decode cX11_stays 4 = .ok (.ifCond .ne 9, 3) := bl_dX11_stays_0.2.2.1
theorem dX11_stays_7 : decode cX11_stays 7 = .ok (.aload_n 0, 1) := bl_dX11_stays_0.2.2.2.1
theorem dX11_stays_8 : decode cX11_stays 8 = .ok (.iconst 1, 1) := bl_dX11_stays_0.2.2.2.2.1
theorem dX11_stays_9 : decode cX11_stays 9 = .ok (.invokevirtual 68, 3) := bl_dX11_stays_0.2.2.2.2.2.1
theorem dX11_stays_12 : decode cX11_stays 12 = .ok (.ireturn, 1) := bl_dX11_stays_0.2.2.2.2.2.2.1
theorem dX11_stays_13 : decode cX11_stays 13 = .ok (.aload_n 0, 1) := bl_dX11_stays_0.2.2.2.2.2.2.2.1
theorem dX11_stays_14 : decode cX11_stays 14 = .ok (.getfield 60, 3) := bl_dX11_stays_0.2.2.2.2.2.2.2.2.1
theorem dX11_stays_17 : decode cX11_stays 17 = .ok (.ifCond .eq 7, 3) := bl_dX11_stays_0.2.2.2.2.2.2.2.2.2.1
theorem dX11_stays_20 : decode cX11_stays 20 = .ok (.iconst 1, 1) := bl_dX11_stays_0.2.2.2.2.2.2.2.2.2.2.1
theorem dX11_stays_21 : decode cX11_stays 21 = .ok (.goto 4, 3) := bl_dX11_stays_0.2.2.2.2.2.2.2.2.2.2.2.1
theorem dX11_stays_24 : decode cX11_stays 24 = .ok (.iconst 0, 1) := bl_dX11_stays_0.2.2.2.2.2.2.2.2.2.2.2.2.1
theorem dX11_stays_25 : decode cX11_stays 25 = .ok (.istore_n 2, 1) := bl_dX11_stays_0.2.2.2.2.2.2.2.2.2.2.2.2.2.1
theorem dX11_stays_26 : decode cX11_stays 26 = .ok (.aload_n 0, 1) := bl_dX11_stays_0.2.2.2.2.2.2.2.2.2.2.2.2.2.2.1
theorem dX11_stays_27 : decode cX11_stays 27 = .ok (.iload_n 1, 1) := bl_dX11_stays_0.2.2.2.2.2.2.2.2.2.2.2.2.2.2.2
theorem lk_dX11_stays_28 : th_dr cX11_stays 28 = 4 :: 160 :: 0 :: 7 :: 4 :: 167 :: 0 :: 4 :: 3 :: 181 :: 0 :: 60 :: 28 :: 172 :: th_dr cX11_stays 42 := rfl
theorem bl_dX11_stays_28 : decode cX11_stays 28 = .ok (.iconst 1, 1) ∧ decode cX11_stays 29 = .ok (.if_icmp .ne 7, 3) ∧ decode cX11_stays 32 = .ok (.iconst 1, 1) ∧ decode cX11_stays 33 = .ok (.goto 4, 3) ∧ decode cX11_stays 36 = .ok (.iconst 0, 1) ∧ decode cX11_stays 37 = .ok (.putfield 60, 3) ∧ decode cX11_stays 40 = .ok (.iload_n 2, 1) ∧ decode cX11_stays 41 = .ok (.ireturn, 1) := op_4 lk_dX11_stays_28 fun e => op_160p e rfl fun e => op_4 e fun e => op_167p e rfl fun e => op_3 e fun e => op_181 e fun e => op_28 e fun e => (op_172 e fun _ => True.intro).1
theorem dX11_stays_28 : decode cX11_stays 28 = .ok (.iconst 1, 1) := bl_dX11_stays_28.1
theorem dX11_stays_29 : decode cX11_stays 29 = .ok (.if_icmp .ne 7, 3) := bl_dX11_stays_28.2.1
theorem dX11_stays_32 : decode cX11_stays 32 = .ok (.iconst 1, 1) := bl_dX11_stays_28.2.2.1
theorem dX11_stays_33 : decode cX11_stays 33 = .ok (.goto 4, 3) := bl_dX11_stays_28.2.2.2.1
theorem dX11_stays_36 : decode cX11_stays 36 = .ok (.iconst 0, 1) := bl_dX11_stays_28.2.2.2.2.1
theorem dX11_stays_37 : decode cX11_stays 37 = .ok (.putfield 60, 3) := bl_dX11_stays_28.2.2.2.2.2.1
theorem dX11_stays_40 : decode cX11_stays 40 = .ok (.iload_n 2, 1) := bl_dX11_stays_28.2.2.2.2.2.2.1
theorem dX11_stays_41 : decode cX11_stays 41 = .ok (.ireturn, 1) := bl_dX11_stays_28.2.2.2.2.2.2.2
set_option maxRecDepth 20000 in
theorem ggX11_rather_X0_boatAt : GoodIn wsX11_rather wsX0_boatAt := goodIn_q _ [(7, 6), (78, 9)] rfl gdwsX0_boatAt
set_option maxRecDepth 20000 in
theorem gX11_rather_X0_boatAt : GoodIn wsX11_rather (wsV RX11 90 RX0 yX0_boatAt wsX0_boatAt) := goodIn_app (goodIn_q _ [(3, 4)] rfl rfl) ggX11_rather_X0_boatAt
set_option maxRecDepth 20000 in
theorem ggX11_rather_X0_buoyAt : GoodIn wsX11_rather wsX0_buoyAt := goodIn_q _ [(16, 3), (10, 3), (78, 9)] rfl gdwsX0_buoyAt
set_option maxRecDepth 20000 in
theorem gX11_rather_X0_buoyAt : GoodIn wsX11_rather (wsV RX11 137 RX0 yX0_buoyAt wsX0_buoyAt) := goodIn_app (goodIn_q _ [(13, 3), (6, 1)] rfl rfl) ggX11_rather_X0_buoyAt
set_option maxRecDepth 20000 in
theorem ggX11_rather_X11_finding : GoodIn wsX11_rather wsX11_finding := goodIn_q _ [(22, 4), (10, 3), (50, 10)] rfl gdwsX11_finding
set_option maxRecDepth 20000 in
theorem gX11_rather_X11_finding : GoodIn wsX11_rather (wsV RX11 68 RX11 yX11_finding wsX11_finding) := goodIn_app (goodIn_q _ [(19, 3), (11, 1)] rfl rfl) ggX11_rather_X11_finding
set_option maxRecDepth 20000 in
theorem gdwsX2_wishesFor : wsX2_wishesFor.all goodWord = true := by decide +kernel
set_option maxRecDepth 20000 in
theorem ggX11_rather_X2_wishesFor : GoodIn wsX11_rather wsX2_wishesFor := goodIn_q _ [(31, 6), (30, 1), (37, 2), (10, 3), (39, 2), (60, 18)] rfl gdwsX2_wishesFor
set_option maxRecDepth 20000 in
theorem gX11_rather_X2_wishesFor_u228X4 : GoodIn wsX11_rather (va_wsU RX11 228 RX4 "BayMoorings$Boat" ⟨"BayMoorings$Boat", "wishesFor", "(I)Z"⟩ yX2_wishesFor wsX2_wishesFor) := goodIn_app (goodIn_q _ [(26, 5)] rfl rfl) ggX11_rather_X2_wishesFor
set_option maxRecDepth 20000 in
theorem gX11_rather_X2_wishesFor_u228X8 : GoodIn wsX11_rather (va_wsU RX11 228 RX8 "BayMoorings$Boat" ⟨"BayMoorings$Boat", "wishesFor", "(I)Z"⟩ yX2_wishesFor wsX2_wishesFor) := goodIn_app (goodIn_q _ [(26, 2), (41, 1), (29, 2)] rfl rfl) ggX11_rather_X2_wishesFor
set_option maxRecDepth 20000 in
theorem gX11_rather_X2_wishesFor_u228X9 : GoodIn wsX11_rather (va_wsU RX11 228 RX9 "BayMoorings$Boat" ⟨"BayMoorings$Boat", "wishesFor", "(I)Z"⟩ yX2_wishesFor wsX2_wishesFor) := goodIn_app (goodIn_q _ [(26, 2), (42, 1), (29, 2)] rfl rfl) ggX11_rather_X2_wishesFor
set_option maxRecDepth 20000 in
theorem gdwsX2_addWish : wsX2_addWish.all goodWord = true := by decide +kernel
set_option maxRecDepth 20000 in
theorem ggX11_rather_X2_addWish : GoodIn wsX11_rather wsX2_addWish := goodIn_q _ [(47, 1), (32, 1), (38, 1), (60, 18)] rfl gdwsX2_addWish
set_option maxRecDepth 20000 in
theorem gX11_rather_X2_addWish_u234X4 : GoodIn wsX11_rather (va_wsU RX11 234 RX4 "BayMoorings$Boat" ⟨"BayMoorings$Boat", "addWish", "(I)V"⟩ yX2_addWish wsX2_addWish) := goodIn_app (goodIn_q _ [(43, 4), (30, 1)] rfl rfl) ggX11_rather_X2_addWish
set_option maxRecDepth 20000 in
theorem gX11_rather_X2_addWish_u234X8 : GoodIn wsX11_rather (va_wsU RX11 234 RX8 "BayMoorings$Boat" ⟨"BayMoorings$Boat", "addWish", "(I)V"⟩ yX2_addWish wsX2_addWish) := goodIn_app (goodIn_q _ [(43, 2), (48, 1), (46, 1), (30, 1)] rfl rfl) ggX11_rather_X2_addWish
set_option maxRecDepth 20000 in
theorem gX11_rather_X2_addWish_u234X9 : GoodIn wsX11_rather (va_wsU RX11 234 RX9 "BayMoorings$Boat" ⟨"BayMoorings$Boat", "addWish", "(I)V"⟩ yX2_addWish wsX2_addWish) := goodIn_app (goodIn_q _ [(43, 2), (49, 1), (46, 1), (30, 1)] rfl rfl) ggX11_rather_X2_addWish
theorem lk_dX11_rather_0 : th_dr cX11_rather 0 = 42 :: 180 :: 0 :: 10 :: 27 :: 182 :: 0 :: 90 :: 78 :: 45 :: 198 :: 0 :: 14 :: 42 :: 180 :: 0 :: 10 :: 28 :: 182 :: 0 :: 137 :: 199 :: 0 :: 9 :: 42 :: 4 :: 182 :: 0 :: 68 :: 172 :: th_dr cX11_rather 30 := rfl
theorem bl_dX11_rather_0 : decode cX11_rather 0 = .ok (.aload_n 0, 1) ∧ decode cX11_rather 1 = .ok (.getfield 10, 3) ∧ decode cX11_rather 4 = .ok (.iload_n 1, 1) ∧ decode cX11_rather 5 = .ok (.invokevirtual 90, 3) ∧ decode cX11_rather 8 = .ok (.astore_n 3, 1) ∧ decode cX11_rather 9 = .ok (.aload_n 3, 1) ∧ decode cX11_rather 10 = .ok (.ifnull 14, 3) ∧ decode cX11_rather 13 = .ok (.aload_n 0, 1) ∧ decode cX11_rather 14 = .ok (.getfield 10, 3) ∧ decode cX11_rather 17 = .ok (.iload_n 2, 1) ∧ decode cX11_rather 18 = .ok (.invokevirtual 137, 3) ∧ decode cX11_rather 21 = .ok (.ifnonnull 9, 3) ∧ decode cX11_rather 24 = .ok (.aload_n 0, 1) ∧ decode cX11_rather 25 = .ok (.iconst 1, 1) ∧ decode cX11_rather 26 = .ok (.invokevirtual 68, 3) ∧ decode cX11_rather 29 = .ok (.ireturn, 1) := op_42 lk_dX11_rather_0 fun e => op_180 e fun e => op_27 e fun e => op_182 e fun e => op_78 e fun e => op_45 e fun e => op_198p e rfl fun e => op_42 e fun e => op_180 e fun e => op_28 e fun e => op_182 e fun e => op_199p e rfl fun e => op_42 e fun e => op_4 e fun e => op_182 e fun e => (op_172 e fun _ => True.intro).1
theorem dX11_rather_0 : decode cX11_rather 0 = .ok (.aload_n 0, 1) := bl_dX11_rather_0.1
theorem dX11_rather_1 : decode cX11_rather 1 = .ok (.getfield 10, 3) := bl_dX11_rather_0.2.1
theorem dX11_rather_4 : decode cX11_rather 4 = .ok (.iload_n 1, 1) := bl_dX11_rather_0.2.2.1
theorem dX11_rather_5 : decode cX11_rather 5 = .ok (.invokevirtual 90, 3) := bl_dX11_rather_0.2.2.2.1
theorem dX11_rather_8 : decode cX11_rather 8 = .ok (.astore_n 3, 1) := bl_dX11_rather_0.2.2.2.2.1
theorem dX11_rather_9 : decode cX11_rather 9 = .ok (.aload_n 3, 1) := bl_dX11_rather_0.2.2.2.2.2.1
theorem dX11_rather_10 : decode cX11_rather 10 = .ok (.ifnull 14, 3) := bl_dX11_rather_0.2.2.2.2.2.2.1
theorem dX11_rather_13 : decode cX11_rather 13 = .ok (.aload_n 0, 1) := bl_dX11_rather_0.2.2.2.2.2.2.2.1
theorem dX11_rather_14 : decode cX11_rather 14 = .ok (.getfield 10, 3) := bl_dX11_rather_0.2.2.2.2.2.2.2.2.1
theorem dX11_rather_17 : decode cX11_rather 17 = .ok (.iload_n 2, 1) := bl_dX11_rather_0.2.2.2.2.2.2.2.2.2.1
theorem dX11_rather_18 : decode cX11_rather 18 = .ok (.invokevirtual 137, 3) := bl_dX11_rather_0.2.2.2.2.2.2.2.2.2.2.1
theorem dX11_rather_21 : decode cX11_rather 21 = .ok (.ifnonnull 9, 3) := bl_dX11_rather_0.2.2.2.2.2.2.2.2.2.2.2.1
theorem dX11_rather_24 : decode cX11_rather 24 = .ok (.aload_n 0, 1) := bl_dX11_rather_0.2.2.2.2.2.2.2.2.2.2.2.2.1
theorem dX11_rather_25 : decode cX11_rather 25 = .ok (.iconst 1, 1) := bl_dX11_rather_0.2.2.2.2.2.2.2.2.2.2.2.2.2.1
theorem dX11_rather_26 : decode cX11_rather 26 = .ok (.invokevirtual 68, 3) := bl_dX11_rather_0.2.2.2.2.2.2.2.2.2.2.2.2.2.2.1
theorem dX11_rather_29 : decode cX11_rather 29 = .ok (.ireturn, 1) := bl_dX11_rather_0.2.2.2.2.2.2.2.2.2.2.2.2.2.2.2
theorem lk_dX11_rather_30 : th_dr cX11_rather 30 = 45 :: 28 :: 182 :: 0 :: 228 :: 153 :: 0 :: 9 :: 42 :: 6 :: 182 :: 0 :: 68 :: 172 :: 45 :: 180 :: 0 :: 231 :: 7 :: 161 :: 0 :: 9 :: 42 :: 7 :: 182 :: 0 :: 68 :: 172 :: th_dr cX11_rather 58 := rfl
theorem bl_dX11_rather_30 : decode cX11_rather 30 = .ok (.aload_n 3, 1) ∧ decode cX11_rather 31 = .ok (.iload_n 2, 1) ∧ decode cX11_rather 32 = .ok (.invokevirtual 228, 3) ∧ decode cX11_rather 35 = .ok (.ifCond .eq 9, 3) ∧ decode cX11_rather 38 = .ok (.aload_n 0, 1) ∧ decode cX11_rather 39 = .ok (.iconst 3, 1) ∧ decode cX11_rather 40 = .ok (.invokevirtual 68, 3) ∧ decode cX11_rather 43 = .ok (.ireturn, 1) ∧ decode cX11_rather 44 = .ok (.aload_n 3, 1) ∧ decode cX11_rather 45 = .ok (.getfield 231, 3) ∧ decode cX11_rather 48 = .ok (.iconst 4, 1) ∧ decode cX11_rather 49 = .ok (.if_icmp .lt 9, 3) ∧ decode cX11_rather 52 = .ok (.aload_n 0, 1) ∧ decode cX11_rather 53 = .ok (.iconst 4, 1) ∧ decode cX11_rather 54 = .ok (.invokevirtual 68, 3) ∧ decode cX11_rather 57 = .ok (.ireturn, 1) := op_45 lk_dX11_rather_30 fun e => op_28 e fun e => op_182 e fun e => op_153p e rfl fun e => op_42 e fun e => op_6 e fun e => op_182 e fun e => op_172 e fun e => op_45 e fun e => op_180 e fun e => op_7 e fun e => op_161p e rfl fun e => op_42 e fun e => op_7 e fun e => op_182 e fun e => (op_172 e fun _ => True.intro).1
theorem dX11_rather_30 : decode cX11_rather 30 = .ok (.aload_n 3, 1) := bl_dX11_rather_30.1
theorem dX11_rather_31 : decode cX11_rather 31 = .ok (.iload_n 2, 1) := bl_dX11_rather_30.2.1
theorem dX11_rather_32 : decode cX11_rather 32 = .ok (.invokevirtual 228, 3) := bl_dX11_rather_30.2.2.1
theorem dX11_rather_35 : decode cX11_rather 35 = .ok (.ifCond .eq 9, 3) := bl_dX11_rather_30.2.2.2.1
theorem dX11_rather_38 : decode cX11_rather 38 = .ok (.aload_n 0, 1) := bl_dX11_rather_30.2.2.2.2.1
theorem dX11_rather_39 : decode cX11_rather 39 = .ok (.iconst 3, 1) := bl_dX11_rather_30.2.2.2.2.2.1
theorem dX11_rather_40 : decode cX11_rather 40 = .ok (.invokevirtual 68, 3) := bl_dX11_rather_30.2.2.2.2.2.2.1
theorem dX11_rather_43 : decode cX11_rather 43 = .ok (.ireturn, 1) := bl_dX11_rather_30.2.2.2.2.2.2.2.1
theorem dX11_rather_44 : decode cX11_rather 44 = .ok (.aload_n 3, 1) := bl_dX11_rather_30.2.2.2.2.2.2.2.2.1
theorem dX11_rather_45 : decode cX11_rather 45 = .ok (.getfield 231, 3) := bl_dX11_rather_30.2.2.2.2.2.2.2.2.2.1
theorem dX11_rather_48 : decode cX11_rather 48 = .ok (.iconst 4, 1) := bl_dX11_rather_30.2.2.2.2.2.2.2.2.2.2.1
theorem dX11_rather_49 : decode cX11_rather 49 = .ok (.if_icmp .lt 9, 3) := bl_dX11_rather_30.2.2.2.2.2.2.2.2.2.2.2.1
theorem dX11_rather_52 : decode cX11_rather 52 = .ok (.aload_n 0, 1) := bl_dX11_rather_30.2.2.2.2.2.2.2.2.2.2.2.2.1
theorem dX11_rather_53 : decode cX11_rather 53 = .ok (.iconst 4, 1) := bl_dX11_rather_30.2.2.2.2.2.2.2.2.2.2.2.2.2.1
theorem dX11_rather_54 : decode cX11_rather 54 = .ok (.invokevirtual 68, 3) := bl_dX11_rather_30.2.2.2.2.2.2.2.2.2.2.2.2.2.2.1
theorem dX11_rather_57 : decode cX11_rather 57 = .ok (.ireturn, 1) := bl_dX11_rather_30.2.2.2.2.2.2.2.2.2.2.2.2.2.2.2
set_option maxRecDepth 20000 in
theorem lk_dX11_rather_58 : th_dr cX11_rather 58 = 45 :: 28 :: 182 :: 0 :: 234 :: 45 :: 180 :: 0 :: 231 :: 172 :: th_dr cX11_rather 68 := rfl
theorem bl_dX11_rather_58 : decode cX11_rather 58 = .ok (.aload_n 3, 1) ∧ decode cX11_rather 59 = .ok (.iload_n 2, 1) ∧ decode cX11_rather 60 = .ok (.invokevirtual 234, 3) ∧ decode cX11_rather 63 = .ok (.aload_n 3, 1) ∧ decode cX11_rather 64 = .ok (.getfield 231, 3) ∧ decode cX11_rather 67 = .ok (.ireturn, 1) := op_45 lk_dX11_rather_58 fun e => op_28 e fun e => op_182 e fun e => op_45 e fun e => op_180 e fun e => (op_172 e fun _ => True.intro).1
theorem dX11_rather_58 : decode cX11_rather 58 = .ok (.aload_n 3, 1) := bl_dX11_rather_58.1
theorem dX11_rather_59 : decode cX11_rather 59 = .ok (.iload_n 2, 1) := bl_dX11_rather_58.2.1
theorem dX11_rather_60 : decode cX11_rather 60 = .ok (.invokevirtual 234, 3) := bl_dX11_rather_58.2.2.1
theorem dX11_rather_63 : decode cX11_rather 63 = .ok (.aload_n 3, 1) := bl_dX11_rather_58.2.2.2.1
theorem dX11_rather_64 : decode cX11_rather 64 = .ok (.getfield 231, 3) := bl_dX11_rather_58.2.2.2.2.1
theorem dX11_rather_67 : decode cX11_rather 67 = .ok (.ireturn, 1) := bl_dX11_rather_58.2.2.2.2.2
set_option maxRecDepth 20000 in
theorem ggX11_content_X0_boatAt : GoodIn wsX11_content wsX0_boatAt := goodIn_q _ [(7, 6), (48, 9)] rfl gdwsX0_boatAt
set_option maxRecDepth 20000 in
theorem gX11_content_X0_boatAt : GoodIn wsX11_content (wsV RX11 90 RX0 yX0_boatAt wsX0_boatAt) := goodIn_app (goodIn_q _ [(3, 4)] rfl rfl) ggX11_content_X0_boatAt
set_option maxRecDepth 20000 in
theorem ggX11_content_X11_finding : GoodIn wsX11_content wsX11_finding := goodIn_q _ [(16, 4), (10, 3), (20, 10)] rfl gdwsX11_finding
set_option maxRecDepth 20000 in
theorem gX11_content_X11_finding : GoodIn wsX11_content (wsV RX11 68 RX11 yX11_finding wsX11_finding) := goodIn_app (goodIn_q _ [(13, 3), (11, 1)] rfl rfl) ggX11_content_X11_finding
theorem lk_dX11_content_0 : th_dr cX11_content 0 = 42 :: 180 :: 0 :: 10 :: 27 :: 182 :: 0 :: 90 :: 77 :: 44 :: 199 :: 0 :: 9 :: 42 :: 4 :: 182 :: 0 :: 68 :: 172 :: 44 :: 180 :: 0 :: 231 :: 62 :: 44 :: 3 :: th_dr cX11_content 26 := rfl
theorem bl_dX11_content_0 : decode cX11_content 0 = .ok (.aload_n 0, 1) ∧ decode cX11_content 1 = .ok (.getfield 10, 3) ∧ decode cX11_content 4 = .ok (.iload_n 1, 1) ∧ decode cX11_content 5 = .ok (.invokevirtual 90, 3) ∧ decode cX11_content 8 = .ok (.astore_n 2, 1) ∧ decode cX11_content 9 = .ok (.aload_n 2, 1) ∧ decode cX11_content 10 = .ok (.ifnonnull 9, 3) ∧ decode cX11_content 13 = .ok (.aload_n 0, 1) ∧ decode cX11_content 14 = .ok (.iconst 1, 1) ∧ decode cX11_content 15 = .ok (.invokevirtual 68, 3) ∧ decode cX11_content 18 = .ok (.ireturn, 1) ∧ decode cX11_content 19 = .ok (.aload_n 2, 1) ∧ decode cX11_content 20 = .ok (.getfield 231, 3) ∧ decode cX11_content 23 = .ok (.istore_n 3, 1) ∧ decode cX11_content 24 = .ok (.aload_n 2, 1) ∧ decode cX11_content 25 = .ok (.iconst 0, 1) := op_42 lk_dX11_content_0 fun e => op_180 e fun e => op_27 e fun e => op_182 e fun e => op_77 e fun e => op_44 e fun e => op_199p e rfl fun e => op_42 e fun e => op_4 e fun e => op_182 e fun e => op_172 e fun e => op_44 e fun e => op_180 e fun e => op_62 e fun e => op_44 e fun e => (op_3 e fun _ => True.intro).1
theorem dX11_content_0 : decode cX11_content 0 = .ok (.aload_n 0, 1) := bl_dX11_content_0.1
theorem dX11_content_1 : decode cX11_content 1 = .ok (.getfield 10, 3) := bl_dX11_content_0.2.1
theorem dX11_content_4 : decode cX11_content 4 = .ok (.iload_n 1, 1) := bl_dX11_content_0.2.2.1
theorem dX11_content_5 : decode cX11_content 5 = .ok (.invokevirtual 90, 3) := bl_dX11_content_0.2.2.2.1
theorem dX11_content_8 : decode cX11_content 8 = .ok (.astore_n 2, 1) := bl_dX11_content_0.2.2.2.2.1
theorem dX11_content_9 : decode cX11_content 9 = .ok (.aload_n 2, 1) := bl_dX11_content_0.2.2.2.2.2.1
theorem dX11_content_10 : decode cX11_content 10 = .ok (.ifnonnull 9, 3) := bl_dX11_content_0.2.2.2.2.2.2.1
theorem dX11_content_13 : decode cX11_content 13 = .ok (.aload_n 0, 1) := bl_dX11_content_0.2.2.2.2.2.2.2.1
theorem dX11_content_14 : decode cX11_content 14 = .ok (.iconst 1, 1) := bl_dX11_content_0.2.2.2.2.2.2.2.2.1
theorem dX11_content_15 : decode cX11_content 15 = .ok (.invokevirtual 68, 3) := bl_dX11_content_0.2.2.2.2.2.2.2.2.2.1
theorem dX11_content_18 : decode cX11_content 18 = .ok (.ireturn, 1) := bl_dX11_content_0.2.2.2.2.2.2.2.2.2.2.1
theorem dX11_content_19 : decode cX11_content 19 = .ok (.aload_n 2, 1) := bl_dX11_content_0.2.2.2.2.2.2.2.2.2.2.2.1
theorem dX11_content_20 : decode cX11_content 20 = .ok (.getfield 231, 3) := bl_dX11_content_0.2.2.2.2.2.2.2.2.2.2.2.2.1
theorem dX11_content_23 : decode cX11_content 23 = .ok (.istore_n 3, 1) := bl_dX11_content_0.2.2.2.2.2.2.2.2.2.2.2.2.2.1
theorem dX11_content_24 : decode cX11_content 24 = .ok (.aload_n 2, 1) := bl_dX11_content_0.2.2.2.2.2.2.2.2.2.2.2.2.2.2.1
theorem dX11_content_25 : decode cX11_content 25 = .ok (.iconst 0, 1) := bl_dX11_content_0.2.2.2.2.2.2.2.2.2.2.2.2.2.2.2
theorem lk_dX11_content_26 : th_dr cX11_content 26 = 181 :: 0 :: 231 :: 29 :: 172 :: th_dr cX11_content 31 := rfl
theorem bl_dX11_content_26 : decode cX11_content 26 = .ok (.putfield 231, 3) ∧ decode cX11_content 29 = .ok (.iload_n 3, 1) ∧ decode cX11_content 30 = .ok (.ireturn, 1) := op_181 lk_dX11_content_26 fun e => op_29 e fun e => (op_172 e fun _ => True.intro).1
theorem dX11_content_26 : decode cX11_content 26 = .ok (.putfield 231, 3) := bl_dX11_content_26.1
theorem dX11_content_29 : decode cX11_content 29 = .ok (.iload_n 3, 1) := bl_dX11_content_26.2.1
theorem dX11_content_30 : decode cX11_content 30 = .ok (.ireturn, 1) := bl_dX11_content_26.2.2
set_option maxRecDepth 20000 in
theorem ggX11_ring_X0_boatAt : GoodIn wsX11_ring wsX0_boatAt := goodIn_q _ [(8, 6), (128, 9)] rfl gdwsX0_boatAt
set_option maxRecDepth 20000 in
theorem gX11_ring_X0_boatAt : GoodIn wsX11_ring (wsV RX11 90 RX0 yX0_boatAt wsX0_boatAt) := goodIn_app (goodIn_q _ [(4, 4)] rfl rfl) ggX11_ring_X0_boatAt
set_option maxRecDepth 20000 in
theorem ggX11_ring_X11_finding : GoodIn wsX11_ring wsX11_finding := goodIn_q _ [(17, 4), (11, 3), (118, 10)] rfl gdwsX11_finding
set_option maxRecDepth 20000 in
theorem gX11_ring_X11_finding : GoodIn wsX11_ring (wsV RX11 68 RX11 yX11_finding wsX11_finding) := goodIn_app (goodIn_q _ [(14, 3), (12, 1)] rfl rfl) ggX11_ring_X11_finding
set_option maxRecDepth 20000 in
theorem ggX11_ring_X1_buoyOf : GoodIn wsX11_ring wsX1_buoyOf := goodIn_q _ [(25, 2), (11, 3), (137, 2)] rfl gdwsX1_buoyOf
set_option maxRecDepth 20000 in
theorem gX11_ring_X1_buoyOf : GoodIn wsX11_ring (wsV RX11 129 RX1 yX1_buoyOf wsX1_buoyOf) := goodIn_app (goodIn_q _ [(21, 4)] rfl rfl) ggX11_ring_X1_buoyOf
set_option maxRecDepth 20000 in
theorem gdwsX6_draw : wsX6_draw.all goodWord = true := by decide +kernel
set_option maxRecDepth 20000 in
theorem ggX11_ring_X6_draw : GoodIn wsX11_ring wsX6_draw := goodIn_q _ [(31, 7), (22, 5), (11, 3), (38, 3), (30, 1), (41, 7), (5, 6), (48, 66), (139, 4), (128, 11), (143, 26)] rfl gdwsX6_draw
set_option maxRecDepth 20000 in
theorem gX11_ring_X6_draw : GoodIn wsX11_ring (wsV RX11 237 RX6 yX6_draw wsX6_draw) := goodIn_app (goodIn_q _ [(27, 4)] rfl rfl) ggX11_ring_X6_draw
set_option maxRecDepth 20000 in
theorem gdwsX6_buoyFor : wsX6_buoyFor.all goodWord = true := by decide +kernel
set_option maxRecDepth 20000 in
theorem ggX11_ring_X6_buoyFor : GoodIn wsX11_ring wsX6_buoyFor := goodIn_q _ [(117, 1), (35, 1), (11, 3), (139, 4)] rfl gdwsX6_buoyFor
set_option maxRecDepth 20000 in
theorem gX11_ring_X6_buoyFor : GoodIn wsX11_ring (wsV RX11 240 RX6 yX6_buoyFor wsX6_buoyFor) := goodIn_app (goodIn_q _ [(114, 3), (30, 1)] rfl rfl) ggX11_ring_X6_buoyFor
theorem lk_dX11_ring_0 : th_dr cX11_ring 0 = 42 :: 180 :: 0 :: 10 :: 27 :: 182 :: 0 :: 90 :: 199 :: 0 :: 9 :: 42 :: 4 :: 182 :: 0 :: 68 :: 172 :: 42 :: 180 :: 0 :: 10 :: 180 :: 0 :: 125 :: 27 :: 182 :: 0 :: 129 :: 2 :: 160 :: 0 :: 9 :: th_dr cX11_ring 32 := rfl
theorem bl_dX11_ring_0 : decode cX11_ring 0 = .ok (.aload_n 0, 1) ∧ decode cX11_ring 1 = .ok (.getfield 10, 3) ∧ decode cX11_ring 4 = .ok (.iload_n 1, 1) ∧ decode cX11_ring 5 = .ok (.invokevirtual 90, 3) ∧ decode cX11_ring 8 = .ok (.ifnonnull 9, 3) ∧ decode cX11_ring 11 = .ok (.aload_n 0, 1) ∧ decode cX11_ring 12 = .ok (.iconst 1, 1) ∧ decode cX11_ring 13 = .ok (.invokevirtual 68, 3) ∧ decode cX11_ring 16 = .ok (.ireturn, 1) ∧ decode cX11_ring 17 = .ok (.aload_n 0, 1) ∧ decode cX11_ring 18 = .ok (.getfield 10, 3) ∧ decode cX11_ring 21 = .ok (.getfield 125, 3) ∧ decode cX11_ring 24 = .ok (.iload_n 1, 1) ∧ decode cX11_ring 25 = .ok (.invokevirtual 129, 3) ∧ decode cX11_ring 28 = .ok (.iconst (-1), 1) ∧ decode cX11_ring 29 = .ok (.if_icmp .ne 9, 3) := op_42 lk_dX11_ring_0 fun e => op_180 e fun e => op_27 e fun e => op_182 e fun e => op_199p e rfl fun e => op_42 e fun e => op_4 e fun e => op_182 e fun e => op_172 e fun e => op_42 e fun e => op_180 e fun e => op_180 e fun e => op_27 e fun e => op_182 e fun e => op_2 e fun e => (op_160p e rfl fun _ => True.intro).1
theorem dX11_ring_0 : decode cX11_ring 0 = .ok (.aload_n 0, 1) := bl_dX11_ring_0.1
theorem dX11_ring_1 : decode cX11_ring 1 = .ok (.getfield 10, 3) := bl_dX11_ring_0.2.1
theorem dX11_ring_4 : decode cX11_ring 4 = .ok (.iload_n 1, 1) := bl_dX11_ring_0.2.2.1
theorem dX11_ring_5 : decode cX11_ring 5 = .ok (.invokevirtual 90, 3) := bl_dX11_ring_0.2.2.2.1
theorem dX11_ring_8 : decode cX11_ring 8 = .ok (.ifnonnull 9, 3) := bl_dX11_ring_0.2.2.2.2.1
theorem dX11_ring_11 : decode cX11_ring 11 = .ok (.aload_n 0, 1) := bl_dX11_ring_0.2.2.2.2.2.1
theorem dX11_ring_12 : decode cX11_ring 12 = .ok (.iconst 1, 1) := bl_dX11_ring_0.2.2.2.2.2.2.1
theorem dX11_ring_13 : decode cX11_ring 13 = .ok (.invokevirtual 68, 3) := bl_dX11_ring_0.2.2.2.2.2.2.2.1
theorem dX11_ring_16 : decode cX11_ring 16 = .ok (.ireturn, 1) := bl_dX11_ring_0.2.2.2.2.2.2.2.2.1
theorem dX11_ring_17 : decode cX11_ring 17 = .ok (.aload_n 0, 1) := bl_dX11_ring_0.2.2.2.2.2.2.2.2.2.1
theorem dX11_ring_18 : decode cX11_ring 18 = .ok (.getfield 10, 3) := bl_dX11_ring_0.2.2.2.2.2.2.2.2.2.2.1
theorem dX11_ring_21 : decode cX11_ring 21 = .ok (.getfield 125, 3) := bl_dX11_ring_0.2.2.2.2.2.2.2.2.2.2.2.1
theorem dX11_ring_24 : decode cX11_ring 24 = .ok (.iload_n 1, 1) := bl_dX11_ring_0.2.2.2.2.2.2.2.2.2.2.2.2.1
theorem dX11_ring_25 : decode cX11_ring 25 = .ok (.invokevirtual 129, 3) := bl_dX11_ring_0.2.2.2.2.2.2.2.2.2.2.2.2.2.1
theorem dX11_ring_28 : decode cX11_ring 28 = .ok (.iconst (-1), 1) := bl_dX11_ring_0.2.2.2.2.2.2.2.2.2.2.2.2.2.2.1
theorem dX11_ring_29 : decode cX11_ring 29 = .ok (.if_icmp .ne 9, 3) := bl_dX11_ring_0.2.2.2.2.2.2.2.2.2.2.2.2.2.2.2
theorem lk_dX11_ring_32 : th_dr cX11_ring 32 = 42 :: 6 :: 182 :: 0 :: 68 :: 172 :: 42 :: 180 :: 0 :: 35 :: 182 :: 0 :: 237 :: 42 :: 180 :: 0 :: 35 :: 27 :: 182 :: 0 :: 240 :: 172 :: th_dr cX11_ring 54 := rfl
theorem bl_dX11_ring_32 : decode cX11_ring 32 = .ok (.aload_n 0, 1) ∧ decode cX11_ring 33 = .ok (.iconst 3, 1) ∧ decode cX11_ring 34 = .ok (.invokevirtual 68, 3) ∧ decode cX11_ring 37 = .ok (.ireturn, 1) ∧ decode cX11_ring 38 = .ok (.aload_n 0, 1) ∧ decode cX11_ring 39 = .ok (.getfield 35, 3) ∧ decode cX11_ring 42 = .ok (.invokevirtual 237, 3) ∧ decode cX11_ring 45 = .ok (.aload_n 0, 1) ∧ decode cX11_ring 46 = .ok (.getfield 35, 3) ∧ decode cX11_ring 49 = .ok (.iload_n 1, 1) ∧ decode cX11_ring 50 = .ok (.invokevirtual 240, 3) ∧ decode cX11_ring 53 = .ok (.ireturn, 1) := op_42 lk_dX11_ring_32 fun e => op_6 e fun e => op_182 e fun e => op_172 e fun e => op_42 e fun e => op_180 e fun e => op_182 e fun e => op_42 e fun e => op_180 e fun e => op_27 e fun e => op_182 e fun e => (op_172 e fun _ => True.intro).1
theorem dX11_ring_32 : decode cX11_ring 32 = .ok (.aload_n 0, 1) := bl_dX11_ring_32.1
theorem dX11_ring_33 : decode cX11_ring 33 = .ok (.iconst 3, 1) := bl_dX11_ring_32.2.1
theorem dX11_ring_34 : decode cX11_ring 34 = .ok (.invokevirtual 68, 3) := bl_dX11_ring_32.2.2.1
theorem dX11_ring_37 : decode cX11_ring 37 = .ok (.ireturn, 1) := bl_dX11_ring_32.2.2.2.1
theorem dX11_ring_38 : decode cX11_ring 38 = .ok (.aload_n 0, 1) := bl_dX11_ring_32.2.2.2.2.1
theorem dX11_ring_39 : decode cX11_ring 39 = .ok (.getfield 35, 3) := bl_dX11_ring_32.2.2.2.2.2.1
theorem dX11_ring_42 : decode cX11_ring 42 = .ok (.invokevirtual 237, 3) := bl_dX11_ring_32.2.2.2.2.2.2.1
theorem dX11_ring_45 : decode cX11_ring 45 = .ok (.aload_n 0, 1) := bl_dX11_ring_32.2.2.2.2.2.2.2.1
theorem dX11_ring_46 : decode cX11_ring 46 = .ok (.getfield 35, 3) := bl_dX11_ring_32.2.2.2.2.2.2.2.2.1
theorem dX11_ring_49 : decode cX11_ring 49 = .ok (.iload_n 1, 1) := bl_dX11_ring_32.2.2.2.2.2.2.2.2.2.1
theorem dX11_ring_50 : decode cX11_ring 50 = .ok (.invokevirtual 240, 3) := bl_dX11_ring_32.2.2.2.2.2.2.2.2.2.2.1
theorem dX11_ring_53 : decode cX11_ring 53 = .ok (.ireturn, 1) := bl_dX11_ring_32.2.2.2.2.2.2.2.2.2.2.2
set_option maxRecDepth 20000 in
theorem ggX11_swap_X6_draw : GoodIn wsX11_swap wsX6_draw := goodIn_q _ [(9, 18), (8, 1), (27, 79), (140, 4), (131, 9), (144, 28)] rfl gdwsX6_draw
set_option maxRecDepth 20000 in
theorem gX11_swap_X6_draw : GoodIn wsX11_swap (wsV RX11 237 RX6 yX6_draw wsX6_draw) := goodIn_app (goodIn_q _ [(5, 4)] rfl rfl) ggX11_swap_X6_draw
set_option maxRecDepth 20000 in
theorem ggX11_swap_X6_buoyFor : GoodIn wsX11_swap wsX6_buoyFor := goodIn_q _ [(109, 1), (13, 1), (21, 3), (140, 4)] rfl gdwsX6_buoyFor
set_option maxRecDepth 20000 in
theorem gX11_swap_X6_buoyFor : GoodIn wsX11_swap (wsV RX11 240 RX6 yX6_buoyFor wsX6_buoyFor) := goodIn_app (goodIn_q _ [(106, 3), (8, 1)] rfl rfl) ggX11_swap_X6_buoyFor
set_option maxRecDepth 20000 in
theorem ggX11_swap_X1_buoyOf : GoodIn wsX11_swap wsX1_buoyOf := goodIn_q _ [(19, 5), (144, 2)] rfl gdwsX1_buoyOf
set_option maxRecDepth 20000 in
theorem gX11_swap_X1_buoyOf : GoodIn wsX11_swap (wsV RX11 129 RX1 yX1_buoyOf wsX1_buoyOf) := goodIn_app (goodIn_q _ [(110, 1), (16, 3)] rfl rfl) ggX11_swap_X1_buoyOf
set_option maxRecDepth 20000 in
theorem ggX11_swap_X1_put : GoodIn wsX11_swap wsX1_put := goodIn_q _ [(114, 1), (20, 1), (67, 1), (21, 3), (144, 2)] rfl gdwsX1_put
set_option maxRecDepth 20000 in
theorem gX11_swap_X1_put : GoodIn wsX11_swap (wsV RX11 186 RX1 yX1_put wsX1_put) := goodIn_app (goodIn_q _ [(111, 3), (18, 1)] rfl rfl) ggX11_swap_X1_put
set_option maxRecDepth 20000 in
theorem gdwsX0_dropWishes : wsX0_dropWishes.all goodWord = true := by decide +kernel
set_option maxRecDepth 20000 in
theorem ggX11_swap_X0_dropWishes : GoodIn wsX11_swap wsX0_dropWishes := goodIn_q _ [(118, 1), (38, 1), (119, 2), (34, 4), (39, 1), (21, 3), (131, 9), (146, 18)] rfl gdwsX0_dropWishes
set_option maxRecDepth 20000 in
theorem gX11_swap_X0_dropWishes : GoodIn wsX11_swap (wsV RX11 241 RX0 yX0_dropWishes wsX0_dropWishes) := goodIn_app (goodIn_q _ [(115, 3), (36, 1)] rfl rfl) ggX11_swap_X0_dropWishes
theorem lk_dX11_swap_0 : th_dr cX11_swap 0 = 42 :: 180 :: 0 :: 35 :: 182 :: 0 :: 237 :: 3 :: 60 :: 3 :: 61 :: 28 :: 42 :: 180 :: 0 :: 10 :: 180 :: 0 :: 83 :: 162 :: 0 :: 34 :: 42 :: 180 :: 0 :: 35 :: 28 :: 182 :: 0 :: 240 :: th_dr cX11_swap 30 := rfl
theorem bl_dX11_swap_0 : decode cX11_swap 0 = .ok (.aload_n 0, 1) ∧ decode cX11_swap 1 = .ok (.getfield 35, 3) ∧ decode cX11_swap 4 = .ok (.invokevirtual 237, 3) ∧ decode cX11_swap 7 = .ok (.iconst 0, 1) ∧ decode cX11_swap 8 = .ok (.istore_n 1, 1) ∧ decode cX11_swap 9 = .ok (.iconst 0, 1) ∧ decode cX11_swap 10 = .ok (.istore_n 2, 1) ∧ decode cX11_swap 11 = .ok (.iload_n 2, 1) ∧ decode cX11_swap 12 = .ok (.aload_n 0, 1) ∧ decode cX11_swap 13 = .ok (.getfield 10, 3) ∧ decode cX11_swap 16 = .ok (.getfield 83, 3) ∧ decode cX11_swap 19 = .ok (.if_icmp .ge 34, 3) ∧ decode cX11_swap 22 = .ok (.aload_n 0, 1) ∧ decode cX11_swap 23 = .ok (.getfield 35, 3) ∧ decode cX11_swap 26 = .ok (.iload_n 2, 1) ∧ decode cX11_swap 27 = .ok (.invokevirtual 240, 3) := op_42 lk_dX11_swap_0 fun e => op_180 e fun e => op_182 e fun e => op_3 e fun e => op_60 e fun e => op_3 e fun e => op_61 e fun e => op_28 e fun e => op_42 e fun e => op_180 e fun e => op_180 e fun e => op_162p e rfl fun e => op_42 e fun e => op_180 e fun e => op_28 e fun e => (op_182 e fun _ => True.intro).1
theorem dX11_swap_0 : decode cX11_swap 0 = .ok (.aload_n 0, 1) := bl_dX11_swap_0.1
theorem dX11_swap_1 : decode cX11_swap 1 = .ok (.getfield 35, 3) := bl_dX11_swap_0.2.1
theorem dX11_swap_4 : decode cX11_swap 4 = .ok (.invokevirtual 237, 3) := bl_dX11_swap_0.2.2.1
theorem dX11_swap_7 : decode cX11_swap 7 = .ok (.iconst 0, 1) := bl_dX11_swap_0.2.2.2.1
theorem dX11_swap_8 : decode cX11_swap 8 = .ok (.istore_n 1, 1) := bl_dX11_swap_0.2.2.2.2.1
theorem dX11_swap_9 : decode cX11_swap 9 = .ok (.iconst 0, 1) := bl_dX11_swap_0.2.2.2.2.2.1
theorem dX11_swap_10 : decode cX11_swap 10 = .ok (.istore_n 2, 1) := bl_dX11_swap_0.2.2.2.2.2.2.1
theorem dX11_swap_11 : decode cX11_swap 11 = .ok (.iload_n 2, 1) := bl_dX11_swap_0.2.2.2.2.2.2.2.1
theorem dX11_swap_12 : decode cX11_swap 12 = .ok (.aload_n 0, 1) := bl_dX11_swap_0.2.2.2.2.2.2.2.2.1
theorem dX11_swap_13 : decode cX11_swap 13 = .ok (.getfield 10, 3) := bl_dX11_swap_0.2.2.2.2.2.2.2.2.2.1
theorem dX11_swap_16 : decode cX11_swap 16 = .ok (.getfield 83, 3) := bl_dX11_swap_0.2.2.2.2.2.2.2.2.2.2.1
theorem dX11_swap_19 : decode cX11_swap 19 = .ok (.if_icmp .ge 34, 3) := bl_dX11_swap_0.2.2.2.2.2.2.2.2.2.2.2.1
theorem dX11_swap_22 : decode cX11_swap 22 = .ok (.aload_n 0, 1) := bl_dX11_swap_0.2.2.2.2.2.2.2.2.2.2.2.2.1
theorem dX11_swap_23 : decode cX11_swap 23 = .ok (.getfield 35, 3) := bl_dX11_swap_0.2.2.2.2.2.2.2.2.2.2.2.2.2.1
theorem dX11_swap_26 : decode cX11_swap 26 = .ok (.iload_n 2, 1) := bl_dX11_swap_0.2.2.2.2.2.2.2.2.2.2.2.2.2.2.1
theorem dX11_swap_27 : decode cX11_swap 27 = .ok (.invokevirtual 240, 3) := bl_dX11_swap_0.2.2.2.2.2.2.2.2.2.2.2.2.2.2.2
set_option maxRecDepth 20000 in
theorem lk_dX11_swap_30 : th_dr cX11_swap 30 = 42 :: 180 :: 0 :: 10 :: 180 :: 0 :: 125 :: 28 :: 182 :: 0 :: 129 :: 159 :: 0 :: 6 :: 132 :: 1 :: 1 :: 132 :: 2 :: 1 :: 167 :: 255 :: 217 :: 3 :: 61 :: 28 :: 42 :: 180 :: 0 :: 10 :: 180 :: 0 :: 83 :: 162 :: 0 :: 28 :: th_dr cX11_swap 66 := rfl
theorem bl_dX11_swap_30 : decode cX11_swap 30 = .ok (.aload_n 0, 1) ∧ decode cX11_swap 31 = .ok (.getfield 10, 3) ∧ decode cX11_swap 34 = .ok (.getfield 125, 3) ∧ decode cX11_swap 37 = .ok (.iload_n 2, 1) ∧ decode cX11_swap 38 = .ok (.invokevirtual 129, 3) ∧ decode cX11_swap 41 = .ok (.if_icmp .eq 6, 3) ∧ decode cX11_swap 44 = .ok (.iinc 1 1, 3) ∧ decode cX11_swap 47 = .ok (.iinc 2 1, 3) ∧ decode cX11_swap 50 = .ok (.goto (-39), 3) ∧ decode cX11_swap 53 = .ok (.iconst 0, 1) ∧ decode cX11_swap 54 = .ok (.istore_n 2, 1) ∧ decode cX11_swap 55 = .ok (.iload_n 2, 1) ∧ decode cX11_swap 56 = .ok (.aload_n 0, 1) ∧ decode cX11_swap 57 = .ok (.getfield 10, 3) ∧ decode cX11_swap 60 = .ok (.getfield 83, 3) ∧ decode cX11_swap 63 = .ok (.if_icmp .ge 28, 3) := op_42 lk_dX11_swap_30 fun e => op_180 e fun e => op_180 e fun e => op_28 e fun e => op_182 e fun e => op_159p e rfl fun e => op_132p e rfl fun e => op_132p e rfl fun e => op_167n e rfl rfl fun e => op_3 e fun e => op_61 e fun e => op_28 e fun e => op_42 e fun e => op_180 e fun e => op_180 e fun e => (op_162p e rfl fun _ => True.intro).1
theorem dX11_swap_30 : decode cX11_swap 30 = .ok (.aload_n 0, 1) := bl_dX11_swap_30.1
theorem dX11_swap_31 : decode cX11_swap 31 = .ok (.getfield 10, 3) := bl_dX11_swap_30.2.1
theorem dX11_swap_34 : decode cX11_swap 34 = .ok (.getfield 125, 3) := bl_dX11_swap_30.2.2.1
theorem dX11_swap_37 : decode cX11_swap 37 = .ok (.iload_n 2, 1) := bl_dX11_swap_30.2.2.2.1
theorem dX11_swap_38 : decode cX11_swap 38 = .ok (.invokevirtual 129, 3) := bl_dX11_swap_30.2.2.2.2.1
theorem dX11_swap_41 : decode cX11_swap 41 = .ok (.if_icmp .eq 6, 3) := bl_dX11_swap_30.2.2.2.2.2.1
theorem dX11_swap_44 : decode cX11_swap 44 = .ok (.iinc 1 1, 3) := bl_dX11_swap_30.2.2.2.2.2.2.1
theorem dX11_swap_47 : decode cX11_swap 47 = .ok (.iinc 2 1, 3) := bl_dX11_swap_30.2.2.2.2.2.2.2.1
theorem dX11_swap_50 : decode cX11_swap 50 = .ok (.goto (-39), 3) := bl_dX11_swap_30.2.2.2.2.2.2.2.2.1
theorem dX11_swap_53 : decode cX11_swap 53 = .ok (.iconst 0, 1) := bl_dX11_swap_30.2.2.2.2.2.2.2.2.2.1
theorem dX11_swap_54 : decode cX11_swap 54 = .ok (.istore_n 2, 1) := bl_dX11_swap_30.2.2.2.2.2.2.2.2.2.2.1
theorem dX11_swap_55 : decode cX11_swap 55 = .ok (.iload_n 2, 1) := bl_dX11_swap_30.2.2.2.2.2.2.2.2.2.2.2.1
theorem dX11_swap_56 : decode cX11_swap 56 = .ok (.aload_n 0, 1) := bl_dX11_swap_30.2.2.2.2.2.2.2.2.2.2.2.2.1
theorem dX11_swap_57 : decode cX11_swap 57 = .ok (.getfield 10, 3) := bl_dX11_swap_30.2.2.2.2.2.2.2.2.2.2.2.2.2.1
theorem dX11_swap_60 : decode cX11_swap 60 = .ok (.getfield 83, 3) := bl_dX11_swap_30.2.2.2.2.2.2.2.2.2.2.2.2.2.2.1
theorem dX11_swap_63 : decode cX11_swap 63 = .ok (.if_icmp .ge 28, 3) := bl_dX11_swap_30.2.2.2.2.2.2.2.2.2.2.2.2.2.2.2
set_option maxRecDepth 20000 in
theorem lk_dX11_swap_66 : th_dr cX11_swap 66 = 42 :: 180 :: 0 :: 10 :: 180 :: 0 :: 125 :: 28 :: 42 :: 180 :: 0 :: 35 :: 28 :: 182 :: 0 :: 240 :: 182 :: 0 :: 186 :: 132 :: 2 :: 1 :: 167 :: 255 :: 223 :: 42 :: 180 :: 0 :: 10 :: 182 :: 0 :: 241 :: 27 :: 172 :: th_dr cX11_swap 100 := rfl
theorem bl_dX11_swap_66 : decode cX11_swap 66 = .ok (.aload_n 0, 1) ∧ decode cX11_swap 67 = .ok (.getfield 10, 3) ∧ decode cX11_swap 70 = .ok (.getfield 125, 3) ∧ decode cX11_swap 73 = .ok (.iload_n 2, 1) ∧ decode cX11_swap 74 = .ok (.aload_n 0, 1) ∧ decode cX11_swap 75 = .ok (.getfield 35, 3) ∧ decode cX11_swap 78 = .ok (.iload_n 2, 1) ∧ decode cX11_swap 79 = .ok (.invokevirtual 240, 3) ∧ decode cX11_swap 82 = .ok (.invokevirtual 186, 3) ∧ decode cX11_swap 85 = .ok (.iinc 2 1, 3) ∧ decode cX11_swap 88 = .ok (.goto (-33), 3) ∧ decode cX11_swap 91 = .ok (.aload_n 0, 1) ∧ decode cX11_swap 92 = .ok (.getfield 10, 3) ∧ decode cX11_swap 95 = .ok (.invokevirtual 241, 3) ∧ decode cX11_swap 98 = .ok (.iload_n 1, 1) ∧ decode cX11_swap 99 = .ok (.ireturn, 1) := op_42 lk_dX11_swap_66 fun e => op_180 e fun e => op_180 e fun e => op_28 e fun e => op_42 e fun e => op_180 e fun e => op_28 e fun e => op_182 e fun e => op_182 e fun e => op_132p e rfl fun e => op_167n e rfl rfl fun e => op_42 e fun e => op_180 e fun e => op_182 e fun e => op_27 e fun e => (op_172 e fun _ => True.intro).1
theorem dX11_swap_66 : decode cX11_swap 66 = .ok (.aload_n 0, 1) := bl_dX11_swap_66.1
theorem dX11_swap_67 : decode cX11_swap 67 = .ok (.getfield 10, 3) := bl_dX11_swap_66.2.1
theorem dX11_swap_70 : decode cX11_swap 70 = .ok (.getfield 125, 3) := bl_dX11_swap_66.2.2.1
theorem dX11_swap_73 : decode cX11_swap 73 = .ok (.iload_n 2, 1) := bl_dX11_swap_66.2.2.2.1
theorem dX11_swap_74 : decode cX11_swap 74 = .ok (.aload_n 0, 1) := bl_dX11_swap_66.2.2.2.2.1
theorem dX11_swap_75 : decode cX11_swap 75 = .ok (.getfield 35, 3) := bl_dX11_swap_66.2.2.2.2.2.1
theorem dX11_swap_78 : decode cX11_swap 78 = .ok (.iload_n 2, 1) := bl_dX11_swap_66.2.2.2.2.2.2.1
theorem dX11_swap_79 : decode cX11_swap 79 = .ok (.invokevirtual 240, 3) := bl_dX11_swap_66.2.2.2.2.2.2.2.1
theorem dX11_swap_82 : decode cX11_swap 82 = .ok (.invokevirtual 186, 3) := bl_dX11_swap_66.2.2.2.2.2.2.2.2.1
theorem dX11_swap_85 : decode cX11_swap 85 = .ok (.iinc 2 1, 3) := bl_dX11_swap_66.2.2.2.2.2.2.2.2.2.1
theorem dX11_swap_88 : decode cX11_swap 88 = .ok (.goto (-33), 3) := bl_dX11_swap_66.2.2.2.2.2.2.2.2.2.2.1
theorem dX11_swap_91 : decode cX11_swap 91 = .ok (.aload_n 0, 1) := bl_dX11_swap_66.2.2.2.2.2.2.2.2.2.2.2.1
theorem dX11_swap_92 : decode cX11_swap 92 = .ok (.getfield 10, 3) := bl_dX11_swap_66.2.2.2.2.2.2.2.2.2.2.2.2.1
theorem dX11_swap_95 : decode cX11_swap 95 = .ok (.invokevirtual 241, 3) := bl_dX11_swap_66.2.2.2.2.2.2.2.2.2.2.2.2.2.1
theorem dX11_swap_98 : decode cX11_swap 98 = .ok (.iload_n 1, 1) := bl_dX11_swap_66.2.2.2.2.2.2.2.2.2.2.2.2.2.2.1
theorem dX11_swap_99 : decode cX11_swap 99 = .ok (.ireturn, 1) := bl_dX11_swap_66.2.2.2.2.2.2.2.2.2.2.2.2.2.2.2
set_option maxRecDepth 20000 in
theorem ggX11_years_X11_within : GoodIn wsX11_years wsX11_within := goodIn_q _ [(5, 1)] rfl gdwsX11_within
set_option maxRecDepth 20000 in
theorem gX11_years_X11_within : GoodIn wsX11_years (va_wsS RX11 64 yX11_within wsX11_within) := goodIn_app (goodIn_q _ [(2, 3)] rfl rfl) ggX11_years_X11_within
set_option maxRecDepth 20000 in
theorem ggX11_years_X11_finding : GoodIn wsX11_years wsX11_finding := goodIn_q _ [(9, 3), (2, 4), (56, 10)] rfl gdwsX11_finding
set_option maxRecDepth 20000 in
theorem gX11_years_X11_finding : GoodIn wsX11_years (wsV RX11 68 RX11 yX11_finding wsX11_finding) := goodIn_app (goodIn_q _ [(6, 3), (4, 1)] rfl rfl) ggX11_years_X11_finding
set_option maxRecDepth 20000 in
theorem gdwsX0_passYear : wsX0_passYear.all goodWord = true := by decide +kernel
set_option maxRecDepth 20000 in
theorem ggX11_years_X0_passYear : GoodIn wsX11_years wsX0_passYear := goodIn_q _ [(16, 7), (15, 1), (23, 2), (3, 3), (25, 23), (66, 37)] rfl gdwsX0_passYear
set_option maxRecDepth 20000 in
theorem gX11_years_X0_passYear : GoodIn wsX11_years (wsV RX11 244 RX0 yX0_passYear wsX0_passYear) := goodIn_app (goodIn_q _ [(12, 4)] rfl rfl) ggX11_years_X0_passYear
set_option maxRecDepth 20000 in
theorem gdwsX0_partedChains : wsX0_partedChains.all goodWord = true := by decide +kernel
set_option maxRecDepth 20000 in
theorem ggX11_years_X0_partedChains : GoodIn wsX11_years wsX0_partedChains := goodIn_q _ [(51, 1), (17, 1), (20, 3), (15, 1), (23, 2), (3, 3), (52, 3), (40, 1), (55, 1), (42, 1), (66, 9), (95, 8)] rfl gdwsX0_partedChains
set_option maxRecDepth 20000 in
theorem gX11_years_X0_partedChains : GoodIn wsX11_years (wsV RX11 247 RX0 yX0_partedChains wsX0_partedChains) := goodIn_app (goodIn_q _ [(48, 3), (15, 1)] rfl rfl) ggX11_years_X0_partedChains
theorem lk_dX11_years_0 : th_dr cX11_years 0 = 27 :: 4 :: 16 :: 30 :: 184 :: 0 :: 64 :: 154 :: 0 :: 9 :: 42 :: 4 :: 182 :: 0 :: 68 :: 172 :: 3 :: 61 :: 28 :: 27 :: 162 :: 0 :: 16 :: 42 :: 180 :: 0 :: 10 :: th_dr cX11_years 27 := rfl
theorem bl_dX11_years_0 : decode cX11_years 0 = .ok (.iload_n 1, 1) ∧ decode cX11_years 1 = .ok (.iconst 1, 1) ∧ decode cX11_years 2 = .ok (.bipush 30, 2) ∧ decode cX11_years 4 = .ok (.invokestatic 64, 3) ∧ decode cX11_years 7 = .ok (.ifCond .ne 9, 3) ∧ decode cX11_years 10 = .ok (.aload_n 0, 1) ∧ decode cX11_years 11 = .ok (.iconst 1, 1) ∧ decode cX11_years 12 = .ok (.invokevirtual 68, 3) ∧ decode cX11_years 15 = .ok (.ireturn, 1) ∧ decode cX11_years 16 = .ok (.iconst 0, 1) ∧ decode cX11_years 17 = .ok (.istore_n 2, 1) ∧ decode cX11_years 18 = .ok (.iload_n 2, 1) ∧ decode cX11_years 19 = .ok (.iload_n 1, 1) ∧ decode cX11_years 20 = .ok (.if_icmp .ge 16, 3) ∧ decode cX11_years 23 = .ok (.aload_n 0, 1) ∧ decode cX11_years 24 = .ok (.getfield 10, 3) := op_27 lk_dX11_years_0 fun e => op_4 e fun e => op_16p e rfl fun e => op_184 e fun e => op_154p e rfl fun e => op_42 e fun e => op_4 e fun e => op_182 e fun e => op_172 e fun e => op_3 e fun e => op_61 e fun e => op_28 e fun e => op_27 e fun e => op_162p e rfl fun e => op_42 e fun e => (op_180 e fun _ => True.intro).1
theorem dX11_years_0 : decode cX11_years 0 = .ok (.iload_n 1, 1) := bl_dX11_years_0.1
theorem dX11_years_1 : decode cX11_years 1 = .ok (.iconst 1, 1) := bl_dX11_years_0.2.1
theorem dX11_years_2 : decode cX11_years 2 = .ok (.bipush 30, 2) := bl_dX11_years_0.2.2.1
theorem dX11_years_4 : decode cX11_years 4 = .ok (.invokestatic 64, 3) := bl_dX11_years_0.2.2.2.1
theorem dX11_years_7 : decode cX11_years 7 = .ok (.ifCond .ne 9, 3) := bl_dX11_years_0.2.2.2.2.1
theorem dX11_years_10 : decode cX11_years 10 = .ok (.aload_n 0, 1) := bl_dX11_years_0.2.2.2.2.2.1
theorem dX11_years_11 : decode cX11_years 11 = .ok (.iconst 1, 1) := bl_dX11_years_0.2.2.2.2.2.2.1
theorem dX11_years_12 : decode cX11_years 12 = .ok (.invokevirtual 68, 3) := bl_dX11_years_0.2.2.2.2.2.2.2.1
theorem dX11_years_15 : decode cX11_years 15 = .ok (.ireturn, 1) := bl_dX11_years_0.2.2.2.2.2.2.2.2.1
theorem dX11_years_16 : decode cX11_years 16 = .ok (.iconst 0, 1) := bl_dX11_years_0.2.2.2.2.2.2.2.2.2.1
theorem dX11_years_17 : decode cX11_years 17 = .ok (.istore_n 2, 1) := bl_dX11_years_0.2.2.2.2.2.2.2.2.2.2.1
theorem dX11_years_18 : decode cX11_years 18 = .ok (.iload_n 2, 1) := bl_dX11_years_0.2.2.2.2.2.2.2.2.2.2.2.1
theorem dX11_years_19 : decode cX11_years 19 = .ok (.iload_n 1, 1) := bl_dX11_years_0.2.2.2.2.2.2.2.2.2.2.2.2.1
theorem dX11_years_20 : decode cX11_years 20 = .ok (.if_icmp .ge 16, 3) := bl_dX11_years_0.2.2.2.2.2.2.2.2.2.2.2.2.2.1
theorem dX11_years_23 : decode cX11_years 23 = .ok (.aload_n 0, 1) := bl_dX11_years_0.2.2.2.2.2.2.2.2.2.2.2.2.2.2.1
theorem dX11_years_24 : decode cX11_years 24 = .ok (.getfield 10, 3) := bl_dX11_years_0.2.2.2.2.2.2.2.2.2.2.2.2.2.2.2
theorem lk_dX11_years_27 : th_dr cX11_years 27 = 182 :: 0 :: 244 :: 132 :: 2 :: 1 :: 167 :: 255 :: 241 :: 42 :: 180 :: 0 :: 10 :: 182 :: 0 :: 247 :: 172 :: th_dr cX11_years 44 := rfl
theorem bl_dX11_years_27 : decode cX11_years 27 = .ok (.invokevirtual 244, 3) ∧ decode cX11_years 30 = .ok (.iinc 2 1, 3) ∧ decode cX11_years 33 = .ok (.goto (-15), 3) ∧ decode cX11_years 36 = .ok (.aload_n 0, 1) ∧ decode cX11_years 37 = .ok (.getfield 10, 3) ∧ decode cX11_years 40 = .ok (.invokevirtual 247, 3) ∧ decode cX11_years 43 = .ok (.ireturn, 1) := op_182 lk_dX11_years_27 fun e => op_132p e rfl fun e => op_167n e rfl rfl fun e => op_42 e fun e => op_180 e fun e => op_182 e fun e => (op_172 e fun _ => True.intro).1
theorem dX11_years_27 : decode cX11_years 27 = .ok (.invokevirtual 244, 3) := bl_dX11_years_27.1
theorem dX11_years_30 : decode cX11_years 30 = .ok (.iinc 2 1, 3) := bl_dX11_years_27.2.1
theorem dX11_years_33 : decode cX11_years 33 = .ok (.goto (-15), 3) := bl_dX11_years_27.2.2.1
theorem dX11_years_36 : decode cX11_years 36 = .ok (.aload_n 0, 1) := bl_dX11_years_27.2.2.2.1
theorem dX11_years_37 : decode cX11_years 37 = .ok (.getfield 10, 3) := bl_dX11_years_27.2.2.2.2.1
theorem dX11_years_40 : decode cX11_years 40 = .ok (.invokevirtual 247, 3) := bl_dX11_years_27.2.2.2.2.2.1
theorem dX11_years_43 : decode cX11_years 43 = .ok (.ireturn, 1) := bl_dX11_years_27.2.2.2.2.2.2
set_option maxRecDepth 20000 in
theorem ggX11_look_X0_buoyAt : GoodIn wsX11_look wsX0_buoyAt := goodIn_q _ [(15, 6), (56, 9)] rfl gdwsX0_buoyAt
set_option maxRecDepth 20000 in
theorem gX11_look_X0_buoyAt : GoodIn wsX11_look (wsV RX11 137 RX0 yX0_buoyAt wsX0_buoyAt) := goodIn_app (goodIn_q _ [(11, 4)] rfl rfl) ggX11_look_X0_buoyAt
set_option maxRecDepth 20000 in
theorem ggX11_look_X11_within : GoodIn wsX11_look wsX11_within := goodIn_q _ [(20, 1)] rfl gdwsX11_within
set_option maxRecDepth 20000 in
theorem gX11_look_X11_within : GoodIn wsX11_look (va_wsS RX11 64 yX11_within wsX11_within) := goodIn_app (goodIn_q _ [(21, 1), (18, 2)] rfl rfl) ggX11_look_X11_within
set_option maxRecDepth 20000 in
theorem ggX11_look_X11_isFlag : GoodIn wsX11_look wsX11_isFlag := goodIn_q _ [(24, 1), (21, 1), (18, 3)] rfl gdwsX11_isFlag
set_option maxRecDepth 20000 in
theorem gX11_look_X11_isFlag : GoodIn wsX11_look (va_wsS RX11 225 yX11_isFlag wsX11_isFlag) := goodIn_app (goodIn_q _ [(22, 2), (19, 1)] rfl rfl) ggX11_look_X11_isFlag
set_option maxRecDepth 20000 in
theorem ggX11_look_X11_finding : GoodIn wsX11_look wsX11_finding := goodIn_q _ [(28, 3), (21, 1), (18, 3), (38, 10)] rfl gdwsX11_finding
set_option maxRecDepth 20000 in
theorem gX11_look_X11_finding : GoodIn wsX11_look (wsV RX11 68 RX11 yX11_finding wsX11_finding) := goodIn_app (goodIn_q _ [(25, 3), (19, 1)] rfl rfl) ggX11_look_X11_finding
set_option maxRecDepth 20000 in
theorem ggX11_look_X3_doubt : GoodIn wsX11_look wsX3_doubt := goodIn_q _ [(35, 3), (48, 8)] rfl gdwsX3_doubt
set_option maxRecDepth 20000 in
theorem gX11_look_X3_doubt : GoodIn wsX11_look (wsV RX11 259 RX3 yX3_doubt wsX3_doubt) := goodIn_app (goodIn_q _ [(31, 4)] rfl rfl) ggX11_look_X3_doubt
theorem lk_dX11_look_0 : th_dr cX11_look 0 = 42 :: 180 :: 0 :: 10 :: 27 :: 182 :: 0 :: 137 :: 58 :: 4 :: 25 :: 4 :: 198 :: 0 :: 20 :: 28 :: 3 :: 16 :: 100 :: 184 :: 0 :: 64 :: 153 :: 0 :: 10 :: 29 :: 184 :: 0 :: 225 :: 154 :: 0 :: 9 :: 42 :: th_dr cX11_look 33 := rfl
theorem bl_dX11_look_0 : decode cX11_look 0 = .ok (.aload_n 0, 1) ∧ decode cX11_look 1 = .ok (.getfield 10, 3) ∧ decode cX11_look 4 = .ok (.iload_n 1, 1) ∧ decode cX11_look 5 = .ok (.invokevirtual 137, 3) ∧ decode cX11_look 8 = .ok (.astore 4, 2) ∧ decode cX11_look 10 = .ok (.aload 4, 2) ∧ decode cX11_look 12 = .ok (.ifnull 20, 3) ∧ decode cX11_look 15 = .ok (.iload_n 2, 1) ∧ decode cX11_look 16 = .ok (.iconst 0, 1) ∧ decode cX11_look 17 = .ok (.bipush 100, 2) ∧ decode cX11_look 19 = .ok (.invokestatic 64, 3) ∧ decode cX11_look 22 = .ok (.ifCond .eq 10, 3) ∧ decode cX11_look 25 = .ok (.iload_n 3, 1) ∧ decode cX11_look 26 = .ok (.invokestatic 225, 3) ∧ decode cX11_look 29 = .ok (.ifCond .ne 9, 3) ∧ decode cX11_look 32 = .ok (.aload_n 0, 1) := op_42 lk_dX11_look_0 fun e => op_180 e fun e => op_27 e fun e => op_182 e fun e => op_58 e fun e => op_25 e fun e => op_198p e rfl fun e => op_28 e fun e => op_3 e fun e => op_16p e rfl fun e => op_184 e fun e => op_153p e rfl fun e => op_29 e fun e => op_184 e fun e => op_154p e rfl fun e => (op_42 e fun _ => True.intro).1
theorem dX11_look_0 : decode cX11_look 0 = .ok (.aload_n 0, 1) := bl_dX11_look_0.1
theorem dX11_look_1 : decode cX11_look 1 = .ok (.getfield 10, 3) := bl_dX11_look_0.2.1
theorem dX11_look_4 : decode cX11_look 4 = .ok (.iload_n 1, 1) := bl_dX11_look_0.2.2.1
theorem dX11_look_5 : decode cX11_look 5 = .ok (.invokevirtual 137, 3) := bl_dX11_look_0.2.2.2.1
theorem dX11_look_8 : decode cX11_look 8 = .ok (.astore 4, 2) := bl_dX11_look_0.2.2.2.2.1
theorem dX11_look_10 : decode cX11_look 10 = .ok (.aload 4, 2) := bl_dX11_look_0.2.2.2.2.2.1
theorem dX11_look_12 : decode cX11_look 12 = .ok (.ifnull 20, 3) := bl_dX11_look_0.2.2.2.2.2.2.1
theorem dX11_look_15 : decode cX11_look 15 = .ok (.iload_n 2, 1) := bl_dX11_look_0.2.2.2.2.2.2.2.1
theorem dX11_look_16 : decode cX11_look 16 = .ok (.iconst 0, 1) := bl_dX11_look_0.2.2.2.2.2.2.2.2.1
theorem dX11_look_17 : decode cX11_look 17 = .ok (.bipush 100, 2) := bl_dX11_look_0.2.2.2.2.2.2.2.2.2.1
theorem dX11_look_19 : decode cX11_look 19 = .ok (.invokestatic 64, 3) := bl_dX11_look_0.2.2.2.2.2.2.2.2.2.2.1
theorem dX11_look_22 : decode cX11_look 22 = .ok (.ifCond .eq 10, 3) := bl_dX11_look_0.2.2.2.2.2.2.2.2.2.2.2.1
theorem dX11_look_25 : decode cX11_look 25 = .ok (.iload_n 3, 1) := bl_dX11_look_0.2.2.2.2.2.2.2.2.2.2.2.2.1
theorem dX11_look_26 : decode cX11_look 26 = .ok (.invokestatic 225, 3) := bl_dX11_look_0.2.2.2.2.2.2.2.2.2.2.2.2.2.1
theorem dX11_look_29 : decode cX11_look 29 = .ok (.ifCond .ne 9, 3) := bl_dX11_look_0.2.2.2.2.2.2.2.2.2.2.2.2.2.2.1
theorem dX11_look_32 : decode cX11_look 32 = .ok (.aload_n 0, 1) := bl_dX11_look_0.2.2.2.2.2.2.2.2.2.2.2.2.2.2.2
set_option maxRecDepth 20000 in
theorem lk_dX11_look_33 : th_dr cX11_look 33 = 4 :: 182 :: 0 :: 68 :: 172 :: 29 :: 4 :: 160 :: 0 :: 20 :: 28 :: 25 :: 4 :: 180 :: 0 :: 161 :: 163 :: 0 :: 7 :: 4 :: 167 :: 0 :: 21 :: 3 :: 167 :: 0 :: 17 :: 28 :: 25 :: 4 :: th_dr cX11_look 63 := rfl
theorem bl_dX11_look_33 : decode cX11_look 33 = .ok (.iconst 1, 1) ∧ decode cX11_look 34 = .ok (.invokevirtual 68, 3) ∧ decode cX11_look 37 = .ok (.ireturn, 1) ∧ decode cX11_look 38 = .ok (.iload_n 3, 1) ∧ decode cX11_look 39 = .ok (.iconst 1, 1) ∧ decode cX11_look 40 = .ok (.if_icmp .ne 20, 3) ∧ decode cX11_look 43 = .ok (.iload_n 2, 1) ∧ decode cX11_look 44 = .ok (.aload 4, 2) ∧ decode cX11_look 46 = .ok (.getfield 161, 3) ∧ decode cX11_look 49 = .ok (.if_icmp .gt 7, 3) ∧ decode cX11_look 52 = .ok (.iconst 1, 1) ∧ decode cX11_look 53 = .ok (.goto 21, 3) ∧ decode cX11_look 56 = .ok (.iconst 0, 1) ∧ decode cX11_look 57 = .ok (.goto 17, 3) ∧ decode cX11_look 60 = .ok (.iload_n 2, 1) ∧ decode cX11_look 61 = .ok (.aload 4, 2) := op_4 lk_dX11_look_33 fun e => op_182 e fun e => op_172 e fun e => op_29 e fun e => op_4 e fun e => op_160p e rfl fun e => op_28 e fun e => op_25 e fun e => op_180 e fun e => op_163p e rfl fun e => op_4 e fun e => op_167p e rfl fun e => op_3 e fun e => op_167p e rfl fun e => op_28 e fun e => (op_25 e fun _ => True.intro).1
theorem dX11_look_33 : decode cX11_look 33 = .ok (.iconst 1, 1) := bl_dX11_look_33.1
theorem dX11_look_34 : decode cX11_look 34 = .ok (.invokevirtual 68, 3) := bl_dX11_look_33.2.1
theorem dX11_look_37 : decode cX11_look 37 = .ok (.ireturn, 1) := bl_dX11_look_33.2.2.1
theorem dX11_look_38 : decode cX11_look 38 = .ok (.iload_n 3, 1) := bl_dX11_look_33.2.2.2.1
theorem dX11_look_39 : decode cX11_look 39 = .ok (.iconst 1, 1) := bl_dX11_look_33.2.2.2.2.1
theorem dX11_look_40 : decode cX11_look 40 = .ok (.if_icmp .ne 20, 3) := bl_dX11_look_33.2.2.2.2.2.1
theorem dX11_look_43 : decode cX11_look 43 = .ok (.iload_n 2, 1) := bl_dX11_look_33.2.2.2.2.2.2.1
theorem dX11_look_44 : decode cX11_look 44 = .ok (.aload 4, 2) := bl_dX11_look_33.2.2.2.2.2.2.2.1
theorem dX11_look_46 : decode cX11_look 46 = .ok (.getfield 161, 3) := bl_dX11_look_33.2.2.2.2.2.2.2.2.1
theorem dX11_look_49 : decode cX11_look 49 = .ok (.if_icmp .gt 7, 3) := bl_dX11_look_33.2.2.2.2.2.2.2.2.2.1
theorem dX11_look_52 : decode cX11_look 52 = .ok (.iconst 1, 1) := bl_dX11_look_33.2.2.2.2.2.2.2.2.2.2.1
theorem dX11_look_53 : decode cX11_look 53 = .ok (.goto 21, 3) := bl_dX11_look_33.2.2.2.2.2.2.2.2.2.2.2.1
theorem dX11_look_56 : decode cX11_look 56 = .ok (.iconst 0, 1) := bl_dX11_look_33.2.2.2.2.2.2.2.2.2.2.2.2.1
theorem dX11_look_57 : decode cX11_look 57 = .ok (.goto 17, 3) := bl_dX11_look_33.2.2.2.2.2.2.2.2.2.2.2.2.2.1
theorem dX11_look_60 : decode cX11_look 60 = .ok (.iload_n 2, 1) := bl_dX11_look_33.2.2.2.2.2.2.2.2.2.2.2.2.2.2.1
theorem dX11_look_61 : decode cX11_look 61 = .ok (.aload 4, 2) := bl_dX11_look_33.2.2.2.2.2.2.2.2.2.2.2.2.2.2.2
set_option maxRecDepth 20000 in
theorem lk_dX11_look_63 : th_dr cX11_look 63 = 180 :: 0 :: 158 :: 164 :: 0 :: 7 :: 4 :: 167 :: 0 :: 4 :: 3 :: 54 :: 5 :: 21 :: 5 :: 154 :: 0 :: 9 :: 42 :: 5 :: 182 :: 0 :: 68 :: 172 :: 29 :: 4 :: 160 :: 0 :: 20 :: 25 :: 4 :: th_dr cX11_look 94 := rfl
theorem bl_dX11_look_63 : decode cX11_look 63 = .ok (.getfield 158, 3) ∧ decode cX11_look 66 = .ok (.if_icmp .le 7, 3) ∧ decode cX11_look 69 = .ok (.iconst 1, 1) ∧ decode cX11_look 70 = .ok (.goto 4, 3) ∧ decode cX11_look 73 = .ok (.iconst 0, 1) ∧ decode cX11_look 74 = .ok (.istore 5, 2) ∧ decode cX11_look 76 = .ok (.iload 5, 2) ∧ decode cX11_look 78 = .ok (.ifCond .ne 9, 3) ∧ decode cX11_look 81 = .ok (.aload_n 0, 1) ∧ decode cX11_look 82 = .ok (.iconst 2, 1) ∧ decode cX11_look 83 = .ok (.invokevirtual 68, 3) ∧ decode cX11_look 86 = .ok (.ireturn, 1) ∧ decode cX11_look 87 = .ok (.iload_n 3, 1) ∧ decode cX11_look 88 = .ok (.iconst 1, 1) ∧ decode cX11_look 89 = .ok (.if_icmp .ne 20, 3) ∧ decode cX11_look 92 = .ok (.aload 4, 2) := op_180 lk_dX11_look_63 fun e => op_164p e rfl fun e => op_4 e fun e => op_167p e rfl fun e => op_3 e fun e => op_54 e fun e => op_21 e fun e => op_154p e rfl fun e => op_42 e fun e => op_5 e fun e => op_182 e fun e => op_172 e fun e => op_29 e fun e => op_4 e fun e => op_160p e rfl fun e => (op_25 e fun _ => True.intro).1
theorem dX11_look_63 : decode cX11_look 63 = .ok (.getfield 158, 3) := bl_dX11_look_63.1
theorem dX11_look_66 : decode cX11_look 66 = .ok (.if_icmp .le 7, 3) := bl_dX11_look_63.2.1
theorem dX11_look_69 : decode cX11_look 69 = .ok (.iconst 1, 1) := bl_dX11_look_63.2.2.1
theorem dX11_look_70 : decode cX11_look 70 = .ok (.goto 4, 3) := bl_dX11_look_63.2.2.2.1
theorem dX11_look_73 : decode cX11_look 73 = .ok (.iconst 0, 1) := bl_dX11_look_63.2.2.2.2.1
theorem dX11_look_74 : decode cX11_look 74 = .ok (.istore 5, 2) := bl_dX11_look_63.2.2.2.2.2.1
theorem dX11_look_76 : decode cX11_look 76 = .ok (.iload 5, 2) := bl_dX11_look_63.2.2.2.2.2.2.1
theorem dX11_look_78 : decode cX11_look 78 = .ok (.ifCond .ne 9, 3) := bl_dX11_look_63.2.2.2.2.2.2.2.1
theorem dX11_look_81 : decode cX11_look 81 = .ok (.aload_n 0, 1) := bl_dX11_look_63.2.2.2.2.2.2.2.2.1
theorem dX11_look_82 : decode cX11_look 82 = .ok (.iconst 2, 1) := bl_dX11_look_63.2.2.2.2.2.2.2.2.2.1
theorem dX11_look_83 : decode cX11_look 83 = .ok (.invokevirtual 68, 3) := bl_dX11_look_63.2.2.2.2.2.2.2.2.2.2.1
theorem dX11_look_86 : decode cX11_look 86 = .ok (.ireturn, 1) := bl_dX11_look_63.2.2.2.2.2.2.2.2.2.2.2.1
theorem dX11_look_87 : decode cX11_look 87 = .ok (.iload_n 3, 1) := bl_dX11_look_63.2.2.2.2.2.2.2.2.2.2.2.2.1
theorem dX11_look_88 : decode cX11_look 88 = .ok (.iconst 1, 1) := bl_dX11_look_63.2.2.2.2.2.2.2.2.2.2.2.2.2.1
theorem dX11_look_89 : decode cX11_look 89 = .ok (.if_icmp .ne 20, 3) := bl_dX11_look_63.2.2.2.2.2.2.2.2.2.2.2.2.2.2.1
theorem dX11_look_92 : decode cX11_look 92 = .ok (.aload 4, 2) := bl_dX11_look_63.2.2.2.2.2.2.2.2.2.2.2.2.2.2.2
set_option maxRecDepth 20000 in
theorem lk_dX11_look_94 : th_dr cX11_look 94 = 25 :: 4 :: 180 :: 0 :: 158 :: 28 :: 184 :: 0 :: 250 :: 181 :: 0 :: 158 :: 167 :: 0 :: 19 :: 25 :: 4 :: 25 :: 4 :: 180 :: 0 :: 161 :: 28 :: 4 :: 100 :: 184 :: 1 :: 0 :: 181 :: 0 :: 161 :: 25 :: 4 :: 182 :: 1 :: 3 :: th_dr cX11_look 130 := rfl
theorem bl_dX11_look_94 : decode cX11_look 94 = .ok (.aload 4, 2) ∧ decode cX11_look 96 = .ok (.getfield 158, 3) ∧ decode cX11_look 99 = .ok (.iload_n 2, 1) ∧ decode cX11_look 100 = .ok (.invokestatic 250, 3) ∧ decode cX11_look 103 = .ok (.putfield 158, 3) ∧ decode cX11_look 106 = .ok (.goto 19, 3) ∧ decode cX11_look 109 = .ok (.aload 4, 2) ∧ decode cX11_look 111 = .ok (.aload 4, 2) ∧ decode cX11_look 113 = .ok (.getfield 161, 3) ∧ decode cX11_look 116 = .ok (.iload_n 2, 1) ∧ decode cX11_look 117 = .ok (.iconst 1, 1) ∧ decode cX11_look 118 = .ok (.isub, 1) ∧ decode cX11_look 119 = .ok (.invokestatic 256, 3) ∧ decode cX11_look 122 = .ok (.putfield 161, 3) ∧ decode cX11_look 125 = .ok (.aload 4, 2) ∧ decode cX11_look 127 = .ok (.invokevirtual 259, 3) := op_25 lk_dX11_look_94 fun e => op_180 e fun e => op_28 e fun e => op_184 e fun e => op_181 e fun e => op_167p e rfl fun e => op_25 e fun e => op_25 e fun e => op_180 e fun e => op_28 e fun e => op_4 e fun e => op_100 e fun e => op_184 e fun e => op_181 e fun e => op_25 e fun e => (op_182 e fun _ => True.intro).1
theorem dX11_look_94 : decode cX11_look 94 = .ok (.aload 4, 2) := bl_dX11_look_94.1
theorem dX11_look_96 : decode cX11_look 96 = .ok (.getfield 158, 3) := bl_dX11_look_94.2.1
theorem dX11_look_99 : decode cX11_look 99 = .ok (.iload_n 2, 1) := bl_dX11_look_94.2.2.1
theorem dX11_look_100 : decode cX11_look 100 = .ok (.invokestatic 250, 3) := bl_dX11_look_94.2.2.2.1
theorem dX11_look_103 : decode cX11_look 103 = .ok (.putfield 158, 3) := bl_dX11_look_94.2.2.2.2.1
theorem dX11_look_106 : decode cX11_look 106 = .ok (.goto 19, 3) := bl_dX11_look_94.2.2.2.2.2.1
theorem dX11_look_109 : decode cX11_look 109 = .ok (.aload 4, 2) := bl_dX11_look_94.2.2.2.2.2.2.1
theorem dX11_look_111 : decode cX11_look 111 = .ok (.aload 4, 2) := bl_dX11_look_94.2.2.2.2.2.2.2.1
theorem dX11_look_113 : decode cX11_look 113 = .ok (.getfield 161, 3) := bl_dX11_look_94.2.2.2.2.2.2.2.2.1
theorem dX11_look_116 : decode cX11_look 116 = .ok (.iload_n 2, 1) := bl_dX11_look_94.2.2.2.2.2.2.2.2.2.1
theorem dX11_look_117 : decode cX11_look 117 = .ok (.iconst 1, 1) := bl_dX11_look_94.2.2.2.2.2.2.2.2.2.2.1
theorem dX11_look_118 : decode cX11_look 118 = .ok (.isub, 1) := bl_dX11_look_94.2.2.2.2.2.2.2.2.2.2.2.1
theorem dX11_look_119 : decode cX11_look 119 = .ok (.invokestatic 256, 3) := bl_dX11_look_94.2.2.2.2.2.2.2.2.2.2.2.2.1
theorem dX11_look_122 : decode cX11_look 122 = .ok (.putfield 161, 3) := bl_dX11_look_94.2.2.2.2.2.2.2.2.2.2.2.2.2.1
theorem dX11_look_125 : decode cX11_look 125 = .ok (.aload 4, 2) := bl_dX11_look_94.2.2.2.2.2.2.2.2.2.2.2.2.2.2.1
theorem dX11_look_127 : decode cX11_look 127 = .ok (.invokevirtual 259, 3) := bl_dX11_look_94.2.2.2.2.2.2.2.2.2.2.2.2.2.2.2
set_option maxRecDepth 20000 in
theorem lk_dX11_look_130 : th_dr cX11_look 130 = 172 :: th_dr cX11_look 131 := rfl
theorem dX11_look_130 : decode cX11_look 130 = .ok (.ireturn, 1) := (op_172 lk_dX11_look_130 fun _ => True.intro).1
set_option maxRecDepth 20000 in
theorem gdwsX0_leastKnown : wsX0_leastKnown.all goodWord = true := by decide +kernel
set_option maxRecDepth 20000 in
theorem ggX11_next_X0_leastKnown : GoodIn wsX11_next wsX0_leastKnown := goodIn_q _ [(6, 6), (5, 1), (12, 16), (45, 17)] rfl gdwsX0_leastKnown
set_option maxRecDepth 20000 in
theorem gX11_next_X0_leastKnown : GoodIn wsX11_next (wsV RX11 262 RX0 yX0_leastKnown wsX0_leastKnown) := goodIn_app (goodIn_q _ [(2, 4)] rfl rfl) ggX11_next_X0_leastKnown
set_option maxRecDepth 20000 in
theorem ggX11_next_X11_finding : GoodIn wsX11_next wsX11_finding := goodIn_q _ [(31, 4), (14, 3), (35, 10)] rfl gdwsX11_finding
set_option maxRecDepth 20000 in
theorem gX11_next_X11_finding : GoodIn wsX11_next (wsV RX11 68 RX11 yX11_finding wsX11_finding) := goodIn_app (goodIn_q _ [(28, 3), (15, 1)] rfl rfl) ggX11_next_X11_finding
theorem lk_dX11_next_0 : th_dr cX11_next 0 = 42 :: 180 :: 0 :: 10 :: 182 :: 1 :: 6 :: 60 :: 27 :: 2 :: 160 :: 0 :: 11 :: 42 :: 5 :: 182 :: 0 :: 68 :: 167 :: 0 :: 4 :: 27 :: 172 :: th_dr cX11_next 23 := rfl
theorem bl_dX11_next_0 : decode cX11_next 0 = .ok (.aload_n 0, 1) ∧ decode cX11_next 1 = .ok (.getfield 10, 3) ∧ decode cX11_next 4 = .ok (.invokevirtual 262, 3) ∧ decode cX11_next 7 = .ok (.istore_n 1, 1) ∧ decode cX11_next 8 = .ok (.iload_n 1, 1) ∧ decode cX11_next 9 = .ok (.iconst (-1), 1) ∧ decode cX11_next 10 = .ok (.if_icmp .ne 11, 3) ∧ decode cX11_next 13 = .ok (.aload_n 0, 1) ∧ decode cX11_next 14 = .ok (.iconst 2, 1) ∧ decode cX11_next 15 = .ok (.invokevirtual 68, 3) ∧ decode cX11_next 18 = .ok (.goto 4, 3) ∧ decode cX11_next 21 = .ok (.iload_n 1, 1) ∧ decode cX11_next 22 = .ok (.ireturn, 1) := op_42 lk_dX11_next_0 fun e => op_180 e fun e => op_182 e fun e => op_60 e fun e => op_27 e fun e => op_2 e fun e => op_160p e rfl fun e => op_42 e fun e => op_5 e fun e => op_182 e fun e => op_167p e rfl fun e => op_27 e fun e => (op_172 e fun _ => True.intro).1
theorem dX11_next_0 : decode cX11_next 0 = .ok (.aload_n 0, 1) := bl_dX11_next_0.1
theorem dX11_next_1 : decode cX11_next 1 = .ok (.getfield 10, 3) := bl_dX11_next_0.2.1
theorem dX11_next_4 : decode cX11_next 4 = .ok (.invokevirtual 262, 3) := bl_dX11_next_0.2.2.1
theorem dX11_next_7 : decode cX11_next 7 = .ok (.istore_n 1, 1) := bl_dX11_next_0.2.2.2.1
theorem dX11_next_8 : decode cX11_next 8 = .ok (.iload_n 1, 1) := bl_dX11_next_0.2.2.2.2.1
theorem dX11_next_9 : decode cX11_next 9 = .ok (.iconst (-1), 1) := bl_dX11_next_0.2.2.2.2.2.1
theorem dX11_next_10 : decode cX11_next 10 = .ok (.if_icmp .ne 11, 3) := bl_dX11_next_0.2.2.2.2.2.2.1
theorem dX11_next_13 : decode cX11_next 13 = .ok (.aload_n 0, 1) := bl_dX11_next_0.2.2.2.2.2.2.2.1
theorem dX11_next_14 : decode cX11_next 14 = .ok (.iconst 2, 1) := bl_dX11_next_0.2.2.2.2.2.2.2.2.1
theorem dX11_next_15 : decode cX11_next 15 = .ok (.invokevirtual 68, 3) := bl_dX11_next_0.2.2.2.2.2.2.2.2.2.1
theorem dX11_next_18 : decode cX11_next 18 = .ok (.goto 4, 3) := bl_dX11_next_0.2.2.2.2.2.2.2.2.2.2.1
theorem dX11_next_21 : decode cX11_next 21 = .ok (.iload_n 1, 1) := bl_dX11_next_0.2.2.2.2.2.2.2.2.2.2.2.1
theorem dX11_next_22 : decode cX11_next 22 = .ok (.ireturn, 1) := bl_dX11_next_0.2.2.2.2.2.2.2.2.2.2.2.2
set_option maxRecDepth 20000 in
theorem ggX11_renew_X0_buoyAt : GoodIn wsX11_renew wsX0_buoyAt := goodIn_q _ [(8, 6), (39, 9)] rfl gdwsX0_buoyAt
set_option maxRecDepth 20000 in
theorem gX11_renew_X0_buoyAt : GoodIn wsX11_renew (wsV RX11 137 RX0 yX0_buoyAt wsX0_buoyAt) := goodIn_app (goodIn_q _ [(4, 4)] rfl rfl) ggX11_renew_X0_buoyAt
set_option maxRecDepth 20000 in
theorem ggX11_renew_X11_finding : GoodIn wsX11_renew wsX11_finding := goodIn_q _ [(17, 4), (11, 3), (21, 10)] rfl gdwsX11_finding
set_option maxRecDepth 20000 in
theorem gX11_renew_X11_finding : GoodIn wsX11_renew (wsV RX11 68 RX11 yX11_finding wsX11_finding) := goodIn_app (goodIn_q _ [(14, 3), (12, 1)] rfl rfl) ggX11_renew_X11_finding
theorem lk_dX11_renew_0 : th_dr cX11_renew 0 = 42 :: 180 :: 0 :: 10 :: 27 :: 182 :: 0 :: 137 :: 77 :: 44 :: 199 :: 0 :: 9 :: 42 :: 4 :: 182 :: 0 :: 68 :: 172 :: 44 :: 180 :: 0 :: 161 :: 62 :: 44 :: 3 :: th_dr cX11_renew 26 := rfl
theorem bl_dX11_renew_0 : decode cX11_renew 0 = .ok (.aload_n 0, 1) ∧ decode cX11_renew 1 = .ok (.getfield 10, 3) ∧ decode cX11_renew 4 = .ok (.iload_n 1, 1) ∧ decode cX11_renew 5 = .ok (.invokevirtual 137, 3) ∧ decode cX11_renew 8 = .ok (.astore_n 2, 1) ∧ decode cX11_renew 9 = .ok (.aload_n 2, 1) ∧ decode cX11_renew 10 = .ok (.ifnonnull 9, 3) ∧ decode cX11_renew 13 = .ok (.aload_n 0, 1) ∧ decode cX11_renew 14 = .ok (.iconst 1, 1) ∧ decode cX11_renew 15 = .ok (.invokevirtual 68, 3) ∧ decode cX11_renew 18 = .ok (.ireturn, 1) ∧ decode cX11_renew 19 = .ok (.aload_n 2, 1) ∧ decode cX11_renew 20 = .ok (.getfield 161, 3) ∧ decode cX11_renew 23 = .ok (.istore_n 3, 1) ∧ decode cX11_renew 24 = .ok (.aload_n 2, 1) ∧ decode cX11_renew 25 = .ok (.iconst 0, 1) := op_42 lk_dX11_renew_0 fun e => op_180 e fun e => op_27 e fun e => op_182 e fun e => op_77 e fun e => op_44 e fun e => op_199p e rfl fun e => op_42 e fun e => op_4 e fun e => op_182 e fun e => op_172 e fun e => op_44 e fun e => op_180 e fun e => op_62 e fun e => op_44 e fun e => (op_3 e fun _ => True.intro).1
theorem dX11_renew_0 : decode cX11_renew 0 = .ok (.aload_n 0, 1) := bl_dX11_renew_0.1
theorem dX11_renew_1 : decode cX11_renew 1 = .ok (.getfield 10, 3) := bl_dX11_renew_0.2.1
theorem dX11_renew_4 : decode cX11_renew 4 = .ok (.iload_n 1, 1) := bl_dX11_renew_0.2.2.1
theorem dX11_renew_5 : decode cX11_renew 5 = .ok (.invokevirtual 137, 3) := bl_dX11_renew_0.2.2.2.1
theorem dX11_renew_8 : decode cX11_renew 8 = .ok (.astore_n 2, 1) := bl_dX11_renew_0.2.2.2.2.1
theorem dX11_renew_9 : decode cX11_renew 9 = .ok (.aload_n 2, 1) := bl_dX11_renew_0.2.2.2.2.2.1
theorem dX11_renew_10 : decode cX11_renew 10 = .ok (.ifnonnull 9, 3) := bl_dX11_renew_0.2.2.2.2.2.2.1
theorem dX11_renew_13 : decode cX11_renew 13 = .ok (.aload_n 0, 1) := bl_dX11_renew_0.2.2.2.2.2.2.2.1
theorem dX11_renew_14 : decode cX11_renew 14 = .ok (.iconst 1, 1) := bl_dX11_renew_0.2.2.2.2.2.2.2.2.1
theorem dX11_renew_15 : decode cX11_renew 15 = .ok (.invokevirtual 68, 3) := bl_dX11_renew_0.2.2.2.2.2.2.2.2.2.1
theorem dX11_renew_18 : decode cX11_renew 18 = .ok (.ireturn, 1) := bl_dX11_renew_0.2.2.2.2.2.2.2.2.2.2.1
theorem dX11_renew_19 : decode cX11_renew 19 = .ok (.aload_n 2, 1) := bl_dX11_renew_0.2.2.2.2.2.2.2.2.2.2.2.1
theorem dX11_renew_20 : decode cX11_renew 20 = .ok (.getfield 161, 3) := bl_dX11_renew_0.2.2.2.2.2.2.2.2.2.2.2.2.1
theorem dX11_renew_23 : decode cX11_renew 23 = .ok (.istore_n 3, 1) := bl_dX11_renew_0.2.2.2.2.2.2.2.2.2.2.2.2.2.1
theorem dX11_renew_24 : decode cX11_renew 24 = .ok (.aload_n 2, 1) := bl_dX11_renew_0.2.2.2.2.2.2.2.2.2.2.2.2.2.2.1
theorem dX11_renew_25 : decode cX11_renew 25 = .ok (.iconst 0, 1) := bl_dX11_renew_0.2.2.2.2.2.2.2.2.2.2.2.2.2.2.2
theorem lk_dX11_renew_26 : th_dr cX11_renew 26 = 181 :: 0 :: 158 :: 44 :: 3 :: 181 :: 0 :: 161 :: 29 :: 172 :: th_dr cX11_renew 36 := rfl
theorem bl_dX11_renew_26 : decode cX11_renew 26 = .ok (.putfield 158, 3) ∧ decode cX11_renew 29 = .ok (.aload_n 2, 1) ∧ decode cX11_renew 30 = .ok (.iconst 0, 1) ∧ decode cX11_renew 31 = .ok (.putfield 161, 3) ∧ decode cX11_renew 34 = .ok (.iload_n 3, 1) ∧ decode cX11_renew 35 = .ok (.ireturn, 1) := op_181 lk_dX11_renew_26 fun e => op_44 e fun e => op_3 e fun e => op_181 e fun e => op_29 e fun e => (op_172 e fun _ => True.intro).1
theorem dX11_renew_26 : decode cX11_renew 26 = .ok (.putfield 158, 3) := bl_dX11_renew_26.1
theorem dX11_renew_29 : decode cX11_renew 29 = .ok (.aload_n 2, 1) := bl_dX11_renew_26.2.1
theorem dX11_renew_30 : decode cX11_renew 30 = .ok (.iconst 0, 1) := bl_dX11_renew_26.2.2.1
theorem dX11_renew_31 : decode cX11_renew 31 = .ok (.putfield 161, 3) := bl_dX11_renew_26.2.2.2.1
theorem dX11_renew_34 : decode cX11_renew 34 = .ok (.iload_n 3, 1) := bl_dX11_renew_26.2.2.2.2.1
theorem dX11_renew_35 : decode cX11_renew 35 = .ok (.ireturn, 1) := bl_dX11_renew_26.2.2.2.2.2
set_option maxRecDepth 20000 in
theorem gdwsX11_isForce : wsX11_isForce.all goodWord = true := by decide +kernel
set_option maxRecDepth 20000 in
theorem ggX11_storm_X11_isForce : GoodIn wsX11_storm wsX11_isForce := goodIn_q _ [(6, 3), (5, 1), (9, 1)] rfl gdwsX11_isForce
set_option maxRecDepth 20000 in
theorem gX11_storm_X11_isForce : GoodIn wsX11_storm (va_wsS RX11 265 yX11_isForce wsX11_isForce) := goodIn_app (goodIn_q _ [(3, 3)] rfl rfl) ggX11_storm_X11_isForce
set_option maxRecDepth 20000 in
theorem ggX11_storm_X11_finding : GoodIn wsX11_storm wsX11_finding := goodIn_q _ [(13, 3), (7, 2), (5, 1), (9, 1), (159, 10)] rfl gdwsX11_finding
set_option maxRecDepth 20000 in
theorem gX11_storm_X11_finding : GoodIn wsX11_storm (wsV RX11 68 RX11 yX11_finding wsX11_finding) := goodIn_app (goodIn_q _ [(10, 3), (5, 1)] rfl rfl) ggX11_storm_X11_finding
set_option maxRecDepth 20000 in
theorem gdwsX5_blow : wsX5_blow.all goodWord = true := by decide +kernel
set_option maxRecDepth 20000 in
theorem ggX11_storm_X5_blow : GoodIn wsX11_storm wsX5_blow := goodIn_q _ [(20, 24), (8, 1), (5, 1), (9, 1), (44, 20), (19, 1), (64, 95), (169, 40)] rfl gdwsX5_blow
set_option maxRecDepth 20000 in
theorem gX11_storm_X5_blow : GoodIn wsX11_storm (wsV RX11 268 RX5 yX5_blow wsX5_blow) := goodIn_app (goodIn_q _ [(16, 4)] rfl rfl) ggX11_storm_X5_blow
theorem lk_dX11_storm_0 : th_dr cX11_storm 0 = 27 :: 184 :: 1 :: 9 :: 154 :: 0 :: 9 :: 42 :: 4 :: 182 :: 0 :: 68 :: 172 :: 42 :: 180 :: 0 :: 42 :: 27 :: 182 :: 1 :: 12 :: 42 :: 180 :: 0 :: 42 :: 180 :: 1 :: 15 :: 172 :: th_dr cX11_storm 29 := rfl
theorem bl_dX11_storm_0 : decode cX11_storm 0 = .ok (.iload_n 1, 1) ∧ decode cX11_storm 1 = .ok (.invokestatic 265, 3) ∧ decode cX11_storm 4 = .ok (.ifCond .ne 9, 3) ∧ decode cX11_storm 7 = .ok (.aload_n 0, 1) ∧ decode cX11_storm 8 = .ok (.iconst 1, 1) ∧ decode cX11_storm 9 = .ok (.invokevirtual 68, 3) ∧ decode cX11_storm 12 = .ok (.ireturn, 1) ∧ decode cX11_storm 13 = .ok (.aload_n 0, 1) ∧ decode cX11_storm 14 = .ok (.getfield 42, 3) ∧ decode cX11_storm 17 = .ok (.iload_n 1, 1) ∧ decode cX11_storm 18 = .ok (.invokevirtual 268, 3) ∧ decode cX11_storm 21 = .ok (.aload_n 0, 1) ∧ decode cX11_storm 22 = .ok (.getfield 42, 3) ∧ decode cX11_storm 25 = .ok (.getfield 271, 3) ∧ decode cX11_storm 28 = .ok (.ireturn, 1) := op_27 lk_dX11_storm_0 fun e => op_184 e fun e => op_154p e rfl fun e => op_42 e fun e => op_4 e fun e => op_182 e fun e => op_172 e fun e => op_42 e fun e => op_180 e fun e => op_27 e fun e => op_182 e fun e => op_42 e fun e => op_180 e fun e => op_180 e fun e => (op_172 e fun _ => True.intro).1
theorem dX11_storm_0 : decode cX11_storm 0 = .ok (.iload_n 1, 1) := bl_dX11_storm_0.1
theorem dX11_storm_1 : decode cX11_storm 1 = .ok (.invokestatic 265, 3) := bl_dX11_storm_0.2.1
theorem dX11_storm_4 : decode cX11_storm 4 = .ok (.ifCond .ne 9, 3) := bl_dX11_storm_0.2.2.1
theorem dX11_storm_7 : decode cX11_storm 7 = .ok (.aload_n 0, 1) := bl_dX11_storm_0.2.2.2.1
theorem dX11_storm_8 : decode cX11_storm 8 = .ok (.iconst 1, 1) := bl_dX11_storm_0.2.2.2.2.1
theorem dX11_storm_9 : decode cX11_storm 9 = .ok (.invokevirtual 68, 3) := bl_dX11_storm_0.2.2.2.2.2.1
theorem dX11_storm_12 : decode cX11_storm 12 = .ok (.ireturn, 1) := bl_dX11_storm_0.2.2.2.2.2.2.1
theorem dX11_storm_13 : decode cX11_storm 13 = .ok (.aload_n 0, 1) := bl_dX11_storm_0.2.2.2.2.2.2.2.1
theorem dX11_storm_14 : decode cX11_storm 14 = .ok (.getfield 42, 3) := bl_dX11_storm_0.2.2.2.2.2.2.2.2.1
theorem dX11_storm_17 : decode cX11_storm 17 = .ok (.iload_n 1, 1) := bl_dX11_storm_0.2.2.2.2.2.2.2.2.2.1
theorem dX11_storm_18 : decode cX11_storm 18 = .ok (.invokevirtual 268, 3) := bl_dX11_storm_0.2.2.2.2.2.2.2.2.2.2.1
theorem dX11_storm_21 : decode cX11_storm 21 = .ok (.aload_n 0, 1) := bl_dX11_storm_0.2.2.2.2.2.2.2.2.2.2.2.1
theorem dX11_storm_22 : decode cX11_storm 22 = .ok (.getfield 42, 3) := bl_dX11_storm_0.2.2.2.2.2.2.2.2.2.2.2.2.1
theorem dX11_storm_25 : decode cX11_storm 25 = .ok (.getfield 271, 3) := bl_dX11_storm_0.2.2.2.2.2.2.2.2.2.2.2.2.2.1
theorem dX11_storm_28 : decode cX11_storm 28 = .ok (.ireturn, 1) := bl_dX11_storm_0.2.2.2.2.2.2.2.2.2.2.2.2.2.2
set_option maxRecDepth 20000 in
theorem ggX11_fled_X0_boatAt : GoodIn wsX11_fled wsX0_boatAt := goodIn_q _ [(9, 6), (173, 9)] rfl gdwsX0_boatAt
set_option maxRecDepth 20000 in
theorem gX11_fled_X0_boatAt : GoodIn wsX11_fled (wsV RX11 90 RX0 yX0_boatAt wsX0_boatAt) := goodIn_app (goodIn_q _ [(5, 4)] rfl rfl) ggX11_fled_X0_boatAt
set_option maxRecDepth 20000 in
theorem ggX11_fled_X11_isForce : GoodIn wsX11_fled wsX11_isForce := goodIn_q _ [(17, 2), (12, 3)] rfl gdwsX11_isForce
set_option maxRecDepth 20000 in
theorem gX11_fled_X11_isForce : GoodIn wsX11_fled (va_wsS RX11 265 yX11_isForce wsX11_isForce) := goodIn_app (goodIn_q _ [(15, 2), (13, 1)] rfl rfl) ggX11_fled_X11_isForce
set_option maxRecDepth 20000 in
theorem ggX11_fled_X11_finding : GoodIn wsX11_fled wsX11_finding := goodIn_q _ [(22, 3), (18, 1), (12, 3), (163, 10)] rfl gdwsX11_finding
set_option maxRecDepth 20000 in
theorem gX11_fled_X11_finding : GoodIn wsX11_fled (wsV RX11 68 RX11 yX11_finding wsX11_finding) := goodIn_app (goodIn_q _ [(19, 3), (13, 1)] rfl rfl) ggX11_fled_X11_finding
set_option maxRecDepth 20000 in
theorem ggX11_fled_X1_buoyOf : GoodIn wsX11_fled wsX1_buoyOf := goodIn_q _ [(29, 2), (12, 3), (185, 2)] rfl gdwsX1_buoyOf
set_option maxRecDepth 20000 in
theorem gX11_fled_X1_buoyOf : GoodIn wsX11_fled (wsV RX11 129 RX1 yX1_buoyOf wsX1_buoyOf) := goodIn_app (goodIn_q _ [(25, 4)] rfl rfl) ggX11_fled_X1_buoyOf
set_option maxRecDepth 20000 in
theorem ggX11_fled_X5_blow : GoodIn wsX11_fled wsX5_blow := goodIn_q _ [(35, 9), (28, 1), (44, 1), (30, 1), (45, 6), (6, 9), (51, 1), (26, 2), (29, 1), (52, 16), (34, 1), (68, 95), (182, 3), (173, 9), (185, 28)] rfl gdwsX5_blow
set_option maxRecDepth 20000 in
theorem gX11_fled_X5_blow : GoodIn wsX11_fled (wsV RX11 268 RX5 yX5_blow wsX5_blow) := goodIn_app (goodIn_q _ [(31, 4)] rfl rfl) ggX11_fled_X5_blow
theorem lk_dX11_fled_0 : th_dr cX11_fled 0 = 42 :: 180 :: 0 :: 10 :: 27 :: 182 :: 0 :: 90 :: 198 :: 0 :: 10 :: 28 :: 184 :: 1 :: 9 :: 154 :: 0 :: 9 :: 42 :: 4 :: 182 :: 0 :: 68 :: 172 :: 42 :: 180 :: 0 :: 10 :: 180 :: 0 :: 125 :: 27 :: th_dr cX11_fled 32 := rfl
theorem bl_dX11_fled_0 : decode cX11_fled 0 = .ok (.aload_n 0, 1) ∧ decode cX11_fled 1 = .ok (.getfield 10, 3) ∧ decode cX11_fled 4 = .ok (.iload_n 1, 1) ∧ decode cX11_fled 5 = .ok (.invokevirtual 90, 3) ∧ decode cX11_fled 8 = .ok (.ifnull 10, 3) ∧ decode cX11_fled 11 = .ok (.iload_n 2, 1) ∧ decode cX11_fled 12 = .ok (.invokestatic 265, 3) ∧ decode cX11_fled 15 = .ok (.ifCond .ne 9, 3) ∧ decode cX11_fled 18 = .ok (.aload_n 0, 1) ∧ decode cX11_fled 19 = .ok (.iconst 1, 1) ∧ decode cX11_fled 20 = .ok (.invokevirtual 68, 3) ∧ decode cX11_fled 23 = .ok (.ireturn, 1) ∧ decode cX11_fled 24 = .ok (.aload_n 0, 1) ∧ decode cX11_fled 25 = .ok (.getfield 10, 3) ∧ decode cX11_fled 28 = .ok (.getfield 125, 3) ∧ decode cX11_fled 31 = .ok (.iload_n 1, 1) := op_42 lk_dX11_fled_0 fun e => op_180 e fun e => op_27 e fun e => op_182 e fun e => op_198p e rfl fun e => op_28 e fun e => op_184 e fun e => op_154p e rfl fun e => op_42 e fun e => op_4 e fun e => op_182 e fun e => op_172 e fun e => op_42 e fun e => op_180 e fun e => op_180 e fun e => (op_27 e fun _ => True.intro).1
theorem dX11_fled_0 : decode cX11_fled 0 = .ok (.aload_n 0, 1) := bl_dX11_fled_0.1
theorem dX11_fled_1 : decode cX11_fled 1 = .ok (.getfield 10, 3) := bl_dX11_fled_0.2.1
theorem dX11_fled_4 : decode cX11_fled 4 = .ok (.iload_n 1, 1) := bl_dX11_fled_0.2.2.1
theorem dX11_fled_5 : decode cX11_fled 5 = .ok (.invokevirtual 90, 3) := bl_dX11_fled_0.2.2.2.1
theorem dX11_fled_8 : decode cX11_fled 8 = .ok (.ifnull 10, 3) := bl_dX11_fled_0.2.2.2.2.1
theorem dX11_fled_11 : decode cX11_fled 11 = .ok (.iload_n 2, 1) := bl_dX11_fled_0.2.2.2.2.2.1
theorem dX11_fled_12 : decode cX11_fled 12 = .ok (.invokestatic 265, 3) := bl_dX11_fled_0.2.2.2.2.2.2.1
theorem dX11_fled_15 : decode cX11_fled 15 = .ok (.ifCond .ne 9, 3) := bl_dX11_fled_0.2.2.2.2.2.2.2.1
theorem dX11_fled_18 : decode cX11_fled 18 = .ok (.aload_n 0, 1) := bl_dX11_fled_0.2.2.2.2.2.2.2.2.1
theorem dX11_fled_19 : decode cX11_fled 19 = .ok (.iconst 1, 1) := bl_dX11_fled_0.2.2.2.2.2.2.2.2.2.1
theorem dX11_fled_20 : decode cX11_fled 20 = .ok (.invokevirtual 68, 3) := bl_dX11_fled_0.2.2.2.2.2.2.2.2.2.2.1
theorem dX11_fled_23 : decode cX11_fled 23 = .ok (.ireturn, 1) := bl_dX11_fled_0.2.2.2.2.2.2.2.2.2.2.2.1
theorem dX11_fled_24 : decode cX11_fled 24 = .ok (.aload_n 0, 1) := bl_dX11_fled_0.2.2.2.2.2.2.2.2.2.2.2.2.1
theorem dX11_fled_25 : decode cX11_fled 25 = .ok (.getfield 10, 3) := bl_dX11_fled_0.2.2.2.2.2.2.2.2.2.2.2.2.2.1
theorem dX11_fled_28 : decode cX11_fled 28 = .ok (.getfield 125, 3) := bl_dX11_fled_0.2.2.2.2.2.2.2.2.2.2.2.2.2.2.1
theorem dX11_fled_31 : decode cX11_fled 31 = .ok (.iload_n 1, 1) := bl_dX11_fled_0.2.2.2.2.2.2.2.2.2.2.2.2.2.2.2
set_option maxRecDepth 20000 in
theorem lk_dX11_fled_32 : th_dr cX11_fled 32 = 182 :: 0 :: 129 :: 2 :: 160 :: 0 :: 9 :: 42 :: 6 :: 182 :: 0 :: 68 :: 172 :: 42 :: 180 :: 0 :: 42 :: 28 :: 182 :: 1 :: 12 :: 42 :: 180 :: 0 :: 42 :: 180 :: 1 :: 18 :: 27 :: 182 :: 0 :: 129 :: th_dr cX11_fled 64 := rfl
theorem bl_dX11_fled_32 : decode cX11_fled 32 = .ok (.invokevirtual 129, 3) ∧ decode cX11_fled 35 = .ok (.iconst (-1), 1) ∧ decode cX11_fled 36 = .ok (.if_icmp .ne 9, 3) ∧ decode cX11_fled 39 = .ok (.aload_n 0, 1) ∧ decode cX11_fled 40 = .ok (.iconst 3, 1) ∧ decode cX11_fled 41 = .ok (.invokevirtual 68, 3) ∧ decode cX11_fled 44 = .ok (.ireturn, 1) ∧ decode cX11_fled 45 = .ok (.aload_n 0, 1) ∧ decode cX11_fled 46 = .ok (.getfield 42, 3) ∧ decode cX11_fled 49 = .ok (.iload_n 2, 1) ∧ decode cX11_fled 50 = .ok (.invokevirtual 268, 3) ∧ decode cX11_fled 53 = .ok (.aload_n 0, 1) ∧ decode cX11_fled 54 = .ok (.getfield 42, 3) ∧ decode cX11_fled 57 = .ok (.getfield 274, 3) ∧ decode cX11_fled 60 = .ok (.iload_n 1, 1) ∧ decode cX11_fled 61 = .ok (.invokevirtual 129, 3) := op_182 lk_dX11_fled_32 fun e => op_2 e fun e => op_160p e rfl fun e => op_42 e fun e => op_6 e fun e => op_182 e fun e => op_172 e fun e => op_42 e fun e => op_180 e fun e => op_28 e fun e => op_182 e fun e => op_42 e fun e => op_180 e fun e => op_180 e fun e => op_27 e fun e => (op_182 e fun _ => True.intro).1
theorem dX11_fled_32 : decode cX11_fled 32 = .ok (.invokevirtual 129, 3) := bl_dX11_fled_32.1
theorem dX11_fled_35 : decode cX11_fled 35 = .ok (.iconst (-1), 1) := bl_dX11_fled_32.2.1
theorem dX11_fled_36 : decode cX11_fled 36 = .ok (.if_icmp .ne 9, 3) := bl_dX11_fled_32.2.2.1
theorem dX11_fled_39 : decode cX11_fled 39 = .ok (.aload_n 0, 1) := bl_dX11_fled_32.2.2.2.1
theorem dX11_fled_40 : decode cX11_fled 40 = .ok (.iconst 3, 1) := bl_dX11_fled_32.2.2.2.2.1
theorem dX11_fled_41 : decode cX11_fled 41 = .ok (.invokevirtual 68, 3) := bl_dX11_fled_32.2.2.2.2.2.1
theorem dX11_fled_44 : decode cX11_fled 44 = .ok (.ireturn, 1) := bl_dX11_fled_32.2.2.2.2.2.2.1
theorem dX11_fled_45 : decode cX11_fled 45 = .ok (.aload_n 0, 1) := bl_dX11_fled_32.2.2.2.2.2.2.2.1
theorem dX11_fled_46 : decode cX11_fled 46 = .ok (.getfield 42, 3) := bl_dX11_fled_32.2.2.2.2.2.2.2.2.1
theorem dX11_fled_49 : decode cX11_fled 49 = .ok (.iload_n 2, 1) := bl_dX11_fled_32.2.2.2.2.2.2.2.2.2.1
theorem dX11_fled_50 : decode cX11_fled 50 = .ok (.invokevirtual 268, 3) := bl_dX11_fled_32.2.2.2.2.2.2.2.2.2.2.1
theorem dX11_fled_53 : decode cX11_fled 53 = .ok (.aload_n 0, 1) := bl_dX11_fled_32.2.2.2.2.2.2.2.2.2.2.2.1
theorem dX11_fled_54 : decode cX11_fled 54 = .ok (.getfield 42, 3) := bl_dX11_fled_32.2.2.2.2.2.2.2.2.2.2.2.2.1
theorem dX11_fled_57 : decode cX11_fled 57 = .ok (.getfield 274, 3) := bl_dX11_fled_32.2.2.2.2.2.2.2.2.2.2.2.2.2.1
theorem dX11_fled_60 : decode cX11_fled 60 = .ok (.iload_n 1, 1) := bl_dX11_fled_32.2.2.2.2.2.2.2.2.2.2.2.2.2.2.1
theorem dX11_fled_61 : decode cX11_fled 61 = .ok (.invokevirtual 129, 3) := bl_dX11_fled_32.2.2.2.2.2.2.2.2.2.2.2.2.2.2.2
set_option maxRecDepth 20000 in
theorem lk_dX11_fled_64 : th_dr cX11_fled 64 = 172 :: th_dr cX11_fled 65 := rfl
theorem dX11_fled_64 : decode cX11_fled 64 = .ok (.ireturn, 1) := (op_172 lk_dX11_fled_64 fun _ => True.intro).1
set_option maxRecDepth 20000 in
theorem ggX11_rate_X11_within : GoodIn wsX11_rate wsX11_within := goodIn_q _ [(5, 1)] rfl gdwsX11_within
set_option maxRecDepth 20000 in
theorem gX11_rate_X11_within : GoodIn wsX11_rate (va_wsS RX11 64 yX11_within wsX11_within) := goodIn_app (goodIn_q _ [(2, 3)] rfl rfl) ggX11_rate_X11_within
set_option maxRecDepth 20000 in
theorem ggX11_rate_X11_finding : GoodIn wsX11_rate wsX11_finding := goodIn_q _ [(9, 3), (2, 4), (12, 10)] rfl gdwsX11_finding
set_option maxRecDepth 20000 in
theorem gX11_rate_X11_finding : GoodIn wsX11_rate (wsV RX11 68 RX11 yX11_finding wsX11_finding) := goodIn_app (goodIn_q _ [(6, 3), (4, 1)] rfl rfl) ggX11_rate_X11_finding
theorem lk_dX11_rate_0 : th_dr cX11_rate 0 = 27 :: 3 :: 16 :: 100 :: 184 :: 0 :: 64 :: 154 :: 0 :: 9 :: 42 :: 4 :: 182 :: 0 :: 68 :: 172 :: 42 :: 180 :: 0 :: 57 :: 61 :: 42 :: 27 :: 181 :: 0 :: 57 :: 28 :: th_dr cX11_rate 27 := rfl
theorem bl_dX11_rate_0 : decode cX11_rate 0 = .ok (.iload_n 1, 1) ∧ decode cX11_rate 1 = .ok (.iconst 0, 1) ∧ decode cX11_rate 2 = .ok (.bipush 100, 2) ∧ decode cX11_rate 4 = .ok (.invokestatic 64, 3) ∧ decode cX11_rate 7 = .ok (.ifCond .ne 9, 3) ∧ decode cX11_rate 10 = .ok (.aload_n 0, 1) ∧ decode cX11_rate 11 = .ok (.iconst 1, 1) ∧ decode cX11_rate 12 = .ok (.invokevirtual 68, 3) ∧ decode cX11_rate 15 = .ok (.ireturn, 1) ∧ decode cX11_rate 16 = .ok (.aload_n 0, 1) ∧ decode cX11_rate 17 = .ok (.getfield 57, 3) ∧ decode cX11_rate 20 = .ok (.istore_n 2, 1) ∧ decode cX11_rate 21 = .ok (.aload_n 0, 1) ∧ decode cX11_rate 22 = .ok (.iload_n 1, 1) ∧ decode cX11_rate 23 = .ok (.putfield 57, 3) ∧ decode cX11_rate 26 = .ok (.iload_n 2, 1) := op_27 lk_dX11_rate_0 fun e => op_3 e fun e => op_16p e rfl fun e => op_184 e fun e => op_154p e rfl fun e => op_42 e fun e => op_4 e fun e => op_182 e fun e => op_172 e fun e => op_42 e fun e => op_180 e fun e => op_61 e fun e => op_42 e fun e => op_27 e fun e => op_181 e fun e => (op_28 e fun _ => True.intro).1
theorem dX11_rate_0 : decode cX11_rate 0 = .ok (.iload_n 1, 1) := bl_dX11_rate_0.1
theorem dX11_rate_1 : decode cX11_rate 1 = .ok (.iconst 0, 1) := bl_dX11_rate_0.2.1
theorem dX11_rate_2 : decode cX11_rate 2 = .ok (.bipush 100, 2) := bl_dX11_rate_0.2.2.1
theorem dX11_rate_4 : decode cX11_rate 4 = .ok (.invokestatic 64, 3) := bl_dX11_rate_0.2.2.2.1
theorem dX11_rate_7 : decode cX11_rate 7 = .ok (.ifCond .ne 9, 3) := bl_dX11_rate_0.2.2.2.2.1
theorem dX11_rate_10 : decode cX11_rate 10 = .ok (.aload_n 0, 1) := bl_dX11_rate_0.2.2.2.2.2.1
theorem dX11_rate_11 : decode cX11_rate 11 = .ok (.iconst 1, 1) := bl_dX11_rate_0.2.2.2.2.2.2.1
theorem dX11_rate_12 : decode cX11_rate 12 = .ok (.invokevirtual 68, 3) := bl_dX11_rate_0.2.2.2.2.2.2.2.1
theorem dX11_rate_15 : decode cX11_rate 15 = .ok (.ireturn, 1) := bl_dX11_rate_0.2.2.2.2.2.2.2.2.1
theorem dX11_rate_16 : decode cX11_rate 16 = .ok (.aload_n 0, 1) := bl_dX11_rate_0.2.2.2.2.2.2.2.2.2.1
theorem dX11_rate_17 : decode cX11_rate 17 = .ok (.getfield 57, 3) := bl_dX11_rate_0.2.2.2.2.2.2.2.2.2.2.1
theorem dX11_rate_20 : decode cX11_rate 20 = .ok (.istore_n 2, 1) := bl_dX11_rate_0.2.2.2.2.2.2.2.2.2.2.2.1
theorem dX11_rate_21 : decode cX11_rate 21 = .ok (.aload_n 0, 1) := bl_dX11_rate_0.2.2.2.2.2.2.2.2.2.2.2.2.1
theorem dX11_rate_22 : decode cX11_rate 22 = .ok (.iload_n 1, 1) := bl_dX11_rate_0.2.2.2.2.2.2.2.2.2.2.2.2.2.1
theorem dX11_rate_23 : decode cX11_rate 23 = .ok (.putfield 57, 3) := bl_dX11_rate_0.2.2.2.2.2.2.2.2.2.2.2.2.2.2.1
theorem dX11_rate_26 : decode cX11_rate 26 = .ok (.iload_n 2, 1) := bl_dX11_rate_0.2.2.2.2.2.2.2.2.2.2.2.2.2.2.2
theorem lk_dX11_rate_27 : th_dr cX11_rate 27 = 172 :: th_dr cX11_rate 28 := rfl
theorem dX11_rate_27 : decode cX11_rate 27 = .ok (.ireturn, 1) := (op_172 lk_dX11_rate_27 fun _ => True.intro).1
set_option maxRecDepth 20000 in
theorem ggX11_dues_X0_boatAt : GoodIn wsX11_dues wsX0_boatAt := goodIn_q _ [(9, 6), (54, 9)] rfl gdwsX0_boatAt
set_option maxRecDepth 20000 in
theorem gX11_dues_X0_boatAt : GoodIn wsX11_dues (wsV RX11 90 RX0 yX0_boatAt wsX0_boatAt) := goodIn_app (goodIn_q _ [(5, 4)] rfl rfl) ggX11_dues_X0_boatAt
set_option maxRecDepth 20000 in
theorem ggX11_dues_X1_buoyOf : GoodIn wsX11_dues wsX1_buoyOf := goodIn_q _ [(19, 2), (12, 3), (63, 2)] rfl gdwsX1_buoyOf
set_option maxRecDepth 20000 in
theorem gX11_dues_X1_buoyOf : GoodIn wsX11_dues (wsV RX11 129 RX1 yX1_buoyOf wsX1_buoyOf) := goodIn_app (goodIn_q _ [(15, 4)] rfl rfl) ggX11_dues_X1_buoyOf
set_option maxRecDepth 20000 in
theorem ggX11_dues_X2_fee : GoodIn wsX11_dues wsX2_fee := goodIn_q _ [(26, 5), (25, 1), (31, 4), (65, 18)] rfl gdwsX2_fee
set_option maxRecDepth 20000 in
theorem gX11_dues_X2_fee_u99X4 : GoodIn wsX11_dues (va_wsU RX11 99 RX4 "BayMoorings$Boat" ⟨"BayMoorings$Boat", "fee", "(I)I"⟩ yX2_fee wsX2_fee) := goodIn_app (goodIn_q _ [(21, 5)] rfl rfl) ggX11_dues_X2_fee
set_option maxRecDepth 20000 in
theorem gX11_dues_X2_fee_u99X8 : GoodIn wsX11_dues (va_wsU RX11 99 RX8 "BayMoorings$Boat" ⟨"BayMoorings$Boat", "fee", "(I)I"⟩ yX2_fee wsX2_fee) := goodIn_app (goodIn_q _ [(21, 2), (35, 1), (24, 2)] rfl rfl) ggX11_dues_X2_fee
set_option maxRecDepth 20000 in
theorem ggX11_dues_X9_fee : GoodIn wsX11_dues wsX9_fee := goodIn_q _ [(40, 4), (30, 1), (25, 1), (31, 2), (65, 18)] rfl gdwsX9_fee
set_option maxRecDepth 20000 in
theorem gX11_dues_X9_fee_u99X9 : GoodIn wsX11_dues (va_wsO RX11 99 RX9 "BayMoorings$Boat" ⟨"BayMoorings$Boat", "fee", "(I)I"⟩ yX9_fee wsX9_fee) := goodIn_app (goodIn_q _ [(21, 2), (24, 1), (37, 3)] rfl rfl) ggX11_dues_X9_fee
theorem lk_dX11_dues_0 : th_dr cX11_dues 0 = 3 :: 60 :: 3 :: 61 :: 28 :: 42 :: 180 :: 0 :: 10 :: 180 :: 0 :: 83 :: 162 :: 0 :: 48 :: 42 :: 180 :: 0 :: 10 :: 28 :: 182 :: 0 :: 90 :: 78 :: 45 :: 198 :: 0 :: 29 :: th_dr cX11_dues 28 := rfl
theorem bl_dX11_dues_0 : decode cX11_dues 0 = .ok (.iconst 0, 1) ∧ decode cX11_dues 1 = .ok (.istore_n 1, 1) ∧ decode cX11_dues 2 = .ok (.iconst 0, 1) ∧ decode cX11_dues 3 = .ok (.istore_n 2, 1) ∧ decode cX11_dues 4 = .ok (.iload_n 2, 1) ∧ decode cX11_dues 5 = .ok (.aload_n 0, 1) ∧ decode cX11_dues 6 = .ok (.getfield 10, 3) ∧ decode cX11_dues 9 = .ok (.getfield 83, 3) ∧ decode cX11_dues 12 = .ok (.if_icmp .ge 48, 3) ∧ decode cX11_dues 15 = .ok (.aload_n 0, 1) ∧ decode cX11_dues 16 = .ok (.getfield 10, 3) ∧ decode cX11_dues 19 = .ok (.iload_n 2, 1) ∧ decode cX11_dues 20 = .ok (.invokevirtual 90, 3) ∧ decode cX11_dues 23 = .ok (.astore_n 3, 1) ∧ decode cX11_dues 24 = .ok (.aload_n 3, 1) ∧ decode cX11_dues 25 = .ok (.ifnull 29, 3) := op_3 lk_dX11_dues_0 fun e => op_60 e fun e => op_3 e fun e => op_61 e fun e => op_28 e fun e => op_42 e fun e => op_180 e fun e => op_180 e fun e => op_162p e rfl fun e => op_42 e fun e => op_180 e fun e => op_28 e fun e => op_182 e fun e => op_78 e fun e => op_45 e fun e => (op_198p e rfl fun _ => True.intro).1
theorem dX11_dues_0 : decode cX11_dues 0 = .ok (.iconst 0, 1) := bl_dX11_dues_0.1
theorem dX11_dues_1 : decode cX11_dues 1 = .ok (.istore_n 1, 1) := bl_dX11_dues_0.2.1
theorem dX11_dues_2 : decode cX11_dues 2 = .ok (.iconst 0, 1) := bl_dX11_dues_0.2.2.1
theorem dX11_dues_3 : decode cX11_dues 3 = .ok (.istore_n 2, 1) := bl_dX11_dues_0.2.2.2.1
theorem dX11_dues_4 : decode cX11_dues 4 = .ok (.iload_n 2, 1) := bl_dX11_dues_0.2.2.2.2.1
theorem dX11_dues_5 : decode cX11_dues 5 = .ok (.aload_n 0, 1) := bl_dX11_dues_0.2.2.2.2.2.1
theorem dX11_dues_6 : decode cX11_dues 6 = .ok (.getfield 10, 3) := bl_dX11_dues_0.2.2.2.2.2.2.1
theorem dX11_dues_9 : decode cX11_dues 9 = .ok (.getfield 83, 3) := bl_dX11_dues_0.2.2.2.2.2.2.2.1
theorem dX11_dues_12 : decode cX11_dues 12 = .ok (.if_icmp .ge 48, 3) := bl_dX11_dues_0.2.2.2.2.2.2.2.2.1
theorem dX11_dues_15 : decode cX11_dues 15 = .ok (.aload_n 0, 1) := bl_dX11_dues_0.2.2.2.2.2.2.2.2.2.1
theorem dX11_dues_16 : decode cX11_dues 16 = .ok (.getfield 10, 3) := bl_dX11_dues_0.2.2.2.2.2.2.2.2.2.2.1
theorem dX11_dues_19 : decode cX11_dues 19 = .ok (.iload_n 2, 1) := bl_dX11_dues_0.2.2.2.2.2.2.2.2.2.2.2.1
theorem dX11_dues_20 : decode cX11_dues 20 = .ok (.invokevirtual 90, 3) := bl_dX11_dues_0.2.2.2.2.2.2.2.2.2.2.2.2.1
theorem dX11_dues_23 : decode cX11_dues 23 = .ok (.astore_n 3, 1) := bl_dX11_dues_0.2.2.2.2.2.2.2.2.2.2.2.2.2.1
theorem dX11_dues_24 : decode cX11_dues 24 = .ok (.aload_n 3, 1) := bl_dX11_dues_0.2.2.2.2.2.2.2.2.2.2.2.2.2.2.1
theorem dX11_dues_25 : decode cX11_dues 25 = .ok (.ifnull 29, 3) := bl_dX11_dues_0.2.2.2.2.2.2.2.2.2.2.2.2.2.2.2
theorem lk_dX11_dues_28 : th_dr cX11_dues 28 = 42 :: 180 :: 0 :: 10 :: 180 :: 0 :: 125 :: 28 :: 182 :: 0 :: 129 :: 2 :: 159 :: 0 :: 14 :: 27 :: 45 :: 42 :: 180 :: 0 :: 57 :: 182 :: 0 :: 99 :: 96 :: 60 :: 132 :: 2 :: 1 :: 167 :: 255 :: 203 :: th_dr cX11_dues 60 := rfl
theorem bl_dX11_dues_28 : decode cX11_dues 28 = .ok (.aload_n 0, 1) ∧ decode cX11_dues 29 = .ok (.getfield 10, 3) ∧ decode cX11_dues 32 = .ok (.getfield 125, 3) ∧ decode cX11_dues 35 = .ok (.iload_n 2, 1) ∧ decode cX11_dues 36 = .ok (.invokevirtual 129, 3) ∧ decode cX11_dues 39 = .ok (.iconst (-1), 1) ∧ decode cX11_dues 40 = .ok (.if_icmp .eq 14, 3) ∧ decode cX11_dues 43 = .ok (.iload_n 1, 1) ∧ decode cX11_dues 44 = .ok (.aload_n 3, 1) ∧ decode cX11_dues 45 = .ok (.aload_n 0, 1) ∧ decode cX11_dues 46 = .ok (.getfield 57, 3) ∧ decode cX11_dues 49 = .ok (.invokevirtual 99, 3) ∧ decode cX11_dues 52 = .ok (.iadd, 1) ∧ decode cX11_dues 53 = .ok (.istore_n 1, 1) ∧ decode cX11_dues 54 = .ok (.iinc 2 1, 3) ∧ decode cX11_dues 57 = .ok (.goto (-53), 3) := op_42 lk_dX11_dues_28 fun e => op_180 e fun e => op_180 e fun e => op_28 e fun e => op_182 e fun e => op_2 e fun e => op_159p e rfl fun e => op_27 e fun e => op_45 e fun e => op_42 e fun e => op_180 e fun e => op_182 e fun e => op_96 e fun e => op_60 e fun e => op_132p e rfl fun e => (op_167n e rfl rfl fun _ => True.intro).1
theorem dX11_dues_28 : decode cX11_dues 28 = .ok (.aload_n 0, 1) := bl_dX11_dues_28.1
theorem dX11_dues_29 : decode cX11_dues 29 = .ok (.getfield 10, 3) := bl_dX11_dues_28.2.1
theorem dX11_dues_32 : decode cX11_dues 32 = .ok (.getfield 125, 3) := bl_dX11_dues_28.2.2.1
theorem dX11_dues_35 : decode cX11_dues 35 = .ok (.iload_n 2, 1) := bl_dX11_dues_28.2.2.2.1
theorem dX11_dues_36 : decode cX11_dues 36 = .ok (.invokevirtual 129, 3) := bl_dX11_dues_28.2.2.2.2.1
theorem dX11_dues_39 : decode cX11_dues 39 = .ok (.iconst (-1), 1) := bl_dX11_dues_28.2.2.2.2.2.1
theorem dX11_dues_40 : decode cX11_dues 40 = .ok (.if_icmp .eq 14, 3) := bl_dX11_dues_28.2.2.2.2.2.2.1
theorem dX11_dues_43 : decode cX11_dues 43 = .ok (.iload_n 1, 1) := bl_dX11_dues_28.2.2.2.2.2.2.2.1
theorem dX11_dues_44 : decode cX11_dues 44 = .ok (.aload_n 3, 1) := bl_dX11_dues_28.2.2.2.2.2.2.2.2.1
theorem dX11_dues_45 : decode cX11_dues 45 = .ok (.aload_n 0, 1) := bl_dX11_dues_28.2.2.2.2.2.2.2.2.2.1
theorem dX11_dues_46 : decode cX11_dues 46 = .ok (.getfield 57, 3) := bl_dX11_dues_28.2.2.2.2.2.2.2.2.2.2.1
theorem dX11_dues_49 : decode cX11_dues 49 = .ok (.invokevirtual 99, 3) := bl_dX11_dues_28.2.2.2.2.2.2.2.2.2.2.2.1
theorem dX11_dues_52 : decode cX11_dues 52 = .ok (.iadd, 1) := bl_dX11_dues_28.2.2.2.2.2.2.2.2.2.2.2.2.1
theorem dX11_dues_53 : decode cX11_dues 53 = .ok (.istore_n 1, 1) := bl_dX11_dues_28.2.2.2.2.2.2.2.2.2.2.2.2.2.1
theorem dX11_dues_54 : decode cX11_dues 54 = .ok (.iinc 2 1, 3) := bl_dX11_dues_28.2.2.2.2.2.2.2.2.2.2.2.2.2.2.1
theorem dX11_dues_57 : decode cX11_dues 57 = .ok (.goto (-53), 3) := bl_dX11_dues_28.2.2.2.2.2.2.2.2.2.2.2.2.2.2.2
set_option maxRecDepth 20000 in
theorem lk_dX11_dues_60 : th_dr cX11_dues 60 = 27 :: 172 :: th_dr cX11_dues 62 := rfl
theorem bl_dX11_dues_60 : decode cX11_dues 60 = .ok (.iload_n 1, 1) ∧ decode cX11_dues 61 = .ok (.ireturn, 1) := op_27 lk_dX11_dues_60 fun e => (op_172 e fun _ => True.intro).1
theorem dX11_dues_60 : decode cX11_dues 60 = .ok (.iload_n 1, 1) := bl_dX11_dues_60.1
theorem dX11_dues_61 : decode cX11_dues 61 = .ok (.ireturn, 1) := bl_dX11_dues_60.2
set_option maxRecDepth 20000 in
theorem ggX11_tell_X11_finding : GoodIn wsX11_tell wsX11_finding := goodIn_q _ [(7, 5), (6, 1), (12, 11)] rfl gdwsX11_finding
set_option maxRecDepth 20000 in
theorem gX11_tell_X11_finding : GoodIn wsX11_tell (wsV RX11 68 RX11 yX11_finding wsX11_finding) := goodIn_app (goodIn_q _ [(3, 4)] rfl rfl) ggX11_tell_X11_finding
theorem lk_dX11_tell_0 : th_dr cX11_tell 0 = 42 :: 180 :: 0 :: 53 :: 16 :: 24 :: 161 :: 0 :: 9 :: 42 :: 7 :: 182 :: 0 :: 68 :: 172 :: 42 :: 180 :: 0 :: 50 :: 42 :: 180 :: 0 :: 53 :: 27 :: 79 :: 42 :: 89 :: th_dr cX11_tell 27 := rfl
theorem bl_dX11_tell_0 : decode cX11_tell 0 = .ok (.aload_n 0, 1) ∧ decode cX11_tell 1 = .ok (.getfield 53, 3) ∧ decode cX11_tell 4 = .ok (.bipush 24, 2) ∧ decode cX11_tell 6 = .ok (.if_icmp .lt 9, 3) ∧ decode cX11_tell 9 = .ok (.aload_n 0, 1) ∧ decode cX11_tell 10 = .ok (.iconst 4, 1) ∧ decode cX11_tell 11 = .ok (.invokevirtual 68, 3) ∧ decode cX11_tell 14 = .ok (.ireturn, 1) ∧ decode cX11_tell 15 = .ok (.aload_n 0, 1) ∧ decode cX11_tell 16 = .ok (.getfield 50, 3) ∧ decode cX11_tell 19 = .ok (.aload_n 0, 1) ∧ decode cX11_tell 20 = .ok (.getfield 53, 3) ∧ decode cX11_tell 23 = .ok (.iload_n 1, 1) ∧ decode cX11_tell 24 = .ok (.iastore, 1) ∧ decode cX11_tell 25 = .ok (.aload_n 0, 1) ∧ decode cX11_tell 26 = .ok (.dup, 1) := op_42 lk_dX11_tell_0 fun e => op_180 e fun e => op_16p e rfl fun e => op_161p e rfl fun e => op_42 e fun e => op_7 e fun e => op_182 e fun e => op_172 e fun e => op_42 e fun e => op_180 e fun e => op_42 e fun e => op_180 e fun e => op_27 e fun e => op_79 e fun e => op_42 e fun e => (op_89 e fun _ => True.intro).1
theorem dX11_tell_0 : decode cX11_tell 0 = .ok (.aload_n 0, 1) := bl_dX11_tell_0.1
theorem dX11_tell_1 : decode cX11_tell 1 = .ok (.getfield 53, 3) := bl_dX11_tell_0.2.1
theorem dX11_tell_4 : decode cX11_tell 4 = .ok (.bipush 24, 2) := bl_dX11_tell_0.2.2.1
theorem dX11_tell_6 : decode cX11_tell 6 = .ok (.if_icmp .lt 9, 3) := bl_dX11_tell_0.2.2.2.1
theorem dX11_tell_9 : decode cX11_tell 9 = .ok (.aload_n 0, 1) := bl_dX11_tell_0.2.2.2.2.1
theorem dX11_tell_10 : decode cX11_tell 10 = .ok (.iconst 4, 1) := bl_dX11_tell_0.2.2.2.2.2.1
theorem dX11_tell_11 : decode cX11_tell 11 = .ok (.invokevirtual 68, 3) := bl_dX11_tell_0.2.2.2.2.2.2.1
theorem dX11_tell_14 : decode cX11_tell 14 = .ok (.ireturn, 1) := bl_dX11_tell_0.2.2.2.2.2.2.2.1
theorem dX11_tell_15 : decode cX11_tell 15 = .ok (.aload_n 0, 1) := bl_dX11_tell_0.2.2.2.2.2.2.2.2.1
theorem dX11_tell_16 : decode cX11_tell 16 = .ok (.getfield 50, 3) := bl_dX11_tell_0.2.2.2.2.2.2.2.2.2.1
theorem dX11_tell_19 : decode cX11_tell 19 = .ok (.aload_n 0, 1) := bl_dX11_tell_0.2.2.2.2.2.2.2.2.2.2.1
theorem dX11_tell_20 : decode cX11_tell 20 = .ok (.getfield 53, 3) := bl_dX11_tell_0.2.2.2.2.2.2.2.2.2.2.2.1
theorem dX11_tell_23 : decode cX11_tell 23 = .ok (.iload_n 1, 1) := bl_dX11_tell_0.2.2.2.2.2.2.2.2.2.2.2.2.1
theorem dX11_tell_24 : decode cX11_tell 24 = .ok (.iastore, 1) := bl_dX11_tell_0.2.2.2.2.2.2.2.2.2.2.2.2.2.1
theorem dX11_tell_25 : decode cX11_tell 25 = .ok (.aload_n 0, 1) := bl_dX11_tell_0.2.2.2.2.2.2.2.2.2.2.2.2.2.2.1
theorem dX11_tell_26 : decode cX11_tell 26 = .ok (.dup, 1) := bl_dX11_tell_0.2.2.2.2.2.2.2.2.2.2.2.2.2.2.2
theorem lk_dX11_tell_27 : th_dr cX11_tell 27 = 180 :: 0 :: 53 :: 4 :: 96 :: 181 :: 0 :: 53 :: 42 :: 180 :: 0 :: 53 :: 172 :: th_dr cX11_tell 40 := rfl
theorem bl_dX11_tell_27 : decode cX11_tell 27 = .ok (.getfield 53, 3) ∧ decode cX11_tell 30 = .ok (.iconst 1, 1) ∧ decode cX11_tell 31 = .ok (.iadd, 1) ∧ decode cX11_tell 32 = .ok (.putfield 53, 3) ∧ decode cX11_tell 35 = .ok (.aload_n 0, 1) ∧ decode cX11_tell 36 = .ok (.getfield 53, 3) ∧ decode cX11_tell 39 = .ok (.ireturn, 1) := op_180 lk_dX11_tell_27 fun e => op_4 e fun e => op_96 e fun e => op_181 e fun e => op_42 e fun e => op_180 e fun e => (op_172 e fun _ => True.intro).1
theorem dX11_tell_27 : decode cX11_tell 27 = .ok (.getfield 53, 3) := bl_dX11_tell_27.1
theorem dX11_tell_30 : decode cX11_tell 30 = .ok (.iconst 1, 1) := bl_dX11_tell_27.2.1
theorem dX11_tell_31 : decode cX11_tell 31 = .ok (.iadd, 1) := bl_dX11_tell_27.2.2.1
theorem dX11_tell_32 : decode cX11_tell 32 = .ok (.putfield 53, 3) := bl_dX11_tell_27.2.2.2.1
theorem dX11_tell_35 : decode cX11_tell 35 = .ok (.aload_n 0, 1) := bl_dX11_tell_27.2.2.2.2.1
theorem dX11_tell_36 : decode cX11_tell 36 = .ok (.getfield 53, 3) := bl_dX11_tell_27.2.2.2.2.2.1
theorem dX11_tell_39 : decode cX11_tell 39 = .ok (.ireturn, 1) := bl_dX11_tell_27.2.2.2.2.2.2
set_option maxRecDepth 20000 in
theorem ggX11_check_X6_draw : GoodIn wsX11_check wsX6_draw := goodIn_q _ [(10, 18), (9, 1), (28, 79), (130, 4), (121, 9), (134, 28)] rfl gdwsX6_draw
set_option maxRecDepth 20000 in
theorem gX11_check_X6_draw : GoodIn wsX11_check (wsV RX11 237 RX6 yX6_draw wsX6_draw) := goodIn_app (goodIn_q _ [(6, 4)] rfl rfl) ggX11_check_X6_draw
set_option maxRecDepth 20000 in
theorem ggX11_check_X6_buoyFor : GoodIn wsX11_check wsX6_buoyFor := goodIn_q _ [(110, 1), (14, 1), (22, 3), (130, 4)] rfl gdwsX6_buoyFor
set_option maxRecDepth 20000 in
theorem gX11_check_X6_buoyFor : GoodIn wsX11_check (wsV RX11 240 RX6 yX6_buoyFor wsX6_buoyFor) := goodIn_app (goodIn_q _ [(107, 3), (9, 1)] rfl rfl) ggX11_check_X6_buoyFor
theorem lk_dX11_check_0 : th_dr cX11_check 0 = 42 :: 180 :: 0 :: 53 :: 60 :: 42 :: 3 :: 181 :: 0 :: 53 :: 42 :: 180 :: 0 :: 35 :: 182 :: 0 :: 237 :: 3 :: 61 :: 28 :: 27 :: 162 :: 0 :: 41 :: 28 :: 42 :: th_dr cX11_check 26 := rfl
theorem bl_dX11_check_0 : decode cX11_check 0 = .ok (.aload_n 0, 1) ∧ decode cX11_check 1 = .ok (.getfield 53, 3) ∧ decode cX11_check 4 = .ok (.istore_n 1, 1) ∧ decode cX11_check 5 = .ok (.aload_n 0, 1) ∧ decode cX11_check 6 = .ok (.iconst 0, 1) ∧ decode cX11_check 7 = .ok (.putfield 53, 3) ∧ decode cX11_check 10 = .ok (.aload_n 0, 1) ∧ decode cX11_check 11 = .ok (.getfield 35, 3) ∧ decode cX11_check 14 = .ok (.invokevirtual 237, 3) ∧ decode cX11_check 17 = .ok (.iconst 0, 1) ∧ decode cX11_check 18 = .ok (.istore_n 2, 1) ∧ decode cX11_check 19 = .ok (.iload_n 2, 1) ∧ decode cX11_check 20 = .ok (.iload_n 1, 1) ∧ decode cX11_check 21 = .ok (.if_icmp .ge 41, 3) ∧ decode cX11_check 24 = .ok (.iload_n 2, 1) ∧ decode cX11_check 25 = .ok (.aload_n 0, 1) := op_42 lk_dX11_check_0 fun e => op_180 e fun e => op_60 e fun e => op_42 e fun e => op_3 e fun e => op_181 e fun e => op_42 e fun e => op_180 e fun e => op_182 e fun e => op_3 e fun e => op_61 e fun e => op_28 e fun e => op_27 e fun e => op_162p e rfl fun e => op_28 e fun e => (op_42 e fun _ => True.intro).1
theorem dX11_check_0 : decode cX11_check 0 = .ok (.aload_n 0, 1) := bl_dX11_check_0.1
theorem dX11_check_1 : decode cX11_check 1 = .ok (.getfield 53, 3) := bl_dX11_check_0.2.1
theorem dX11_check_4 : decode cX11_check 4 = .ok (.istore_n 1, 1) := bl_dX11_check_0.2.2.1
theorem dX11_check_5 : decode cX11_check 5 = .ok (.aload_n 0, 1) := bl_dX11_check_0.2.2.2.1
theorem dX11_check_6 : decode cX11_check 6 = .ok (.iconst 0, 1) := bl_dX11_check_0.2.2.2.2.1
theorem dX11_check_7 : decode cX11_check 7 = .ok (.putfield 53, 3) := bl_dX11_check_0.2.2.2.2.2.1
theorem dX11_check_10 : decode cX11_check 10 = .ok (.aload_n 0, 1) := bl_dX11_check_0.2.2.2.2.2.2.1
theorem dX11_check_11 : decode cX11_check 11 = .ok (.getfield 35, 3) := bl_dX11_check_0.2.2.2.2.2.2.2.1
theorem dX11_check_14 : decode cX11_check 14 = .ok (.invokevirtual 237, 3) := bl_dX11_check_0.2.2.2.2.2.2.2.2.1
theorem dX11_check_17 : decode cX11_check 17 = .ok (.iconst 0, 1) := bl_dX11_check_0.2.2.2.2.2.2.2.2.2.1
theorem dX11_check_18 : decode cX11_check 18 = .ok (.istore_n 2, 1) := bl_dX11_check_0.2.2.2.2.2.2.2.2.2.2.1
theorem dX11_check_19 : decode cX11_check 19 = .ok (.iload_n 2, 1) := bl_dX11_check_0.2.2.2.2.2.2.2.2.2.2.2.1
theorem dX11_check_20 : decode cX11_check 20 = .ok (.iload_n 1, 1) := bl_dX11_check_0.2.2.2.2.2.2.2.2.2.2.2.2.1
theorem dX11_check_21 : decode cX11_check 21 = .ok (.if_icmp .ge 41, 3) := bl_dX11_check_0.2.2.2.2.2.2.2.2.2.2.2.2.2.1
theorem dX11_check_24 : decode cX11_check 24 = .ok (.iload_n 2, 1) := bl_dX11_check_0.2.2.2.2.2.2.2.2.2.2.2.2.2.2.1
theorem dX11_check_25 : decode cX11_check 25 = .ok (.aload_n 0, 1) := bl_dX11_check_0.2.2.2.2.2.2.2.2.2.2.2.2.2.2.2
theorem lk_dX11_check_26 : th_dr cX11_check 26 = 180 :: 0 :: 10 :: 180 :: 0 :: 83 :: 162 :: 0 :: 20 :: 42 :: 180 :: 0 :: 50 :: 28 :: 46 :: 42 :: 180 :: 0 :: 35 :: 28 :: 182 :: 0 :: 240 :: 159 :: 0 :: 7 :: 4 :: 28 :: 96 :: 172 :: th_dr cX11_check 56 := rfl
theorem bl_dX11_check_26 : decode cX11_check 26 = .ok (.getfield 10, 3) ∧ decode cX11_check 29 = .ok (.getfield 83, 3) ∧ decode cX11_check 32 = .ok (.if_icmp .ge 20, 3) ∧ decode cX11_check 35 = .ok (.aload_n 0, 1) ∧ decode cX11_check 36 = .ok (.getfield 50, 3) ∧ decode cX11_check 39 = .ok (.iload_n 2, 1) ∧ decode cX11_check 40 = .ok (.iaload, 1) ∧ decode cX11_check 41 = .ok (.aload_n 0, 1) ∧ decode cX11_check 42 = .ok (.getfield 35, 3) ∧ decode cX11_check 45 = .ok (.iload_n 2, 1) ∧ decode cX11_check 46 = .ok (.invokevirtual 240, 3) ∧ decode cX11_check 49 = .ok (.if_icmp .eq 7, 3) ∧ decode cX11_check 52 = .ok (.iconst 1, 1) ∧ decode cX11_check 53 = .ok (.iload_n 2, 1) ∧ decode cX11_check 54 = .ok (.iadd, 1) ∧ decode cX11_check 55 = .ok (.ireturn, 1) := op_180 lk_dX11_check_26 fun e => op_180 e fun e => op_162p e rfl fun e => op_42 e fun e => op_180 e fun e => op_28 e fun e => op_46 e fun e => op_42 e fun e => op_180 e fun e => op_28 e fun e => op_182 e fun e => op_159p e rfl fun e => op_4 e fun e => op_28 e fun e => op_96 e fun e => (op_172 e fun _ => True.intro).1
theorem dX11_check_26 : decode cX11_check 26 = .ok (.getfield 10, 3) := bl_dX11_check_26.1
theorem dX11_check_29 : decode cX11_check 29 = .ok (.getfield 83, 3) := bl_dX11_check_26.2.1
theorem dX11_check_32 : decode cX11_check 32 = .ok (.if_icmp .ge 20, 3) := bl_dX11_check_26.2.2.1
theorem dX11_check_35 : decode cX11_check 35 = .ok (.aload_n 0, 1) := bl_dX11_check_26.2.2.2.1
theorem dX11_check_36 : decode cX11_check 36 = .ok (.getfield 50, 3) := bl_dX11_check_26.2.2.2.2.1
theorem dX11_check_39 : decode cX11_check 39 = .ok (.iload_n 2, 1) := bl_dX11_check_26.2.2.2.2.2.1
theorem dX11_check_40 : decode cX11_check 40 = .ok (.iaload, 1) := bl_dX11_check_26.2.2.2.2.2.2.1
theorem dX11_check_41 : decode cX11_check 41 = .ok (.aload_n 0, 1) := bl_dX11_check_26.2.2.2.2.2.2.2.1
theorem dX11_check_42 : decode cX11_check 42 = .ok (.getfield 35, 3) := bl_dX11_check_26.2.2.2.2.2.2.2.2.1
theorem dX11_check_45 : decode cX11_check 45 = .ok (.iload_n 2, 1) := bl_dX11_check_26.2.2.2.2.2.2.2.2.2.1
theorem dX11_check_46 : decode cX11_check 46 = .ok (.invokevirtual 240, 3) := bl_dX11_check_26.2.2.2.2.2.2.2.2.2.2.1
theorem dX11_check_49 : decode cX11_check 49 = .ok (.if_icmp .eq 7, 3) := bl_dX11_check_26.2.2.2.2.2.2.2.2.2.2.2.1
theorem dX11_check_52 : decode cX11_check 52 = .ok (.iconst 1, 1) := bl_dX11_check_26.2.2.2.2.2.2.2.2.2.2.2.2.1
theorem dX11_check_53 : decode cX11_check 53 = .ok (.iload_n 2, 1) := bl_dX11_check_26.2.2.2.2.2.2.2.2.2.2.2.2.2.1
theorem dX11_check_54 : decode cX11_check 54 = .ok (.iadd, 1) := bl_dX11_check_26.2.2.2.2.2.2.2.2.2.2.2.2.2.2.1
theorem dX11_check_55 : decode cX11_check 55 = .ok (.ireturn, 1) := bl_dX11_check_26.2.2.2.2.2.2.2.2.2.2.2.2.2.2.2
set_option maxRecDepth 20000 in
theorem lk_dX11_check_56 : th_dr cX11_check 56 = 132 :: 2 :: 1 :: 167 :: 255 :: 216 :: 3 :: 172 :: th_dr cX11_check 64 := rfl
theorem bl_dX11_check_56 : decode cX11_check 56 = .ok (.iinc 2 1, 3) ∧ decode cX11_check 59 = .ok (.goto (-40), 3) ∧ decode cX11_check 62 = .ok (.iconst 0, 1) ∧ decode cX11_check 63 = .ok (.ireturn, 1) := op_132p lk_dX11_check_56 rfl fun e => op_167n e rfl rfl fun e => op_3 e fun e => (op_172 e fun _ => True.intro).1
theorem dX11_check_56 : decode cX11_check 56 = .ok (.iinc 2 1, 3) := bl_dX11_check_56.1
theorem dX11_check_59 : decode cX11_check 59 = .ok (.goto (-40), 3) := bl_dX11_check_56.2.1
theorem dX11_check_62 : decode cX11_check 62 = .ok (.iconst 0, 1) := bl_dX11_check_56.2.2.1
theorem dX11_check_63 : decode cX11_check 63 = .ok (.ireturn, 1) := bl_dX11_check_56.2.2.2
set_option maxRecDepth 20000 in
theorem gdwsX0_lyingBoats : wsX0_lyingBoats.all goodWord = true := by decide +kernel
set_option maxRecDepth 20000 in
theorem ggX11_count_X0_lyingBoats : GoodIn wsX11_count wsX0_lyingBoats := goodIn_q _ [(12, 12), (64, 9), (76, 2)] rfl gdwsX0_lyingBoats
set_option maxRecDepth 20000 in
theorem gX11_count_X0_lyingBoats : GoodIn wsX11_count (wsV RX11 275 RX0 yX0_lyingBoats wsX0_lyingBoats) := goodIn_app (goodIn_q _ [(8, 4)] rfl rfl) ggX11_count_X0_lyingBoats
set_option maxRecDepth 20000 in
theorem ggX11_count_X0_partedChains : GoodIn wsX11_count wsX0_partedChains := goodIn_q _ [(27, 5), (11, 1), (32, 2), (21, 3), (34, 6), (64, 9), (78, 8)] rfl gdwsX0_partedChains
set_option maxRecDepth 20000 in
theorem gX11_count_X0_partedChains : GoodIn wsX11_count (wsV RX11 247 RX0 yX0_partedChains wsX0_partedChains) := goodIn_app (goodIn_q _ [(24, 3), (11, 1)] rfl rfl) ggX11_count_X0_partedChains
set_option maxRecDepth 20000 in
theorem ggX11_count_J6_bitCount_0f7a4 : GoodIn wsX11_count wsJ6_bitCount_0f7a4 := goodIn_q _ [(43, 4)] rfl gdwsJ6_bitCount_0f7a4
set_option maxRecDepth 20000 in
theorem gX11_count_J6_bitCount_0f7a4 : GoodIn wsX11_count (va_wsS RX11 196 yJ6_bitCount_0f7a4 wsJ6_bitCount_0f7a4) := goodIn_app (goodIn_q _ [(40, 3)] rfl rfl) ggX11_count_J6_bitCount_0f7a4
set_option maxRecDepth 20000 in
theorem ggX11_count_X11_finding : GoodIn wsX11_count wsX11_finding := goodIn_q _ [(50, 4), (21, 3), (54, 10)] rfl gdwsX11_finding
set_option maxRecDepth 20000 in
theorem gX11_count_X11_finding : GoodIn wsX11_count (wsV RX11 68 RX11 yX11_finding wsX11_finding) := goodIn_app (goodIn_q _ [(47, 3), (22, 1)] rfl rfl) ggX11_count_X11_finding
theorem lk_dX11_count_0 : th_dr cX11_count 0 = 27 :: th_dr cX11_count 1 := rfl
theorem dX11_count_0 : decode cX11_count 0 = .ok (.iload_n 1, 1) := (op_27 lk_dX11_count_0 fun _ => True.intro).1
theorem dX11_count_1 : decode cX11_count 1 = .ok (.tableswitch 99 0 6 #[43, 51, 59, 67, 75, 80, 88], 43) := by decide +kernel
set_option maxRecDepth 20000 in
theorem lk_dX11_count_44 : th_dr cX11_count 44 = 42 :: 180 :: 0 :: 10 :: 180 :: 0 :: 72 :: 172 :: 42 :: 180 :: 0 :: 10 :: 180 :: 0 :: 83 :: 172 :: 42 :: 180 :: 0 :: 10 :: 182 :: 1 :: 19 :: 172 :: 42 :: 180 :: 0 :: 21 :: 180 :: 0 :: 213 :: 172 :: th_dr cX11_count 76 := rfl
theorem bl_dX11_count_44 : decode cX11_count 44 = .ok (.aload_n 0, 1) ∧ decode cX11_count 45 = .ok (.getfield 10, 3) ∧ decode cX11_count 48 = .ok (.getfield 72, 3) ∧ decode cX11_count 51 = .ok (.ireturn, 1) ∧ decode cX11_count 52 = .ok (.aload_n 0, 1) ∧ decode cX11_count 53 = .ok (.getfield 10, 3) ∧ decode cX11_count 56 = .ok (.getfield 83, 3) ∧ decode cX11_count 59 = .ok (.ireturn, 1) ∧ decode cX11_count 60 = .ok (.aload_n 0, 1) ∧ decode cX11_count 61 = .ok (.getfield 10, 3) ∧ decode cX11_count 64 = .ok (.invokevirtual 275, 3) ∧ decode cX11_count 67 = .ok (.ireturn, 1) ∧ decode cX11_count 68 = .ok (.aload_n 0, 1) ∧ decode cX11_count 69 = .ok (.getfield 21, 3) ∧ decode cX11_count 72 = .ok (.getfield 213, 3) ∧ decode cX11_count 75 = .ok (.ireturn, 1) := op_42 lk_dX11_count_44 fun e => op_180 e fun e => op_180 e fun e => op_172 e fun e => op_42 e fun e => op_180 e fun e => op_180 e fun e => op_172 e fun e => op_42 e fun e => op_180 e fun e => op_182 e fun e => op_172 e fun e => op_42 e fun e => op_180 e fun e => op_180 e fun e => (op_172 e fun _ => True.intro).1
theorem dX11_count_44 : decode cX11_count 44 = .ok (.aload_n 0, 1) := bl_dX11_count_44.1
theorem dX11_count_45 : decode cX11_count 45 = .ok (.getfield 10, 3) := bl_dX11_count_44.2.1
theorem dX11_count_48 : decode cX11_count 48 = .ok (.getfield 72, 3) := bl_dX11_count_44.2.2.1
theorem dX11_count_51 : decode cX11_count 51 = .ok (.ireturn, 1) := bl_dX11_count_44.2.2.2.1
theorem dX11_count_52 : decode cX11_count 52 = .ok (.aload_n 0, 1) := bl_dX11_count_44.2.2.2.2.1
theorem dX11_count_53 : decode cX11_count 53 = .ok (.getfield 10, 3) := bl_dX11_count_44.2.2.2.2.2.1
theorem dX11_count_56 : decode cX11_count 56 = .ok (.getfield 83, 3) := bl_dX11_count_44.2.2.2.2.2.2.1
theorem dX11_count_59 : decode cX11_count 59 = .ok (.ireturn, 1) := bl_dX11_count_44.2.2.2.2.2.2.2.1
theorem dX11_count_60 : decode cX11_count 60 = .ok (.aload_n 0, 1) := bl_dX11_count_44.2.2.2.2.2.2.2.2.1
theorem dX11_count_61 : decode cX11_count 61 = .ok (.getfield 10, 3) := bl_dX11_count_44.2.2.2.2.2.2.2.2.2.1
theorem dX11_count_64 : decode cX11_count 64 = .ok (.invokevirtual 275, 3) := bl_dX11_count_44.2.2.2.2.2.2.2.2.2.2.1
theorem dX11_count_67 : decode cX11_count 67 = .ok (.ireturn, 1) := bl_dX11_count_44.2.2.2.2.2.2.2.2.2.2.2.1
theorem dX11_count_68 : decode cX11_count 68 = .ok (.aload_n 0, 1) := bl_dX11_count_44.2.2.2.2.2.2.2.2.2.2.2.2.1
theorem dX11_count_69 : decode cX11_count 69 = .ok (.getfield 21, 3) := bl_dX11_count_44.2.2.2.2.2.2.2.2.2.2.2.2.2.1
theorem dX11_count_72 : decode cX11_count 72 = .ok (.getfield 213, 3) := bl_dX11_count_44.2.2.2.2.2.2.2.2.2.2.2.2.2.2.1
theorem dX11_count_75 : decode cX11_count 75 = .ok (.ireturn, 1) := bl_dX11_count_44.2.2.2.2.2.2.2.2.2.2.2.2.2.2.2
set_option maxRecDepth 20000 in
theorem lk_dX11_count_76 : th_dr cX11_count 76 = 42 :: 180 :: 0 :: 53 :: 172 :: 42 :: 180 :: 0 :: 10 :: 182 :: 0 :: 247 :: 172 :: 42 :: 180 :: 0 :: 10 :: 180 :: 0 :: 112 :: 184 :: 0 :: 196 :: 172 :: 42 :: 4 :: 182 :: 0 :: 68 :: 172 :: th_dr cX11_count 106 := rfl
theorem bl_dX11_count_76 : decode cX11_count 76 = .ok (.aload_n 0, 1) ∧ decode cX11_count 77 = .ok (.getfield 53, 3) ∧ decode cX11_count 80 = .ok (.ireturn, 1) ∧ decode cX11_count 81 = .ok (.aload_n 0, 1) ∧ decode cX11_count 82 = .ok (.getfield 10, 3) ∧ decode cX11_count 85 = .ok (.invokevirtual 247, 3) ∧ decode cX11_count 88 = .ok (.ireturn, 1) ∧ decode cX11_count 89 = .ok (.aload_n 0, 1) ∧ decode cX11_count 90 = .ok (.getfield 10, 3) ∧ decode cX11_count 93 = .ok (.getfield 112, 3) ∧ decode cX11_count 96 = .ok (.invokestatic 196, 3) ∧ decode cX11_count 99 = .ok (.ireturn, 1) ∧ decode cX11_count 100 = .ok (.aload_n 0, 1) ∧ decode cX11_count 101 = .ok (.iconst 1, 1) ∧ decode cX11_count 102 = .ok (.invokevirtual 68, 3) ∧ decode cX11_count 105 = .ok (.ireturn, 1) := op_42 lk_dX11_count_76 fun e => op_180 e fun e => op_172 e fun e => op_42 e fun e => op_180 e fun e => op_182 e fun e => op_172 e fun e => op_42 e fun e => op_180 e fun e => op_180 e fun e => op_184 e fun e => op_172 e fun e => op_42 e fun e => op_4 e fun e => op_182 e fun e => (op_172 e fun _ => True.intro).1
theorem dX11_count_76 : decode cX11_count 76 = .ok (.aload_n 0, 1) := bl_dX11_count_76.1
theorem dX11_count_77 : decode cX11_count 77 = .ok (.getfield 53, 3) := bl_dX11_count_76.2.1
theorem dX11_count_80 : decode cX11_count 80 = .ok (.ireturn, 1) := bl_dX11_count_76.2.2.1
theorem dX11_count_81 : decode cX11_count 81 = .ok (.aload_n 0, 1) := bl_dX11_count_76.2.2.2.1
theorem dX11_count_82 : decode cX11_count 82 = .ok (.getfield 10, 3) := bl_dX11_count_76.2.2.2.2.1
theorem dX11_count_85 : decode cX11_count 85 = .ok (.invokevirtual 247, 3) := bl_dX11_count_76.2.2.2.2.2.1
theorem dX11_count_88 : decode cX11_count 88 = .ok (.ireturn, 1) := bl_dX11_count_76.2.2.2.2.2.2.1
theorem dX11_count_89 : decode cX11_count 89 = .ok (.aload_n 0, 1) := bl_dX11_count_76.2.2.2.2.2.2.2.1
theorem dX11_count_90 : decode cX11_count 90 = .ok (.getfield 10, 3) := bl_dX11_count_76.2.2.2.2.2.2.2.2.1
theorem dX11_count_93 : decode cX11_count 93 = .ok (.getfield 112, 3) := bl_dX11_count_76.2.2.2.2.2.2.2.2.2.1
theorem dX11_count_96 : decode cX11_count 96 = .ok (.invokestatic 196, 3) := bl_dX11_count_76.2.2.2.2.2.2.2.2.2.2.1
theorem dX11_count_99 : decode cX11_count 99 = .ok (.ireturn, 1) := bl_dX11_count_76.2.2.2.2.2.2.2.2.2.2.2.1
theorem dX11_count_100 : decode cX11_count 100 = .ok (.aload_n 0, 1) := bl_dX11_count_76.2.2.2.2.2.2.2.2.2.2.2.2.1
theorem dX11_count_101 : decode cX11_count 101 = .ok (.iconst 1, 1) := bl_dX11_count_76.2.2.2.2.2.2.2.2.2.2.2.2.2.1
theorem dX11_count_102 : decode cX11_count 102 = .ok (.invokevirtual 68, 3) := bl_dX11_count_76.2.2.2.2.2.2.2.2.2.2.2.2.2.2.1
theorem dX11_count_105 : decode cX11_count 105 = .ok (.ireturn, 1) := bl_dX11_count_76.2.2.2.2.2.2.2.2.2.2.2.2.2.2.2
set_option maxRecDepth 20000 in
theorem ggX11_found_X11_within : GoodIn wsX11_found wsX11_within := goodIn_q _ [(5, 1)] rfl gdwsX11_within
set_option maxRecDepth 20000 in
theorem gX11_found_X11_within : GoodIn wsX11_found (va_wsS RX11 64 yX11_within wsX11_within) := goodIn_app (goodIn_q _ [(2, 3)] rfl rfl) ggX11_found_X11_within
set_option maxRecDepth 20000 in
theorem ggX11_found_X11_finding : GoodIn wsX11_found wsX11_finding := goodIn_q _ [(9, 1), (1, 1), (10, 1), (2, 4), (11, 10)] rfl gdwsX11_finding
set_option maxRecDepth 20000 in
theorem gX11_found_X11_finding : GoodIn wsX11_found (wsV RX11 68 RX11 yX11_finding wsX11_finding) := goodIn_app (goodIn_q _ [(6, 3), (4, 1)] rfl rfl) ggX11_found_X11_finding
theorem lk_dX11_found_0 : th_dr cX11_found 0 = 27 :: 4 :: 8 :: 184 :: 0 :: 64 :: 154 :: 0 :: 9 :: 42 :: 4 :: 182 :: 0 :: 68 :: 172 :: 42 :: 180 :: 0 :: 46 :: 27 :: 46 :: 172 :: th_dr cX11_found 22 := rfl
theorem bl_dX11_found_0 : decode cX11_found 0 = .ok (.iload_n 1, 1) ∧ decode cX11_found 1 = .ok (.iconst 1, 1) ∧ decode cX11_found 2 = .ok (.iconst 5, 1) ∧ decode cX11_found 3 = .ok (.invokestatic 64, 3) ∧ decode cX11_found 6 = .ok (.ifCond .ne 9, 3) ∧ decode cX11_found 9 = .ok (.aload_n 0, 1) ∧ decode cX11_found 10 = .ok (.iconst 1, 1) ∧ decode cX11_found 11 = .ok (.invokevirtual 68, 3) ∧ decode cX11_found 14 = .ok (.ireturn, 1) ∧ decode cX11_found 15 = .ok (.aload_n 0, 1) ∧ decode cX11_found 16 = .ok (.getfield 46, 3) ∧ decode cX11_found 19 = .ok (.iload_n 1, 1) ∧ decode cX11_found 20 = .ok (.iaload, 1) ∧ decode cX11_found 21 = .ok (.ireturn, 1) := op_27 lk_dX11_found_0 fun e => op_4 e fun e => op_8 e fun e => op_184 e fun e => op_154p e rfl fun e => op_42 e fun e => op_4 e fun e => op_182 e fun e => op_172 e fun e => op_42 e fun e => op_180 e fun e => op_27 e fun e => op_46 e fun e => (op_172 e fun _ => True.intro).1
theorem dX11_found_0 : decode cX11_found 0 = .ok (.iload_n 1, 1) := bl_dX11_found_0.1
theorem dX11_found_1 : decode cX11_found 1 = .ok (.iconst 1, 1) := bl_dX11_found_0.2.1
theorem dX11_found_2 : decode cX11_found 2 = .ok (.iconst 5, 1) := bl_dX11_found_0.2.2.1
theorem dX11_found_3 : decode cX11_found 3 = .ok (.invokestatic 64, 3) := bl_dX11_found_0.2.2.2.1
theorem dX11_found_6 : decode cX11_found 6 = .ok (.ifCond .ne 9, 3) := bl_dX11_found_0.2.2.2.2.1
theorem dX11_found_9 : decode cX11_found 9 = .ok (.aload_n 0, 1) := bl_dX11_found_0.2.2.2.2.2.1
theorem dX11_found_10 : decode cX11_found 10 = .ok (.iconst 1, 1) := bl_dX11_found_0.2.2.2.2.2.2.1
theorem dX11_found_11 : decode cX11_found 11 = .ok (.invokevirtual 68, 3) := bl_dX11_found_0.2.2.2.2.2.2.2.1
theorem dX11_found_14 : decode cX11_found 14 = .ok (.ireturn, 1) := bl_dX11_found_0.2.2.2.2.2.2.2.2.1
theorem dX11_found_15 : decode cX11_found 15 = .ok (.aload_n 0, 1) := bl_dX11_found_0.2.2.2.2.2.2.2.2.2.1
theorem dX11_found_16 : decode cX11_found 16 = .ok (.getfield 46, 3) := bl_dX11_found_0.2.2.2.2.2.2.2.2.2.2.1
theorem dX11_found_19 : decode cX11_found 19 = .ok (.iload_n 1, 1) := bl_dX11_found_0.2.2.2.2.2.2.2.2.2.2.2.1
theorem dX11_found_20 : decode cX11_found 20 = .ok (.iaload, 1) := bl_dX11_found_0.2.2.2.2.2.2.2.2.2.2.2.2.1
theorem dX11_found_21 : decode cX11_found 21 = .ok (.ireturn, 1) := bl_dX11_found_0.2.2.2.2.2.2.2.2.2.2.2.2.2
set_option maxRecDepth 20000 in
theorem ggX11_finding_X11_within : GoodIn wsX11_finding wsX11_within := goodIn_q _ [(6, 1)] rfl gdwsX11_within
set_option maxRecDepth 20000 in
theorem gX11_finding_X11_within : GoodIn wsX11_finding (va_wsS RX11 64 yX11_within wsX11_within) := goodIn_app (goodIn_q _ [(3, 3)] rfl rfl) ggX11_finding_X11_within
theorem lk_dX11_finding_0 : th_dr cX11_finding 0 = 27 :: 4 :: 8 :: 184 :: 0 :: 64 :: 153 :: 0 :: 13 :: 42 :: 180 :: 0 :: 46 :: 27 :: 92 :: 46 :: 4 :: 96 :: 79 :: 19 :: 1 :: 22 :: 27 :: 100 :: th_dr cX11_finding 24 := rfl
theorem bl_dX11_finding_0 : decode cX11_finding 0 = .ok (.iload_n 1, 1) ∧ decode cX11_finding 1 = .ok (.iconst 1, 1) ∧ decode cX11_finding 2 = .ok (.iconst 5, 1) ∧ decode cX11_finding 3 = .ok (.invokestatic 64, 3) ∧ decode cX11_finding 6 = .ok (.ifCond .eq 13, 3) ∧ decode cX11_finding 9 = .ok (.aload_n 0, 1) ∧ decode cX11_finding 10 = .ok (.getfield 46, 3) ∧ decode cX11_finding 13 = .ok (.iload_n 1, 1) ∧ decode cX11_finding 14 = .ok (.dup2, 1) ∧ decode cX11_finding 15 = .ok (.iaload, 1) ∧ decode cX11_finding 16 = .ok (.iconst 1, 1) ∧ decode cX11_finding 17 = .ok (.iadd, 1) ∧ decode cX11_finding 18 = .ok (.iastore, 1) ∧ decode cX11_finding 19 = .ok (.ldc_w 278, 3) ∧ decode cX11_finding 22 = .ok (.iload_n 1, 1) ∧ decode cX11_finding 23 = .ok (.isub, 1) := op_27 lk_dX11_finding_0 fun e => op_4 e fun e => op_8 e fun e => op_184 e fun e => op_153p e rfl fun e => op_42 e fun e => op_180 e fun e => op_27 e fun e => op_92 e fun e => op_46 e fun e => op_4 e fun e => op_96 e fun e => op_79 e fun e => op_19 e fun e => op_27 e fun e => (op_100 e fun _ => True.intro).1
theorem dX11_finding_0 : decode cX11_finding 0 = .ok (.iload_n 1, 1) := bl_dX11_finding_0.1
theorem dX11_finding_1 : decode cX11_finding 1 = .ok (.iconst 1, 1) := bl_dX11_finding_0.2.1
theorem dX11_finding_2 : decode cX11_finding 2 = .ok (.iconst 5, 1) := bl_dX11_finding_0.2.2.1
theorem dX11_finding_3 : decode cX11_finding 3 = .ok (.invokestatic 64, 3) := bl_dX11_finding_0.2.2.2.1
theorem dX11_finding_6 : decode cX11_finding 6 = .ok (.ifCond .eq 13, 3) := bl_dX11_finding_0.2.2.2.2.1
theorem dX11_finding_9 : decode cX11_finding 9 = .ok (.aload_n 0, 1) := bl_dX11_finding_0.2.2.2.2.2.1
theorem dX11_finding_10 : decode cX11_finding 10 = .ok (.getfield 46, 3) := bl_dX11_finding_0.2.2.2.2.2.2.1
theorem dX11_finding_13 : decode cX11_finding 13 = .ok (.iload_n 1, 1) := bl_dX11_finding_0.2.2.2.2.2.2.2.1
theorem dX11_finding_14 : decode cX11_finding 14 = .ok (.dup2, 1) := bl_dX11_finding_0.2.2.2.2.2.2.2.2.1
theorem dX11_finding_15 : decode cX11_finding 15 = .ok (.iaload, 1) := bl_dX11_finding_0.2.2.2.2.2.2.2.2.2.1
theorem dX11_finding_16 : decode cX11_finding 16 = .ok (.iconst 1, 1) := bl_dX11_finding_0.2.2.2.2.2.2.2.2.2.2.1
theorem dX11_finding_17 : decode cX11_finding 17 = .ok (.iadd, 1) := bl_dX11_finding_0.2.2.2.2.2.2.2.2.2.2.2.1
theorem dX11_finding_18 : decode cX11_finding 18 = .ok (.iastore, 1) := bl_dX11_finding_0.2.2.2.2.2.2.2.2.2.2.2.2.1
theorem dX11_finding_19 : decode cX11_finding 19 = .ok (.ldc_w 278, 3) := bl_dX11_finding_0.2.2.2.2.2.2.2.2.2.2.2.2.2.1
theorem dX11_finding_22 : decode cX11_finding 22 = .ok (.iload_n 1, 1) := bl_dX11_finding_0.2.2.2.2.2.2.2.2.2.2.2.2.2.2.1
theorem dX11_finding_23 : decode cX11_finding 23 = .ok (.isub, 1) := bl_dX11_finding_0.2.2.2.2.2.2.2.2.2.2.2.2.2.2.2
theorem lk_dX11_finding_24 : th_dr cX11_finding 24 = 172 :: th_dr cX11_finding 25 := rfl
theorem dX11_finding_24 : decode cX11_finding 24 = .ok (.ireturn, 1) := (op_172 lk_dX11_finding_24 fun _ => True.intro).1
set_option maxRecDepth 20000 in
theorem ggX11_offeredBoat_X0_buoyAt : GoodIn wsX11_offeredBoat wsX0_buoyAt := goodIn_q _ [(8, 6), (147, 9)] rfl gdwsX0_buoyAt
set_option maxRecDepth 20000 in
theorem gX11_offeredBoat_X0_buoyAt : GoodIn wsX11_offeredBoat (wsV RX11 137 RX0 yX0_buoyAt wsX0_buoyAt) := goodIn_app (goodIn_q _ [(4, 4)] rfl rfl) ggX11_offeredBoat_X0_buoyAt
set_option maxRecDepth 20000 in
theorem ggX11_offeredBoat_X11_finding : GoodIn wsX11_offeredBoat wsX11_finding := goodIn_q _ [(17, 4), (11, 3), (137, 10)] rfl gdwsX11_finding
set_option maxRecDepth 20000 in
theorem gX11_offeredBoat_X11_finding : GoodIn wsX11_offeredBoat (wsV RX11 68 RX11 yX11_finding wsX11_finding) := goodIn_app (goodIn_q _ [(14, 3), (12, 1)] rfl rfl) ggX11_offeredBoat_X11_finding
set_option maxRecDepth 20000 in
theorem ggX11_offeredBoat_X1_boatOf : GoodIn wsX11_offeredBoat wsX1_boatOf := goodIn_q _ [(25, 2), (11, 3), (156, 2)] rfl gdwsX1_boatOf
set_option maxRecDepth 20000 in
theorem gX11_offeredBoat_X1_boatOf : GoodIn wsX11_offeredBoat (wsV RX11 155 RX1 yX1_boatOf wsX1_boatOf) := goodIn_app (goodIn_q _ [(21, 4)] rfl rfl) ggX11_offeredBoat_X1_boatOf
set_option maxRecDepth 20000 in
theorem gdwsX10_firstFor : wsX10_firstFor.all goodWord = true := by decide +kernel
set_option maxRecDepth 20000 in
theorem ggX11_offeredBoat_X10_firstFor : GoodIn wsX11_offeredBoat wsX10_firstFor := goodIn_q _ [(31, 9), (7, 1), (40, 3), (11, 3), (43, 16), (22, 5), (59, 29), (5, 2), (8, 3), (88, 49), (158, 11), (147, 9), (169, 18), (156, 2)] rfl gdwsX10_firstFor
set_option maxRecDepth 20000 in
theorem gX11_offeredBoat_X10_firstFor : GoodIn wsX11_offeredBoat (wsV RX11 279 RX10 yX10_firstFor wsX10_firstFor) := goodIn_app (goodIn_q _ [(27, 4)] rfl rfl) ggX11_offeredBoat_X10_firstFor
theorem lk_dX11_offeredBoat_0 : th_dr cX11_offeredBoat 0 = 42 :: 180 :: 0 :: 10 :: 27 :: 182 :: 0 :: 137 :: 77 :: 44 :: 199 :: 0 :: 9 :: 42 :: 4 :: 182 :: 0 :: 68 :: 172 :: 42 :: 180 :: 0 :: 10 :: 180 :: 0 :: 125 :: 27 :: 182 :: 0 :: 155 :: th_dr cX11_offeredBoat 30 := rfl
theorem bl_dX11_offeredBoat_0 : decode cX11_offeredBoat 0 = .ok (.aload_n 0, 1) ∧ decode cX11_offeredBoat 1 = .ok (.getfield 10, 3) ∧ decode cX11_offeredBoat 4 = .ok (.iload_n 1, 1) ∧ decode cX11_offeredBoat 5 = .ok (.invokevirtual 137, 3) ∧ decode cX11_offeredBoat 8 = .ok (.astore_n 2, 1) ∧ decode cX11_offeredBoat 9 = .ok (.aload_n 2, 1) ∧ decode cX11_offeredBoat 10 = .ok (.ifnonnull 9, 3) ∧ decode cX11_offeredBoat 13 = .ok (.aload_n 0, 1) ∧ decode cX11_offeredBoat 14 = .ok (.iconst 1, 1) ∧ decode cX11_offeredBoat 15 = .ok (.invokevirtual 68, 3) ∧ decode cX11_offeredBoat 18 = .ok (.ireturn, 1) ∧ decode cX11_offeredBoat 19 = .ok (.aload_n 0, 1) ∧ decode cX11_offeredBoat 20 = .ok (.getfield 10, 3) ∧ decode cX11_offeredBoat 23 = .ok (.getfield 125, 3) ∧ decode cX11_offeredBoat 26 = .ok (.iload_n 1, 1) ∧ decode cX11_offeredBoat 27 = .ok (.invokevirtual 155, 3) := op_42 lk_dX11_offeredBoat_0 fun e => op_180 e fun e => op_27 e fun e => op_182 e fun e => op_77 e fun e => op_44 e fun e => op_199p e rfl fun e => op_42 e fun e => op_4 e fun e => op_182 e fun e => op_172 e fun e => op_42 e fun e => op_180 e fun e => op_180 e fun e => op_27 e fun e => (op_182 e fun _ => True.intro).1
theorem dX11_offeredBoat_0 : decode cX11_offeredBoat 0 = .ok (.aload_n 0, 1) := bl_dX11_offeredBoat_0.1
theorem dX11_offeredBoat_1 : decode cX11_offeredBoat 1 = .ok (.getfield 10, 3) := bl_dX11_offeredBoat_0.2.1
theorem dX11_offeredBoat_4 : decode cX11_offeredBoat 4 = .ok (.iload_n 1, 1) := bl_dX11_offeredBoat_0.2.2.1
theorem dX11_offeredBoat_5 : decode cX11_offeredBoat 5 = .ok (.invokevirtual 137, 3) := bl_dX11_offeredBoat_0.2.2.2.1
theorem dX11_offeredBoat_8 : decode cX11_offeredBoat 8 = .ok (.astore_n 2, 1) := bl_dX11_offeredBoat_0.2.2.2.2.1
theorem dX11_offeredBoat_9 : decode cX11_offeredBoat 9 = .ok (.aload_n 2, 1) := bl_dX11_offeredBoat_0.2.2.2.2.2.1
theorem dX11_offeredBoat_10 : decode cX11_offeredBoat 10 = .ok (.ifnonnull 9, 3) := bl_dX11_offeredBoat_0.2.2.2.2.2.2.1
theorem dX11_offeredBoat_13 : decode cX11_offeredBoat 13 = .ok (.aload_n 0, 1) := bl_dX11_offeredBoat_0.2.2.2.2.2.2.2.1
theorem dX11_offeredBoat_14 : decode cX11_offeredBoat 14 = .ok (.iconst 1, 1) := bl_dX11_offeredBoat_0.2.2.2.2.2.2.2.2.1
theorem dX11_offeredBoat_15 : decode cX11_offeredBoat 15 = .ok (.invokevirtual 68, 3) := bl_dX11_offeredBoat_0.2.2.2.2.2.2.2.2.2.1
theorem dX11_offeredBoat_18 : decode cX11_offeredBoat 18 = .ok (.ireturn, 1) := bl_dX11_offeredBoat_0.2.2.2.2.2.2.2.2.2.2.1
theorem dX11_offeredBoat_19 : decode cX11_offeredBoat 19 = .ok (.aload_n 0, 1) := bl_dX11_offeredBoat_0.2.2.2.2.2.2.2.2.2.2.2.1
theorem dX11_offeredBoat_20 : decode cX11_offeredBoat 20 = .ok (.getfield 10, 3) := bl_dX11_offeredBoat_0.2.2.2.2.2.2.2.2.2.2.2.2.1
theorem dX11_offeredBoat_23 : decode cX11_offeredBoat 23 = .ok (.getfield 125, 3) := bl_dX11_offeredBoat_0.2.2.2.2.2.2.2.2.2.2.2.2.2.1
theorem dX11_offeredBoat_26 : decode cX11_offeredBoat 26 = .ok (.iload_n 1, 1) := bl_dX11_offeredBoat_0.2.2.2.2.2.2.2.2.2.2.2.2.2.2.1
theorem dX11_offeredBoat_27 : decode cX11_offeredBoat 27 = .ok (.invokevirtual 155, 3) := bl_dX11_offeredBoat_0.2.2.2.2.2.2.2.2.2.2.2.2.2.2.2
theorem lk_dX11_offeredBoat_30 : th_dr cX11_offeredBoat 30 = 2 :: 159 :: 0 :: 9 :: 42 :: 6 :: 182 :: 0 :: 68 :: 172 :: 42 :: 180 :: 0 :: 21 :: 44 :: 182 :: 1 :: 23 :: 62 :: 29 :: 2 :: 160 :: 0 :: 11 :: 42 :: 5 :: th_dr cX11_offeredBoat 56 := rfl
theorem bl_dX11_offeredBoat_30 : decode cX11_offeredBoat 30 = .ok (.iconst (-1), 1) ∧ decode cX11_offeredBoat 31 = .ok (.if_icmp .eq 9, 3) ∧ decode cX11_offeredBoat 34 = .ok (.aload_n 0, 1) ∧ decode cX11_offeredBoat 35 = .ok (.iconst 3, 1) ∧ decode cX11_offeredBoat 36 = .ok (.invokevirtual 68, 3) ∧ decode cX11_offeredBoat 39 = .ok (.ireturn, 1) ∧ decode cX11_offeredBoat 40 = .ok (.aload_n 0, 1) ∧ decode cX11_offeredBoat 41 = .ok (.getfield 21, 3) ∧ decode cX11_offeredBoat 44 = .ok (.aload_n 2, 1) ∧ decode cX11_offeredBoat 45 = .ok (.invokevirtual 279, 3) ∧ decode cX11_offeredBoat 48 = .ok (.istore_n 3, 1) ∧ decode cX11_offeredBoat 49 = .ok (.iload_n 3, 1) ∧ decode cX11_offeredBoat 50 = .ok (.iconst (-1), 1) ∧ decode cX11_offeredBoat 51 = .ok (.if_icmp .ne 11, 3) ∧ decode cX11_offeredBoat 54 = .ok (.aload_n 0, 1) ∧ decode cX11_offeredBoat 55 = .ok (.iconst 2, 1) := op_2 lk_dX11_offeredBoat_30 fun e => op_159p e rfl fun e => op_42 e fun e => op_6 e fun e => op_182 e fun e => op_172 e fun e => op_42 e fun e => op_180 e fun e => op_44 e fun e => op_182 e fun e => op_62 e fun e => op_29 e fun e => op_2 e fun e => op_160p e rfl fun e => op_42 e fun e => (op_5 e fun _ => True.intro).1
theorem dX11_offeredBoat_30 : decode cX11_offeredBoat 30 = .ok (.iconst (-1), 1) := bl_dX11_offeredBoat_30.1
theorem dX11_offeredBoat_31 : decode cX11_offeredBoat 31 = .ok (.if_icmp .eq 9, 3) := bl_dX11_offeredBoat_30.2.1
theorem dX11_offeredBoat_34 : decode cX11_offeredBoat 34 = .ok (.aload_n 0, 1) := bl_dX11_offeredBoat_30.2.2.1
theorem dX11_offeredBoat_35 : decode cX11_offeredBoat 35 = .ok (.iconst 3, 1) := bl_dX11_offeredBoat_30.2.2.2.1
theorem dX11_offeredBoat_36 : decode cX11_offeredBoat 36 = .ok (.invokevirtual 68, 3) := bl_dX11_offeredBoat_30.2.2.2.2.1
theorem dX11_offeredBoat_39 : decode cX11_offeredBoat 39 = .ok (.ireturn, 1) := bl_dX11_offeredBoat_30.2.2.2.2.2.1
theorem dX11_offeredBoat_40 : decode cX11_offeredBoat 40 = .ok (.aload_n 0, 1) := bl_dX11_offeredBoat_30.2.2.2.2.2.2.1
theorem dX11_offeredBoat_41 : decode cX11_offeredBoat 41 = .ok (.getfield 21, 3) := bl_dX11_offeredBoat_30.2.2.2.2.2.2.2.1
theorem dX11_offeredBoat_44 : decode cX11_offeredBoat 44 = .ok (.aload_n 2, 1) := bl_dX11_offeredBoat_30.2.2.2.2.2.2.2.2.1
theorem dX11_offeredBoat_45 : decode cX11_offeredBoat 45 = .ok (.invokevirtual 279, 3) := bl_dX11_offeredBoat_30.2.2.2.2.2.2.2.2.2.1
theorem dX11_offeredBoat_48 : decode cX11_offeredBoat 48 = .ok (.istore_n 3, 1) := bl_dX11_offeredBoat_30.2.2.2.2.2.2.2.2.2.2.1
theorem dX11_offeredBoat_49 : decode cX11_offeredBoat 49 = .ok (.iload_n 3, 1) := bl_dX11_offeredBoat_30.2.2.2.2.2.2.2.2.2.2.2.1
theorem dX11_offeredBoat_50 : decode cX11_offeredBoat 50 = .ok (.iconst (-1), 1) := bl_dX11_offeredBoat_30.2.2.2.2.2.2.2.2.2.2.2.2.1
theorem dX11_offeredBoat_51 : decode cX11_offeredBoat 51 = .ok (.if_icmp .ne 11, 3) := bl_dX11_offeredBoat_30.2.2.2.2.2.2.2.2.2.2.2.2.2.1
theorem dX11_offeredBoat_54 : decode cX11_offeredBoat 54 = .ok (.aload_n 0, 1) := bl_dX11_offeredBoat_30.2.2.2.2.2.2.2.2.2.2.2.2.2.2.1
theorem dX11_offeredBoat_55 : decode cX11_offeredBoat 55 = .ok (.iconst 2, 1) := bl_dX11_offeredBoat_30.2.2.2.2.2.2.2.2.2.2.2.2.2.2.2
set_option maxRecDepth 20000 in
theorem lk_dX11_offeredBoat_56 : th_dr cX11_offeredBoat 56 = 182 :: 0 :: 68 :: 167 :: 0 :: 4 :: 29 :: 172 :: th_dr cX11_offeredBoat 64 := rfl
theorem bl_dX11_offeredBoat_56 : decode cX11_offeredBoat 56 = .ok (.invokevirtual 68, 3) ∧ decode cX11_offeredBoat 59 = .ok (.goto 4, 3) ∧ decode cX11_offeredBoat 62 = .ok (.iload_n 3, 1) ∧ decode cX11_offeredBoat 63 = .ok (.ireturn, 1) := op_182 lk_dX11_offeredBoat_56 fun e => op_167p e rfl fun e => op_29 e fun e => (op_172 e fun _ => True.intro).1
theorem dX11_offeredBoat_56 : decode cX11_offeredBoat 56 = .ok (.invokevirtual 68, 3) := bl_dX11_offeredBoat_56.1
theorem dX11_offeredBoat_59 : decode cX11_offeredBoat 59 = .ok (.goto 4, 3) := bl_dX11_offeredBoat_56.2.1
theorem dX11_offeredBoat_62 : decode cX11_offeredBoat 62 = .ok (.iload_n 3, 1) := bl_dX11_offeredBoat_56.2.2.1
theorem dX11_offeredBoat_63 : decode cX11_offeredBoat 63 = .ok (.ireturn, 1) := bl_dX11_offeredBoat_56.2.2.2
theorem lk_dX11_within_0 : th_dr cX11_within 0 = 26 :: 27 :: 161 :: 0 :: 12 :: 26 :: 28 :: 163 :: 0 :: 7 :: 4 :: 167 :: 0 :: 4 :: 3 :: 172 :: th_dr cX11_within 16 := rfl
theorem bl_dX11_within_0 : decode cX11_within 0 = .ok (.iload_n 0, 1) ∧ decode cX11_within 1 = .ok (.iload_n 1, 1) ∧ decode cX11_within 2 = .ok (.if_icmp .lt 12, 3) ∧ decode cX11_within 5 = .ok (.iload_n 0, 1) ∧ decode cX11_within 6 = .ok (.iload_n 2, 1) ∧ decode cX11_within 7 = .ok (.if_icmp .gt 7, 3) ∧ decode cX11_within 10 = .ok (.iconst 1, 1) ∧ decode cX11_within 11 = .ok (.goto 4, 3) ∧ decode cX11_within 14 = .ok (.iconst 0, 1) ∧ decode cX11_within 15 = .ok (.ireturn, 1) := op_26 lk_dX11_within_0 fun e => op_27 e fun e => op_161p e rfl fun e => op_26 e fun e => op_28 e fun e => op_163p e rfl fun e => op_4 e fun e => op_167p e rfl fun e => op_3 e fun e => (op_172 e fun _ => True.intro).1
theorem dX11_within_0 : decode cX11_within 0 = .ok (.iload_n 0, 1) := bl_dX11_within_0.1
theorem dX11_within_1 : decode cX11_within 1 = .ok (.iload_n 1, 1) := bl_dX11_within_0.2.1
theorem dX11_within_2 : decode cX11_within 2 = .ok (.if_icmp .lt 12, 3) := bl_dX11_within_0.2.2.1
theorem dX11_within_5 : decode cX11_within 5 = .ok (.iload_n 0, 1) := bl_dX11_within_0.2.2.2.1
theorem dX11_within_6 : decode cX11_within 6 = .ok (.iload_n 2, 1) := bl_dX11_within_0.2.2.2.2.1
theorem dX11_within_7 : decode cX11_within 7 = .ok (.if_icmp .gt 7, 3) := bl_dX11_within_0.2.2.2.2.2.1
theorem dX11_within_10 : decode cX11_within 10 = .ok (.iconst 1, 1) := bl_dX11_within_0.2.2.2.2.2.2.1
theorem dX11_within_11 : decode cX11_within 11 = .ok (.goto 4, 3) := bl_dX11_within_0.2.2.2.2.2.2.2.1
theorem dX11_within_14 : decode cX11_within 14 = .ok (.iconst 0, 1) := bl_dX11_within_0.2.2.2.2.2.2.2.2.1
theorem dX11_within_15 : decode cX11_within 15 = .ok (.ireturn, 1) := bl_dX11_within_0.2.2.2.2.2.2.2.2.2
set_option maxRecDepth 20000 in
theorem ggX11_isKind_X11_within : GoodIn wsX11_isKind wsX11_within := goodIn_q _ [(4, 1)] rfl gdwsX11_within
set_option maxRecDepth 20000 in
theorem gX11_isKind_X11_within : GoodIn wsX11_isKind (va_wsS RX11 64 yX11_within wsX11_within) := goodIn_app (goodIn_q _ [(1, 3)] rfl rfl) ggX11_isKind_X11_within
theorem lk_dX11_isKind_0 : th_dr cX11_isKind 0 = 26 :: 3 :: 5 :: 184 :: 0 :: 64 :: 172 :: th_dr cX11_isKind 7 := rfl
theorem bl_dX11_isKind_0 : decode cX11_isKind 0 = .ok (.iload_n 0, 1) ∧ decode cX11_isKind 1 = .ok (.iconst 0, 1) ∧ decode cX11_isKind 2 = .ok (.iconst 2, 1) ∧ decode cX11_isKind 3 = .ok (.invokestatic 64, 3) ∧ decode cX11_isKind 6 = .ok (.ireturn, 1) := op_26 lk_dX11_isKind_0 fun e => op_3 e fun e => op_5 e fun e => op_184 e fun e => (op_172 e fun _ => True.intro).1
theorem dX11_isKind_0 : decode cX11_isKind 0 = .ok (.iload_n 0, 1) := bl_dX11_isKind_0.1
theorem dX11_isKind_1 : decode cX11_isKind 1 = .ok (.iconst 0, 1) := bl_dX11_isKind_0.2.1
theorem dX11_isKind_2 : decode cX11_isKind 2 = .ok (.iconst 2, 1) := bl_dX11_isKind_0.2.2.1
theorem dX11_isKind_3 : decode cX11_isKind 3 = .ok (.invokestatic 64, 3) := bl_dX11_isKind_0.2.2.2.1
theorem dX11_isKind_6 : decode cX11_isKind 6 = .ok (.ireturn, 1) := bl_dX11_isKind_0.2.2.2.2
set_option maxRecDepth 20000 in
theorem ggX11_isHour_X11_within : GoodIn wsX11_isHour wsX11_within := goodIn_q _ [(4, 1)] rfl gdwsX11_within
set_option maxRecDepth 20000 in
theorem gX11_isHour_X11_within : GoodIn wsX11_isHour (va_wsS RX11 64 yX11_within wsX11_within) := goodIn_app (goodIn_q _ [(1, 3)] rfl rfl) ggX11_isHour_X11_within
theorem lk_dX11_isHour_0 : th_dr cX11_isHour 0 = 26 :: 3 :: 16 :: 23 :: 184 :: 0 :: 64 :: 172 :: th_dr cX11_isHour 8 := rfl
theorem bl_dX11_isHour_0 : decode cX11_isHour 0 = .ok (.iload_n 0, 1) ∧ decode cX11_isHour 1 = .ok (.iconst 0, 1) ∧ decode cX11_isHour 2 = .ok (.bipush 23, 2) ∧ decode cX11_isHour 4 = .ok (.invokestatic 64, 3) ∧ decode cX11_isHour 7 = .ok (.ireturn, 1) := op_26 lk_dX11_isHour_0 fun e => op_3 e fun e => op_16p e rfl fun e => op_184 e fun e => (op_172 e fun _ => True.intro).1
theorem dX11_isHour_0 : decode cX11_isHour 0 = .ok (.iload_n 0, 1) := bl_dX11_isHour_0.1
theorem dX11_isHour_1 : decode cX11_isHour 1 = .ok (.iconst 0, 1) := bl_dX11_isHour_0.2.1
theorem dX11_isHour_2 : decode cX11_isHour 2 = .ok (.bipush 23, 2) := bl_dX11_isHour_0.2.2.1
theorem dX11_isHour_4 : decode cX11_isHour 4 = .ok (.invokestatic 64, 3) := bl_dX11_isHour_0.2.2.2.1
theorem dX11_isHour_7 : decode cX11_isHour 7 = .ok (.ireturn, 1) := bl_dX11_isHour_0.2.2.2.2
set_option maxRecDepth 20000 in
theorem ggX11_isFlag_X11_within : GoodIn wsX11_isFlag wsX11_within := goodIn_q _ [(4, 1)] rfl gdwsX11_within
set_option maxRecDepth 20000 in
theorem gX11_isFlag_X11_within : GoodIn wsX11_isFlag (va_wsS RX11 64 yX11_within wsX11_within) := goodIn_app (goodIn_q _ [(1, 3)] rfl rfl) ggX11_isFlag_X11_within
theorem lk_dX11_isFlag_0 : th_dr cX11_isFlag 0 = 26 :: 3 :: 4 :: 184 :: 0 :: 64 :: 172 :: th_dr cX11_isFlag 7 := rfl
theorem bl_dX11_isFlag_0 : decode cX11_isFlag 0 = .ok (.iload_n 0, 1) ∧ decode cX11_isFlag 1 = .ok (.iconst 0, 1) ∧ decode cX11_isFlag 2 = .ok (.iconst 1, 1) ∧ decode cX11_isFlag 3 = .ok (.invokestatic 64, 3) ∧ decode cX11_isFlag 6 = .ok (.ireturn, 1) := op_26 lk_dX11_isFlag_0 fun e => op_3 e fun e => op_4 e fun e => op_184 e fun e => (op_172 e fun _ => True.intro).1
theorem dX11_isFlag_0 : decode cX11_isFlag 0 = .ok (.iload_n 0, 1) := bl_dX11_isFlag_0.1
theorem dX11_isFlag_1 : decode cX11_isFlag 1 = .ok (.iconst 0, 1) := bl_dX11_isFlag_0.2.1
theorem dX11_isFlag_2 : decode cX11_isFlag 2 = .ok (.iconst 1, 1) := bl_dX11_isFlag_0.2.2.1
theorem dX11_isFlag_3 : decode cX11_isFlag 3 = .ok (.invokestatic 64, 3) := bl_dX11_isFlag_0.2.2.2.1
theorem dX11_isFlag_6 : decode cX11_isFlag 6 = .ok (.ireturn, 1) := bl_dX11_isFlag_0.2.2.2.2
set_option maxRecDepth 20000 in
theorem ggX11_isForce_X11_within : GoodIn wsX11_isForce wsX11_within := goodIn_q _ [(4, 1)] rfl gdwsX11_within
set_option maxRecDepth 20000 in
theorem gX11_isForce_X11_within : GoodIn wsX11_isForce (va_wsS RX11 64 yX11_within wsX11_within) := goodIn_app (goodIn_q _ [(1, 3)] rfl rfl) ggX11_isForce_X11_within
theorem lk_dX11_isForce_0 : th_dr cX11_isForce 0 = 26 :: 4 :: 16 :: 100 :: 184 :: 0 :: 64 :: 172 :: th_dr cX11_isForce 8 := rfl
theorem bl_dX11_isForce_0 : decode cX11_isForce 0 = .ok (.iload_n 0, 1) ∧ decode cX11_isForce 1 = .ok (.iconst 1, 1) ∧ decode cX11_isForce 2 = .ok (.bipush 100, 2) ∧ decode cX11_isForce 4 = .ok (.invokestatic 64, 3) ∧ decode cX11_isForce 7 = .ok (.ireturn, 1) := op_26 lk_dX11_isForce_0 fun e => op_4 e fun e => op_16p e rfl fun e => op_184 e fun e => (op_172 e fun _ => True.intro).1
theorem dX11_isForce_0 : decode cX11_isForce 0 = .ok (.iload_n 0, 1) := bl_dX11_isForce_0.1
theorem dX11_isForce_1 : decode cX11_isForce 1 = .ok (.iconst 1, 1) := bl_dX11_isForce_0.2.1
theorem dX11_isForce_2 : decode cX11_isForce 2 = .ok (.bipush 100, 2) := bl_dX11_isForce_0.2.2.1
theorem dX11_isForce_4 : decode cX11_isForce 4 = .ok (.invokestatic 64, 3) := bl_dX11_isForce_0.2.2.2.1
theorem dX11_isForce_7 : decode cX11_isForce 7 = .ok (.ireturn, 1) := bl_dX11_isForce_0.2.2.2.2
theorem lk_dX12_init_0 : th_dr cX12_init 0 = 42 :: 183 :: 0 :: 3 :: 42 :: 16 :: 12 :: 188 :: 10 :: 181 :: 0 :: 9 :: 42 :: 16 :: 12 :: 188 :: 10 :: 181 :: 0 :: 13 :: 42 :: 16 :: 12 :: 188 :: 10 :: 181 :: 0 :: 16 :: 42 :: 16 :: 12 :: th_dr cX12_init 31 := rfl
theorem bl_dX12_init_0 : decode cX12_init 0 = .ok (.aload_n 0, 1) ∧ decode cX12_init 1 = .ok (.invokespecial 3, 3) ∧ decode cX12_init 4 = .ok (.aload_n 0, 1) ∧ decode cX12_init 5 = .ok (.bipush 12, 2) ∧ decode cX12_init 7 = .ok (.newarray .int, 2) ∧ decode cX12_init 9 = .ok (.putfield 9, 3) ∧ decode cX12_init 12 = .ok (.aload_n 0, 1) ∧ decode cX12_init 13 = .ok (.bipush 12, 2) ∧ decode cX12_init 15 = .ok (.newarray .int, 2) ∧ decode cX12_init 17 = .ok (.putfield 13, 3) ∧ decode cX12_init 20 = .ok (.aload_n 0, 1) ∧ decode cX12_init 21 = .ok (.bipush 12, 2) ∧ decode cX12_init 23 = .ok (.newarray .int, 2) ∧ decode cX12_init 25 = .ok (.putfield 16, 3) ∧ decode cX12_init 28 = .ok (.aload_n 0, 1) ∧ decode cX12_init 29 = .ok (.bipush 12, 2) := op_42 lk_dX12_init_0 fun e => op_183 e fun e => op_42 e fun e => op_16p e rfl fun e => op_188_10 e fun e => op_181 e fun e => op_42 e fun e => op_16p e rfl fun e => op_188_10 e fun e => op_181 e fun e => op_42 e fun e => op_16p e rfl fun e => op_188_10 e fun e => op_181 e fun e => op_42 e fun e => (op_16p e rfl fun _ => True.intro).1
theorem dX12_init_0 : decode cX12_init 0 = .ok (.aload_n 0, 1) := bl_dX12_init_0.1
theorem dX12_init_1 : decode cX12_init 1 = .ok (.invokespecial 3, 3) := bl_dX12_init_0.2.1
theorem dX12_init_4 : decode cX12_init 4 = .ok (.aload_n 0, 1) := bl_dX12_init_0.2.2.1
theorem dX12_init_5 : decode cX12_init 5 = .ok (.bipush 12, 2) := bl_dX12_init_0.2.2.2.1
theorem dX12_init_7 : decode cX12_init 7 = .ok (.newarray .int, 2) := bl_dX12_init_0.2.2.2.2.1
theorem dX12_init_9 : decode cX12_init 9 = .ok (.putfield 9, 3) := bl_dX12_init_0.2.2.2.2.2.1
theorem dX12_init_12 : decode cX12_init 12 = .ok (.aload_n 0, 1) := bl_dX12_init_0.2.2.2.2.2.2.1
theorem dX12_init_13 : decode cX12_init 13 = .ok (.bipush 12, 2) := bl_dX12_init_0.2.2.2.2.2.2.2.1
theorem dX12_init_15 : decode cX12_init 15 = .ok (.newarray .int, 2) := bl_dX12_init_0.2.2.2.2.2.2.2.2.1
theorem dX12_init_17 : decode cX12_init 17 = .ok (.putfield 13, 3) := bl_dX12_init_0.2.2.2.2.2.2.2.2.2.1
theorem dX12_init_20 : decode cX12_init 20 = .ok (.aload_n 0, 1) := bl_dX12_init_0.2.2.2.2.2.2.2.2.2.2.1
theorem dX12_init_21 : decode cX12_init 21 = .ok (.bipush 12, 2) := bl_dX12_init_0.2.2.2.2.2.2.2.2.2.2.2.1
theorem dX12_init_23 : decode cX12_init 23 = .ok (.newarray .int, 2) := bl_dX12_init_0.2.2.2.2.2.2.2.2.2.2.2.2.1
theorem dX12_init_25 : decode cX12_init 25 = .ok (.putfield 16, 3) := bl_dX12_init_0.2.2.2.2.2.2.2.2.2.2.2.2.2.1
theorem dX12_init_28 : decode cX12_init 28 = .ok (.aload_n 0, 1) := bl_dX12_init_0.2.2.2.2.2.2.2.2.2.2.2.2.2.2.1
theorem dX12_init_29 : decode cX12_init 29 = .ok (.bipush 12, 2) := bl_dX12_init_0.2.2.2.2.2.2.2.2.2.2.2.2.2.2.2
set_option maxRecDepth 20000 in
theorem lk_dX12_init_31 : th_dr cX12_init 31 = 188 :: 10 :: 181 :: 0 :: 19 :: 42 :: 16 :: 12 :: 188 :: 10 :: 181 :: 0 :: 22 :: 42 :: 16 :: 12 :: 188 :: 10 :: 181 :: 0 :: 25 :: 42 :: 16 :: 12 :: 188 :: 10 :: 181 :: 0 :: 28 :: 42 :: 16 :: 16 :: th_dr cX12_init 63 := rfl
theorem bl_dX12_init_31 : decode cX12_init 31 = .ok (.newarray .int, 2) ∧ decode cX12_init 33 = .ok (.putfield 19, 3) ∧ decode cX12_init 36 = .ok (.aload_n 0, 1) ∧ decode cX12_init 37 = .ok (.bipush 12, 2) ∧ decode cX12_init 39 = .ok (.newarray .int, 2) ∧ decode cX12_init 41 = .ok (.putfield 22, 3) ∧ decode cX12_init 44 = .ok (.aload_n 0, 1) ∧ decode cX12_init 45 = .ok (.bipush 12, 2) ∧ decode cX12_init 47 = .ok (.newarray .int, 2) ∧ decode cX12_init 49 = .ok (.putfield 25, 3) ∧ decode cX12_init 52 = .ok (.aload_n 0, 1) ∧ decode cX12_init 53 = .ok (.bipush 12, 2) ∧ decode cX12_init 55 = .ok (.newarray .int, 2) ∧ decode cX12_init 57 = .ok (.putfield 28, 3) ∧ decode cX12_init 60 = .ok (.aload_n 0, 1) ∧ decode cX12_init 61 = .ok (.bipush 16, 2) := op_188_10 lk_dX12_init_31 fun e => op_181 e fun e => op_42 e fun e => op_16p e rfl fun e => op_188_10 e fun e => op_181 e fun e => op_42 e fun e => op_16p e rfl fun e => op_188_10 e fun e => op_181 e fun e => op_42 e fun e => op_16p e rfl fun e => op_188_10 e fun e => op_181 e fun e => op_42 e fun e => (op_16p e rfl fun _ => True.intro).1
theorem dX12_init_31 : decode cX12_init 31 = .ok (.newarray .int, 2) := bl_dX12_init_31.1
theorem dX12_init_33 : decode cX12_init 33 = .ok (.putfield 19, 3) := bl_dX12_init_31.2.1
theorem dX12_init_36 : decode cX12_init 36 = .ok (.aload_n 0, 1) := bl_dX12_init_31.2.2.1
theorem dX12_init_37 : decode cX12_init 37 = .ok (.bipush 12, 2) := bl_dX12_init_31.2.2.2.1
theorem dX12_init_39 : decode cX12_init 39 = .ok (.newarray .int, 2) := bl_dX12_init_31.2.2.2.2.1
theorem dX12_init_41 : decode cX12_init 41 = .ok (.putfield 22, 3) := bl_dX12_init_31.2.2.2.2.2.1
theorem dX12_init_44 : decode cX12_init 44 = .ok (.aload_n 0, 1) := bl_dX12_init_31.2.2.2.2.2.2.1
theorem dX12_init_45 : decode cX12_init 45 = .ok (.bipush 12, 2) := bl_dX12_init_31.2.2.2.2.2.2.2.1
theorem dX12_init_47 : decode cX12_init 47 = .ok (.newarray .int, 2) := bl_dX12_init_31.2.2.2.2.2.2.2.2.1
theorem dX12_init_49 : decode cX12_init 49 = .ok (.putfield 25, 3) := bl_dX12_init_31.2.2.2.2.2.2.2.2.2.1
theorem dX12_init_52 : decode cX12_init 52 = .ok (.aload_n 0, 1) := bl_dX12_init_31.2.2.2.2.2.2.2.2.2.2.1
theorem dX12_init_53 : decode cX12_init 53 = .ok (.bipush 12, 2) := bl_dX12_init_31.2.2.2.2.2.2.2.2.2.2.2.1
theorem dX12_init_55 : decode cX12_init 55 = .ok (.newarray .int, 2) := bl_dX12_init_31.2.2.2.2.2.2.2.2.2.2.2.2.1
theorem dX12_init_57 : decode cX12_init 57 = .ok (.putfield 28, 3) := bl_dX12_init_31.2.2.2.2.2.2.2.2.2.2.2.2.2.1
theorem dX12_init_60 : decode cX12_init 60 = .ok (.aload_n 0, 1) := bl_dX12_init_31.2.2.2.2.2.2.2.2.2.2.2.2.2.2.1
theorem dX12_init_61 : decode cX12_init 61 = .ok (.bipush 16, 2) := bl_dX12_init_31.2.2.2.2.2.2.2.2.2.2.2.2.2.2.2
set_option maxRecDepth 20000 in
theorem lk_dX12_init_63 : th_dr cX12_init 63 = 188 :: 10 :: 181 :: 0 :: 31 :: 42 :: 16 :: 16 :: 188 :: 10 :: 181 :: 0 :: 34 :: 42 :: 16 :: 16 :: 188 :: 10 :: 181 :: 0 :: 37 :: 42 :: 16 :: 16 :: 188 :: 10 :: 181 :: 0 :: 40 :: 42 :: 16 :: 24 :: th_dr cX12_init 95 := rfl
theorem bl_dX12_init_63 : decode cX12_init 63 = .ok (.newarray .int, 2) ∧ decode cX12_init 65 = .ok (.putfield 31, 3) ∧ decode cX12_init 68 = .ok (.aload_n 0, 1) ∧ decode cX12_init 69 = .ok (.bipush 16, 2) ∧ decode cX12_init 71 = .ok (.newarray .int, 2) ∧ decode cX12_init 73 = .ok (.putfield 34, 3) ∧ decode cX12_init 76 = .ok (.aload_n 0, 1) ∧ decode cX12_init 77 = .ok (.bipush 16, 2) ∧ decode cX12_init 79 = .ok (.newarray .int, 2) ∧ decode cX12_init 81 = .ok (.putfield 37, 3) ∧ decode cX12_init 84 = .ok (.aload_n 0, 1) ∧ decode cX12_init 85 = .ok (.bipush 16, 2) ∧ decode cX12_init 87 = .ok (.newarray .int, 2) ∧ decode cX12_init 89 = .ok (.putfield 40, 3) ∧ decode cX12_init 92 = .ok (.aload_n 0, 1) ∧ decode cX12_init 93 = .ok (.bipush 24, 2) := op_188_10 lk_dX12_init_63 fun e => op_181 e fun e => op_42 e fun e => op_16p e rfl fun e => op_188_10 e fun e => op_181 e fun e => op_42 e fun e => op_16p e rfl fun e => op_188_10 e fun e => op_181 e fun e => op_42 e fun e => op_16p e rfl fun e => op_188_10 e fun e => op_181 e fun e => op_42 e fun e => (op_16p e rfl fun _ => True.intro).1
theorem dX12_init_63 : decode cX12_init 63 = .ok (.newarray .int, 2) := bl_dX12_init_63.1
theorem dX12_init_65 : decode cX12_init 65 = .ok (.putfield 31, 3) := bl_dX12_init_63.2.1
theorem dX12_init_68 : decode cX12_init 68 = .ok (.aload_n 0, 1) := bl_dX12_init_63.2.2.1
theorem dX12_init_69 : decode cX12_init 69 = .ok (.bipush 16, 2) := bl_dX12_init_63.2.2.2.1
theorem dX12_init_71 : decode cX12_init 71 = .ok (.newarray .int, 2) := bl_dX12_init_63.2.2.2.2.1
theorem dX12_init_73 : decode cX12_init 73 = .ok (.putfield 34, 3) := bl_dX12_init_63.2.2.2.2.2.1
theorem dX12_init_76 : decode cX12_init 76 = .ok (.aload_n 0, 1) := bl_dX12_init_63.2.2.2.2.2.2.1
theorem dX12_init_77 : decode cX12_init 77 = .ok (.bipush 16, 2) := bl_dX12_init_63.2.2.2.2.2.2.2.1
theorem dX12_init_79 : decode cX12_init 79 = .ok (.newarray .int, 2) := bl_dX12_init_63.2.2.2.2.2.2.2.2.1
theorem dX12_init_81 : decode cX12_init 81 = .ok (.putfield 37, 3) := bl_dX12_init_63.2.2.2.2.2.2.2.2.2.1
theorem dX12_init_84 : decode cX12_init 84 = .ok (.aload_n 0, 1) := bl_dX12_init_63.2.2.2.2.2.2.2.2.2.2.1
theorem dX12_init_85 : decode cX12_init 85 = .ok (.bipush 16, 2) := bl_dX12_init_63.2.2.2.2.2.2.2.2.2.2.2.1
theorem dX12_init_87 : decode cX12_init 87 = .ok (.newarray .int, 2) := bl_dX12_init_63.2.2.2.2.2.2.2.2.2.2.2.2.1
theorem dX12_init_89 : decode cX12_init 89 = .ok (.putfield 40, 3) := bl_dX12_init_63.2.2.2.2.2.2.2.2.2.2.2.2.2.1
theorem dX12_init_92 : decode cX12_init 92 = .ok (.aload_n 0, 1) := bl_dX12_init_63.2.2.2.2.2.2.2.2.2.2.2.2.2.2.1
theorem dX12_init_93 : decode cX12_init 93 = .ok (.bipush 24, 2) := bl_dX12_init_63.2.2.2.2.2.2.2.2.2.2.2.2.2.2.2
set_option maxRecDepth 20000 in
theorem lk_dX12_init_95 : th_dr cX12_init 95 = 188 :: 10 :: 181 :: 0 :: 43 :: 42 :: 17 :: 0 :: 255 :: 181 :: 0 :: 46 :: 42 :: 16 :: 8 :: 188 :: 10 :: 89 :: 3 :: 3 :: 79 :: 89 :: 4 :: 4 :: 79 :: th_dr cX12_init 120 := rfl
theorem bl_dX12_init_95 : decode cX12_init 95 = .ok (.newarray .int, 2) ∧ decode cX12_init 97 = .ok (.putfield 43, 3) ∧ decode cX12_init 100 = .ok (.aload_n 0, 1) ∧ decode cX12_init 101 = .ok (.sipush 255, 3) ∧ decode cX12_init 104 = .ok (.putfield 46, 3) ∧ decode cX12_init 107 = .ok (.aload_n 0, 1) ∧ decode cX12_init 108 = .ok (.bipush 8, 2) ∧ decode cX12_init 110 = .ok (.newarray .int, 2) ∧ decode cX12_init 112 = .ok (.dup, 1) ∧ decode cX12_init 113 = .ok (.iconst 0, 1) ∧ decode cX12_init 114 = .ok (.iconst 0, 1) ∧ decode cX12_init 115 = .ok (.iastore, 1) ∧ decode cX12_init 116 = .ok (.dup, 1) ∧ decode cX12_init 117 = .ok (.iconst 1, 1) ∧ decode cX12_init 118 = .ok (.iconst 1, 1) ∧ decode cX12_init 119 = .ok (.iastore, 1) := op_188_10 lk_dX12_init_95 fun e => op_181 e fun e => op_42 e fun e => op_17p e rfl fun e => op_181 e fun e => op_42 e fun e => op_16p e rfl fun e => op_188_10 e fun e => op_89 e fun e => op_3 e fun e => op_3 e fun e => op_79 e fun e => op_89 e fun e => op_4 e fun e => op_4 e fun e => (op_79 e fun _ => True.intro).1
theorem dX12_init_95 : decode cX12_init 95 = .ok (.newarray .int, 2) := bl_dX12_init_95.1
theorem dX12_init_97 : decode cX12_init 97 = .ok (.putfield 43, 3) := bl_dX12_init_95.2.1
theorem dX12_init_100 : decode cX12_init 100 = .ok (.aload_n 0, 1) := bl_dX12_init_95.2.2.1
theorem dX12_init_101 : decode cX12_init 101 = .ok (.sipush 255, 3) := bl_dX12_init_95.2.2.2.1
theorem dX12_init_104 : decode cX12_init 104 = .ok (.putfield 46, 3) := bl_dX12_init_95.2.2.2.2.1
theorem dX12_init_107 : decode cX12_init 107 = .ok (.aload_n 0, 1) := bl_dX12_init_95.2.2.2.2.2.1
theorem dX12_init_108 : decode cX12_init 108 = .ok (.bipush 8, 2) := bl_dX12_init_95.2.2.2.2.2.2.1
theorem dX12_init_110 : decode cX12_init 110 = .ok (.newarray .int, 2) := bl_dX12_init_95.2.2.2.2.2.2.2.1
theorem dX12_init_112 : decode cX12_init 112 = .ok (.dup, 1) := bl_dX12_init_95.2.2.2.2.2.2.2.2.1
theorem dX12_init_113 : decode cX12_init 113 = .ok (.iconst 0, 1) := bl_dX12_init_95.2.2.2.2.2.2.2.2.2.1
theorem dX12_init_114 : decode cX12_init 114 = .ok (.iconst 0, 1) := bl_dX12_init_95.2.2.2.2.2.2.2.2.2.2.1
theorem dX12_init_115 : decode cX12_init 115 = .ok (.iastore, 1) := bl_dX12_init_95.2.2.2.2.2.2.2.2.2.2.2.1
theorem dX12_init_116 : decode cX12_init 116 = .ok (.dup, 1) := bl_dX12_init_95.2.2.2.2.2.2.2.2.2.2.2.2.1
theorem dX12_init_117 : decode cX12_init 117 = .ok (.iconst 1, 1) := bl_dX12_init_95.2.2.2.2.2.2.2.2.2.2.2.2.2.1
theorem dX12_init_118 : decode cX12_init 118 = .ok (.iconst 1, 1) := bl_dX12_init_95.2.2.2.2.2.2.2.2.2.2.2.2.2.2.1
theorem dX12_init_119 : decode cX12_init 119 = .ok (.iastore, 1) := bl_dX12_init_95.2.2.2.2.2.2.2.2.2.2.2.2.2.2.2
set_option maxRecDepth 20000 in
theorem lk_dX12_init_120 : th_dr cX12_init 120 = 89 :: 5 :: 4 :: 79 :: 89 :: 6 :: 4 :: 79 :: 89 :: 7 :: 3 :: 79 :: 89 :: 8 :: 2 :: 79 :: th_dr cX12_init 136 := rfl
theorem bl_dX12_init_120 : decode cX12_init 120 = .ok (.dup, 1) ∧ decode cX12_init 121 = .ok (.iconst 2, 1) ∧ decode cX12_init 122 = .ok (.iconst 1, 1) ∧ decode cX12_init 123 = .ok (.iastore, 1) ∧ decode cX12_init 124 = .ok (.dup, 1) ∧ decode cX12_init 125 = .ok (.iconst 3, 1) ∧ decode cX12_init 126 = .ok (.iconst 1, 1) ∧ decode cX12_init 127 = .ok (.iastore, 1) ∧ decode cX12_init 128 = .ok (.dup, 1) ∧ decode cX12_init 129 = .ok (.iconst 4, 1) ∧ decode cX12_init 130 = .ok (.iconst 0, 1) ∧ decode cX12_init 131 = .ok (.iastore, 1) ∧ decode cX12_init 132 = .ok (.dup, 1) ∧ decode cX12_init 133 = .ok (.iconst 5, 1) ∧ decode cX12_init 134 = .ok (.iconst (-1), 1) ∧ decode cX12_init 135 = .ok (.iastore, 1) := op_89 lk_dX12_init_120 fun e => op_5 e fun e => op_4 e fun e => op_79 e fun e => op_89 e fun e => op_6 e fun e => op_4 e fun e => op_79 e fun e => op_89 e fun e => op_7 e fun e => op_3 e fun e => op_79 e fun e => op_89 e fun e => op_8 e fun e => op_2 e fun e => (op_79 e fun _ => True.intro).1
theorem dX12_init_120 : decode cX12_init 120 = .ok (.dup, 1) := bl_dX12_init_120.1
theorem dX12_init_121 : decode cX12_init 121 = .ok (.iconst 2, 1) := bl_dX12_init_120.2.1
theorem dX12_init_122 : decode cX12_init 122 = .ok (.iconst 1, 1) := bl_dX12_init_120.2.2.1
theorem dX12_init_123 : decode cX12_init 123 = .ok (.iastore, 1) := bl_dX12_init_120.2.2.2.1
theorem dX12_init_124 : decode cX12_init 124 = .ok (.dup, 1) := bl_dX12_init_120.2.2.2.2.1
theorem dX12_init_125 : decode cX12_init 125 = .ok (.iconst 3, 1) := bl_dX12_init_120.2.2.2.2.2.1
theorem dX12_init_126 : decode cX12_init 126 = .ok (.iconst 1, 1) := bl_dX12_init_120.2.2.2.2.2.2.1
theorem dX12_init_127 : decode cX12_init 127 = .ok (.iastore, 1) := bl_dX12_init_120.2.2.2.2.2.2.2.1
theorem dX12_init_128 : decode cX12_init 128 = .ok (.dup, 1) := bl_dX12_init_120.2.2.2.2.2.2.2.2.1
theorem dX12_init_129 : decode cX12_init 129 = .ok (.iconst 4, 1) := bl_dX12_init_120.2.2.2.2.2.2.2.2.2.1
theorem dX12_init_130 : decode cX12_init 130 = .ok (.iconst 0, 1) := bl_dX12_init_120.2.2.2.2.2.2.2.2.2.2.1
theorem dX12_init_131 : decode cX12_init 131 = .ok (.iastore, 1) := bl_dX12_init_120.2.2.2.2.2.2.2.2.2.2.2.1
theorem dX12_init_132 : decode cX12_init 132 = .ok (.dup, 1) := bl_dX12_init_120.2.2.2.2.2.2.2.2.2.2.2.2.1
theorem dX12_init_133 : decode cX12_init 133 = .ok (.iconst 5, 1) := bl_dX12_init_120.2.2.2.2.2.2.2.2.2.2.2.2.2.1
theorem dX12_init_134 : decode cX12_init 134 = .ok (.iconst (-1), 1) := bl_dX12_init_120.2.2.2.2.2.2.2.2.2.2.2.2.2.2.1
theorem dX12_init_135 : decode cX12_init 135 = .ok (.iastore, 1) := bl_dX12_init_120.2.2.2.2.2.2.2.2.2.2.2.2.2.2.2
set_option maxRecDepth 20000 in
theorem lk_dX12_init_136 : th_dr cX12_init 136 = 89 :: 16 :: 6 :: 2 :: 79 :: 89 :: 16 :: 7 :: 2 :: 79 :: 181 :: 0 :: 50 :: 42 :: 16 :: 8 :: 188 :: 10 :: 89 :: 3 :: 2 :: 79 :: th_dr cX12_init 158 := rfl
theorem bl_dX12_init_136 : decode cX12_init 136 = .ok (.dup, 1) ∧ decode cX12_init 137 = .ok (.bipush 6, 2) ∧ decode cX12_init 139 = .ok (.iconst (-1), 1) ∧ decode cX12_init 140 = .ok (.iastore, 1) ∧ decode cX12_init 141 = .ok (.dup, 1) ∧ decode cX12_init 142 = .ok (.bipush 7, 2) ∧ decode cX12_init 144 = .ok (.iconst (-1), 1) ∧ decode cX12_init 145 = .ok (.iastore, 1) ∧ decode cX12_init 146 = .ok (.putfield 50, 3) ∧ decode cX12_init 149 = .ok (.aload_n 0, 1) ∧ decode cX12_init 150 = .ok (.bipush 8, 2) ∧ decode cX12_init 152 = .ok (.newarray .int, 2) ∧ decode cX12_init 154 = .ok (.dup, 1) ∧ decode cX12_init 155 = .ok (.iconst 0, 1) ∧ decode cX12_init 156 = .ok (.iconst (-1), 1) ∧ decode cX12_init 157 = .ok (.iastore, 1) := op_89 lk_dX12_init_136 fun e => op_16p e rfl fun e => op_2 e fun e => op_79 e fun e => op_89 e fun e => op_16p e rfl fun e => op_2 e fun e => op_79 e fun e => op_181 e fun e => op_42 e fun e => op_16p e rfl fun e => op_188_10 e fun e => op_89 e fun e => op_3 e fun e => op_2 e fun e => (op_79 e fun _ => True.intro).1
theorem dX12_init_136 : decode cX12_init 136 = .ok (.dup, 1) := bl_dX12_init_136.1
theorem dX12_init_137 : decode cX12_init 137 = .ok (.bipush 6, 2) := bl_dX12_init_136.2.1
theorem dX12_init_139 : decode cX12_init 139 = .ok (.iconst (-1), 1) := bl_dX12_init_136.2.2.1
theorem dX12_init_140 : decode cX12_init 140 = .ok (.iastore, 1) := bl_dX12_init_136.2.2.2.1
theorem dX12_init_141 : decode cX12_init 141 = .ok (.dup, 1) := bl_dX12_init_136.2.2.2.2.1
theorem dX12_init_142 : decode cX12_init 142 = .ok (.bipush 7, 2) := bl_dX12_init_136.2.2.2.2.2.1
theorem dX12_init_144 : decode cX12_init 144 = .ok (.iconst (-1), 1) := bl_dX12_init_136.2.2.2.2.2.2.1
theorem dX12_init_145 : decode cX12_init 145 = .ok (.iastore, 1) := bl_dX12_init_136.2.2.2.2.2.2.2.1
theorem dX12_init_146 : decode cX12_init 146 = .ok (.putfield 50, 3) := bl_dX12_init_136.2.2.2.2.2.2.2.2.1
theorem dX12_init_149 : decode cX12_init 149 = .ok (.aload_n 0, 1) := bl_dX12_init_136.2.2.2.2.2.2.2.2.2.1
theorem dX12_init_150 : decode cX12_init 150 = .ok (.bipush 8, 2) := bl_dX12_init_136.2.2.2.2.2.2.2.2.2.2.1
theorem dX12_init_152 : decode cX12_init 152 = .ok (.newarray .int, 2) := bl_dX12_init_136.2.2.2.2.2.2.2.2.2.2.2.1
theorem dX12_init_154 : decode cX12_init 154 = .ok (.dup, 1) := bl_dX12_init_136.2.2.2.2.2.2.2.2.2.2.2.2.1
theorem dX12_init_155 : decode cX12_init 155 = .ok (.iconst 0, 1) := bl_dX12_init_136.2.2.2.2.2.2.2.2.2.2.2.2.2.1
theorem dX12_init_156 : decode cX12_init 156 = .ok (.iconst (-1), 1) := bl_dX12_init_136.2.2.2.2.2.2.2.2.2.2.2.2.2.2.1
theorem dX12_init_157 : decode cX12_init 157 = .ok (.iastore, 1) := bl_dX12_init_136.2.2.2.2.2.2.2.2.2.2.2.2.2.2.2
set_option maxRecDepth 20000 in
theorem lk_dX12_init_158 : th_dr cX12_init 158 = 89 :: 4 :: 2 :: 79 :: th_dr cX12_init 162 := rfl
theorem bl_dX12_init_158 : decode cX12_init 158 = .ok (.dup, 1) ∧ decode cX12_init 159 = .ok (.iconst 1, 1) ∧ decode cX12_init 160 = .ok (.iconst (-1), 1) ∧ decode cX12_init 161 = .ok (.iastore, 1) := op_89 lk_dX12_init_158 fun e => op_4 e fun e => op_2 e fun e => (op_79 e fun _ => True.intro).1
theorem dX12_init_158 : decode cX12_init 158 = .ok (.dup, 1) := bl_dX12_init_158.1
theorem dX12_init_159 : decode cX12_init 159 = .ok (.iconst 1, 1) := bl_dX12_init_158.2.1
theorem dX12_init_160 : decode cX12_init 160 = .ok (.iconst (-1), 1) := bl_dX12_init_158.2.2.1
theorem dX12_init_161 : decode cX12_init 161 = .ok (.iastore, 1) := bl_dX12_init_158.2.2.2
