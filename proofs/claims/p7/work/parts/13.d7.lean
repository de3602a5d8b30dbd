theorem lk_dX12_rather_24 : th_dr cX12_rather 24 = 62 :: 29 :: 42 :: 180 :: 0 :: 65 :: 27 :: 46 :: 162 :: 0 :: 30 :: 42 :: 180 :: 0 :: 68 :: 7 :: 27 :: 104 :: 29 :: 96 :: 46 :: 28 :: th_dr cX12_rather 46 := rfl
theorem bl_dX12_rather_24 : decode cX12_rather 24 = .ok (.istore_n 3, 1) ∧ decode cX12_rather 25 = .ok (.iload_n 3, 1) ∧ decode cX12_rather 26 = .ok (.aload_n 0, 1) ∧ decode cX12_rather 27 = .ok (.getfield 65, 3) ∧ decode cX12_rather 30 = .ok (.iload_n 1, 1) ∧ decode cX12_rather 31 = .ok (.iaload, 1) ∧ decode cX12_rather 32 = .ok (.if_icmp .ge 30, 3) ∧ decode cX12_rather 35 = .ok (.aload_n 0, 1) ∧ decode cX12_rather 36 = .ok (.getfield 68, 3) ∧ decode cX12_rather 39 = .ok (.iconst 4, 1) ∧ decode cX12_rather 40 = .ok (.iload_n 1, 1) ∧ decode cX12_rather 41 = .ok (.imul, 1) ∧ decode cX12_rather 42 = .ok (.iload_n 3, 1) ∧ decode cX12_rather 43 = .ok (.iadd, 1) ∧ decode cX12_rather 44 = .ok (.iaload, 1) ∧ decode cX12_rather 45 = .ok (.iload_n 2, 1) := op_62 lk_dX12_rather_24 fun e => op_29 e fun e => op_42 e fun e => op_180 e fun e => op_27 e fun e => op_46 e fun e => op_162p e rfl fun e => op_42 e fun e => op_180 e fun e => op_7 e fun e => op_27 e fun e => op_104 e fun e => op_29 e fun e => op_96 e fun e => op_46 e fun e => (op_28 e fun _ => True.intro).1
theorem dX12_rather_24 : decode cX12_rather 24 = .ok (.istore_n 3, 1) := bl_dX12_rather_24.1
theorem dX12_rather_25 : decode cX12_rather 25 = .ok (.iload_n 3, 1) := bl_dX12_rather_24.2.1
theorem dX12_rather_26 : decode cX12_rather 26 = .ok (.aload_n 0, 1) := bl_dX12_rather_24.2.2.1
theorem dX12_rather_27 : decode cX12_rather 27 = .ok (.getfield 65, 3) := bl_dX12_rather_24.2.2.2.1
theorem dX12_rather_30 : decode cX12_rather 30 = .ok (.iload_n 1, 1) := bl_dX12_rather_24.2.2.2.2.1
theorem dX12_rather_31 : decode cX12_rather 31 = .ok (.iaload, 1) := bl_dX12_rather_24.2.2.2.2.2.1
theorem dX12_rather_32 : decode cX12_rather 32 = .ok (.if_icmp .ge 30, 3) := bl_dX12_rather_24.2.2.2.2.2.2.1
theorem dX12_rather_35 : decode cX12_rather 35 = .ok (.aload_n 0, 1) := bl_dX12_rather_24.2.2.2.2.2.2.2.1
theorem dX12_rather_36 : decode cX12_rather 36 = .ok (.getfield 68, 3) := bl_dX12_rather_24.2.2.2.2.2.2.2.2.1
theorem dX12_rather_39 : decode cX12_rather 39 = .ok (.iconst 4, 1) := bl_dX12_rather_24.2.2.2.2.2.2.2.2.2.1
theorem dX12_rather_40 : decode cX12_rather 40 = .ok (.iload_n 1, 1) := bl_dX12_rather_24.2.2.2.2.2.2.2.2.2.2.1
theorem dX12_rather_41 : decode cX12_rather 41 = .ok (.imul, 1) := bl_dX12_rather_24.2.2.2.2.2.2.2.2.2.2.2.1
theorem dX12_rather_42 : decode cX12_rather 42 = .ok (.iload_n 3, 1) := bl_dX12_rather_24.2.2.2.2.2.2.2.2.2.2.2.2.1
theorem dX12_rather_43 : decode cX12_rather 43 = .ok (.iadd, 1) := bl_dX12_rather_24.2.2.2.2.2.2.2.2.2.2.2.2.2.1
theorem dX12_rather_44 : decode cX12_rather 44 = .ok (.iaload, 1) := bl_dX12_rather_24.2.2.2.2.2.2.2.2.2.2.2.2.2.2.1
theorem dX12_rather_45 : decode cX12_rather 45 = .ok (.iload_n 2, 1) := bl_dX12_rather_24.2.2.2.2.2.2.2.2.2.2.2.2.2.2.2
set_option maxRecDepth 20000 in
theorem lk_dX12_rather_46 : th_dr cX12_rather 46 = 160 :: 0 :: 10 :: 42 :: 18 :: 186 :: 182 :: 0 :: 120 :: 172 :: 132 :: 3 :: 1 :: 167 :: 255 :: 222 :: 42 :: 180 :: 0 :: 65 :: 27 :: 46 :: 7 :: 160 :: 0 :: 10 :: 42 :: 18 :: 124 :: 182 :: 0 :: 120 :: th_dr cX12_rather 78 := rfl
theorem bl_dX12_rather_46 : decode cX12_rather 46 = .ok (.if_icmp .ne 10, 3) ∧ decode cX12_rather 49 = .ok (.aload_n 0, 1) ∧ decode cX12_rather 50 = .ok (.ldc 186, 2) ∧ decode cX12_rather 52 = .ok (.invokevirtual 120, 3) ∧ decode cX12_rather 55 = .ok (.ireturn, 1) ∧ decode cX12_rather 56 = .ok (.iinc 3 1, 3) ∧ decode cX12_rather 59 = .ok (.goto (-34), 3) ∧ decode cX12_rather 62 = .ok (.aload_n 0, 1) ∧ decode cX12_rather 63 = .ok (.getfield 65, 3) ∧ decode cX12_rather 66 = .ok (.iload_n 1, 1) ∧ decode cX12_rather 67 = .ok (.iaload, 1) ∧ decode cX12_rather 68 = .ok (.iconst 4, 1) ∧ decode cX12_rather 69 = .ok (.if_icmp .ne 10, 3) ∧ decode cX12_rather 72 = .ok (.aload_n 0, 1) ∧ decode cX12_rather 73 = .ok (.ldc 124, 2) ∧ decode cX12_rather 75 = .ok (.invokevirtual 120, 3) := op_160p lk_dX12_rather_46 rfl fun e => op_42 e fun e => op_18 e fun e => op_182 e fun e => op_172 e fun e => op_132p e rfl fun e => op_167n e rfl rfl fun e => op_42 e fun e => op_180 e fun e => op_27 e fun e => op_46 e fun e => op_7 e fun e => op_160p e rfl fun e => op_42 e fun e => op_18 e fun e => (op_182 e fun _ => True.intro).1
theorem dX12_rather_46 : decode cX12_rather 46 = .ok (.if_icmp .ne 10, 3) := bl_dX12_rather_46.1
theorem dX12_rather_49 : decode cX12_rather 49 = .ok (.aload_n 0, 1) := bl_dX12_rather_46.2.1
theorem dX12_rather_50 : decode cX12_rather 50 = .ok (.ldc 186, 2) := bl_dX12_rather_46.2.2.1
theorem dX12_rather_52 : decode cX12_rather 52 = .ok (.invokevirtual 120, 3) := bl_dX12_rather_46.2.2.2.1
theorem dX12_rather_55 : decode cX12_rather 55 = .ok (.ireturn, 1) := bl_dX12_rather_46.2.2.2.2.1
theorem dX12_rather_56 : decode cX12_rather 56 = .ok (.iinc 3 1, 3) := bl_dX12_rather_46.2.2.2.2.2.1
theorem dX12_rather_59 : decode cX12_rather 59 = .ok (.goto (-34), 3) := bl_dX12_rather_46.2.2.2.2.2.2.1
theorem dX12_rather_62 : decode cX12_rather 62 = .ok (.aload_n 0, 1) := bl_dX12_rather_46.2.2.2.2.2.2.2.1
theorem dX12_rather_63 : decode cX12_rather 63 = .ok (.getfield 65, 3) := bl_dX12_rather_46.2.2.2.2.2.2.2.2.1
theorem dX12_rather_66 : decode cX12_rather 66 = .ok (.iload_n 1, 1) := bl_dX12_rather_46.2.2.2.2.2.2.2.2.2.1
theorem dX12_rather_67 : decode cX12_rather 67 = .ok (.iaload, 1) := bl_dX12_rather_46.2.2.2.2.2.2.2.2.2.2.1
theorem dX12_rather_68 : decode cX12_rather 68 = .ok (.iconst 4, 1) := bl_dX12_rather_46.2.2.2.2.2.2.2.2.2.2.2.1
theorem dX12_rather_69 : decode cX12_rather 69 = .ok (.if_icmp .ne 10, 3) := bl_dX12_rather_46.2.2.2.2.2.2.2.2.2.2.2.2.1
theorem dX12_rather_72 : decode cX12_rather 72 = .ok (.aload_n 0, 1) := bl_dX12_rather_46.2.2.2.2.2.2.2.2.2.2.2.2.2.1
theorem dX12_rather_73 : decode cX12_rather 73 = .ok (.ldc 124, 2) := bl_dX12_rather_46.2.2.2.2.2.2.2.2.2.2.2.2.2.2.1
theorem dX12_rather_75 : decode cX12_rather 75 = .ok (.invokevirtual 120, 3) := bl_dX12_rather_46.2.2.2.2.2.2.2.2.2.2.2.2.2.2.2
set_option maxRecDepth 20000 in
theorem lk_dX12_rather_78 : th_dr cX12_rather 78 = 172 :: 42 :: 180 :: 0 :: 68 :: 7 :: 27 :: 104 :: 42 :: 180 :: 0 :: 65 :: 27 :: 46 :: 96 :: 28 :: 79 :: 42 :: 180 :: 0 :: 65 :: 27 :: th_dr cX12_rather 100 := rfl
theorem bl_dX12_rather_78 : decode cX12_rather 78 = .ok (.ireturn, 1) ∧ decode cX12_rather 79 = .ok (.aload_n 0, 1) ∧ decode cX12_rather 80 = .ok (.getfield 68, 3) ∧ decode cX12_rather 83 = .ok (.iconst 4, 1) ∧ decode cX12_rather 84 = .ok (.iload_n 1, 1) ∧ decode cX12_rather 85 = .ok (.imul, 1) ∧ decode cX12_rather 86 = .ok (.aload_n 0, 1) ∧ decode cX12_rather 87 = .ok (.getfield 65, 3) ∧ decode cX12_rather 90 = .ok (.iload_n 1, 1) ∧ decode cX12_rather 91 = .ok (.iaload, 1) ∧ decode cX12_rather 92 = .ok (.iadd, 1) ∧ decode cX12_rather 93 = .ok (.iload_n 2, 1) ∧ decode cX12_rather 94 = .ok (.iastore, 1) ∧ decode cX12_rather 95 = .ok (.aload_n 0, 1) ∧ decode cX12_rather 96 = .ok (.getfield 65, 3) ∧ decode cX12_rather 99 = .ok (.iload_n 1, 1) := op_172 lk_dX12_rather_78 fun e => op_42 e fun e => op_180 e fun e => op_7 e fun e => op_27 e fun e => op_104 e fun e => op_42 e fun e => op_180 e fun e => op_27 e fun e => op_46 e fun e => op_96 e fun e => op_28 e fun e => op_79 e fun e => op_42 e fun e => op_180 e fun e => (op_27 e fun _ => True.intro).1
theorem dX12_rather_78 : decode cX12_rather 78 = .ok (.ireturn, 1) := bl_dX12_rather_78.1
theorem dX12_rather_79 : decode cX12_rather 79 = .ok (.aload_n 0, 1) := bl_dX12_rather_78.2.1
theorem dX12_rather_80 : decode cX12_rather 80 = .ok (.getfield 68, 3) := bl_dX12_rather_78.2.2.1
theorem dX12_rather_83 : decode cX12_rather 83 = .ok (.iconst 4, 1) := bl_dX12_rather_78.2.2.2.1
theorem dX12_rather_84 : decode cX12_rather 84 = .ok (.iload_n 1, 1) := bl_dX12_rather_78.2.2.2.2.1
theorem dX12_rather_85 : decode cX12_rather 85 = .ok (.imul, 1) := bl_dX12_rather_78.2.2.2.2.2.1
theorem dX12_rather_86 : decode cX12_rather 86 = .ok (.aload_n 0, 1) := bl_dX12_rather_78.2.2.2.2.2.2.1
theorem dX12_rather_87 : decode cX12_rather 87 = .ok (.getfield 65, 3) := bl_dX12_rather_78.2.2.2.2.2.2.2.1
theorem dX12_rather_90 : decode cX12_rather 90 = .ok (.iload_n 1, 1) := bl_dX12_rather_78.2.2.2.2.2.2.2.2.1
theorem dX12_rather_91 : decode cX12_rather 91 = .ok (.iaload, 1) := bl_dX12_rather_78.2.2.2.2.2.2.2.2.2.1
theorem dX12_rather_92 : decode cX12_rather 92 = .ok (.iadd, 1) := bl_dX12_rather_78.2.2.2.2.2.2.2.2.2.2.1
theorem dX12_rather_93 : decode cX12_rather 93 = .ok (.iload_n 2, 1) := bl_dX12_rather_78.2.2.2.2.2.2.2.2.2.2.2.1
theorem dX12_rather_94 : decode cX12_rather 94 = .ok (.iastore, 1) := bl_dX12_rather_78.2.2.2.2.2.2.2.2.2.2.2.2.1
theorem dX12_rather_95 : decode cX12_rather 95 = .ok (.aload_n 0, 1) := bl_dX12_rather_78.2.2.2.2.2.2.2.2.2.2.2.2.2.1
theorem dX12_rather_96 : decode cX12_rather 96 = .ok (.getfield 65, 3) := bl_dX12_rather_78.2.2.2.2.2.2.2.2.2.2.2.2.2.2.1
theorem dX12_rather_99 : decode cX12_rather 99 = .ok (.iload_n 1, 1) := bl_dX12_rather_78.2.2.2.2.2.2.2.2.2.2.2.2.2.2.2
set_option maxRecDepth 20000 in
theorem lk_dX12_rather_100 : th_dr cX12_rather 100 = 92 :: 46 :: 4 :: 96 :: 79 :: 42 :: 180 :: 0 :: 65 :: 27 :: 46 :: 172 :: th_dr cX12_rather 112 := rfl
theorem bl_dX12_rather_100 : decode cX12_rather 100 = .ok (.dup2, 1) ∧ decode cX12_rather 101 = .ok (.iaload, 1) ∧ decode cX12_rather 102 = .ok (.iconst 1, 1) ∧ decode cX12_rather 103 = .ok (.iadd, 1) ∧ decode cX12_rather 104 = .ok (.iastore, 1) ∧ decode cX12_rather 105 = .ok (.aload_n 0, 1) ∧ decode cX12_rather 106 = .ok (.getfield 65, 3) ∧ decode cX12_rather 109 = .ok (.iload_n 1, 1) ∧ decode cX12_rather 110 = .ok (.iaload, 1) ∧ decode cX12_rather 111 = .ok (.ireturn, 1) := op_92 lk_dX12_rather_100 fun e => op_46 e fun e => op_4 e fun e => op_96 e fun e => op_79 e fun e => op_42 e fun e => op_180 e fun e => op_27 e fun e => op_46 e fun e => (op_172 e fun _ => True.intro).1
theorem dX12_rather_100 : decode cX12_rather 100 = .ok (.dup2, 1) := bl_dX12_rather_100.1
theorem dX12_rather_101 : decode cX12_rather 101 = .ok (.iaload, 1) := bl_dX12_rather_100.2.1
theorem dX12_rather_102 : decode cX12_rather 102 = .ok (.iconst 1, 1) := bl_dX12_rather_100.2.2.1
theorem dX12_rather_103 : decode cX12_rather 103 = .ok (.iadd, 1) := bl_dX12_rather_100.2.2.2.1
theorem dX12_rather_104 : decode cX12_rather 104 = .ok (.iastore, 1) := bl_dX12_rather_100.2.2.2.2.1
theorem dX12_rather_105 : decode cX12_rather 105 = .ok (.aload_n 0, 1) := bl_dX12_rather_100.2.2.2.2.2.1
theorem dX12_rather_106 : decode cX12_rather 106 = .ok (.getfield 65, 3) := bl_dX12_rather_100.2.2.2.2.2.2.1
theorem dX12_rather_109 : decode cX12_rather 109 = .ok (.iload_n 1, 1) := bl_dX12_rather_100.2.2.2.2.2.2.2.1
theorem dX12_rather_110 : decode cX12_rather 110 = .ok (.iaload, 1) := bl_dX12_rather_100.2.2.2.2.2.2.2.2.1
theorem dX12_rather_111 : decode cX12_rather 111 = .ok (.ireturn, 1) := bl_dX12_rather_100.2.2.2.2.2.2.2.2.2
set_option maxRecDepth 20000 in
theorem ggX12_content_X12_isBoat : GoodIn wsX12_content wsX12_isBoat := goodIn_q _ [(7, 4), (6, 1), (11, 1), (18, 38)] rfl gdwsX12_isBoat
set_option maxRecDepth 20000 in
theorem gX12_content_X12_isBoat : GoodIn wsX12_content (wsV RX12 125 RX12 yX12_isBoat wsX12_isBoat) := goodIn_app (goodIn_q _ [(3, 4)] rfl rfl) ggX12_content_X12_isBoat
set_option maxRecDepth 20000 in
theorem ggX12_content_X12_finding : GoodIn wsX12_content wsX12_finding := goodIn_q _ [(15, 41)] rfl gdwsX12_finding
set_option maxRecDepth 20000 in
theorem gX12_content_X12_finding : GoodIn wsX12_content (wsV RX12 120 RX12 yX12_finding wsX12_finding) := goodIn_app (goodIn_q _ [(12, 3), (6, 1)] rfl rfl) ggX12_content_X12_finding
theorem lk_dX12_content_0 : th_dr cX12_content 0 = 42 :: 27 :: 182 :: 0 :: 125 :: 154 :: 0 :: 10 :: 42 :: 18 :: 119 :: 182 :: 0 :: 120 :: 172 :: 42 :: 180 :: 0 :: 65 :: 27 :: 46 :: 61 :: 42 :: 180 :: 0 :: 65 :: 27 :: th_dr cX12_content 27 := rfl
theorem bl_dX12_content_0 : decode cX12_content 0 = .ok (.aload_n 0, 1) ∧ decode cX12_content 1 = .ok (.iload_n 1, 1) ∧ decode cX12_content 2 = .ok (.invokevirtual 125, 3) ∧ decode cX12_content 5 = .ok (.ifCond .ne 10, 3) ∧ decode cX12_content 8 = .ok (.aload_n 0, 1) ∧ decode cX12_content 9 = .ok (.ldc 119, 2) ∧ decode cX12_content 11 = .ok (.invokevirtual 120, 3) ∧ decode cX12_content 14 = .ok (.ireturn, 1) ∧ decode cX12_content 15 = .ok (.aload_n 0, 1) ∧ decode cX12_content 16 = .ok (.getfield 65, 3) ∧ decode cX12_content 19 = .ok (.iload_n 1, 1) ∧ decode cX12_content 20 = .ok (.iaload, 1) ∧ decode cX12_content 21 = .ok (.istore_n 2, 1) ∧ decode cX12_content 22 = .ok (.aload_n 0, 1) ∧ decode cX12_content 23 = .ok (.getfield 65, 3) ∧ decode cX12_content 26 = .ok (.iload_n 1, 1) := op_42 lk_dX12_content_0 fun e => op_27 e fun e => op_182 e fun e => op_154p e rfl fun e => op_42 e fun e => op_18 e fun e => op_182 e fun e => op_172 e fun e => op_42 e fun e => op_180 e fun e => op_27 e fun e => op_46 e fun e => op_61 e fun e => op_42 e fun e => op_180 e fun e => (op_27 e fun _ => True.intro).1
theorem dX12_content_0 : decode cX12_content 0 = .ok (.aload_n 0, 1) := bl_dX12_content_0.1
theorem dX12_content_1 : decode cX12_content 1 = .ok (.iload_n 1, 1) := bl_dX12_content_0.2.1
theorem dX12_content_2 : decode cX12_content 2 = .ok (.invokevirtual 125, 3) := bl_dX12_content_0.2.2.1
theorem dX12_content_5 : decode cX12_content 5 = .ok (.ifCond .ne 10, 3) := bl_dX12_content_0.2.2.2.1
theorem dX12_content_8 : decode cX12_content 8 = .ok (.aload_n 0, 1) := bl_dX12_content_0.2.2.2.2.1
theorem dX12_content_9 : decode cX12_content 9 = .ok (.ldc 119, 2) := bl_dX12_content_0.2.2.2.2.2.1
theorem dX12_content_11 : decode cX12_content 11 = .ok (.invokevirtual 120, 3) := bl_dX12_content_0.2.2.2.2.2.2.1
theorem dX12_content_14 : decode cX12_content 14 = .ok (.ireturn, 1) := bl_dX12_content_0.2.2.2.2.2.2.2.1
theorem dX12_content_15 : decode cX12_content 15 = .ok (.aload_n 0, 1) := bl_dX12_content_0.2.2.2.2.2.2.2.2.1
theorem dX12_content_16 : decode cX12_content 16 = .ok (.getfield 65, 3) := bl_dX12_content_0.2.2.2.2.2.2.2.2.2.1
theorem dX12_content_19 : decode cX12_content 19 = .ok (.iload_n 1, 1) := bl_dX12_content_0.2.2.2.2.2.2.2.2.2.2.1
theorem dX12_content_20 : decode cX12_content 20 = .ok (.iaload, 1) := bl_dX12_content_0.2.2.2.2.2.2.2.2.2.2.2.1
theorem dX12_content_21 : decode cX12_content 21 = .ok (.istore_n 2, 1) := bl_dX12_content_0.2.2.2.2.2.2.2.2.2.2.2.2.1
theorem dX12_content_22 : decode cX12_content 22 = .ok (.aload_n 0, 1) := bl_dX12_content_0.2.2.2.2.2.2.2.2.2.2.2.2.2.1
theorem dX12_content_23 : decode cX12_content 23 = .ok (.getfield 65, 3) := bl_dX12_content_0.2.2.2.2.2.2.2.2.2.2.2.2.2.2.1
theorem dX12_content_26 : decode cX12_content 26 = .ok (.iload_n 1, 1) := bl_dX12_content_0.2.2.2.2.2.2.2.2.2.2.2.2.2.2.2
theorem lk_dX12_content_27 : th_dr cX12_content 27 = 3 :: 79 :: 28 :: 172 :: th_dr cX12_content 31 := rfl
theorem bl_dX12_content_27 : decode cX12_content 27 = .ok (.iconst 0, 1) ∧ decode cX12_content 28 = .ok (.iastore, 1) ∧ decode cX12_content 29 = .ok (.iload_n 2, 1) ∧ decode cX12_content 30 = .ok (.ireturn, 1) := op_3 lk_dX12_content_27 fun e => op_79 e fun e => op_28 e fun e => (op_172 e fun _ => True.intro).1
theorem dX12_content_27 : decode cX12_content 27 = .ok (.iconst 0, 1) := bl_dX12_content_27.1
theorem dX12_content_28 : decode cX12_content 28 = .ok (.iastore, 1) := bl_dX12_content_27.2.1
theorem dX12_content_29 : decode cX12_content 29 = .ok (.iload_n 2, 1) := bl_dX12_content_27.2.2.1
theorem dX12_content_30 : decode cX12_content 30 = .ok (.ireturn, 1) := bl_dX12_content_27.2.2.2
set_option maxRecDepth 20000 in
theorem ggX12_pointed_X12_canFit : GoodIn wsX12_pointed wsX12_canFit := goodIn_q _ [(9, 45)] rfl gdwsX12_canFit
set_option maxRecDepth 20000 in
theorem gX12_pointed_X12_canFit : GoodIn wsX12_pointed (wsV RX12 155 RX12 yX12_canFit wsX12_canFit) := goodIn_app (goodIn_q _ [(5, 4)] rfl rfl) ggX12_pointed_X12_canFit
theorem lk_dX12_pointed_0 : th_dr cX12_pointed 0 = 3 :: 61 :: 28 :: 42 :: 180 :: 0 :: 65 :: 27 :: 46 :: 162 :: 0 :: 59 :: 42 :: 180 :: 0 :: 68 :: 7 :: 27 :: 104 :: 28 :: 96 :: 46 :: th_dr cX12_pointed 22 := rfl
theorem bl_dX12_pointed_0 : decode cX12_pointed 0 = .ok (.iconst 0, 1) ∧ decode cX12_pointed 1 = .ok (.istore_n 2, 1) ∧ decode cX12_pointed 2 = .ok (.iload_n 2, 1) ∧ decode cX12_pointed 3 = .ok (.aload_n 0, 1) ∧ decode cX12_pointed 4 = .ok (.getfield 65, 3) ∧ decode cX12_pointed 7 = .ok (.iload_n 1, 1) ∧ decode cX12_pointed 8 = .ok (.iaload, 1) ∧ decode cX12_pointed 9 = .ok (.if_icmp .ge 59, 3) ∧ decode cX12_pointed 12 = .ok (.aload_n 0, 1) ∧ decode cX12_pointed 13 = .ok (.getfield 68, 3) ∧ decode cX12_pointed 16 = .ok (.iconst 4, 1) ∧ decode cX12_pointed 17 = .ok (.iload_n 1, 1) ∧ decode cX12_pointed 18 = .ok (.imul, 1) ∧ decode cX12_pointed 19 = .ok (.iload_n 2, 1) ∧ decode cX12_pointed 20 = .ok (.iadd, 1) ∧ decode cX12_pointed 21 = .ok (.iaload, 1) := op_3 lk_dX12_pointed_0 fun e => op_61 e fun e => op_28 e fun e => op_42 e fun e => op_180 e fun e => op_27 e fun e => op_46 e fun e => op_162p e rfl fun e => op_42 e fun e => op_180 e fun e => op_7 e fun e => op_27 e fun e => op_104 e fun e => op_28 e fun e => op_96 e fun e => (op_46 e fun _ => True.intro).1
theorem dX12_pointed_0 : decode cX12_pointed 0 = .ok (.iconst 0, 1) := bl_dX12_pointed_0.1
theorem dX12_pointed_1 : decode cX12_pointed 1 = .ok (.istore_n 2, 1) := bl_dX12_pointed_0.2.1
theorem dX12_pointed_2 : decode cX12_pointed 2 = .ok (.iload_n 2, 1) := bl_dX12_pointed_0.2.2.1
theorem dX12_pointed_3 : decode cX12_pointed 3 = .ok (.aload_n 0, 1) := bl_dX12_pointed_0.2.2.2.1
theorem dX12_pointed_4 : decode cX12_pointed 4 = .ok (.getfield 65, 3) := bl_dX12_pointed_0.2.2.2.2.1
theorem dX12_pointed_7 : decode cX12_pointed 7 = .ok (.iload_n 1, 1) := bl_dX12_pointed_0.2.2.2.2.2.1
theorem dX12_pointed_8 : decode cX12_pointed 8 = .ok (.iaload, 1) := bl_dX12_pointed_0.2.2.2.2.2.2.1
theorem dX12_pointed_9 : decode cX12_pointed 9 = .ok (.if_icmp .ge 59, 3) := bl_dX12_pointed_0.2.2.2.2.2.2.2.1
theorem dX12_pointed_12 : decode cX12_pointed 12 = .ok (.aload_n 0, 1) := bl_dX12_pointed_0.2.2.2.2.2.2.2.2.1
theorem dX12_pointed_13 : decode cX12_pointed 13 = .ok (.getfield 68, 3) := bl_dX12_pointed_0.2.2.2.2.2.2.2.2.2.1
theorem dX12_pointed_16 : decode cX12_pointed 16 = .ok (.iconst 4, 1) := bl_dX12_pointed_0.2.2.2.2.2.2.2.2.2.2.1
theorem dX12_pointed_17 : decode cX12_pointed 17 = .ok (.iload_n 1, 1) := bl_dX12_pointed_0.2.2.2.2.2.2.2.2.2.2.2.1
theorem dX12_pointed_18 : decode cX12_pointed 18 = .ok (.imul, 1) := bl_dX12_pointed_0.2.2.2.2.2.2.2.2.2.2.2.2.1
theorem dX12_pointed_19 : decode cX12_pointed 19 = .ok (.iload_n 2, 1) := bl_dX12_pointed_0.2.2.2.2.2.2.2.2.2.2.2.2.2.1
theorem dX12_pointed_20 : decode cX12_pointed 20 = .ok (.iadd, 1) := bl_dX12_pointed_0.2.2.2.2.2.2.2.2.2.2.2.2.2.2.1
theorem dX12_pointed_21 : decode cX12_pointed 21 = .ok (.iaload, 1) := bl_dX12_pointed_0.2.2.2.2.2.2.2.2.2.2.2.2.2.2.2
theorem lk_dX12_pointed_22 : th_dr cX12_pointed 22 = 62 :: 42 :: 180 :: 0 :: 28 :: 29 :: 46 :: 155 :: 0 :: 33 :: 42 :: 180 :: 0 :: 98 :: 42 :: 180 :: 0 :: 28 :: 29 :: 46 :: 51 :: 154 :: 0 :: 19 :: 42 :: 27 :: th_dr cX12_pointed 48 := rfl
theorem bl_dX12_pointed_22 : decode cX12_pointed 22 = .ok (.istore_n 3, 1) ∧ decode cX12_pointed 23 = .ok (.aload_n 0, 1) ∧ decode cX12_pointed 24 = .ok (.getfield 28, 3) ∧ decode cX12_pointed 27 = .ok (.iload_n 3, 1) ∧ decode cX12_pointed 28 = .ok (.iaload, 1) ∧ decode cX12_pointed 29 = .ok (.ifCond .lt 33, 3) ∧ decode cX12_pointed 32 = .ok (.aload_n 0, 1) ∧ decode cX12_pointed 33 = .ok (.getfield 98, 3) ∧ decode cX12_pointed 36 = .ok (.aload_n 0, 1) ∧ decode cX12_pointed 37 = .ok (.getfield 28, 3) ∧ decode cX12_pointed 40 = .ok (.iload_n 3, 1) ∧ decode cX12_pointed 41 = .ok (.iaload, 1) ∧ decode cX12_pointed 42 = .ok (.baload, 1) ∧ decode cX12_pointed 43 = .ok (.ifCond .ne 19, 3) ∧ decode cX12_pointed 46 = .ok (.aload_n 0, 1) ∧ decode cX12_pointed 47 = .ok (.iload_n 1, 1) := op_62 lk_dX12_pointed_22 fun e => op_42 e fun e => op_180 e fun e => op_29 e fun e => op_46 e fun e => op_155p e rfl fun e => op_42 e fun e => op_180 e fun e => op_42 e fun e => op_180 e fun e => op_29 e fun e => op_46 e fun e => op_51 e fun e => op_154p e rfl fun e => op_42 e fun e => (op_27 e fun _ => True.intro).1
theorem dX12_pointed_22 : decode cX12_pointed 22 = .ok (.istore_n 3, 1) := bl_dX12_pointed_22.1
theorem dX12_pointed_23 : decode cX12_pointed 23 = .ok (.aload_n 0, 1) := bl_dX12_pointed_22.2.1
theorem dX12_pointed_24 : decode cX12_pointed 24 = .ok (.getfield 28, 3) := bl_dX12_pointed_22.2.2.1
theorem dX12_pointed_27 : decode cX12_pointed 27 = .ok (.iload_n 3, 1) := bl_dX12_pointed_22.2.2.2.1
theorem dX12_pointed_28 : decode cX12_pointed 28 = .ok (.iaload, 1) := bl_dX12_pointed_22.2.2.2.2.1
theorem dX12_pointed_29 : decode cX12_pointed 29 = .ok (.ifCond .lt 33, 3) := bl_dX12_pointed_22.2.2.2.2.2.1
theorem dX12_pointed_32 : decode cX12_pointed 32 = .ok (.aload_n 0, 1) := bl_dX12_pointed_22.2.2.2.2.2.2.1
theorem dX12_pointed_33 : decode cX12_pointed 33 = .ok (.getfield 98, 3) := bl_dX12_pointed_22.2.2.2.2.2.2.2.1
theorem dX12_pointed_36 : decode cX12_pointed 36 = .ok (.aload_n 0, 1) := bl_dX12_pointed_22.2.2.2.2.2.2.2.2.1
theorem dX12_pointed_37 : decode cX12_pointed 37 = .ok (.getfield 28, 3) := bl_dX12_pointed_22.2.2.2.2.2.2.2.2.2.1
theorem dX12_pointed_40 : decode cX12_pointed 40 = .ok (.iload_n 3, 1) := bl_dX12_pointed_22.2.2.2.2.2.2.2.2.2.2.1
theorem dX12_pointed_41 : decode cX12_pointed 41 = .ok (.iaload, 1) := bl_dX12_pointed_22.2.2.2.2.2.2.2.2.2.2.2.1
theorem dX12_pointed_42 : decode cX12_pointed 42 = .ok (.baload, 1) := bl_dX12_pointed_22.2.2.2.2.2.2.2.2.2.2.2.2.1
theorem dX12_pointed_43 : decode cX12_pointed 43 = .ok (.ifCond .ne 19, 3) := bl_dX12_pointed_22.2.2.2.2.2.2.2.2.2.2.2.2.2.1
theorem dX12_pointed_46 : decode cX12_pointed 46 = .ok (.aload_n 0, 1) := bl_dX12_pointed_22.2.2.2.2.2.2.2.2.2.2.2.2.2.2.1
theorem dX12_pointed_47 : decode cX12_pointed 47 = .ok (.iload_n 1, 1) := bl_dX12_pointed_22.2.2.2.2.2.2.2.2.2.2.2.2.2.2.2
set_option maxRecDepth 20000 in
theorem lk_dX12_pointed_48 : th_dr cX12_pointed 48 = 29 :: 182 :: 0 :: 155 :: 153 :: 0 :: 10 :: 42 :: 180 :: 0 :: 28 :: 29 :: 46 :: 172 :: 132 :: 2 :: 1 :: 167 :: 255 :: 193 :: 27 :: 172 :: th_dr cX12_pointed 70 := rfl
theorem bl_dX12_pointed_48 : decode cX12_pointed 48 = .ok (.iload_n 3, 1) ∧ decode cX12_pointed 49 = .ok (.invokevirtual 155, 3) ∧ decode cX12_pointed 52 = .ok (.ifCond .eq 10, 3) ∧ decode cX12_pointed 55 = .ok (.aload_n 0, 1) ∧ decode cX12_pointed 56 = .ok (.getfield 28, 3) ∧ decode cX12_pointed 59 = .ok (.iload_n 3, 1) ∧ decode cX12_pointed 60 = .ok (.iaload, 1) ∧ decode cX12_pointed 61 = .ok (.ireturn, 1) ∧ decode cX12_pointed 62 = .ok (.iinc 2 1, 3) ∧ decode cX12_pointed 65 = .ok (.goto (-63), 3) ∧ decode cX12_pointed 68 = .ok (.iload_n 1, 1) ∧ decode cX12_pointed 69 = .ok (.ireturn, 1) := op_29 lk_dX12_pointed_48 fun e => op_182 e fun e => op_153p e rfl fun e => op_42 e fun e => op_180 e fun e => op_29 e fun e => op_46 e fun e => op_172 e fun e => op_132p e rfl fun e => op_167n e rfl rfl fun e => op_27 e fun e => (op_172 e fun _ => True.intro).1
theorem dX12_pointed_48 : decode cX12_pointed 48 = .ok (.iload_n 3, 1) := bl_dX12_pointed_48.1
theorem dX12_pointed_49 : decode cX12_pointed 49 = .ok (.invokevirtual 155, 3) := bl_dX12_pointed_48.2.1
theorem dX12_pointed_52 : decode cX12_pointed 52 = .ok (.ifCond .eq 10, 3) := bl_dX12_pointed_48.2.2.1
theorem dX12_pointed_55 : decode cX12_pointed 55 = .ok (.aload_n 0, 1) := bl_dX12_pointed_48.2.2.2.1
theorem dX12_pointed_56 : decode cX12_pointed 56 = .ok (.getfield 28, 3) := bl_dX12_pointed_48.2.2.2.2.1
theorem dX12_pointed_59 : decode cX12_pointed 59 = .ok (.iload_n 3, 1) := bl_dX12_pointed_48.2.2.2.2.2.1
theorem dX12_pointed_60 : decode cX12_pointed 60 = .ok (.iaload, 1) := bl_dX12_pointed_48.2.2.2.2.2.2.1
theorem dX12_pointed_61 : decode cX12_pointed 61 = .ok (.ireturn, 1) := bl_dX12_pointed_48.2.2.2.2.2.2.2.1
theorem dX12_pointed_62 : decode cX12_pointed 62 = .ok (.iinc 2 1, 3) := bl_dX12_pointed_48.2.2.2.2.2.2.2.2.1
theorem dX12_pointed_65 : decode cX12_pointed 65 = .ok (.goto (-63), 3) := bl_dX12_pointed_48.2.2.2.2.2.2.2.2.2.1
theorem dX12_pointed_68 : decode cX12_pointed 68 = .ok (.iload_n 1, 1) := bl_dX12_pointed_48.2.2.2.2.2.2.2.2.2.2.1
theorem dX12_pointed_69 : decode cX12_pointed 69 = .ok (.ireturn, 1) := bl_dX12_pointed_48.2.2.2.2.2.2.2.2.2.2.2
set_option maxRecDepth 20000 in
theorem gdwsX12_pointed : wsX12_pointed.all goodWord = true := by decide +kernel
set_option maxRecDepth 20000 in
theorem ggX12_isRound_X12_pointed : GoodIn wsX12_isRound wsX12_pointed := goodIn_q _ [(6, 8), (5, 1), (14, 45)] rfl gdwsX12_pointed
set_option maxRecDepth 20000 in
theorem gX12_isRound_X12_pointed : GoodIn wsX12_isRound (wsV RX12 221 RX12 yX12_pointed wsX12_pointed) := goodIn_app (goodIn_q _ [(2, 4)] rfl rfl) ggX12_isRound_X12_pointed
theorem lk_dX12_isRound_0 : th_dr cX12_isRound 0 = 42 :: 27 :: 182 :: 0 :: 221 :: 61 :: 3 :: 62 :: 29 :: 42 :: 180 :: 0 :: 116 :: 162 :: 0 :: 20 :: 28 :: 27 :: 159 :: 0 :: 15 :: 42 :: 28 :: 182 :: 0 :: 221 :: th_dr cX12_isRound 26 := rfl
theorem bl_dX12_isRound_0 : decode cX12_isRound 0 = .ok (.aload_n 0, 1) ∧ decode cX12_isRound 1 = .ok (.iload_n 1, 1) ∧ decode cX12_isRound 2 = .ok (.invokevirtual 221, 3) ∧ decode cX12_isRound 5 = .ok (.istore_n 2, 1) ∧ decode cX12_isRound 6 = .ok (.iconst 0, 1) ∧ decode cX12_isRound 7 = .ok (.istore_n 3, 1) ∧ decode cX12_isRound 8 = .ok (.iload_n 3, 1) ∧ decode cX12_isRound 9 = .ok (.aload_n 0, 1) ∧ decode cX12_isRound 10 = .ok (.getfield 116, 3) ∧ decode cX12_isRound 13 = .ok (.if_icmp .ge 20, 3) ∧ decode cX12_isRound 16 = .ok (.iload_n 2, 1) ∧ decode cX12_isRound 17 = .ok (.iload_n 1, 1) ∧ decode cX12_isRound 18 = .ok (.if_icmp .eq 15, 3) ∧ decode cX12_isRound 21 = .ok (.aload_n 0, 1) ∧ decode cX12_isRound 22 = .ok (.iload_n 2, 1) ∧ decode cX12_isRound 23 = .ok (.invokevirtual 221, 3) := op_42 lk_dX12_isRound_0 fun e => op_27 e fun e => op_182 e fun e => op_61 e fun e => op_3 e fun e => op_62 e fun e => op_29 e fun e => op_42 e fun e => op_180 e fun e => op_162p e rfl fun e => op_28 e fun e => op_27 e fun e => op_159p e rfl fun e => op_42 e fun e => op_28 e fun e => (op_182 e fun _ => True.intro).1
theorem dX12_isRound_0 : decode cX12_isRound 0 = .ok (.aload_n 0, 1) := bl_dX12_isRound_0.1
theorem dX12_isRound_1 : decode cX12_isRound 1 = .ok (.iload_n 1, 1) := bl_dX12_isRound_0.2.1
theorem dX12_isRound_2 : decode cX12_isRound 2 = .ok (.invokevirtual 221, 3) := bl_dX12_isRound_0.2.2.1
theorem dX12_isRound_5 : decode cX12_isRound 5 = .ok (.istore_n 2, 1) := bl_dX12_isRound_0.2.2.2.1
theorem dX12_isRound_6 : decode cX12_isRound 6 = .ok (.iconst 0, 1) := bl_dX12_isRound_0.2.2.2.2.1
theorem dX12_isRound_7 : decode cX12_isRound 7 = .ok (.istore_n 3, 1) := bl_dX12_isRound_0.2.2.2.2.2.1
theorem dX12_isRound_8 : decode cX12_isRound 8 = .ok (.iload_n 3, 1) := bl_dX12_isRound_0.2.2.2.2.2.2.1
theorem dX12_isRound_9 : decode cX12_isRound 9 = .ok (.aload_n 0, 1) := bl_dX12_isRound_0.2.2.2.2.2.2.2.1
theorem dX12_isRound_10 : decode cX12_isRound 10 = .ok (.getfield 116, 3) := bl_dX12_isRound_0.2.2.2.2.2.2.2.2.1
theorem dX12_isRound_13 : decode cX12_isRound 13 = .ok (.if_icmp .ge 20, 3) := bl_dX12_isRound_0.2.2.2.2.2.2.2.2.2.1
theorem dX12_isRound_16 : decode cX12_isRound 16 = .ok (.iload_n 2, 1) := bl_dX12_isRound_0.2.2.2.2.2.2.2.2.2.2.1
theorem dX12_isRound_17 : decode cX12_isRound 17 = .ok (.iload_n 1, 1) := bl_dX12_isRound_0.2.2.2.2.2.2.2.2.2.2.2.1
theorem dX12_isRound_18 : decode cX12_isRound 18 = .ok (.if_icmp .eq 15, 3) := bl_dX12_isRound_0.2.2.2.2.2.2.2.2.2.2.2.2.1
theorem dX12_isRound_21 : decode cX12_isRound 21 = .ok (.aload_n 0, 1) := bl_dX12_isRound_0.2.2.2.2.2.2.2.2.2.2.2.2.2.1
theorem dX12_isRound_22 : decode cX12_isRound 22 = .ok (.iload_n 2, 1) := bl_dX12_isRound_0.2.2.2.2.2.2.2.2.2.2.2.2.2.2.1
theorem dX12_isRound_23 : decode cX12_isRound 23 = .ok (.invokevirtual 221, 3) := bl_dX12_isRound_0.2.2.2.2.2.2.2.2.2.2.2.2.2.2.2
theorem lk_dX12_isRound_26 : th_dr cX12_isRound 26 = 61 :: 132 :: 3 :: 1 :: 167 :: 255 :: 234 :: 28 :: 27 :: 160 :: 0 :: 7 :: 4 :: 167 :: 0 :: 4 :: 3 :: 172 :: th_dr cX12_isRound 44 := rfl
theorem bl_dX12_isRound_26 : decode cX12_isRound 26 = .ok (.istore_n 2, 1) ∧ decode cX12_isRound 27 = .ok (.iinc 3 1, 3) ∧ decode cX12_isRound 30 = .ok (.goto (-22), 3) ∧ decode cX12_isRound 33 = .ok (.iload_n 2, 1) ∧ decode cX12_isRound 34 = .ok (.iload_n 1, 1) ∧ decode cX12_isRound 35 = .ok (.if_icmp .ne 7, 3) ∧ decode cX12_isRound 38 = .ok (.iconst 1, 1) ∧ decode cX12_isRound 39 = .ok (.goto 4, 3) ∧ decode cX12_isRound 42 = .ok (.iconst 0, 1) ∧ decode cX12_isRound 43 = .ok (.ireturn, 1) := op_61 lk_dX12_isRound_26 fun e => op_132p e rfl fun e => op_167n e rfl rfl fun e => op_28 e fun e => op_27 e fun e => op_160p e rfl fun e => op_4 e fun e => op_167p e rfl fun e => op_3 e fun e => (op_172 e fun _ => True.intro).1
theorem dX12_isRound_26 : decode cX12_isRound 26 = .ok (.istore_n 2, 1) := bl_dX12_isRound_26.1
theorem dX12_isRound_27 : decode cX12_isRound 27 = .ok (.iinc 3 1, 3) := bl_dX12_isRound_26.2.1
theorem dX12_isRound_30 : decode cX12_isRound 30 = .ok (.goto (-22), 3) := bl_dX12_isRound_26.2.2.1
theorem dX12_isRound_33 : decode cX12_isRound 33 = .ok (.iload_n 2, 1) := bl_dX12_isRound_26.2.2.2.1
theorem dX12_isRound_34 : decode cX12_isRound 34 = .ok (.iload_n 1, 1) := bl_dX12_isRound_26.2.2.2.2.1
theorem dX12_isRound_35 : decode cX12_isRound 35 = .ok (.if_icmp .ne 7, 3) := bl_dX12_isRound_26.2.2.2.2.2.1
theorem dX12_isRound_38 : decode cX12_isRound 38 = .ok (.iconst 1, 1) := bl_dX12_isRound_26.2.2.2.2.2.2.1
theorem dX12_isRound_39 : decode cX12_isRound 39 = .ok (.goto 4, 3) := bl_dX12_isRound_26.2.2.2.2.2.2.2.1
theorem dX12_isRound_42 : decode cX12_isRound 42 = .ok (.iconst 0, 1) := bl_dX12_isRound_26.2.2.2.2.2.2.2.2.1
theorem dX12_isRound_43 : decode cX12_isRound 43 = .ok (.ireturn, 1) := bl_dX12_isRound_26.2.2.2.2.2.2.2.2.2
set_option maxRecDepth 20000 in
theorem gdwsX12_isRound : wsX12_isRound.all goodWord = true := by decide +kernel
set_option maxRecDepth 20000 in
theorem ggX12_findRings_X12_isRound : GoodIn wsX12_findRings wsX12_isRound := goodIn_q _ [(10, 1), (1, 1), (11, 3), (9, 1), (14, 4), (3, 1), (18, 48)] rfl gdwsX12_isRound
set_option maxRecDepth 20000 in
theorem gX12_findRings_X12_isRound : GoodIn wsX12_findRings (wsV RX12 224 RX12 yX12_isRound wsX12_isRound) := goodIn_app (goodIn_q _ [(6, 4)] rfl rfl) ggX12_findRings_X12_isRound
set_option maxRecDepth 20000 in
theorem ggX12_findRings_X12_pointed : GoodIn wsX12_findRings wsX12_pointed := goodIn_q _ [(14, 4), (3, 1), (18, 3), (9, 1), (21, 45)] rfl gdwsX12_pointed
set_option maxRecDepth 20000 in
theorem gX12_findRings_X12_pointed : GoodIn wsX12_findRings (wsV RX12 221 RX12 yX12_pointed wsX12_pointed) := goodIn_app (goodIn_q _ [(11, 3), (9, 1)] rfl rfl) ggX12_findRings_X12_pointed
theorem lk_dX12_findRings_0 : th_dr cX12_findRings 0 = 3 :: 60 :: 27 :: 42 :: 180 :: 0 :: 116 :: 162 :: 0 :: 36 :: 42 :: 180 :: 0 :: 95 :: 27 :: 2 :: 79 :: 42 :: 180 :: 0 :: 98 :: 27 :: 42 :: 180 :: 0 :: 40 :: th_dr cX12_findRings 26 := rfl
theorem bl_dX12_findRings_0 : decode cX12_findRings 0 = .ok (.iconst 0, 1) ∧ decode cX12_findRings 1 = .ok (.istore_n 1, 1) ∧ decode cX12_findRings 2 = .ok (.iload_n 1, 1) ∧ decode cX12_findRings 3 = .ok (.aload_n 0, 1) ∧ decode cX12_findRings 4 = .ok (.getfield 116, 3) ∧ decode cX12_findRings 7 = .ok (.if_icmp .ge 36, 3) ∧ decode cX12_findRings 10 = .ok (.aload_n 0, 1) ∧ decode cX12_findRings 11 = .ok (.getfield 95, 3) ∧ decode cX12_findRings 14 = .ok (.iload_n 1, 1) ∧ decode cX12_findRings 15 = .ok (.iconst (-1), 1) ∧ decode cX12_findRings 16 = .ok (.iastore, 1) ∧ decode cX12_findRings 17 = .ok (.aload_n 0, 1) ∧ decode cX12_findRings 18 = .ok (.getfield 98, 3) ∧ decode cX12_findRings 21 = .ok (.iload_n 1, 1) ∧ decode cX12_findRings 22 = .ok (.aload_n 0, 1) ∧ decode cX12_findRings 23 = .ok (.getfield 40, 3) := op_3 lk_dX12_findRings_0 fun e => op_60 e fun e => op_27 e fun e => op_42 e fun e => op_180 e fun e => op_162p e rfl fun e => op_42 e fun e => op_180 e fun e => op_27 e fun e => op_2 e fun e => op_79 e fun e => op_42 e fun e => op_180 e fun e => op_27 e fun e => op_42 e fun e => (op_180 e fun _ => True.intro).1
theorem dX12_findRings_0 : decode cX12_findRings 0 = .ok (.iconst 0, 1) := bl_dX12_findRings_0.1
theorem dX12_findRings_1 : decode cX12_findRings 1 = .ok (.istore_n 1, 1) := bl_dX12_findRings_0.2.1
theorem dX12_findRings_2 : decode cX12_findRings 2 = .ok (.iload_n 1, 1) := bl_dX12_findRings_0.2.2.1
theorem dX12_findRings_3 : decode cX12_findRings 3 = .ok (.aload_n 0, 1) := bl_dX12_findRings_0.2.2.2.1
theorem dX12_findRings_4 : decode cX12_findRings 4 = .ok (.getfield 116, 3) := bl_dX12_findRings_0.2.2.2.2.1
theorem dX12_findRings_7 : decode cX12_findRings 7 = .ok (.if_icmp .ge 36, 3) := bl_dX12_findRings_0.2.2.2.2.2.1
theorem dX12_findRings_10 : decode cX12_findRings 10 = .ok (.aload_n 0, 1) := bl_dX12_findRings_0.2.2.2.2.2.2.1
theorem dX12_findRings_11 : decode cX12_findRings 11 = .ok (.getfield 95, 3) := bl_dX12_findRings_0.2.2.2.2.2.2.2.1
theorem dX12_findRings_14 : decode cX12_findRings 14 = .ok (.iload_n 1, 1) := bl_dX12_findRings_0.2.2.2.2.2.2.2.2.1
theorem dX12_findRings_15 : decode cX12_findRings 15 = .ok (.iconst (-1), 1) := bl_dX12_findRings_0.2.2.2.2.2.2.2.2.2.1
theorem dX12_findRings_16 : decode cX12_findRings 16 = .ok (.iastore, 1) := bl_dX12_findRings_0.2.2.2.2.2.2.2.2.2.2.1
theorem dX12_findRings_17 : decode cX12_findRings 17 = .ok (.aload_n 0, 1) := bl_dX12_findRings_0.2.2.2.2.2.2.2.2.2.2.2.1
theorem dX12_findRings_18 : decode cX12_findRings 18 = .ok (.getfield 98, 3) := bl_dX12_findRings_0.2.2.2.2.2.2.2.2.2.2.2.2.1
theorem dX12_findRings_21 : decode cX12_findRings 21 = .ok (.iload_n 1, 1) := bl_dX12_findRings_0.2.2.2.2.2.2.2.2.2.2.2.2.2.1
theorem dX12_findRings_22 : decode cX12_findRings 22 = .ok (.aload_n 0, 1) := bl_dX12_findRings_0.2.2.2.2.2.2.2.2.2.2.2.2.2.2.1
theorem dX12_findRings_23 : decode cX12_findRings 23 = .ok (.getfield 40, 3) := bl_dX12_findRings_0.2.2.2.2.2.2.2.2.2.2.2.2.2.2.2
theorem lk_dX12_findRings_26 : th_dr cX12_findRings 26 = 27 :: 46 :: 156 :: 0 :: 7 :: 4 :: 167 :: 0 :: 4 :: 3 :: 84 :: 132 :: 1 :: 1 :: 167 :: 255 :: 218 :: 3 :: 60 :: 27 :: 42 :: 180 :: 0 :: 116 :: 162 :: 0 :: 127 :: 42 :: th_dr cX12_findRings 54 := rfl
theorem bl_dX12_findRings_26 : decode cX12_findRings 26 = .ok (.iload_n 1, 1) ∧ decode cX12_findRings 27 = .ok (.iaload, 1) ∧ decode cX12_findRings 28 = .ok (.ifCond .ge 7, 3) ∧ decode cX12_findRings 31 = .ok (.iconst 1, 1) ∧ decode cX12_findRings 32 = .ok (.goto 4, 3) ∧ decode cX12_findRings 35 = .ok (.iconst 0, 1) ∧ decode cX12_findRings 36 = .ok (.bastore, 1) ∧ decode cX12_findRings 37 = .ok (.iinc 1 1, 3) ∧ decode cX12_findRings 40 = .ok (.goto (-38), 3) ∧ decode cX12_findRings 43 = .ok (.iconst 0, 1) ∧ decode cX12_findRings 44 = .ok (.istore_n 1, 1) ∧ decode cX12_findRings 45 = .ok (.iload_n 1, 1) ∧ decode cX12_findRings 46 = .ok (.aload_n 0, 1) ∧ decode cX12_findRings 47 = .ok (.getfield 116, 3) ∧ decode cX12_findRings 50 = .ok (.if_icmp .ge 127, 3) ∧ decode cX12_findRings 53 = .ok (.aload_n 0, 1) := op_27 lk_dX12_findRings_26 fun e => op_46 e fun e => op_156p e rfl fun e => op_4 e fun e => op_167p e rfl fun e => op_3 e fun e => op_84 e fun e => op_132p e rfl fun e => op_167n e rfl rfl fun e => op_3 e fun e => op_60 e fun e => op_27 e fun e => op_42 e fun e => op_180 e fun e => op_162p e rfl fun e => (op_42 e fun _ => True.intro).1
theorem dX12_findRings_26 : decode cX12_findRings 26 = .ok (.iload_n 1, 1) := bl_dX12_findRings_26.1
theorem dX12_findRings_27 : decode cX12_findRings 27 = .ok (.iaload, 1) := bl_dX12_findRings_26.2.1
theorem dX12_findRings_28 : decode cX12_findRings 28 = .ok (.ifCond .ge 7, 3) := bl_dX12_findRings_26.2.2.1
theorem dX12_findRings_31 : decode cX12_findRings 31 = .ok (.iconst 1, 1) := bl_dX12_findRings_26.2.2.2.1
theorem dX12_findRings_32 : decode cX12_findRings 32 = .ok (.goto 4, 3) := bl_dX12_findRings_26.2.2.2.2.1
theorem dX12_findRings_35 : decode cX12_findRings 35 = .ok (.iconst 0, 1) := bl_dX12_findRings_26.2.2.2.2.2.1
theorem dX12_findRings_36 : decode cX12_findRings 36 = .ok (.bastore, 1) := bl_dX12_findRings_26.2.2.2.2.2.2.1
theorem dX12_findRings_37 : decode cX12_findRings 37 = .ok (.iinc 1 1, 3) := bl_dX12_findRings_26.2.2.2.2.2.2.2.1
theorem dX12_findRings_40 : decode cX12_findRings 40 = .ok (.goto (-38), 3) := bl_dX12_findRings_26.2.2.2.2.2.2.2.2.1
theorem dX12_findRings_43 : decode cX12_findRings 43 = .ok (.iconst 0, 1) := bl_dX12_findRings_26.2.2.2.2.2.2.2.2.2.1
theorem dX12_findRings_44 : decode cX12_findRings 44 = .ok (.istore_n 1, 1) := bl_dX12_findRings_26.2.2.2.2.2.2.2.2.2.2.1
theorem dX12_findRings_45 : decode cX12_findRings 45 = .ok (.iload_n 1, 1) := bl_dX12_findRings_26.2.2.2.2.2.2.2.2.2.2.2.1
theorem dX12_findRings_46 : decode cX12_findRings 46 = .ok (.aload_n 0, 1) := bl_dX12_findRings_26.2.2.2.2.2.2.2.2.2.2.2.2.1
theorem dX12_findRings_47 : decode cX12_findRings 47 = .ok (.getfield 116, 3) := bl_dX12_findRings_26.2.2.2.2.2.2.2.2.2.2.2.2.2.1
theorem dX12_findRings_50 : decode cX12_findRings 50 = .ok (.if_icmp .ge 127, 3) := bl_dX12_findRings_26.2.2.2.2.2.2.2.2.2.2.2.2.2.2.1
theorem dX12_findRings_53 : decode cX12_findRings 53 = .ok (.aload_n 0, 1) := bl_dX12_findRings_26.2.2.2.2.2.2.2.2.2.2.2.2.2.2.2
set_option maxRecDepth 20000 in
theorem lk_dX12_findRings_54 : th_dr cX12_findRings 54 = 180 :: 0 :: 98 :: 27 :: 51 :: 154 :: 0 :: 11 :: 42 :: 27 :: 182 :: 0 :: 224 :: 154 :: 0 :: 9 :: 132 :: 1 :: 1 :: 167 :: 255 :: 228 :: 27 :: 61 :: 3 :: 62 :: 42 :: 180 :: 0 :: 102 :: th_dr cX12_findRings 84 := rfl
theorem bl_dX12_findRings_54 : decode cX12_findRings 54 = .ok (.getfield 98, 3) ∧ decode cX12_findRings 57 = .ok (.iload_n 1, 1) ∧ decode cX12_findRings 58 = .ok (.baload, 1) ∧ decode cX12_findRings 59 = .ok (.ifCond .ne 11, 3) ∧ decode cX12_findRings 62 = .ok (.aload_n 0, 1) ∧ decode cX12_findRings 63 = .ok (.iload_n 1, 1) ∧ decode cX12_findRings 64 = .ok (.invokevirtual 224, 3) ∧ decode cX12_findRings 67 = .ok (.ifCond .ne 9, 3) ∧ decode cX12_findRings 70 = .ok (.iinc 1 1, 3) ∧ decode cX12_findRings 73 = .ok (.goto (-28), 3) ∧ decode cX12_findRings 76 = .ok (.iload_n 1, 1) ∧ decode cX12_findRings 77 = .ok (.istore_n 2, 1) ∧ decode cX12_findRings 78 = .ok (.iconst 0, 1) ∧ decode cX12_findRings 79 = .ok (.istore_n 3, 1) ∧ decode cX12_findRings 80 = .ok (.aload_n 0, 1) ∧ decode cX12_findRings 81 = .ok (.getfield 102, 3) := op_180 lk_dX12_findRings_54 fun e => op_27 e fun e => op_51 e fun e => op_154p e rfl fun e => op_42 e fun e => op_27 e fun e => op_182 e fun e => op_154p e rfl fun e => op_132p e rfl fun e => op_167n e rfl rfl fun e => op_27 e fun e => op_61 e fun e => op_3 e fun e => op_62 e fun e => op_42 e fun e => (op_180 e fun _ => True.intro).1
theorem dX12_findRings_54 : decode cX12_findRings 54 = .ok (.getfield 98, 3) := bl_dX12_findRings_54.1
theorem dX12_findRings_57 : decode cX12_findRings 57 = .ok (.iload_n 1, 1) := bl_dX12_findRings_54.2.1
theorem dX12_findRings_58 : decode cX12_findRings 58 = .ok (.baload, 1) := bl_dX12_findRings_54.2.2.1
theorem dX12_findRings_59 : decode cX12_findRings 59 = .ok (.ifCond .ne 11, 3) := bl_dX12_findRings_54.2.2.2.1
theorem dX12_findRings_62 : decode cX12_findRings 62 = .ok (.aload_n 0, 1) := bl_dX12_findRings_54.2.2.2.2.1
theorem dX12_findRings_63 : decode cX12_findRings 63 = .ok (.iload_n 1, 1) := bl_dX12_findRings_54.2.2.2.2.2.1
theorem dX12_findRings_64 : decode cX12_findRings 64 = .ok (.invokevirtual 224, 3) := bl_dX12_findRings_54.2.2.2.2.2.2.1
theorem dX12_findRings_67 : decode cX12_findRings 67 = .ok (.ifCond .ne 9, 3) := bl_dX12_findRings_54.2.2.2.2.2.2.2.1
theorem dX12_findRings_70 : decode cX12_findRings 70 = .ok (.iinc 1 1, 3) := bl_dX12_findRings_54.2.2.2.2.2.2.2.2.1
theorem dX12_findRings_73 : decode cX12_findRings 73 = .ok (.goto (-28), 3) := bl_dX12_findRings_54.2.2.2.2.2.2.2.2.2.1
theorem dX12_findRings_76 : decode cX12_findRings 76 = .ok (.iload_n 1, 1) := bl_dX12_findRings_54.2.2.2.2.2.2.2.2.2.2.1
theorem dX12_findRings_77 : decode cX12_findRings 77 = .ok (.istore_n 2, 1) := bl_dX12_findRings_54.2.2.2.2.2.2.2.2.2.2.2.1
theorem dX12_findRings_78 : decode cX12_findRings 78 = .ok (.iconst 0, 1) := bl_dX12_findRings_54.2.2.2.2.2.2.2.2.2.2.2.2.1
theorem dX12_findRings_79 : decode cX12_findRings 79 = .ok (.istore_n 3, 1) := bl_dX12_findRings_54.2.2.2.2.2.2.2.2.2.2.2.2.2.1
theorem dX12_findRings_80 : decode cX12_findRings 80 = .ok (.aload_n 0, 1) := bl_dX12_findRings_54.2.2.2.2.2.2.2.2.2.2.2.2.2.2.1
theorem dX12_findRings_81 : decode cX12_findRings 81 = .ok (.getfield 102, 3) := bl_dX12_findRings_54.2.2.2.2.2.2.2.2.2.2.2.2.2.2.2
set_option maxRecDepth 20000 in
theorem lk_dX12_findRings_84 : th_dr cX12_findRings 84 = 29 :: 28 :: 79 :: 132 :: 3 :: 1 :: 42 :: 28 :: 182 :: 0 :: 221 :: 61 :: 28 :: 27 :: 160 :: 255 :: 238 :: 3 :: 54 :: 4 :: 21 :: 4 :: 29 :: 162 :: 0 :: 37 :: th_dr cX12_findRings 110 := rfl
theorem bl_dX12_findRings_84 : decode cX12_findRings 84 = .ok (.iload_n 3, 1) ∧ decode cX12_findRings 85 = .ok (.iload_n 2, 1) ∧ decode cX12_findRings 86 = .ok (.iastore, 1) ∧ decode cX12_findRings 87 = .ok (.iinc 3 1, 3) ∧ decode cX12_findRings 90 = .ok (.aload_n 0, 1) ∧ decode cX12_findRings 91 = .ok (.iload_n 2, 1) ∧ decode cX12_findRings 92 = .ok (.invokevirtual 221, 3) ∧ decode cX12_findRings 95 = .ok (.istore_n 2, 1) ∧ decode cX12_findRings 96 = .ok (.iload_n 2, 1) ∧ decode cX12_findRings 97 = .ok (.iload_n 1, 1) ∧ decode cX12_findRings 98 = .ok (.if_icmp .ne (-18), 3) ∧ decode cX12_findRings 101 = .ok (.iconst 0, 1) ∧ decode cX12_findRings 102 = .ok (.istore 4, 2) ∧ decode cX12_findRings 104 = .ok (.iload 4, 2) ∧ decode cX12_findRings 106 = .ok (.iload_n 3, 1) ∧ decode cX12_findRings 107 = .ok (.if_icmp .ge 37, 3) := op_29 lk_dX12_findRings_84 fun e => op_28 e fun e => op_79 e fun e => op_132p e rfl fun e => op_42 e fun e => op_28 e fun e => op_182 e fun e => op_61 e fun e => op_28 e fun e => op_27 e fun e => op_160n e rfl rfl fun e => op_3 e fun e => op_54 e fun e => op_21 e fun e => op_29 e fun e => (op_162p e rfl fun _ => True.intro).1
theorem dX12_findRings_84 : decode cX12_findRings 84 = .ok (.iload_n 3, 1) := bl_dX12_findRings_84.1
theorem dX12_findRings_85 : decode cX12_findRings 85 = .ok (.iload_n 2, 1) := bl_dX12_findRings_84.2.1
theorem dX12_findRings_86 : decode cX12_findRings 86 = .ok (.iastore, 1) := bl_dX12_findRings_84.2.2.1
theorem dX12_findRings_87 : decode cX12_findRings 87 = .ok (.iinc 3 1, 3) := bl_dX12_findRings_84.2.2.2.1
theorem dX12_findRings_90 : decode cX12_findRings 90 = .ok (.aload_n 0, 1) := bl_dX12_findRings_84.2.2.2.2.1
theorem dX12_findRings_91 : decode cX12_findRings 91 = .ok (.iload_n 2, 1) := bl_dX12_findRings_84.2.2.2.2.2.1
theorem dX12_findRings_92 : decode cX12_findRings 92 = .ok (.invokevirtual 221, 3) := bl_dX12_findRings_84.2.2.2.2.2.2.1
theorem dX12_findRings_95 : decode cX12_findRings 95 = .ok (.istore_n 2, 1) := bl_dX12_findRings_84.2.2.2.2.2.2.2.1
theorem dX12_findRings_96 : decode cX12_findRings 96 = .ok (.iload_n 2, 1) := bl_dX12_findRings_84.2.2.2.2.2.2.2.2.1
theorem dX12_findRings_97 : decode cX12_findRings 97 = .ok (.iload_n 1, 1) := bl_dX12_findRings_84.2.2.2.2.2.2.2.2.2.1
theorem dX12_findRings_98 : decode cX12_findRings 98 = .ok (.if_icmp .ne (-18), 3) := bl_dX12_findRings_84.2.2.2.2.2.2.2.2.2.2.1
theorem dX12_findRings_101 : decode cX12_findRings 101 = .ok (.iconst 0, 1) := bl_dX12_findRings_84.2.2.2.2.2.2.2.2.2.2.2.1
theorem dX12_findRings_102 : decode cX12_findRings 102 = .ok (.istore 4, 2) := bl_dX12_findRings_84.2.2.2.2.2.2.2.2.2.2.2.2.1
theorem dX12_findRings_104 : decode cX12_findRings 104 = .ok (.iload 4, 2) := bl_dX12_findRings_84.2.2.2.2.2.2.2.2.2.2.2.2.2.1
theorem dX12_findRings_106 : decode cX12_findRings 106 = .ok (.iload_n 3, 1) := bl_dX12_findRings_84.2.2.2.2.2.2.2.2.2.2.2.2.2.2.1
theorem dX12_findRings_107 : decode cX12_findRings 107 = .ok (.if_icmp .ge 37, 3) := bl_dX12_findRings_84.2.2.2.2.2.2.2.2.2.2.2.2.2.2.2
set_option maxRecDepth 20000 in
theorem lk_dX12_findRings_110 : th_dr cX12_findRings 110 = 42 :: 180 :: 0 :: 95 :: 42 :: 180 :: 0 :: 102 :: 21 :: 4 :: 46 :: 42 :: 180 :: 0 :: 40 :: 42 :: 180 :: 0 :: 102 :: 21 :: 4 :: 4 :: 96 :: 29 :: 112 :: 46 :: th_dr cX12_findRings 136 := rfl
theorem bl_dX12_findRings_110 : decode cX12_findRings 110 = .ok (.aload_n 0, 1) ∧ decode cX12_findRings 111 = .ok (.getfield 95, 3) ∧ decode cX12_findRings 114 = .ok (.aload_n 0, 1) ∧ decode cX12_findRings 115 = .ok (.getfield 102, 3) ∧ decode cX12_findRings 118 = .ok (.iload 4, 2) ∧ decode cX12_findRings 120 = .ok (.iaload, 1) ∧ decode cX12_findRings 121 = .ok (.aload_n 0, 1) ∧ decode cX12_findRings 122 = .ok (.getfield 40, 3) ∧ decode cX12_findRings 125 = .ok (.aload_n 0, 1) ∧ decode cX12_findRings 126 = .ok (.getfield 102, 3) ∧ decode cX12_findRings 129 = .ok (.iload 4, 2) ∧ decode cX12_findRings 131 = .ok (.iconst 1, 1) ∧ decode cX12_findRings 132 = .ok (.iadd, 1) ∧ decode cX12_findRings 133 = .ok (.iload_n 3, 1) ∧ decode cX12_findRings 134 = .ok (.irem, 1) ∧ decode cX12_findRings 135 = .ok (.iaload, 1) := op_42 lk_dX12_findRings_110 fun e => op_180 e fun e => op_42 e fun e => op_180 e fun e => op_21 e fun e => op_46 e fun e => op_42 e fun e => op_180 e fun e => op_42 e fun e => op_180 e fun e => op_21 e fun e => op_4 e fun e => op_96 e fun e => op_29 e fun e => op_112 e fun e => (op_46 e fun _ => True.intro).1
theorem dX12_findRings_110 : decode cX12_findRings 110 = .ok (.aload_n 0, 1) := bl_dX12_findRings_110.1
theorem dX12_findRings_111 : decode cX12_findRings 111 = .ok (.getfield 95, 3) := bl_dX12_findRings_110.2.1
theorem dX12_findRings_114 : decode cX12_findRings 114 = .ok (.aload_n 0, 1) := bl_dX12_findRings_110.2.2.1
theorem dX12_findRings_115 : decode cX12_findRings 115 = .ok (.getfield 102, 3) := bl_dX12_findRings_110.2.2.2.1
theorem dX12_findRings_118 : decode cX12_findRings 118 = .ok (.iload 4, 2) := bl_dX12_findRings_110.2.2.2.2.1
theorem dX12_findRings_120 : decode cX12_findRings 120 = .ok (.iaload, 1) := bl_dX12_findRings_110.2.2.2.2.2.1
theorem dX12_findRings_121 : decode cX12_findRings 121 = .ok (.aload_n 0, 1) := bl_dX12_findRings_110.2.2.2.2.2.2.1
theorem dX12_findRings_122 : decode cX12_findRings 122 = .ok (.getfield 40, 3) := bl_dX12_findRings_110.2.2.2.2.2.2.2.1
theorem dX12_findRings_125 : decode cX12_findRings 125 = .ok (.aload_n 0, 1) := bl_dX12_findRings_110.2.2.2.2.2.2.2.2.1
theorem dX12_findRings_126 : decode cX12_findRings 126 = .ok (.getfield 102, 3) := bl_dX12_findRings_110.2.2.2.2.2.2.2.2.2.1
theorem dX12_findRings_129 : decode cX12_findRings 129 = .ok (.iload 4, 2) := bl_dX12_findRings_110.2.2.2.2.2.2.2.2.2.2.1
theorem dX12_findRings_131 : decode cX12_findRings 131 = .ok (.iconst 1, 1) := bl_dX12_findRings_110.2.2.2.2.2.2.2.2.2.2.2.1
theorem dX12_findRings_132 : decode cX12_findRings 132 = .ok (.iadd, 1) := bl_dX12_findRings_110.2.2.2.2.2.2.2.2.2.2.2.2.1
theorem dX12_findRings_133 : decode cX12_findRings 133 = .ok (.iload_n 3, 1) := bl_dX12_findRings_110.2.2.2.2.2.2.2.2.2.2.2.2.2.1
theorem dX12_findRings_134 : decode cX12_findRings 134 = .ok (.irem, 1) := bl_dX12_findRings_110.2.2.2.2.2.2.2.2.2.2.2.2.2.2.1
theorem dX12_findRings_135 : decode cX12_findRings 135 = .ok (.iaload, 1) := bl_dX12_findRings_110.2.2.2.2.2.2.2.2.2.2.2.2.2.2.2
set_option maxRecDepth 20000 in
theorem lk_dX12_findRings_136 : th_dr cX12_findRings 136 = 46 :: 79 :: 132 :: 4 :: 1 :: 167 :: 255 :: 219 :: 3 :: 54 :: 4 :: 21 :: 4 :: 29 :: 162 :: 0 :: 22 :: 42 :: 180 :: 0 :: 98 :: 42 :: 180 :: 0 :: 102 :: 21 :: 4 :: 46 :: 4 :: th_dr cX12_findRings 165 := rfl
theorem bl_dX12_findRings_136 : decode cX12_findRings 136 = .ok (.iaload, 1) ∧ decode cX12_findRings 137 = .ok (.iastore, 1) ∧ decode cX12_findRings 138 = .ok (.iinc 4 1, 3) ∧ decode cX12_findRings 141 = .ok (.goto (-37), 3) ∧ decode cX12_findRings 144 = .ok (.iconst 0, 1) ∧ decode cX12_findRings 145 = .ok (.istore 4, 2) ∧ decode cX12_findRings 147 = .ok (.iload 4, 2) ∧ decode cX12_findRings 149 = .ok (.iload_n 3, 1) ∧ decode cX12_findRings 150 = .ok (.if_icmp .ge 22, 3) ∧ decode cX12_findRings 153 = .ok (.aload_n 0, 1) ∧ decode cX12_findRings 154 = .ok (.getfield 98, 3) ∧ decode cX12_findRings 157 = .ok (.aload_n 0, 1) ∧ decode cX12_findRings 158 = .ok (.getfield 102, 3) ∧ decode cX12_findRings 161 = .ok (.iload 4, 2) ∧ decode cX12_findRings 163 = .ok (.iaload, 1) ∧ decode cX12_findRings 164 = .ok (.iconst 1, 1) := op_46 lk_dX12_findRings_136 fun e => op_79 e fun e => op_132p e rfl fun e => op_167n e rfl rfl fun e => op_3 e fun e => op_54 e fun e => op_21 e fun e => op_29 e fun e => op_162p e rfl fun e => op_42 e fun e => op_180 e fun e => op_42 e fun e => op_180 e fun e => op_21 e fun e => op_46 e fun e => (op_4 e fun _ => True.intro).1
theorem dX12_findRings_136 : decode cX12_findRings 136 = .ok (.iaload, 1) := bl_dX12_findRings_136.1
theorem dX12_findRings_137 : decode cX12_findRings 137 = .ok (.iastore, 1) := bl_dX12_findRings_136.2.1
theorem dX12_findRings_138 : decode cX12_findRings 138 = .ok (.iinc 4 1, 3) := bl_dX12_findRings_136.2.2.1
theorem dX12_findRings_141 : decode cX12_findRings 141 = .ok (.goto (-37), 3) := bl_dX12_findRings_136.2.2.2.1
theorem dX12_findRings_144 : decode cX12_findRings 144 = .ok (.iconst 0, 1) := bl_dX12_findRings_136.2.2.2.2.1
theorem dX12_findRings_145 : decode cX12_findRings 145 = .ok (.istore 4, 2) := bl_dX12_findRings_136.2.2.2.2.2.1
theorem dX12_findRings_147 : decode cX12_findRings 147 = .ok (.iload 4, 2) := bl_dX12_findRings_136.2.2.2.2.2.2.1
theorem dX12_findRings_149 : decode cX12_findRings 149 = .ok (.iload_n 3, 1) := bl_dX12_findRings_136.2.2.2.2.2.2.2.1
theorem dX12_findRings_150 : decode cX12_findRings 150 = .ok (.if_icmp .ge 22, 3) := bl_dX12_findRings_136.2.2.2.2.2.2.2.2.1
theorem dX12_findRings_153 : decode cX12_findRings 153 = .ok (.aload_n 0, 1) := bl_dX12_findRings_136.2.2.2.2.2.2.2.2.2.1
theorem dX12_findRings_154 : decode cX12_findRings 154 = .ok (.getfield 98, 3) := bl_dX12_findRings_136.2.2.2.2.2.2.2.2.2.2.1
theorem dX12_findRings_157 : decode cX12_findRings 157 = .ok (.aload_n 0, 1) := bl_dX12_findRings_136.2.2.2.2.2.2.2.2.2.2.2.1
theorem dX12_findRings_158 : decode cX12_findRings 158 = .ok (.getfield 102, 3) := bl_dX12_findRings_136.2.2.2.2.2.2.2.2.2.2.2.2.1
theorem dX12_findRings_161 : decode cX12_findRings 161 = .ok (.iload 4, 2) := bl_dX12_findRings_136.2.2.2.2.2.2.2.2.2.2.2.2.2.1
theorem dX12_findRings_163 : decode cX12_findRings 163 = .ok (.iaload, 1) := bl_dX12_findRings_136.2.2.2.2.2.2.2.2.2.2.2.2.2.2.1
theorem dX12_findRings_164 : decode cX12_findRings 164 = .ok (.iconst 1, 1) := bl_dX12_findRings_136.2.2.2.2.2.2.2.2.2.2.2.2.2.2.2
set_option maxRecDepth 20000 in
theorem lk_dX12_findRings_165 : th_dr cX12_findRings 165 = 84 :: 132 :: 4 :: 1 :: 167 :: 255 :: 234 :: 3 :: 60 :: 167 :: 255 :: 127 :: 177 :: th_dr cX12_findRings 178 := rfl
theorem bl_dX12_findRings_165 : decode cX12_findRings 165 = .ok (.bastore, 1) ∧ decode cX12_findRings 166 = .ok (.iinc 4 1, 3) ∧ decode cX12_findRings 169 = .ok (.goto (-22), 3) ∧ decode cX12_findRings 172 = .ok (.iconst 0, 1) ∧ decode cX12_findRings 173 = .ok (.istore_n 1, 1) ∧ decode cX12_findRings 174 = .ok (.goto (-129), 3) ∧ decode cX12_findRings 177 = .ok (.return_, 1) := op_84 lk_dX12_findRings_165 fun e => op_132p e rfl fun e => op_167n e rfl rfl fun e => op_3 e fun e => op_60 e fun e => op_167n e rfl rfl fun e => (op_177 e fun _ => True.intro).1
theorem dX12_findRings_165 : decode cX12_findRings 165 = .ok (.bastore, 1) := bl_dX12_findRings_165.1
theorem dX12_findRings_166 : decode cX12_findRings 166 = .ok (.iinc 4 1, 3) := bl_dX12_findRings_165.2.1
theorem dX12_findRings_169 : decode cX12_findRings 169 = .ok (.goto (-22), 3) := bl_dX12_findRings_165.2.2.1
theorem dX12_findRings_172 : decode cX12_findRings 172 = .ok (.iconst 0, 1) := bl_dX12_findRings_165.2.2.2.1
theorem dX12_findRings_173 : decode cX12_findRings 173 = .ok (.istore_n 1, 1) := bl_dX12_findRings_165.2.2.2.2.1
theorem dX12_findRings_174 : decode cX12_findRings 174 = .ok (.goto (-129), 3) := bl_dX12_findRings_165.2.2.2.2.2.1
theorem dX12_findRings_177 : decode cX12_findRings 177 = .ok (.return_, 1) := bl_dX12_findRings_165.2.2.2.2.2.2
set_option maxRecDepth 20000 in
theorem ggX12_ring_X12_isBoat : GoodIn wsX12_ring wsX12_isBoat := goodIn_q _ [(9, 4), (8, 1), (13, 1), (47, 38)] rfl gdwsX12_isBoat
set_option maxRecDepth 20000 in
theorem gX12_ring_X12_isBoat : GoodIn wsX12_ring (wsV RX12 125 RX12 yX12_isBoat wsX12_isBoat) := goodIn_app (goodIn_q _ [(5, 4)] rfl rfl) ggX12_ring_X12_isBoat
set_option maxRecDepth 20000 in
theorem ggX12_ring_X12_finding : GoodIn wsX12_ring wsX12_finding := goodIn_q _ [(17, 3), (47, 38)] rfl gdwsX12_finding
set_option maxRecDepth 20000 in
theorem gX12_ring_X12_finding : GoodIn wsX12_ring (wsV RX12 120 RX12 yX12_finding wsX12_finding) := goodIn_app (goodIn_q _ [(14, 3), (8, 1)] rfl rfl) ggX12_ring_X12_finding
set_option maxRecDepth 20000 in
theorem gdwsX12_findRings : wsX12_findRings.all goodWord = true := by decide +kernel
set_option maxRecDepth 20000 in
theorem ggX12_ring_X12_findRings : GoodIn wsX12_ring wsX12_findRings := goodIn_q _ [(23, 1), (10, 1), (4, 1), (24, 1), (2, 1), (25, 4), (8, 1), (29, 56)] rfl gdwsX12_findRings
set_option maxRecDepth 20000 in
theorem gX12_ring_X12_findRings : GoodIn wsX12_ring (wsV RX12 227 RX12 yX12_findRings wsX12_findRings) := goodIn_app (goodIn_q _ [(20, 3), (8, 1)] rfl rfl) ggX12_ring_X12_findRings
theorem lk_dX12_ring_0 : th_dr cX12_ring 0 = 42 :: 27 :: 182 :: 0 :: 125 :: 154 :: 0 :: 10 :: 42 :: 18 :: 119 :: 182 :: 0 :: 120 :: 172 :: 42 :: 180 :: 0 :: 40 :: 27 :: 46 :: 156 :: 0 :: 10 :: 42 :: 18 :: 186 :: 182 :: 0 :: 120 :: th_dr cX12_ring 30 := rfl
theorem bl_dX12_ring_0 : decode cX12_ring 0 = .ok (.aload_n 0, 1) ∧ decode cX12_ring 1 = .ok (.iload_n 1, 1) ∧ decode cX12_ring 2 = .ok (.invokevirtual 125, 3) ∧ decode cX12_ring 5 = .ok (.ifCond .ne 10, 3) ∧ decode cX12_ring 8 = .ok (.aload_n 0, 1) ∧ decode cX12_ring 9 = .ok (.ldc 119, 2) ∧ decode cX12_ring 11 = .ok (.invokevirtual 120, 3) ∧ decode cX12_ring 14 = .ok (.ireturn, 1) ∧ decode cX12_ring 15 = .ok (.aload_n 0, 1) ∧ decode cX12_ring 16 = .ok (.getfield 40, 3) ∧ decode cX12_ring 19 = .ok (.iload_n 1, 1) ∧ decode cX12_ring 20 = .ok (.iaload, 1) ∧ decode cX12_ring 21 = .ok (.ifCond .ge 10, 3) ∧ decode cX12_ring 24 = .ok (.aload_n 0, 1) ∧ decode cX12_ring 25 = .ok (.ldc 186, 2) ∧ decode cX12_ring 27 = .ok (.invokevirtual 120, 3) := op_42 lk_dX12_ring_0 fun e => op_27 e fun e => op_182 e fun e => op_154p e rfl fun e => op_42 e fun e => op_18 e fun e => op_182 e fun e => op_172 e fun e => op_42 e fun e => op_180 e fun e => op_27 e fun e => op_46 e fun e => op_156p e rfl fun e => op_42 e fun e => op_18 e fun e => (op_182 e fun _ => True.intro).1
theorem dX12_ring_0 : decode cX12_ring 0 = .ok (.aload_n 0, 1) := bl_dX12_ring_0.1
theorem dX12_ring_1 : decode cX12_ring 1 = .ok (.iload_n 1, 1) := bl_dX12_ring_0.2.1
theorem dX12_ring_2 : decode cX12_ring 2 = .ok (.invokevirtual 125, 3) := bl_dX12_ring_0.2.2.1
theorem dX12_ring_5 : decode cX12_ring 5 = .ok (.ifCond .ne 10, 3) := bl_dX12_ring_0.2.2.2.1
theorem dX12_ring_8 : decode cX12_ring 8 = .ok (.aload_n 0, 1) := bl_dX12_ring_0.2.2.2.2.1
theorem dX12_ring_9 : decode cX12_ring 9 = .ok (.ldc 119, 2) := bl_dX12_ring_0.2.2.2.2.2.1
theorem dX12_ring_11 : decode cX12_ring 11 = .ok (.invokevirtual 120, 3) := bl_dX12_ring_0.2.2.2.2.2.2.1
theorem dX12_ring_14 : decode cX12_ring 14 = .ok (.ireturn, 1) := bl_dX12_ring_0.2.2.2.2.2.2.2.1
theorem dX12_ring_15 : decode cX12_ring 15 = .ok (.aload_n 0, 1) := bl_dX12_ring_0.2.2.2.2.2.2.2.2.1
theorem dX12_ring_16 : decode cX12_ring 16 = .ok (.getfield 40, 3) := bl_dX12_ring_0.2.2.2.2.2.2.2.2.2.1
theorem dX12_ring_19 : decode cX12_ring 19 = .ok (.iload_n 1, 1) := bl_dX12_ring_0.2.2.2.2.2.2.2.2.2.2.1
theorem dX12_ring_20 : decode cX12_ring 20 = .ok (.iaload, 1) := bl_dX12_ring_0.2.2.2.2.2.2.2.2.2.2.2.1
theorem dX12_ring_21 : decode cX12_ring 21 = .ok (.ifCond .ge 10, 3) := bl_dX12_ring_0.2.2.2.2.2.2.2.2.2.2.2.2.1
theorem dX12_ring_24 : decode cX12_ring 24 = .ok (.aload_n 0, 1) := bl_dX12_ring_0.2.2.2.2.2.2.2.2.2.2.2.2.2.1
theorem dX12_ring_25 : decode cX12_ring 25 = .ok (.ldc 186, 2) := bl_dX12_ring_0.2.2.2.2.2.2.2.2.2.2.2.2.2.2.1
theorem dX12_ring_27 : decode cX12_ring 27 = .ok (.invokevirtual 120, 3) := bl_dX12_ring_0.2.2.2.2.2.2.2.2.2.2.2.2.2.2.2
theorem lk_dX12_ring_30 : th_dr cX12_ring 30 = 172 :: 42 :: 182 :: 0 :: 227 :: 42 :: 180 :: 0 :: 95 :: 27 :: 46 :: 172 :: th_dr cX12_ring 42 := rfl
theorem bl_dX12_ring_30 : decode cX12_ring 30 = .ok (.ireturn, 1) ∧ decode cX12_ring 31 = .ok (.aload_n 0, 1) ∧ decode cX12_ring 32 = .ok (.invokevirtual 227, 3) ∧ decode cX12_ring 35 = .ok (.aload_n 0, 1) ∧ decode cX12_ring 36 = .ok (.getfield 95, 3) ∧ decode cX12_ring 39 = .ok (.iload_n 1, 1) ∧ decode cX12_ring 40 = .ok (.iaload, 1) ∧ decode cX12_ring 41 = .ok (.ireturn, 1) := op_172 lk_dX12_ring_30 fun e => op_42 e fun e => op_182 e fun e => op_42 e fun e => op_180 e fun e => op_27 e fun e => op_46 e fun e => (op_172 e fun _ => True.intro).1
theorem dX12_ring_30 : decode cX12_ring 30 = .ok (.ireturn, 1) := bl_dX12_ring_30.1
theorem dX12_ring_31 : decode cX12_ring 31 = .ok (.aload_n 0, 1) := bl_dX12_ring_30.2.1
theorem dX12_ring_32 : decode cX12_ring 32 = .ok (.invokevirtual 227, 3) := bl_dX12_ring_30.2.2.1
theorem dX12_ring_35 : decode cX12_ring 35 = .ok (.aload_n 0, 1) := bl_dX12_ring_30.2.2.2.1
theorem dX12_ring_36 : decode cX12_ring 36 = .ok (.getfield 95, 3) := bl_dX12_ring_30.2.2.2.2.1
theorem dX12_ring_39 : decode cX12_ring 39 = .ok (.iload_n 1, 1) := bl_dX12_ring_30.2.2.2.2.2.1
theorem dX12_ring_40 : decode cX12_ring 40 = .ok (.iaload, 1) := bl_dX12_ring_30.2.2.2.2.2.2.1
theorem dX12_ring_41 : decode cX12_ring 41 = .ok (.ireturn, 1) := bl_dX12_ring_30.2.2.2.2.2.2.2
set_option maxRecDepth 20000 in
theorem ggX12_swap_X12_findRings : GoodIn wsX12_swap wsX12_findRings := goodIn_q _ [(9, 1), (1, 2), (10, 1), (3, 1), (11, 4), (8, 1), (15, 5), (4, 1), (20, 12), (36, 38)] rfl gdwsX12_findRings
set_option maxRecDepth 20000 in
theorem gX12_swap_X12_findRings : GoodIn wsX12_swap (wsV RX12 227 RX12 yX12_findRings wsX12_findRings) := goodIn_app (goodIn_q _ [(5, 4)] rfl rfl) ggX12_swap_X12_findRings
set_option maxRecDepth 20000 in
theorem ggX12_swap_X12_lies : GoodIn wsX12_swap wsX12_lies := goodIn_q _ [(35, 1), (3, 1), (21, 1), (36, 38)] rfl gdwsX12_lies
set_option maxRecDepth 20000 in
theorem gX12_swap_X12_lies : GoodIn wsX12_swap (wsV RX12 192 RX12 yX12_lies wsX12_lies) := goodIn_app (goodIn_q _ [(32, 3), (8, 1)] rfl rfl) ggX12_swap_X12_lies
theorem lk_dX12_swap_0 : th_dr cX12_swap 0 = 42 :: 182 :: 0 :: 227 :: 3 :: 60 :: 3 :: 61 :: 28 :: 42 :: 180 :: 0 :: 116 :: 162 :: 0 :: 59 :: 27 :: 42 :: 180 :: 0 :: 95 :: 28 :: 46 :: 42 :: th_dr cX12_swap 24 := rfl
theorem bl_dX12_swap_0 : decode cX12_swap 0 = .ok (.aload_n 0, 1) ∧ decode cX12_swap 1 = .ok (.invokevirtual 227, 3) ∧ decode cX12_swap 4 = .ok (.iconst 0, 1) ∧ decode cX12_swap 5 = .ok (.istore_n 1, 1) ∧ decode cX12_swap 6 = .ok (.iconst 0, 1) ∧ decode cX12_swap 7 = .ok (.istore_n 2, 1) ∧ decode cX12_swap 8 = .ok (.iload_n 2, 1) ∧ decode cX12_swap 9 = .ok (.aload_n 0, 1) ∧ decode cX12_swap 10 = .ok (.getfield 116, 3) ∧ decode cX12_swap 13 = .ok (.if_icmp .ge 59, 3) ∧ decode cX12_swap 16 = .ok (.iload_n 1, 1) ∧ decode cX12_swap 17 = .ok (.aload_n 0, 1) ∧ decode cX12_swap 18 = .ok (.getfield 95, 3) ∧ decode cX12_swap 21 = .ok (.iload_n 2, 1) ∧ decode cX12_swap 22 = .ok (.iaload, 1) ∧ decode cX12_swap 23 = .ok (.aload_n 0, 1) := op_42 lk_dX12_swap_0 fun e => op_182 e fun e => op_3 e fun e => op_60 e fun e => op_3 e fun e => op_61 e fun e => op_28 e fun e => op_42 e fun e => op_180 e fun e => op_162p e rfl fun e => op_27 e fun e => op_42 e fun e => op_180 e fun e => op_28 e fun e => op_46 e fun e => (op_42 e fun _ => True.intro).1
theorem dX12_swap_0 : decode cX12_swap 0 = .ok (.aload_n 0, 1) := bl_dX12_swap_0.1
theorem dX12_swap_1 : decode cX12_swap 1 = .ok (.invokevirtual 227, 3) := bl_dX12_swap_0.2.1
theorem dX12_swap_4 : decode cX12_swap 4 = .ok (.iconst 0, 1) := bl_dX12_swap_0.2.2.1
theorem dX12_swap_5 : decode cX12_swap 5 = .ok (.istore_n 1, 1) := bl_dX12_swap_0.2.2.2.1
theorem dX12_swap_6 : decode cX12_swap 6 = .ok (.iconst 0, 1) := bl_dX12_swap_0.2.2.2.2.1
theorem dX12_swap_7 : decode cX12_swap 7 = .ok (.istore_n 2, 1) := bl_dX12_swap_0.2.2.2.2.2.1
theorem dX12_swap_8 : decode cX12_swap 8 = .ok (.iload_n 2, 1) := bl_dX12_swap_0.2.2.2.2.2.2.1
theorem dX12_swap_9 : decode cX12_swap 9 = .ok (.aload_n 0, 1) := bl_dX12_swap_0.2.2.2.2.2.2.2.1
theorem dX12_swap_10 : decode cX12_swap 10 = .ok (.getfield 116, 3) := bl_dX12_swap_0.2.2.2.2.2.2.2.2.1
theorem dX12_swap_13 : decode cX12_swap 13 = .ok (.if_icmp .ge 59, 3) := bl_dX12_swap_0.2.2.2.2.2.2.2.2.2.1
theorem dX12_swap_16 : decode cX12_swap 16 = .ok (.iload_n 1, 1) := bl_dX12_swap_0.2.2.2.2.2.2.2.2.2.2.1
theorem dX12_swap_17 : decode cX12_swap 17 = .ok (.aload_n 0, 1) := bl_dX12_swap_0.2.2.2.2.2.2.2.2.2.2.2.1
theorem dX12_swap_18 : decode cX12_swap 18 = .ok (.getfield 95, 3) := bl_dX12_swap_0.2.2.2.2.2.2.2.2.2.2.2.2.1
theorem dX12_swap_21 : decode cX12_swap 21 = .ok (.iload_n 2, 1) := bl_dX12_swap_0.2.2.2.2.2.2.2.2.2.2.2.2.2.1
theorem dX12_swap_22 : decode cX12_swap 22 = .ok (.iaload, 1) := bl_dX12_swap_0.2.2.2.2.2.2.2.2.2.2.2.2.2.2.1
theorem dX12_swap_23 : decode cX12_swap 23 = .ok (.aload_n 0, 1) := bl_dX12_swap_0.2.2.2.2.2.2.2.2.2.2.2.2.2.2.2
theorem lk_dX12_swap_24 : th_dr cX12_swap 24 = 180 :: 0 :: 40 :: 28 :: 46 :: 159 :: 0 :: 7 :: 4 :: 167 :: 0 :: 4 :: 3 :: 96 :: 60 :: 42 :: 180 :: 0 :: 65 :: 28 :: 3 :: 79 :: 42 :: 180 :: 0 :: 95 :: th_dr cX12_swap 50 := rfl
theorem bl_dX12_swap_24 : decode cX12_swap 24 = .ok (.getfield 40, 3) ∧ decode cX12_swap 27 = .ok (.iload_n 2, 1) ∧ decode cX12_swap 28 = .ok (.iaload, 1) ∧ decode cX12_swap 29 = .ok (.if_icmp .eq 7, 3) ∧ decode cX12_swap 32 = .ok (.iconst 1, 1) ∧ decode cX12_swap 33 = .ok (.goto 4, 3) ∧ decode cX12_swap 36 = .ok (.iconst 0, 1) ∧ decode cX12_swap 37 = .ok (.iadd, 1) ∧ decode cX12_swap 38 = .ok (.istore_n 1, 1) ∧ decode cX12_swap 39 = .ok (.aload_n 0, 1) ∧ decode cX12_swap 40 = .ok (.getfield 65, 3) ∧ decode cX12_swap 43 = .ok (.iload_n 2, 1) ∧ decode cX12_swap 44 = .ok (.iconst 0, 1) ∧ decode cX12_swap 45 = .ok (.iastore, 1) ∧ decode cX12_swap 46 = .ok (.aload_n 0, 1) ∧ decode cX12_swap 47 = .ok (.getfield 95, 3) := op_180 lk_dX12_swap_24 fun e => op_28 e fun e => op_46 e fun e => op_159p e rfl fun e => op_4 e fun e => op_167p e rfl fun e => op_3 e fun e => op_96 e fun e => op_60 e fun e => op_42 e fun e => op_180 e fun e => op_28 e fun e => op_3 e fun e => op_79 e fun e => op_42 e fun e => (op_180 e fun _ => True.intro).1
theorem dX12_swap_24 : decode cX12_swap 24 = .ok (.getfield 40, 3) := bl_dX12_swap_24.1
theorem dX12_swap_27 : decode cX12_swap 27 = .ok (.iload_n 2, 1) := bl_dX12_swap_24.2.1
theorem dX12_swap_28 : decode cX12_swap 28 = .ok (.iaload, 1) := bl_dX12_swap_24.2.2.1
theorem dX12_swap_29 : decode cX12_swap 29 = .ok (.if_icmp .eq 7, 3) := bl_dX12_swap_24.2.2.2.1
theorem dX12_swap_32 : decode cX12_swap 32 = .ok (.iconst 1, 1) := bl_dX12_swap_24.2.2.2.2.1
theorem dX12_swap_33 : decode cX12_swap 33 = .ok (.goto 4, 3) := bl_dX12_swap_24.2.2.2.2.2.1
theorem dX12_swap_36 : decode cX12_swap 36 = .ok (.iconst 0, 1) := bl_dX12_swap_24.2.2.2.2.2.2.1
theorem dX12_swap_37 : decode cX12_swap 37 = .ok (.iadd, 1) := bl_dX12_swap_24.2.2.2.2.2.2.2.1
theorem dX12_swap_38 : decode cX12_swap 38 = .ok (.istore_n 1, 1) := bl_dX12_swap_24.2.2.2.2.2.2.2.2.1
theorem dX12_swap_39 : decode cX12_swap 39 = .ok (.aload_n 0, 1) := bl_dX12_swap_24.2.2.2.2.2.2.2.2.2.1
theorem dX12_swap_40 : decode cX12_swap 40 = .ok (.getfield 65, 3) := bl_dX12_swap_24.2.2.2.2.2.2.2.2.2.2.1
theorem dX12_swap_43 : decode cX12_swap 43 = .ok (.iload_n 2, 1) := bl_dX12_swap_24.2.2.2.2.2.2.2.2.2.2.2.1
theorem dX12_swap_44 : decode cX12_swap 44 = .ok (.iconst 0, 1) := bl_dX12_swap_24.2.2.2.2.2.2.2.2.2.2.2.2.1
theorem dX12_swap_45 : decode cX12_swap 45 = .ok (.iastore, 1) := bl_dX12_swap_24.2.2.2.2.2.2.2.2.2.2.2.2.2.1
theorem dX12_swap_46 : decode cX12_swap 46 = .ok (.aload_n 0, 1) := bl_dX12_swap_24.2.2.2.2.2.2.2.2.2.2.2.2.2.2.1
theorem dX12_swap_47 : decode cX12_swap 47 = .ok (.getfield 95, 3) := bl_dX12_swap_24.2.2.2.2.2.2.2.2.2.2.2.2.2.2.2
set_option maxRecDepth 20000 in
theorem lk_dX12_swap_50 : th_dr cX12_swap 50 = 28 :: 46 :: 155 :: 0 :: 14 :: 42 :: 28 :: 42 :: 180 :: 0 :: 95 :: 28 :: 46 :: 182 :: 0 :: 192 :: 132 :: 2 :: 1 :: 167 :: 255 :: 195 :: 27 :: 172 :: th_dr cX12_swap 74 := rfl
theorem bl_dX12_swap_50 : decode cX12_swap 50 = .ok (.iload_n 2, 1) ∧ decode cX12_swap 51 = .ok (.iaload, 1) ∧ decode cX12_swap 52 = .ok (.ifCond .lt 14, 3) ∧ decode cX12_swap 55 = .ok (.aload_n 0, 1) ∧ decode cX12_swap 56 = .ok (.iload_n 2, 1) ∧ decode cX12_swap 57 = .ok (.aload_n 0, 1) ∧ decode cX12_swap 58 = .ok (.getfield 95, 3) ∧ decode cX12_swap 61 = .ok (.iload_n 2, 1) ∧ decode cX12_swap 62 = .ok (.iaload, 1) ∧ decode cX12_swap 63 = .ok (.invokevirtual 192, 3) ∧ decode cX12_swap 66 = .ok (.iinc 2 1, 3) ∧ decode cX12_swap 69 = .ok (.goto (-61), 3) ∧ decode cX12_swap 72 = .ok (.iload_n 1, 1) ∧ decode cX12_swap 73 = .ok (.ireturn, 1) := op_28 lk_dX12_swap_50 fun e => op_46 e fun e => op_155p e rfl fun e => op_42 e fun e => op_28 e fun e => op_42 e fun e => op_180 e fun e => op_28 e fun e => op_46 e fun e => op_182 e fun e => op_132p e rfl fun e => op_167n e rfl rfl fun e => op_27 e fun e => (op_172 e fun _ => True.intro).1
theorem dX12_swap_50 : decode cX12_swap 50 = .ok (.iload_n 2, 1) := bl_dX12_swap_50.1
theorem dX12_swap_51 : decode cX12_swap 51 = .ok (.iaload, 1) := bl_dX12_swap_50.2.1
theorem dX12_swap_52 : decode cX12_swap 52 = .ok (.ifCond .lt 14, 3) := bl_dX12_swap_50.2.2.1
theorem dX12_swap_55 : decode cX12_swap 55 = .ok (.aload_n 0, 1) := bl_dX12_swap_50.2.2.2.1
theorem dX12_swap_56 : decode cX12_swap 56 = .ok (.iload_n 2, 1) := bl_dX12_swap_50.2.2.2.2.1
theorem dX12_swap_57 : decode cX12_swap 57 = .ok (.aload_n 0, 1) := bl_dX12_swap_50.2.2.2.2.2.1
theorem dX12_swap_58 : decode cX12_swap 58 = .ok (.getfield 95, 3) := bl_dX12_swap_50.2.2.2.2.2.2.1
theorem dX12_swap_61 : decode cX12_swap 61 = .ok (.iload_n 2, 1) := bl_dX12_swap_50.2.2.2.2.2.2.2.1
theorem dX12_swap_62 : decode cX12_swap 62 = .ok (.iaload, 1) := bl_dX12_swap_50.2.2.2.2.2.2.2.2.1
theorem dX12_swap_63 : decode cX12_swap 63 = .ok (.invokevirtual 192, 3) := bl_dX12_swap_50.2.2.2.2.2.2.2.2.2.1
theorem dX12_swap_66 : decode cX12_swap 66 = .ok (.iinc 2 1, 3) := bl_dX12_swap_50.2.2.2.2.2.2.2.2.2.2.1
theorem dX12_swap_69 : decode cX12_swap 69 = .ok (.goto (-61), 3) := bl_dX12_swap_50.2.2.2.2.2.2.2.2.2.2.2.1
theorem dX12_swap_72 : decode cX12_swap 72 = .ok (.iload_n 1, 1) := bl_dX12_swap_50.2.2.2.2.2.2.2.2.2.2.2.2.1
theorem dX12_swap_73 : decode cX12_swap 73 = .ok (.ireturn, 1) := bl_dX12_swap_50.2.2.2.2.2.2.2.2.2.2.2.2.2
set_option maxRecDepth 20000 in
theorem ggX12_partedMany_X12_isParted : GoodIn wsX12_partedMany wsX12_isParted := goodIn_q _ [(6, 40)] rfl gdwsX12_isParted
set_option maxRecDepth 20000 in
theorem gX12_partedMany_X12_isParted : GoodIn wsX12_partedMany (wsV RX12 142 RX12 yX12_isParted wsX12_isParted) := goodIn_app (goodIn_q _ [(2, 4)] rfl rfl) ggX12_partedMany_X12_isParted
theorem lk_dX12_partedMany_0 : th_dr cX12_partedMany 0 = 3 :: 60 :: 3 :: 61 :: 28 :: 42 :: 180 :: 0 :: 109 :: 162 :: 0 :: 25 :: 27 :: 42 :: 28 :: 182 :: 0 :: 142 :: 153 :: 0 :: 7 :: 4 :: 167 :: 0 :: 4 :: 3 :: th_dr cX12_partedMany 26 := rfl
theorem bl_dX12_partedMany_0 : decode cX12_partedMany 0 = .ok (.iconst 0, 1) ∧ decode cX12_partedMany 1 = .ok (.istore_n 1, 1) ∧ decode cX12_partedMany 2 = .ok (.iconst 0, 1) ∧ decode cX12_partedMany 3 = .ok (.istore_n 2, 1) ∧ decode cX12_partedMany 4 = .ok (.iload_n 2, 1) ∧ decode cX12_partedMany 5 = .ok (.aload_n 0, 1) ∧ decode cX12_partedMany 6 = .ok (.getfield 109, 3) ∧ decode cX12_partedMany 9 = .ok (.if_icmp .ge 25, 3) ∧ decode cX12_partedMany 12 = .ok (.iload_n 1, 1) ∧ decode cX12_partedMany 13 = .ok (.aload_n 0, 1) ∧ decode cX12_partedMany 14 = .ok (.iload_n 2, 1) ∧ decode cX12_partedMany 15 = .ok (.invokevirtual 142, 3) ∧ decode cX12_partedMany 18 = .ok (.ifCond .eq 7, 3) ∧ decode cX12_partedMany 21 = .ok (.iconst 1, 1) ∧ decode cX12_partedMany 22 = .ok (.goto 4, 3) ∧ decode cX12_partedMany 25 = .ok (.iconst 0, 1) := op_3 lk_dX12_partedMany_0 fun e => op_60 e fun e => op_3 e fun e => op_61 e fun e => op_28 e fun e => op_42 e fun e => op_180 e fun e => op_162p e rfl fun e => op_27 e fun e => op_42 e fun e => op_28 e fun e => op_182 e fun e => op_153p e rfl fun e => op_4 e fun e => op_167p e rfl fun e => (op_3 e fun _ => True.intro).1
theorem dX12_partedMany_0 : decode cX12_partedMany 0 = .ok (.iconst 0, 1) := bl_dX12_partedMany_0.1
theorem dX12_partedMany_1 : decode cX12_partedMany 1 = .ok (.istore_n 1, 1) := bl_dX12_partedMany_0.2.1
theorem dX12_partedMany_2 : decode cX12_partedMany 2 = .ok (.iconst 0, 1) := bl_dX12_partedMany_0.2.2.1
theorem dX12_partedMany_3 : decode cX12_partedMany 3 = .ok (.istore_n 2, 1) := bl_dX12_partedMany_0.2.2.2.1
theorem dX12_partedMany_4 : decode cX12_partedMany 4 = .ok (.iload_n 2, 1) := bl_dX12_partedMany_0.2.2.2.2.1
theorem dX12_partedMany_5 : decode cX12_partedMany 5 = .ok (.aload_n 0, 1) := bl_dX12_partedMany_0.2.2.2.2.2.1
theorem dX12_partedMany_6 : decode cX12_partedMany 6 = .ok (.getfield 109, 3) := bl_dX12_partedMany_0.2.2.2.2.2.2.1
theorem dX12_partedMany_9 : decode cX12_partedMany 9 = .ok (.if_icmp .ge 25, 3) := bl_dX12_partedMany_0.2.2.2.2.2.2.2.1
theorem dX12_partedMany_12 : decode cX12_partedMany 12 = .ok (.iload_n 1, 1) := bl_dX12_partedMany_0.2.2.2.2.2.2.2.2.1
theorem dX12_partedMany_13 : decode cX12_partedMany 13 = .ok (.aload_n 0, 1) := bl_dX12_partedMany_0.2.2.2.2.2.2.2.2.2.1
theorem dX12_partedMany_14 : decode cX12_partedMany 14 = .ok (.iload_n 2, 1) := bl_dX12_partedMany_0.2.2.2.2.2.2.2.2.2.2.1
theorem dX12_partedMany_15 : decode cX12_partedMany 15 = .ok (.invokevirtual 142, 3) := bl_dX12_partedMany_0.2.2.2.2.2.2.2.2.2.2.2.1
theorem dX12_partedMany_18 : decode cX12_partedMany 18 = .ok (.ifCond .eq 7, 3) := bl_dX12_partedMany_0.2.2.2.2.2.2.2.2.2.2.2.2.1
theorem dX12_partedMany_21 : decode cX12_partedMany 21 = .ok (.iconst 1, 1) := bl_dX12_partedMany_0.2.2.2.2.2.2.2.2.2.2.2.2.2.1
theorem dX12_partedMany_22 : decode cX12_partedMany 22 = .ok (.goto 4, 3) := bl_dX12_partedMany_0.2.2.2.2.2.2.2.2.2.2.2.2.2.2.1
theorem dX12_partedMany_25 : decode cX12_partedMany 25 = .ok (.iconst 0, 1) := bl_dX12_partedMany_0.2.2.2.2.2.2.2.2.2.2.2.2.2.2.2
theorem lk_dX12_partedMany_26 : th_dr cX12_partedMany 26 = 96 :: 60 :: 132 :: 2 :: 1 :: 167 :: 255 :: 229 :: 27 :: 172 :: th_dr cX12_partedMany 36 := rfl
theorem bl_dX12_partedMany_26 : decode cX12_partedMany 26 = .ok (.iadd, 1) ∧ decode cX12_partedMany 27 = .ok (.istore_n 1, 1) ∧ decode cX12_partedMany 28 = .ok (.iinc 2 1, 3) ∧ decode cX12_partedMany 31 = .ok (.goto (-27), 3) ∧ decode cX12_partedMany 34 = .ok (.iload_n 1, 1) ∧ decode cX12_partedMany 35 = .ok (.ireturn, 1) := op_96 lk_dX12_partedMany_26 fun e => op_60 e fun e => op_132p e rfl fun e => op_167n e rfl rfl fun e => op_27 e fun e => (op_172 e fun _ => True.intro).1
theorem dX12_partedMany_26 : decode cX12_partedMany 26 = .ok (.iadd, 1) := bl_dX12_partedMany_26.1
theorem dX12_partedMany_27 : decode cX12_partedMany 27 = .ok (.istore_n 1, 1) := bl_dX12_partedMany_26.2.1
theorem dX12_partedMany_28 : decode cX12_partedMany 28 = .ok (.iinc 2 1, 3) := bl_dX12_partedMany_26.2.2.1
theorem dX12_partedMany_31 : decode cX12_partedMany 31 = .ok (.goto (-27), 3) := bl_dX12_partedMany_26.2.2.2.1
theorem dX12_partedMany_34 : decode cX12_partedMany 34 = .ok (.iload_n 1, 1) := bl_dX12_partedMany_26.2.2.2.2.1
theorem dX12_partedMany_35 : decode cX12_partedMany 35 = .ok (.ireturn, 1) := bl_dX12_partedMany_26.2.2.2.2.2
set_option maxRecDepth 20000 in
theorem ggX12_years_X12_within : GoodIn wsX12_years wsX12_within := goodIn_q _ [(14, 1)] rfl gdwsX12_within
set_option maxRecDepth 20000 in
theorem gX12_years_X12_within : GoodIn wsX12_years (va_wsS RX12 112 yX12_within wsX12_within) := goodIn_app (goodIn_q _ [(11, 3)] rfl rfl) ggX12_years_X12_within
set_option maxRecDepth 20000 in
theorem ggX12_years_X12_finding : GoodIn wsX12_years wsX12_finding := goodIn_q _ [(18, 3), (29, 38)] rfl gdwsX12_finding
set_option maxRecDepth 20000 in
theorem gX12_years_X12_finding : GoodIn wsX12_years (wsV RX12 120 RX12 yX12_finding wsX12_finding) := goodIn_app (goodIn_q _ [(15, 3), (13, 1)] rfl rfl) ggX12_years_X12_finding
set_option maxRecDepth 20000 in
theorem gdwsX12_partedMany : wsX12_partedMany.all goodWord = true := by decide +kernel
set_option maxRecDepth 20000 in
theorem ggX12_years_X12_partedMany : GoodIn wsX12_years wsX12_partedMany := goodIn_q _ [(24, 1), (2, 1), (25, 3), (13, 1), (28, 1), (10, 1), (29, 38)] rfl gdwsX12_partedMany
set_option maxRecDepth 20000 in
theorem gX12_years_X12_partedMany : GoodIn wsX12_years (wsV RX12 230 RX12 yX12_partedMany wsX12_partedMany) := goodIn_app (goodIn_q _ [(21, 3), (13, 1)] rfl rfl) ggX12_years_X12_partedMany
theorem lk_dX12_years_0 : th_dr cX12_years 0 = 27 :: 4 :: 16 :: 30 :: 184 :: 0 :: 112 :: 154 :: 0 :: 10 :: 42 :: 18 :: 119 :: 182 :: 0 :: 120 :: 172 :: 3 :: 61 :: 28 :: 42 :: 180 :: 0 :: 109 :: 162 :: 0 :: 93 :: 42 :: th_dr cX12_years 28 := rfl
theorem bl_dX12_years_0 : decode cX12_years 0 = .ok (.iload_n 1, 1) ∧ decode cX12_years 1 = .ok (.iconst 1, 1) ∧ decode cX12_years 2 = .ok (.bipush 30, 2) ∧ decode cX12_years 4 = .ok (.invokestatic 112, 3) ∧ decode cX12_years 7 = .ok (.ifCond .ne 10, 3) ∧ decode cX12_years 10 = .ok (.aload_n 0, 1) ∧ decode cX12_years 11 = .ok (.ldc 119, 2) ∧ decode cX12_years 13 = .ok (.invokevirtual 120, 3) ∧ decode cX12_years 16 = .ok (.ireturn, 1) ∧ decode cX12_years 17 = .ok (.iconst 0, 1) ∧ decode cX12_years 18 = .ok (.istore_n 2, 1) ∧ decode cX12_years 19 = .ok (.iload_n 2, 1) ∧ decode cX12_years 20 = .ok (.aload_n 0, 1) ∧ decode cX12_years 21 = .ok (.getfield 109, 3) ∧ decode cX12_years 24 = .ok (.if_icmp .ge 93, 3) ∧ decode cX12_years 27 = .ok (.aload_n 0, 1) := op_27 lk_dX12_years_0 fun e => op_4 e fun e => op_16p e rfl fun e => op_184 e fun e => op_154p e rfl fun e => op_42 e fun e => op_18 e fun e => op_182 e fun e => op_172 e fun e => op_3 e fun e => op_61 e fun e => op_28 e fun e => op_42 e fun e => op_180 e fun e => op_162p e rfl fun e => (op_42 e fun _ => True.intro).1
theorem dX12_years_0 : decode cX12_years 0 = .ok (.iload_n 1, 1) := bl_dX12_years_0.1
theorem dX12_years_1 : decode cX12_years 1 = .ok (.iconst 1, 1) := bl_dX12_years_0.2.1
theorem dX12_years_2 : decode cX12_years 2 = .ok (.bipush 30, 2) := bl_dX12_years_0.2.2.1
theorem dX12_years_4 : decode cX12_years 4 = .ok (.invokestatic 112, 3) := bl_dX12_years_0.2.2.2.1
theorem dX12_years_7 : decode cX12_years 7 = .ok (.ifCond .ne 10, 3) := bl_dX12_years_0.2.2.2.2.1
theorem dX12_years_10 : decode cX12_years 10 = .ok (.aload_n 0, 1) := bl_dX12_years_0.2.2.2.2.2.1
theorem dX12_years_11 : decode cX12_years 11 = .ok (.ldc 119, 2) := bl_dX12_years_0.2.2.2.2.2.2.1
theorem dX12_years_13 : decode cX12_years 13 = .ok (.invokevirtual 120, 3) := bl_dX12_years_0.2.2.2.2.2.2.2.1
theorem dX12_years_16 : decode cX12_years 16 = .ok (.ireturn, 1) := bl_dX12_years_0.2.2.2.2.2.2.2.2.1
theorem dX12_years_17 : decode cX12_years 17 = .ok (.iconst 0, 1) := bl_dX12_years_0.2.2.2.2.2.2.2.2.2.1
theorem dX12_years_18 : decode cX12_years 18 = .ok (.istore_n 2, 1) := bl_dX12_years_0.2.2.2.2.2.2.2.2.2.2.1
theorem dX12_years_19 : decode cX12_years 19 = .ok (.iload_n 2, 1) := bl_dX12_years_0.2.2.2.2.2.2.2.2.2.2.2.1
theorem dX12_years_20 : decode cX12_years 20 = .ok (.aload_n 0, 1) := bl_dX12_years_0.2.2.2.2.2.2.2.2.2.2.2.2.1
theorem dX12_years_21 : decode cX12_years 21 = .ok (.getfield 109, 3) := bl_dX12_years_0.2.2.2.2.2.2.2.2.2.2.2.2.2.1
theorem dX12_years_24 : decode cX12_years 24 = .ok (.if_icmp .ge 93, 3) := bl_dX12_years_0.2.2.2.2.2.2.2.2.2.2.2.2.2.2.1
theorem dX12_years_27 : decode cX12_years 27 = .ok (.aload_n 0, 1) := bl_dX12_years_0.2.2.2.2.2.2.2.2.2.2.2.2.2.2.2
theorem lk_dX12_years_28 : th_dr cX12_years 28 = 180 :: 0 :: 28 :: 28 :: 46 :: 155 :: 0 :: 24 :: 42 :: 180 :: 0 :: 34 :: 42 :: 180 :: 0 :: 28 :: 28 :: 46 :: 46 :: 17 :: 0 :: 150 :: 161 :: 0 :: 7 :: 4 :: 167 :: 0 :: 4 :: 3 :: th_dr cX12_years 58 := rfl
theorem bl_dX12_years_28 : decode cX12_years 28 = .ok (.getfield 28, 3) ∧ decode cX12_years 31 = .ok (.iload_n 2, 1) ∧ decode cX12_years 32 = .ok (.iaload, 1) ∧ decode cX12_years 33 = .ok (.ifCond .lt 24, 3) ∧ decode cX12_years 36 = .ok (.aload_n 0, 1) ∧ decode cX12_years 37 = .ok (.getfield 34, 3) ∧ decode cX12_years 40 = .ok (.aload_n 0, 1) ∧ decode cX12_years 41 = .ok (.getfield 28, 3) ∧ decode cX12_years 44 = .ok (.iload_n 2, 1) ∧ decode cX12_years 45 = .ok (.iaload, 1) ∧ decode cX12_years 46 = .ok (.iaload, 1) ∧ decode cX12_years 47 = .ok (.sipush 150, 3) ∧ decode cX12_years 50 = .ok (.if_icmp .lt 7, 3) ∧ decode cX12_years 53 = .ok (.iconst 1, 1) ∧ decode cX12_years 54 = .ok (.goto 4, 3) ∧ decode cX12_years 57 = .ok (.iconst 0, 1) := op_180 lk_dX12_years_28 fun e => op_28 e fun e => op_46 e fun e => op_155p e rfl fun e => op_42 e fun e => op_180 e fun e => op_42 e fun e => op_180 e fun e => op_28 e fun e => op_46 e fun e => op_46 e fun e => op_17p e rfl fun e => op_161p e rfl fun e => op_4 e fun e => op_167p e rfl fun e => (op_3 e fun _ => True.intro).1
theorem dX12_years_28 : decode cX12_years 28 = .ok (.getfield 28, 3) := bl_dX12_years_28.1
theorem dX12_years_31 : decode cX12_years 31 = .ok (.iload_n 2, 1) := bl_dX12_years_28.2.1
theorem dX12_years_32 : decode cX12_years 32 = .ok (.iaload, 1) := bl_dX12_years_28.2.2.1
theorem dX12_years_33 : decode cX12_years 33 = .ok (.ifCond .lt 24, 3) := bl_dX12_years_28.2.2.2.1
theorem dX12_years_36 : decode cX12_years 36 = .ok (.aload_n 0, 1) := bl_dX12_years_28.2.2.2.2.1
theorem dX12_years_37 : decode cX12_years 37 = .ok (.getfield 34, 3) := bl_dX12_years_28.2.2.2.2.2.1
theorem dX12_years_40 : decode cX12_years 40 = .ok (.aload_n 0, 1) := bl_dX12_years_28.2.2.2.2.2.2.1
theorem dX12_years_41 : decode cX12_years 41 = .ok (.getfield 28, 3) := bl_dX12_years_28.2.2.2.2.2.2.2.1
theorem dX12_years_44 : decode cX12_years 44 = .ok (.iload_n 2, 1) := bl_dX12_years_28.2.2.2.2.2.2.2.2.1
theorem dX12_years_45 : decode cX12_years 45 = .ok (.iaload, 1) := bl_dX12_years_28.2.2.2.2.2.2.2.2.2.1
theorem dX12_years_46 : decode cX12_years 46 = .ok (.iaload, 1) := bl_dX12_years_28.2.2.2.2.2.2.2.2.2.2.1
theorem dX12_years_47 : decode cX12_years 47 = .ok (.sipush 150, 3) := bl_dX12_years_28.2.2.2.2.2.2.2.2.2.2.2.1
theorem dX12_years_50 : decode cX12_years 50 = .ok (.if_icmp .lt 7, 3) := bl_dX12_years_28.2.2.2.2.2.2.2.2.2.2.2.2.1
theorem dX12_years_53 : decode cX12_years 53 = .ok (.iconst 1, 1) := bl_dX12_years_28.2.2.2.2.2.2.2.2.2.2.2.2.2.1
theorem dX12_years_54 : decode cX12_years 54 = .ok (.goto 4, 3) := bl_dX12_years_28.2.2.2.2.2.2.2.2.2.2.2.2.2.2.1
theorem dX12_years_57 : decode cX12_years 57 = .ok (.iconst 0, 1) := bl_dX12_years_28.2.2.2.2.2.2.2.2.2.2.2.2.2.2.2
set_option maxRecDepth 20000 in
theorem lk_dX12_years_58 : th_dr cX12_years 58 = 62 :: 42 :: 180 :: 0 :: 25 :: 28 :: 16 :: 100 :: 42 :: 180 :: 0 :: 25 :: 28 :: 46 :: 27 :: 29 :: 153 :: 0 :: 8 :: 16 :: 20 :: 167 :: 0 :: 5 :: 16 :: 12 :: 104 :: th_dr cX12_years 85 := rfl
theorem bl_dX12_years_58 : decode cX12_years 58 = .ok (.istore_n 3, 1) ∧ decode cX12_years 59 = .ok (.aload_n 0, 1) ∧ decode cX12_years 60 = .ok (.getfield 25, 3) ∧ decode cX12_years 63 = .ok (.iload_n 2, 1) ∧ decode cX12_years 64 = .ok (.bipush 100, 2) ∧ decode cX12_years 66 = .ok (.aload_n 0, 1) ∧ decode cX12_years 67 = .ok (.getfield 25, 3) ∧ decode cX12_years 70 = .ok (.iload_n 2, 1) ∧ decode cX12_years 71 = .ok (.iaload, 1) ∧ decode cX12_years 72 = .ok (.iload_n 1, 1) ∧ decode cX12_years 73 = .ok (.iload_n 3, 1) ∧ decode cX12_years 74 = .ok (.ifCond .eq 8, 3) ∧ decode cX12_years 77 = .ok (.bipush 20, 2) ∧ decode cX12_years 79 = .ok (.goto 5, 3) ∧ decode cX12_years 82 = .ok (.bipush 12, 2) ∧ decode cX12_years 84 = .ok (.imul, 1) := op_62 lk_dX12_years_58 fun e => op_42 e fun e => op_180 e fun e => op_28 e fun e => op_16p e rfl fun e => op_42 e fun e => op_180 e fun e => op_28 e fun e => op_46 e fun e => op_27 e fun e => op_29 e fun e => op_153p e rfl fun e => op_16p e rfl fun e => op_167p e rfl fun e => op_16p e rfl fun e => (op_104 e fun _ => True.intro).1
theorem dX12_years_58 : decode cX12_years 58 = .ok (.istore_n 3, 1) := bl_dX12_years_58.1
theorem dX12_years_59 : decode cX12_years 59 = .ok (.aload_n 0, 1) := bl_dX12_years_58.2.1
theorem dX12_years_60 : decode cX12_years 60 = .ok (.getfield 25, 3) := bl_dX12_years_58.2.2.1
theorem dX12_years_63 : decode cX12_years 63 = .ok (.iload_n 2, 1) := bl_dX12_years_58.2.2.2.1
theorem dX12_years_64 : decode cX12_years 64 = .ok (.bipush 100, 2) := bl_dX12_years_58.2.2.2.2.1
theorem dX12_years_66 : decode cX12_years 66 = .ok (.aload_n 0, 1) := bl_dX12_years_58.2.2.2.2.2.1
theorem dX12_years_67 : decode cX12_years 67 = .ok (.getfield 25, 3) := bl_dX12_years_58.2.2.2.2.2.2.1
theorem dX12_years_70 : decode cX12_years 70 = .ok (.iload_n 2, 1) := bl_dX12_years_58.2.2.2.2.2.2.2.1
theorem dX12_years_71 : decode cX12_years 71 = .ok (.iaload, 1) := bl_dX12_years_58.2.2.2.2.2.2.2.2.1
theorem dX12_years_72 : decode cX12_years 72 = .ok (.iload_n 1, 1) := bl_dX12_years_58.2.2.2.2.2.2.2.2.2.1
theorem dX12_years_73 : decode cX12_years 73 = .ok (.iload_n 3, 1) := bl_dX12_years_58.2.2.2.2.2.2.2.2.2.2.1
theorem dX12_years_74 : decode cX12_years 74 = .ok (.ifCond .eq 8, 3) := bl_dX12_years_58.2.2.2.2.2.2.2.2.2.2.2.1
theorem dX12_years_77 : decode cX12_years 77 = .ok (.bipush 20, 2) := bl_dX12_years_58.2.2.2.2.2.2.2.2.2.2.2.2.1
theorem dX12_years_79 : decode cX12_years 79 = .ok (.goto 5, 3) := bl_dX12_years_58.2.2.2.2.2.2.2.2.2.2.2.2.2.1
theorem dX12_years_82 : decode cX12_years 82 = .ok (.bipush 12, 2) := bl_dX12_years_58.2.2.2.2.2.2.2.2.2.2.2.2.2.2.1
theorem dX12_years_84 : decode cX12_years 84 = .ok (.imul, 1) := bl_dX12_years_58.2.2.2.2.2.2.2.2.2.2.2.2.2.2.2
set_option maxRecDepth 20000 in
theorem lk_dX12_years_85 : th_dr cX12_years 85 = 96 :: 184 :: 0 :: 168 :: 79 :: 42 :: 180 :: 0 :: 22 :: 28 :: 16 :: 100 :: 42 :: 180 :: 0 :: 22 :: 28 :: 46 :: 6 :: 27 :: 104 :: 96 :: 184 :: 0 :: 168 :: th_dr cX12_years 110 := rfl
theorem bl_dX12_years_85 : decode cX12_years 85 = .ok (.iadd, 1) ∧ decode cX12_years 86 = .ok (.invokestatic 168, 3) ∧ decode cX12_years 89 = .ok (.iastore, 1) ∧ decode cX12_years 90 = .ok (.aload_n 0, 1) ∧ decode cX12_years 91 = .ok (.getfield 22, 3) ∧ decode cX12_years 94 = .ok (.iload_n 2, 1) ∧ decode cX12_years 95 = .ok (.bipush 100, 2) ∧ decode cX12_years 97 = .ok (.aload_n 0, 1) ∧ decode cX12_years 98 = .ok (.getfield 22, 3) ∧ decode cX12_years 101 = .ok (.iload_n 2, 1) ∧ decode cX12_years 102 = .ok (.iaload, 1) ∧ decode cX12_years 103 = .ok (.iconst 3, 1) ∧ decode cX12_years 104 = .ok (.iload_n 1, 1) ∧ decode cX12_years 105 = .ok (.imul, 1) ∧ decode cX12_years 106 = .ok (.iadd, 1) ∧ decode cX12_years 107 = .ok (.invokestatic 168, 3) := op_96 lk_dX12_years_85 fun e => op_184 e fun e => op_79 e fun e => op_42 e fun e => op_180 e fun e => op_28 e fun e => op_16p e rfl fun e => op_42 e fun e => op_180 e fun e => op_28 e fun e => op_46 e fun e => op_6 e fun e => op_27 e fun e => op_104 e fun e => op_96 e fun e => (op_184 e fun _ => True.intro).1
theorem dX12_years_85 : decode cX12_years 85 = .ok (.iadd, 1) := bl_dX12_years_85.1
theorem dX12_years_86 : decode cX12_years 86 = .ok (.invokestatic 168, 3) := bl_dX12_years_85.2.1
theorem dX12_years_89 : decode cX12_years 89 = .ok (.iastore, 1) := bl_dX12_years_85.2.2.1
theorem dX12_years_90 : decode cX12_years 90 = .ok (.aload_n 0, 1) := bl_dX12_years_85.2.2.2.1
theorem dX12_years_91 : decode cX12_years 91 = .ok (.getfield 22, 3) := bl_dX12_years_85.2.2.2.2.1
theorem dX12_years_94 : decode cX12_years 94 = .ok (.iload_n 2, 1) := bl_dX12_years_85.2.2.2.2.2.1
theorem dX12_years_95 : decode cX12_years 95 = .ok (.bipush 100, 2) := bl_dX12_years_85.2.2.2.2.2.2.1
theorem dX12_years_97 : decode cX12_years 97 = .ok (.aload_n 0, 1) := bl_dX12_years_85.2.2.2.2.2.2.2.1
theorem dX12_years_98 : decode cX12_years 98 = .ok (.getfield 22, 3) := bl_dX12_years_85.2.2.2.2.2.2.2.2.1
theorem dX12_years_101 : decode cX12_years 101 = .ok (.iload_n 2, 1) := bl_dX12_years_85.2.2.2.2.2.2.2.2.2.1
theorem dX12_years_102 : decode cX12_years 102 = .ok (.iaload, 1) := bl_dX12_years_85.2.2.2.2.2.2.2.2.2.2.1
theorem dX12_years_103 : decode cX12_years 103 = .ok (.iconst 3, 1) := bl_dX12_years_85.2.2.2.2.2.2.2.2.2.2.2.1
theorem dX12_years_104 : decode cX12_years 104 = .ok (.iload_n 1, 1) := bl_dX12_years_85.2.2.2.2.2.2.2.2.2.2.2.2.1
theorem dX12_years_105 : decode cX12_years 105 = .ok (.imul, 1) := bl_dX12_years_85.2.2.2.2.2.2.2.2.2.2.2.2.2.1
theorem dX12_years_106 : decode cX12_years 106 = .ok (.iadd, 1) := bl_dX12_years_85.2.2.2.2.2.2.2.2.2.2.2.2.2.2.1
theorem dX12_years_107 : decode cX12_years 107 = .ok (.invokestatic 168, 3) := bl_dX12_years_85.2.2.2.2.2.2.2.2.2.2.2.2.2.2.2
set_option maxRecDepth 20000 in
theorem lk_dX12_years_110 : th_dr cX12_years 110 = 79 :: 132 :: 2 :: 1 :: 167 :: 255 :: 161 :: 42 :: 182 :: 0 :: 230 :: 172 :: th_dr cX12_years 122 := rfl
theorem bl_dX12_years_110 : decode cX12_years 110 = .ok (.iastore, 1) ∧ decode cX12_years 111 = .ok (.iinc 2 1, 3) ∧ decode cX12_years 114 = .ok (.goto (-95), 3) ∧ decode cX12_years 117 = .ok (.aload_n 0, 1) ∧ decode cX12_years 118 = .ok (.invokevirtual 230, 3) ∧ decode cX12_years 121 = .ok (.ireturn, 1) := op_79 lk_dX12_years_110 fun e => op_132p e rfl fun e => op_167n e rfl rfl fun e => op_42 e fun e => op_182 e fun e => (op_172 e fun _ => True.intro).1
theorem dX12_years_110 : decode cX12_years 110 = .ok (.iastore, 1) := bl_dX12_years_110.1
theorem dX12_years_111 : decode cX12_years 111 = .ok (.iinc 2 1, 3) := bl_dX12_years_110.2.1
theorem dX12_years_114 : decode cX12_years 114 = .ok (.goto (-95), 3) := bl_dX12_years_110.2.2.1
theorem dX12_years_117 : decode cX12_years 117 = .ok (.aload_n 0, 1) := bl_dX12_years_110.2.2.2.1
theorem dX12_years_118 : decode cX12_years 118 = .ok (.invokevirtual 230, 3) := bl_dX12_years_110.2.2.2.2.1
theorem dX12_years_121 : decode cX12_years 121 = .ok (.ireturn, 1) := bl_dX12_years_110.2.2.2.2.2
set_option maxRecDepth 20000 in
theorem ggX12_look_X12_isBuoy : GoodIn wsX12_look wsX12_isBuoy := goodIn_q _ [(16, 4), (15, 1), (20, 1), (27, 38)] rfl gdwsX12_isBuoy
set_option maxRecDepth 20000 in
theorem gX12_look_X12_isBuoy : GoodIn wsX12_look (wsV RX12 139 RX12 yX12_isBuoy wsX12_isBuoy) := goodIn_app (goodIn_q _ [(12, 4)] rfl rfl) ggX12_look_X12_isBuoy
set_option maxRecDepth 20000 in
theorem ggX12_look_X12_within : GoodIn wsX12_look wsX12_within := goodIn_q _ [(20, 1)] rfl gdwsX12_within
set_option maxRecDepth 20000 in
theorem gX12_look_X12_within : GoodIn wsX12_look (va_wsS RX12 112 yX12_within wsX12_within) := goodIn_app (goodIn_q _ [(18, 2), (15, 1)] rfl rfl) ggX12_look_X12_within
set_option maxRecDepth 20000 in
theorem ggX12_look_X12_finding : GoodIn wsX12_look wsX12_finding := goodIn_q _ [(24, 41)] rfl gdwsX12_finding
set_option maxRecDepth 20000 in
theorem gX12_look_X12_finding : GoodIn wsX12_look (wsV RX12 120 RX12 yX12_finding wsX12_finding) := goodIn_app (goodIn_q _ [(21, 3), (15, 1)] rfl rfl) ggX12_look_X12_finding
theorem lk_dX12_look_0 : th_dr cX12_look 0 = 42 :: 27 :: 182 :: 0 :: 139 :: 153 :: 0 :: 22 :: 28 :: 3 :: 16 :: 100 :: 184 :: 0 :: 112 :: 153 :: 0 :: 12 :: 29 :: 3 :: 4 :: 184 :: 0 :: 112 :: 154 :: 0 :: 10 :: 42 :: 18 :: 119 :: th_dr cX12_look 30 := rfl
theorem bl_dX12_look_0 : decode cX12_look 0 = .ok (.aload_n 0, 1) ∧ decode cX12_look 1 = .ok (.iload_n 1, 1) ∧ decode cX12_look 2 = .ok (.invokevirtual 139, 3) ∧ decode cX12_look 5 = .ok (.ifCond .eq 22, 3) ∧ decode cX12_look 8 = .ok (.iload_n 2, 1) ∧ decode cX12_look 9 = .ok (.iconst 0, 1) ∧ decode cX12_look 10 = .ok (.bipush 100, 2) ∧ decode cX12_look 12 = .ok (.invokestatic 112, 3) ∧ decode cX12_look 15 = .ok (.ifCond .eq 12, 3) ∧ decode cX12_look 18 = .ok (.iload_n 3, 1) ∧ decode cX12_look 19 = .ok (.iconst 0, 1) ∧ decode cX12_look 20 = .ok (.iconst 1, 1) ∧ decode cX12_look 21 = .ok (.invokestatic 112, 3) ∧ decode cX12_look 24 = .ok (.ifCond .ne 10, 3) ∧ decode cX12_look 27 = .ok (.aload_n 0, 1) ∧ decode cX12_look 28 = .ok (.ldc 119, 2) := op_42 lk_dX12_look_0 fun e => op_27 e fun e => op_182 e fun e => op_153p e rfl fun e => op_28 e fun e => op_3 e fun e => op_16p e rfl fun e => op_184 e fun e => op_153p e rfl fun e => op_29 e fun e => op_3 e fun e => op_4 e fun e => op_184 e fun e => op_154p e rfl fun e => op_42 e fun e => (op_18 e fun _ => True.intro).1
theorem dX12_look_0 : decode cX12_look 0 = .ok (.aload_n 0, 1) := bl_dX12_look_0.1
theorem dX12_look_1 : decode cX12_look 1 = .ok (.iload_n 1, 1) := bl_dX12_look_0.2.1
theorem dX12_look_2 : decode cX12_look 2 = .ok (.invokevirtual 139, 3) := bl_dX12_look_0.2.2.1
theorem dX12_look_5 : decode cX12_look 5 = .ok (.ifCond .eq 22, 3) := bl_dX12_look_0.2.2.2.1
theorem dX12_look_8 : decode cX12_look 8 = .ok (.iload_n 2, 1) := bl_dX12_look_0.2.2.2.2.1
theorem dX12_look_9 : decode cX12_look 9 = .ok (.iconst 0, 1) := bl_dX12_look_0.2.2.2.2.2.1
theorem dX12_look_10 : decode cX12_look 10 = .ok (.bipush 100, 2) := bl_dX12_look_0.2.2.2.2.2.2.1
theorem dX12_look_12 : decode cX12_look 12 = .ok (.invokestatic 112, 3) := bl_dX12_look_0.2.2.2.2.2.2.2.1
theorem dX12_look_15 : decode cX12_look 15 = .ok (.ifCond .eq 12, 3) := bl_dX12_look_0.2.2.2.2.2.2.2.2.1
theorem dX12_look_18 : decode cX12_look 18 = .ok (.iload_n 3, 1) := bl_dX12_look_0.2.2.2.2.2.2.2.2.2.1
theorem dX12_look_19 : decode cX12_look 19 = .ok (.iconst 0, 1) := bl_dX12_look_0.2.2.2.2.2.2.2.2.2.2.1
theorem dX12_look_20 : decode cX12_look 20 = .ok (.iconst 1, 1) := bl_dX12_look_0.2.2.2.2.2.2.2.2.2.2.2.1
theorem dX12_look_21 : decode cX12_look 21 = .ok (.invokestatic 112, 3) := bl_dX12_look_0.2.2.2.2.2.2.2.2.2.2.2.2.1
theorem dX12_look_24 : decode cX12_look 24 = .ok (.ifCond .ne 10, 3) := bl_dX12_look_0.2.2.2.2.2.2.2.2.2.2.2.2.2.1
theorem dX12_look_27 : decode cX12_look 27 = .ok (.aload_n 0, 1) := bl_dX12_look_0.2.2.2.2.2.2.2.2.2.2.2.2.2.2.1
theorem dX12_look_28 : decode cX12_look 28 = .ok (.ldc 119, 2) := bl_dX12_look_0.2.2.2.2.2.2.2.2.2.2.2.2.2.2.2
theorem lk_dX12_look_30 : th_dr cX12_look 30 = 182 :: 0 :: 120 :: 172 :: 29 :: 4 :: 160 :: 0 :: 16 :: 28 :: 42 :: 180 :: 0 :: 25 :: 27 :: 46 :: 164 :: 0 :: 23 :: 167 :: 0 :: 13 :: 28 :: 42 :: 180 :: 0 :: 22 :: 27 :: th_dr cX12_look 58 := rfl
theorem bl_dX12_look_30 : decode cX12_look 30 = .ok (.invokevirtual 120, 3) ∧ decode cX12_look 33 = .ok (.ireturn, 1) ∧ decode cX12_look 34 = .ok (.iload_n 3, 1) ∧ decode cX12_look 35 = .ok (.iconst 1, 1) ∧ decode cX12_look 36 = .ok (.if_icmp .ne 16, 3) ∧ decode cX12_look 39 = .ok (.iload_n 2, 1) ∧ decode cX12_look 40 = .ok (.aload_n 0, 1) ∧ decode cX12_look 41 = .ok (.getfield 25, 3) ∧ decode cX12_look 44 = .ok (.iload_n 1, 1) ∧ decode cX12_look 45 = .ok (.iaload, 1) ∧ decode cX12_look 46 = .ok (.if_icmp .le 23, 3) ∧ decode cX12_look 49 = .ok (.goto 13, 3) ∧ decode cX12_look 52 = .ok (.iload_n 2, 1) ∧ decode cX12_look 53 = .ok (.aload_n 0, 1) ∧ decode cX12_look 54 = .ok (.getfield 22, 3) ∧ decode cX12_look 57 = .ok (.iload_n 1, 1) := op_182 lk_dX12_look_30 fun e => op_172 e fun e => op_29 e fun e => op_4 e fun e => op_160p e rfl fun e => op_28 e fun e => op_42 e fun e => op_180 e fun e => op_27 e fun e => op_46 e fun e => op_164p e rfl fun e => op_167p e rfl fun e => op_28 e fun e => op_42 e fun e => op_180 e fun e => (op_27 e fun _ => True.intro).1
theorem dX12_look_30 : decode cX12_look 30 = .ok (.invokevirtual 120, 3) := bl_dX12_look_30.1
theorem dX12_look_33 : decode cX12_look 33 = .ok (.ireturn, 1) := bl_dX12_look_30.2.1
theorem dX12_look_34 : decode cX12_look 34 = .ok (.iload_n 3, 1) := bl_dX12_look_30.2.2.1
theorem dX12_look_35 : decode cX12_look 35 = .ok (.iconst 1, 1) := bl_dX12_look_30.2.2.2.1
theorem dX12_look_36 : decode cX12_look 36 = .ok (.if_icmp .ne 16, 3) := bl_dX12_look_30.2.2.2.2.1
theorem dX12_look_39 : decode cX12_look 39 = .ok (.iload_n 2, 1) := bl_dX12_look_30.2.2.2.2.2.1
theorem dX12_look_40 : decode cX12_look 40 = .ok (.aload_n 0, 1) := bl_dX12_look_30.2.2.2.2.2.2.1
theorem dX12_look_41 : decode cX12_look 41 = .ok (.getfield 25, 3) := bl_dX12_look_30.2.2.2.2.2.2.2.1
theorem dX12_look_44 : decode cX12_look 44 = .ok (.iload_n 1, 1) := bl_dX12_look_30.2.2.2.2.2.2.2.2.1
theorem dX12_look_45 : decode cX12_look 45 = .ok (.iaload, 1) := bl_dX12_look_30.2.2.2.2.2.2.2.2.2.1
theorem dX12_look_46 : decode cX12_look 46 = .ok (.if_icmp .le 23, 3) := bl_dX12_look_30.2.2.2.2.2.2.2.2.2.2.1
theorem dX12_look_49 : decode cX12_look 49 = .ok (.goto 13, 3) := bl_dX12_look_30.2.2.2.2.2.2.2.2.2.2.2.1
theorem dX12_look_52 : decode cX12_look 52 = .ok (.iload_n 2, 1) := bl_dX12_look_30.2.2.2.2.2.2.2.2.2.2.2.2.1
theorem dX12_look_53 : decode cX12_look 53 = .ok (.aload_n 0, 1) := bl_dX12_look_30.2.2.2.2.2.2.2.2.2.2.2.2.2.1
theorem dX12_look_54 : decode cX12_look 54 = .ok (.getfield 22, 3) := bl_dX12_look_30.2.2.2.2.2.2.2.2.2.2.2.2.2.2.1
theorem dX12_look_57 : decode cX12_look 57 = .ok (.iload_n 1, 1) := bl_dX12_look_30.2.2.2.2.2.2.2.2.2.2.2.2.2.2.2
set_option maxRecDepth 20000 in
theorem lk_dX12_look_58 : th_dr cX12_look 58 = 46 :: 163 :: 0 :: 10 :: 42 :: 18 :: 191 :: 182 :: 0 :: 120 :: 172 :: 29 :: 4 :: 160 :: 0 :: 22 :: 42 :: 180 :: 0 :: 22 :: 27 :: 42 :: 180 :: 0 :: 22 :: 27 :: 46 :: th_dr cX12_look 85 := rfl
theorem bl_dX12_look_58 : decode cX12_look 58 = .ok (.iaload, 1) ∧ decode cX12_look 59 = .ok (.if_icmp .gt 10, 3) ∧ decode cX12_look 62 = .ok (.aload_n 0, 1) ∧ decode cX12_look 63 = .ok (.ldc 191, 2) ∧ decode cX12_look 65 = .ok (.invokevirtual 120, 3) ∧ decode cX12_look 68 = .ok (.ireturn, 1) ∧ decode cX12_look 69 = .ok (.iload_n 3, 1) ∧ decode cX12_look 70 = .ok (.iconst 1, 1) ∧ decode cX12_look 71 = .ok (.if_icmp .ne 22, 3) ∧ decode cX12_look 74 = .ok (.aload_n 0, 1) ∧ decode cX12_look 75 = .ok (.getfield 22, 3) ∧ decode cX12_look 78 = .ok (.iload_n 1, 1) ∧ decode cX12_look 79 = .ok (.aload_n 0, 1) ∧ decode cX12_look 80 = .ok (.getfield 22, 3) ∧ decode cX12_look 83 = .ok (.iload_n 1, 1) ∧ decode cX12_look 84 = .ok (.iaload, 1) := op_46 lk_dX12_look_58 fun e => op_163p e rfl fun e => op_42 e fun e => op_18 e fun e => op_182 e fun e => op_172 e fun e => op_29 e fun e => op_4 e fun e => op_160p e rfl fun e => op_42 e fun e => op_180 e fun e => op_27 e fun e => op_42 e fun e => op_180 e fun e => op_27 e fun e => (op_46 e fun _ => True.intro).1
theorem dX12_look_58 : decode cX12_look 58 = .ok (.iaload, 1) := bl_dX12_look_58.1
theorem dX12_look_59 : decode cX12_look 59 = .ok (.if_icmp .gt 10, 3) := bl_dX12_look_58.2.1
theorem dX12_look_62 : decode cX12_look 62 = .ok (.aload_n 0, 1) := bl_dX12_look_58.2.2.1
theorem dX12_look_63 : decode cX12_look 63 = .ok (.ldc 191, 2) := bl_dX12_look_58.2.2.2.1
theorem dX12_look_65 : decode cX12_look 65 = .ok (.invokevirtual 120, 3) := bl_dX12_look_58.2.2.2.2.1
theorem dX12_look_68 : decode cX12_look 68 = .ok (.ireturn, 1) := bl_dX12_look_58.2.2.2.2.2.1
theorem dX12_look_69 : decode cX12_look 69 = .ok (.iload_n 3, 1) := bl_dX12_look_58.2.2.2.2.2.2.1
theorem dX12_look_70 : decode cX12_look 70 = .ok (.iconst 1, 1) := bl_dX12_look_58.2.2.2.2.2.2.2.1
theorem dX12_look_71 : decode cX12_look 71 = .ok (.if_icmp .ne 22, 3) := bl_dX12_look_58.2.2.2.2.2.2.2.2.1
theorem dX12_look_74 : decode cX12_look 74 = .ok (.aload_n 0, 1) := bl_dX12_look_58.2.2.2.2.2.2.2.2.2.1
theorem dX12_look_75 : decode cX12_look 75 = .ok (.getfield 22, 3) := bl_dX12_look_58.2.2.2.2.2.2.2.2.2.2.1
theorem dX12_look_78 : decode cX12_look 78 = .ok (.iload_n 1, 1) := bl_dX12_look_58.2.2.2.2.2.2.2.2.2.2.2.1
theorem dX12_look_79 : decode cX12_look 79 = .ok (.aload_n 0, 1) := bl_dX12_look_58.2.2.2.2.2.2.2.2.2.2.2.2.1
theorem dX12_look_80 : decode cX12_look 80 = .ok (.getfield 22, 3) := bl_dX12_look_58.2.2.2.2.2.2.2.2.2.2.2.2.2.1
theorem dX12_look_83 : decode cX12_look 83 = .ok (.iload_n 1, 1) := bl_dX12_look_58.2.2.2.2.2.2.2.2.2.2.2.2.2.2.1
theorem dX12_look_84 : decode cX12_look 84 = .ok (.iaload, 1) := bl_dX12_look_58.2.2.2.2.2.2.2.2.2.2.2.2.2.2.2
set_option maxRecDepth 20000 in
theorem lk_dX12_look_85 : th_dr cX12_look 85 = 28 :: 184 :: 0 :: 234 :: 79 :: 167 :: 0 :: 21 :: 42 :: 180 :: 0 :: 25 :: 27 :: 42 :: 180 :: 0 :: 25 :: 27 :: 46 :: 28 :: 4 :: 100 :: 184 :: 0 :: 168 :: 79 :: th_dr cX12_look 111 := rfl
theorem bl_dX12_look_85 : decode cX12_look 85 = .ok (.iload_n 2, 1) ∧ decode cX12_look 86 = .ok (.invokestatic 234, 3) ∧ decode cX12_look 89 = .ok (.iastore, 1) ∧ decode cX12_look 90 = .ok (.goto 21, 3) ∧ decode cX12_look 93 = .ok (.aload_n 0, 1) ∧ decode cX12_look 94 = .ok (.getfield 25, 3) ∧ decode cX12_look 97 = .ok (.iload_n 1, 1) ∧ decode cX12_look 98 = .ok (.aload_n 0, 1) ∧ decode cX12_look 99 = .ok (.getfield 25, 3) ∧ decode cX12_look 102 = .ok (.iload_n 1, 1) ∧ decode cX12_look 103 = .ok (.iaload, 1) ∧ decode cX12_look 104 = .ok (.iload_n 2, 1) ∧ decode cX12_look 105 = .ok (.iconst 1, 1) ∧ decode cX12_look 106 = .ok (.isub, 1) ∧ decode cX12_look 107 = .ok (.invokestatic 168, 3) ∧ decode cX12_look 110 = .ok (.iastore, 1) := op_28 lk_dX12_look_85 fun e => op_184 e fun e => op_79 e fun e => op_167p e rfl fun e => op_42 e fun e => op_180 e fun e => op_27 e fun e => op_42 e fun e => op_180 e fun e => op_27 e fun e => op_46 e fun e => op_28 e fun e => op_4 e fun e => op_100 e fun e => op_184 e fun e => (op_79 e fun _ => True.intro).1
theorem dX12_look_85 : decode cX12_look 85 = .ok (.iload_n 2, 1) := bl_dX12_look_85.1
theorem dX12_look_86 : decode cX12_look 86 = .ok (.invokestatic 234, 3) := bl_dX12_look_85.2.1
theorem dX12_look_89 : decode cX12_look 89 = .ok (.iastore, 1) := bl_dX12_look_85.2.2.1
theorem dX12_look_90 : decode cX12_look 90 = .ok (.goto 21, 3) := bl_dX12_look_85.2.2.2.1
theorem dX12_look_93 : decode cX12_look 93 = .ok (.aload_n 0, 1) := bl_dX12_look_85.2.2.2.2.1
theorem dX12_look_94 : decode cX12_look 94 = .ok (.getfield 25, 3) := bl_dX12_look_85.2.2.2.2.2.1
theorem dX12_look_97 : decode cX12_look 97 = .ok (.iload_n 1, 1) := bl_dX12_look_85.2.2.2.2.2.2.1
theorem dX12_look_98 : decode cX12_look 98 = .ok (.aload_n 0, 1) := bl_dX12_look_85.2.2.2.2.2.2.2.1
theorem dX12_look_99 : decode cX12_look 99 = .ok (.getfield 25, 3) := bl_dX12_look_85.2.2.2.2.2.2.2.2.1
theorem dX12_look_102 : decode cX12_look 102 = .ok (.iload_n 1, 1) := bl_dX12_look_85.2.2.2.2.2.2.2.2.2.1
theorem dX12_look_103 : decode cX12_look 103 = .ok (.iaload, 1) := bl_dX12_look_85.2.2.2.2.2.2.2.2.2.2.1
theorem dX12_look_104 : decode cX12_look 104 = .ok (.iload_n 2, 1) := bl_dX12_look_85.2.2.2.2.2.2.2.2.2.2.2.1
theorem dX12_look_105 : decode cX12_look 105 = .ok (.iconst 1, 1) := bl_dX12_look_85.2.2.2.2.2.2.2.2.2.2.2.2.1
theorem dX12_look_106 : decode cX12_look 106 = .ok (.isub, 1) := bl_dX12_look_85.2.2.2.2.2.2.2.2.2.2.2.2.2.1
theorem dX12_look_107 : decode cX12_look 107 = .ok (.invokestatic 168, 3) := bl_dX12_look_85.2.2.2.2.2.2.2.2.2.2.2.2.2.2.1
theorem dX12_look_110 : decode cX12_look 110 = .ok (.iastore, 1) := bl_dX12_look_85.2.2.2.2.2.2.2.2.2.2.2.2.2.2.2
set_option maxRecDepth 20000 in
theorem lk_dX12_look_111 : th_dr cX12_look 111 = 42 :: 180 :: 0 :: 25 :: 27 :: 46 :: 42 :: 180 :: 0 :: 22 :: 27 :: 46 :: 100 :: 172 :: th_dr cX12_look 125 := rfl
theorem bl_dX12_look_111 : decode cX12_look 111 = .ok (.aload_n 0, 1) ∧ decode cX12_look 112 = .ok (.getfield 25, 3) ∧ decode cX12_look 115 = .ok (.iload_n 1, 1) ∧ decode cX12_look 116 = .ok (.iaload, 1) ∧ decode cX12_look 117 = .ok (.aload_n 0, 1) ∧ decode cX12_look 118 = .ok (.getfield 22, 3) ∧ decode cX12_look 121 = .ok (.iload_n 1, 1) ∧ decode cX12_look 122 = .ok (.iaload, 1) ∧ decode cX12_look 123 = .ok (.isub, 1) ∧ decode cX12_look 124 = .ok (.ireturn, 1) := op_42 lk_dX12_look_111 fun e => op_180 e fun e => op_27 e fun e => op_46 e fun e => op_42 e fun e => op_180 e fun e => op_27 e fun e => op_46 e fun e => op_100 e fun e => (op_172 e fun _ => True.intro).1
theorem dX12_look_111 : decode cX12_look 111 = .ok (.aload_n 0, 1) := bl_dX12_look_111.1
theorem dX12_look_112 : decode cX12_look 112 = .ok (.getfield 25, 3) := bl_dX12_look_111.2.1
theorem dX12_look_115 : decode cX12_look 115 = .ok (.iload_n 1, 1) := bl_dX12_look_111.2.2.1
theorem dX12_look_116 : decode cX12_look 116 = .ok (.iaload, 1) := bl_dX12_look_111.2.2.2.1
theorem dX12_look_117 : decode cX12_look 117 = .ok (.aload_n 0, 1) := bl_dX12_look_111.2.2.2.2.1
theorem dX12_look_118 : decode cX12_look 118 = .ok (.getfield 22, 3) := bl_dX12_look_111.2.2.2.2.2.1
theorem dX12_look_121 : decode cX12_look 121 = .ok (.iload_n 1, 1) := bl_dX12_look_111.2.2.2.2.2.2.1
theorem dX12_look_122 : decode cX12_look 122 = .ok (.iaload, 1) := bl_dX12_look_111.2.2.2.2.2.2.2.1
theorem dX12_look_123 : decode cX12_look 123 = .ok (.isub, 1) := bl_dX12_look_111.2.2.2.2.2.2.2.2.1
theorem dX12_look_124 : decode cX12_look 124 = .ok (.ireturn, 1) := bl_dX12_look_111.2.2.2.2.2.2.2.2.2
set_option maxRecDepth 20000 in
theorem ggX12_next_X12_finding : GoodIn wsX12_next wsX12_finding := goodIn_q _ [(9, 41)] rfl gdwsX12_finding
set_option maxRecDepth 20000 in
theorem gX12_next_X12_finding : GoodIn wsX12_next (wsV RX12 120 RX12 yX12_finding wsX12_finding) := goodIn_app (goodIn_q _ [(5, 4)] rfl rfl) ggX12_next_X12_finding
theorem lk_dX12_next_0 : th_dr cX12_next 0 = 42 :: 180 :: 0 :: 109 :: 154 :: 0 :: 10 :: 42 :: 18 :: 191 :: 182 :: 0 :: 120 :: 172 :: 3 :: 60 :: 4 :: 61 :: 28 :: 42 :: 180 :: 0 :: 109 :: 162 :: 0 :: 66 :: 42 :: th_dr cX12_next 27 := rfl
theorem bl_dX12_next_0 : decode cX12_next 0 = .ok (.aload_n 0, 1) ∧ decode cX12_next 1 = .ok (.getfield 109, 3) ∧ decode cX12_next 4 = .ok (.ifCond .ne 10, 3) ∧ decode cX12_next 7 = .ok (.aload_n 0, 1) ∧ decode cX12_next 8 = .ok (.ldc 191, 2) ∧ decode cX12_next 10 = .ok (.invokevirtual 120, 3) ∧ decode cX12_next 13 = .ok (.ireturn, 1) ∧ decode cX12_next 14 = .ok (.iconst 0, 1) ∧ decode cX12_next 15 = .ok (.istore_n 1, 1) ∧ decode cX12_next 16 = .ok (.iconst 1, 1) ∧ decode cX12_next 17 = .ok (.istore_n 2, 1) ∧ decode cX12_next 18 = .ok (.iload_n 2, 1) ∧ decode cX12_next 19 = .ok (.aload_n 0, 1) ∧ decode cX12_next 20 = .ok (.getfield 109, 3) ∧ decode cX12_next 23 = .ok (.if_icmp .ge 66, 3) ∧ decode cX12_next 26 = .ok (.aload_n 0, 1) := op_42 lk_dX12_next_0 fun e => op_180 e fun e => op_154p e rfl fun e => op_42 e fun e => op_18 e fun e => op_182 e fun e => op_172 e fun e => op_3 e fun e => op_60 e fun e => op_4 e fun e => op_61 e fun e => op_28 e fun e => op_42 e fun e => op_180 e fun e => op_162p e rfl fun e => (op_42 e fun _ => True.intro).1
theorem dX12_next_0 : decode cX12_next 0 = .ok (.aload_n 0, 1) := bl_dX12_next_0.1
theorem dX12_next_1 : decode cX12_next 1 = .ok (.getfield 109, 3) := bl_dX12_next_0.2.1
theorem dX12_next_4 : decode cX12_next 4 = .ok (.ifCond .ne 10, 3) := bl_dX12_next_0.2.2.1
theorem dX12_next_7 : decode cX12_next 7 = .ok (.aload_n 0, 1) := bl_dX12_next_0.2.2.2.1
theorem dX12_next_8 : decode cX12_next 8 = .ok (.ldc 191, 2) := bl_dX12_next_0.2.2.2.2.1
theorem dX12_next_10 : decode cX12_next 10 = .ok (.invokevirtual 120, 3) := bl_dX12_next_0.2.2.2.2.2.1
theorem dX12_next_13 : decode cX12_next 13 = .ok (.ireturn, 1) := bl_dX12_next_0.2.2.2.2.2.2.1
theorem dX12_next_14 : decode cX12_next 14 = .ok (.iconst 0, 1) := bl_dX12_next_0.2.2.2.2.2.2.2.1
theorem dX12_next_15 : decode cX12_next 15 = .ok (.istore_n 1, 1) := bl_dX12_next_0.2.2.2.2.2.2.2.2.1
theorem dX12_next_16 : decode cX12_next 16 = .ok (.iconst 1, 1) := bl_dX12_next_0.2.2.2.2.2.2.2.2.2.1
theorem dX12_next_17 : decode cX12_next 17 = .ok (.istore_n 2, 1) := bl_dX12_next_0.2.2.2.2.2.2.2.2.2.2.1
theorem dX12_next_18 : decode cX12_next 18 = .ok (.iload_n 2, 1) := bl_dX12_next_0.2.2.2.2.2.2.2.2.2.2.2.1
theorem dX12_next_19 : decode cX12_next 19 = .ok (.aload_n 0, 1) := bl_dX12_next_0.2.2.2.2.2.2.2.2.2.2.2.2.1
theorem dX12_next_20 : decode cX12_next 20 = .ok (.getfield 109, 3) := bl_dX12_next_0.2.2.2.2.2.2.2.2.2.2.2.2.2.1
theorem dX12_next_23 : decode cX12_next 23 = .ok (.if_icmp .ge 66, 3) := bl_dX12_next_0.2.2.2.2.2.2.2.2.2.2.2.2.2.2.1
theorem dX12_next_26 : decode cX12_next 26 = .ok (.aload_n 0, 1) := bl_dX12_next_0.2.2.2.2.2.2.2.2.2.2.2.2.2.2.2
theorem lk_dX12_next_27 : th_dr cX12_next 27 = 180 :: 0 :: 25 :: 28 :: 46 :: 42 :: 180 :: 0 :: 22 :: 28 :: 46 :: 100 :: 42 :: 180 :: 0 :: 25 :: 27 :: 46 :: 100 :: 42 :: 180 :: 0 :: 22 :: 27 :: th_dr cX12_next 51 := rfl
theorem bl_dX12_next_27 : decode cX12_next 27 = .ok (.getfield 25, 3) ∧ decode cX12_next 30 = .ok (.iload_n 2, 1) ∧ decode cX12_next 31 = .ok (.iaload, 1) ∧ decode cX12_next 32 = .ok (.aload_n 0, 1) ∧ decode cX12_next 33 = .ok (.getfield 22, 3) ∧ decode cX12_next 36 = .ok (.iload_n 2, 1) ∧ decode cX12_next 37 = .ok (.iaload, 1) ∧ decode cX12_next 38 = .ok (.isub, 1) ∧ decode cX12_next 39 = .ok (.aload_n 0, 1) ∧ decode cX12_next 40 = .ok (.getfield 25, 3) ∧ decode cX12_next 43 = .ok (.iload_n 1, 1) ∧ decode cX12_next 44 = .ok (.iaload, 1) ∧ decode cX12_next 45 = .ok (.isub, 1) ∧ decode cX12_next 46 = .ok (.aload_n 0, 1) ∧ decode cX12_next 47 = .ok (.getfield 22, 3) ∧ decode cX12_next 50 = .ok (.iload_n 1, 1) := op_180 lk_dX12_next_27 fun e => op_28 e fun e => op_46 e fun e => op_42 e fun e => op_180 e fun e => op_28 e fun e => op_46 e fun e => op_100 e fun e => op_42 e fun e => op_180 e fun e => op_27 e fun e => op_46 e fun e => op_100 e fun e => op_42 e fun e => op_180 e fun e => (op_27 e fun _ => True.intro).1
theorem dX12_next_27 : decode cX12_next 27 = .ok (.getfield 25, 3) := bl_dX12_next_27.1
theorem dX12_next_30 : decode cX12_next 30 = .ok (.iload_n 2, 1) := bl_dX12_next_27.2.1
theorem dX12_next_31 : decode cX12_next 31 = .ok (.iaload, 1) := bl_dX12_next_27.2.2.1
theorem dX12_next_32 : decode cX12_next 32 = .ok (.aload_n 0, 1) := bl_dX12_next_27.2.2.2.1
theorem dX12_next_33 : decode cX12_next 33 = .ok (.getfield 22, 3) := bl_dX12_next_27.2.2.2.2.1
theorem dX12_next_36 : decode cX12_next 36 = .ok (.iload_n 2, 1) := bl_dX12_next_27.2.2.2.2.2.1
theorem dX12_next_37 : decode cX12_next 37 = .ok (.iaload, 1) := bl_dX12_next_27.2.2.2.2.2.2.1
theorem dX12_next_38 : decode cX12_next 38 = .ok (.isub, 1) := bl_dX12_next_27.2.2.2.2.2.2.2.1
theorem dX12_next_39 : decode cX12_next 39 = .ok (.aload_n 0, 1) := bl_dX12_next_27.2.2.2.2.2.2.2.2.1
theorem dX12_next_40 : decode cX12_next 40 = .ok (.getfield 25, 3) := bl_dX12_next_27.2.2.2.2.2.2.2.2.2.1
theorem dX12_next_43 : decode cX12_next 43 = .ok (.iload_n 1, 1) := bl_dX12_next_27.2.2.2.2.2.2.2.2.2.2.1
theorem dX12_next_44 : decode cX12_next 44 = .ok (.iaload, 1) := bl_dX12_next_27.2.2.2.2.2.2.2.2.2.2.2.1
theorem dX12_next_45 : decode cX12_next 45 = .ok (.isub, 1) := bl_dX12_next_27.2.2.2.2.2.2.2.2.2.2.2.2.1
theorem dX12_next_46 : decode cX12_next 46 = .ok (.aload_n 0, 1) := bl_dX12_next_27.2.2.2.2.2.2.2.2.2.2.2.2.2.1
theorem dX12_next_47 : decode cX12_next 47 = .ok (.getfield 22, 3) := bl_dX12_next_27.2.2.2.2.2.2.2.2.2.2.2.2.2.2.1
theorem dX12_next_50 : decode cX12_next 50 = .ok (.iload_n 1, 1) := bl_dX12_next_27.2.2.2.2.2.2.2.2.2.2.2.2.2.2.2
set_option maxRecDepth 20000 in
theorem lk_dX12_next_51 : th_dr cX12_next 51 = 46 :: 96 :: 62 :: 29 :: 157 :: 0 :: 22 :: 29 :: 154 :: 0 :: 22 :: 42 :: 180 :: 0 :: 25 :: 28 :: 46 :: 42 :: 180 :: 0 :: 25 :: 27 :: 46 :: 164 :: 0 :: 7 :: th_dr cX12_next 77 := rfl
theorem bl_dX12_next_51 : decode cX12_next 51 = .ok (.iaload, 1) ∧ decode cX12_next 52 = .ok (.iadd, 1) ∧ decode cX12_next 53 = .ok (.istore_n 3, 1) ∧ decode cX12_next 54 = .ok (.iload_n 3, 1) ∧ decode cX12_next 55 = .ok (.ifCond .gt 22, 3) ∧ decode cX12_next 58 = .ok (.iload_n 3, 1) ∧ decode cX12_next 59 = .ok (.ifCond .ne 22, 3) ∧ decode cX12_next 62 = .ok (.aload_n 0, 1) ∧ decode cX12_next 63 = .ok (.getfield 25, 3) ∧ decode cX12_next 66 = .ok (.iload_n 2, 1) ∧ decode cX12_next 67 = .ok (.iaload, 1) ∧ decode cX12_next 68 = .ok (.aload_n 0, 1) ∧ decode cX12_next 69 = .ok (.getfield 25, 3) ∧ decode cX12_next 72 = .ok (.iload_n 1, 1) ∧ decode cX12_next 73 = .ok (.iaload, 1) ∧ decode cX12_next 74 = .ok (.if_icmp .le 7, 3) := op_46 lk_dX12_next_51 fun e => op_96 e fun e => op_62 e fun e => op_29 e fun e => op_157p e rfl fun e => op_29 e fun e => op_154p e rfl fun e => op_42 e fun e => op_180 e fun e => op_28 e fun e => op_46 e fun e => op_42 e fun e => op_180 e fun e => op_27 e fun e => op_46 e fun e => (op_164p e rfl fun _ => True.intro).1
theorem dX12_next_51 : decode cX12_next 51 = .ok (.iaload, 1) := bl_dX12_next_51.1
theorem dX12_next_52 : decode cX12_next 52 = .ok (.iadd, 1) := bl_dX12_next_51.2.1
theorem dX12_next_53 : decode cX12_next 53 = .ok (.istore_n 3, 1) := bl_dX12_next_51.2.2.1
theorem dX12_next_54 : decode cX12_next 54 = .ok (.iload_n 3, 1) := bl_dX12_next_51.2.2.2.1
theorem dX12_next_55 : decode cX12_next 55 = .ok (.ifCond .gt 22, 3) := bl_dX12_next_51.2.2.2.2.1
theorem dX12_next_58 : decode cX12_next 58 = .ok (.iload_n 3, 1) := bl_dX12_next_51.2.2.2.2.2.1
theorem dX12_next_59 : decode cX12_next 59 = .ok (.ifCond .ne 22, 3) := bl_dX12_next_51.2.2.2.2.2.2.1
theorem dX12_next_62 : decode cX12_next 62 = .ok (.aload_n 0, 1) := bl_dX12_next_51.2.2.2.2.2.2.2.1
theorem dX12_next_63 : decode cX12_next 63 = .ok (.getfield 25, 3) := bl_dX12_next_51.2.2.2.2.2.2.2.2.1
theorem dX12_next_66 : decode cX12_next 66 = .ok (.iload_n 2, 1) := bl_dX12_next_51.2.2.2.2.2.2.2.2.2.1
theorem dX12_next_67 : decode cX12_next 67 = .ok (.iaload, 1) := bl_dX12_next_51.2.2.2.2.2.2.2.2.2.2.1
theorem dX12_next_68 : decode cX12_next 68 = .ok (.aload_n 0, 1) := bl_dX12_next_51.2.2.2.2.2.2.2.2.2.2.2.1
theorem dX12_next_69 : decode cX12_next 69 = .ok (.getfield 25, 3) := bl_dX12_next_51.2.2.2.2.2.2.2.2.2.2.2.2.1
theorem dX12_next_72 : decode cX12_next 72 = .ok (.iload_n 1, 1) := bl_dX12_next_51.2.2.2.2.2.2.2.2.2.2.2.2.2.1
theorem dX12_next_73 : decode cX12_next 73 = .ok (.iaload, 1) := bl_dX12_next_51.2.2.2.2.2.2.2.2.2.2.2.2.2.2.1
theorem dX12_next_74 : decode cX12_next 74 = .ok (.if_icmp .le 7, 3) := bl_dX12_next_51.2.2.2.2.2.2.2.2.2.2.2.2.2.2.2
set_option maxRecDepth 20000 in
theorem lk_dX12_next_77 : th_dr cX12_next 77 = 28 :: 167 :: 0 :: 4 :: 27 :: 60 :: 132 :: 2 :: 1 :: 167 :: 255 :: 188 :: 27 :: 172 :: th_dr cX12_next 91 := rfl
theorem bl_dX12_next_77 : decode cX12_next 77 = .ok (.iload_n 2, 1) ∧ decode cX12_next 78 = .ok (.goto 4, 3) ∧ decode cX12_next 81 = .ok (.iload_n 1, 1) ∧ decode cX12_next 82 = .ok (.istore_n 1, 1) ∧ decode cX12_next 83 = .ok (.iinc 2 1, 3) ∧ decode cX12_next 86 = .ok (.goto (-68), 3) ∧ decode cX12_next 89 = .ok (.iload_n 1, 1) ∧ decode cX12_next 90 = .ok (.ireturn, 1) := op_28 lk_dX12_next_77 fun e => op_167p e rfl fun e => op_27 e fun e => op_60 e fun e => op_132p e rfl fun e => op_167n e rfl rfl fun e => op_27 e fun e => (op_172 e fun _ => True.intro).1
theorem dX12_next_77 : decode cX12_next 77 = .ok (.iload_n 2, 1) := bl_dX12_next_77.1
theorem dX12_next_78 : decode cX12_next 78 = .ok (.goto 4, 3) := bl_dX12_next_77.2.1
theorem dX12_next_81 : decode cX12_next 81 = .ok (.iload_n 1, 1) := bl_dX12_next_77.2.2.1
theorem dX12_next_82 : decode cX12_next 82 = .ok (.istore_n 1, 1) := bl_dX12_next_77.2.2.2.1
theorem dX12_next_83 : decode cX12_next 83 = .ok (.iinc 2 1, 3) := bl_dX12_next_77.2.2.2.2.1
theorem dX12_next_86 : decode cX12_next 86 = .ok (.goto (-68), 3) := bl_dX12_next_77.2.2.2.2.2.1
theorem dX12_next_89 : decode cX12_next 89 = .ok (.iload_n 1, 1) := bl_dX12_next_77.2.2.2.2.2.2.1
theorem dX12_next_90 : decode cX12_next 90 = .ok (.ireturn, 1) := bl_dX12_next_77.2.2.2.2.2.2.2
set_option maxRecDepth 20000 in
theorem ggX12_renew_X12_isBuoy : GoodIn wsX12_renew wsX12_isBuoy := goodIn_q _ [(8, 4), (7, 1), (12, 1), (19, 38)] rfl gdwsX12_isBuoy
set_option maxRecDepth 20000 in
theorem gX12_renew_X12_isBuoy : GoodIn wsX12_renew (wsV RX12 139 RX12 yX12_isBuoy wsX12_isBuoy) := goodIn_app (goodIn_q _ [(4, 4)] rfl rfl) ggX12_renew_X12_isBuoy
set_option maxRecDepth 20000 in
theorem ggX12_renew_X12_finding : GoodIn wsX12_renew wsX12_finding := goodIn_q _ [(16, 41)] rfl gdwsX12_finding
set_option maxRecDepth 20000 in
theorem gX12_renew_X12_finding : GoodIn wsX12_renew (wsV RX12 120 RX12 yX12_finding wsX12_finding) := goodIn_app (goodIn_q _ [(13, 3), (7, 1)] rfl rfl) ggX12_renew_X12_finding
theorem lk_dX12_renew_0 : th_dr cX12_renew 0 = 42 :: 27 :: 182 :: 0 :: 139 :: 154 :: 0 :: 10 :: 42 :: 18 :: 119 :: 182 :: 0 :: 120 :: 172 :: 42 :: 180 :: 0 :: 25 :: 27 :: 46 :: 61 :: 42 :: 180 :: 0 :: 25 :: 27 :: th_dr cX12_renew 27 := rfl
theorem bl_dX12_renew_0 : decode cX12_renew 0 = .ok (.aload_n 0, 1) ∧ decode cX12_renew 1 = .ok (.iload_n 1, 1) ∧ decode cX12_renew 2 = .ok (.invokevirtual 139, 3) ∧ decode cX12_renew 5 = .ok (.ifCond .ne 10, 3) ∧ decode cX12_renew 8 = .ok (.aload_n 0, 1) ∧ decode cX12_renew 9 = .ok (.ldc 119, 2) ∧ decode cX12_renew 11 = .ok (.invokevirtual 120, 3) ∧ decode cX12_renew 14 = .ok (.ireturn, 1) ∧ decode cX12_renew 15 = .ok (.aload_n 0, 1) ∧ decode cX12_renew 16 = .ok (.getfield 25, 3) ∧ decode cX12_renew 19 = .ok (.iload_n 1, 1) ∧ decode cX12_renew 20 = .ok (.iaload, 1) ∧ decode cX12_renew 21 = .ok (.istore_n 2, 1) ∧ decode cX12_renew 22 = .ok (.aload_n 0, 1) ∧ decode cX12_renew 23 = .ok (.getfield 25, 3) ∧ decode cX12_renew 26 = .ok (.iload_n 1, 1) := op_42 lk_dX12_renew_0 fun e => op_27 e fun e => op_182 e fun e => op_154p e rfl fun e => op_42 e fun e => op_18 e fun e => op_182 e fun e => op_172 e fun e => op_42 e fun e => op_180 e fun e => op_27 e fun e => op_46 e fun e => op_61 e fun e => op_42 e fun e => op_180 e fun e => (op_27 e fun _ => True.intro).1
theorem dX12_renew_0 : decode cX12_renew 0 = .ok (.aload_n 0, 1) := bl_dX12_renew_0.1
theorem dX12_renew_1 : decode cX12_renew 1 = .ok (.iload_n 1, 1) := bl_dX12_renew_0.2.1
theorem dX12_renew_2 : decode cX12_renew 2 = .ok (.invokevirtual 139, 3) := bl_dX12_renew_0.2.2.1
theorem dX12_renew_5 : decode cX12_renew 5 = .ok (.ifCond .ne 10, 3) := bl_dX12_renew_0.2.2.2.1
theorem dX12_renew_8 : decode cX12_renew 8 = .ok (.aload_n 0, 1) := bl_dX12_renew_0.2.2.2.2.1
theorem dX12_renew_9 : decode cX12_renew 9 = .ok (.ldc 119, 2) := bl_dX12_renew_0.2.2.2.2.2.1
theorem dX12_renew_11 : decode cX12_renew 11 = .ok (.invokevirtual 120, 3) := bl_dX12_renew_0.2.2.2.2.2.2.1
theorem dX12_renew_14 : decode cX12_renew 14 = .ok (.ireturn, 1) := bl_dX12_renew_0.2.2.2.2.2.2.2.1
theorem dX12_renew_15 : decode cX12_renew 15 = .ok (.aload_n 0, 1) := bl_dX12_renew_0.2.2.2.2.2.2.2.2.1
theorem dX12_renew_16 : decode cX12_renew 16 = .ok (.getfield 25, 3) := bl_dX12_renew_0.2.2.2.2.2.2.2.2.2.1
theorem dX12_renew_19 : decode cX12_renew 19 = .ok (.iload_n 1, 1) := bl_dX12_renew_0.2.2.2.2.2.2.2.2.2.2.1
theorem dX12_renew_20 : decode cX12_renew 20 = .ok (.iaload, 1) := bl_dX12_renew_0.2.2.2.2.2.2.2.2.2.2.2.1
theorem dX12_renew_21 : decode cX12_renew 21 = .ok (.istore_n 2, 1) := bl_dX12_renew_0.2.2.2.2.2.2.2.2.2.2.2.2.1
theorem dX12_renew_22 : decode cX12_renew 22 = .ok (.aload_n 0, 1) := bl_dX12_renew_0.2.2.2.2.2.2.2.2.2.2.2.2.2.1
theorem dX12_renew_23 : decode cX12_renew 23 = .ok (.getfield 25, 3) := bl_dX12_renew_0.2.2.2.2.2.2.2.2.2.2.2.2.2.2.1
theorem dX12_renew_26 : decode cX12_renew 26 = .ok (.iload_n 1, 1) := bl_dX12_renew_0.2.2.2.2.2.2.2.2.2.2.2.2.2.2.2
theorem lk_dX12_renew_27 : th_dr cX12_renew 27 = 3 :: 79 :: 42 :: 180 :: 0 :: 22 :: 27 :: 3 :: 79 :: 28 :: 172 :: th_dr cX12_renew 38 := rfl
theorem bl_dX12_renew_27 : decode cX12_renew 27 = .ok (.iconst 0, 1) ∧ decode cX12_renew 28 = .ok (.iastore, 1) ∧ decode cX12_renew 29 = .ok (.aload_n 0, 1) ∧ decode cX12_renew 30 = .ok (.getfield 22, 3) ∧ decode cX12_renew 33 = .ok (.iload_n 1, 1) ∧ decode cX12_renew 34 = .ok (.iconst 0, 1) ∧ decode cX12_renew 35 = .ok (.iastore, 1) ∧ decode cX12_renew 36 = .ok (.iload_n 2, 1) ∧ decode cX12_renew 37 = .ok (.ireturn, 1) := op_3 lk_dX12_renew_27 fun e => op_79 e fun e => op_42 e fun e => op_180 e fun e => op_27 e fun e => op_3 e fun e => op_79 e fun e => op_28 e fun e => (op_172 e fun _ => True.intro).1
theorem dX12_renew_27 : decode cX12_renew 27 = .ok (.iconst 0, 1) := bl_dX12_renew_27.1
theorem dX12_renew_28 : decode cX12_renew 28 = .ok (.iastore, 1) := bl_dX12_renew_27.2.1
theorem dX12_renew_29 : decode cX12_renew 29 = .ok (.aload_n 0, 1) := bl_dX12_renew_27.2.2.1
theorem dX12_renew_30 : decode cX12_renew 30 = .ok (.getfield 22, 3) := bl_dX12_renew_27.2.2.2.1
theorem dX12_renew_33 : decode cX12_renew 33 = .ok (.iload_n 1, 1) := bl_dX12_renew_27.2.2.2.2.1
theorem dX12_renew_34 : decode cX12_renew 34 = .ok (.iconst 0, 1) := bl_dX12_renew_27.2.2.2.2.2.1
theorem dX12_renew_35 : decode cX12_renew 35 = .ok (.iastore, 1) := bl_dX12_renew_27.2.2.2.2.2.2.1
theorem dX12_renew_36 : decode cX12_renew 36 = .ok (.iload_n 2, 1) := bl_dX12_renew_27.2.2.2.2.2.2.2.1
theorem dX12_renew_37 : decode cX12_renew 37 = .ok (.ireturn, 1) := bl_dX12_renew_27.2.2.2.2.2.2.2.2
theorem lk_dX12_holds_0 : th_dr cX12_holds 0 = 42 :: 180 :: 0 :: 25 :: 28 :: 46 :: 29 :: 96 :: 42 :: 180 :: 0 :: 34 :: 27 :: 46 :: 16 :: 10 :: 108 :: 96 :: 16 :: 100 :: 163 :: 0 :: 7 :: 4 :: th_dr cX12_holds 24 := rfl
theorem bl_dX12_holds_0 : decode cX12_holds 0 = .ok (.aload_n 0, 1) ∧ decode cX12_holds 1 = .ok (.getfield 25, 3) ∧ decode cX12_holds 4 = .ok (.iload_n 2, 1) ∧ decode cX12_holds 5 = .ok (.iaload, 1) ∧ decode cX12_holds 6 = .ok (.iload_n 3, 1) ∧ decode cX12_holds 7 = .ok (.iadd, 1) ∧ decode cX12_holds 8 = .ok (.aload_n 0, 1) ∧ decode cX12_holds 9 = .ok (.getfield 34, 3) ∧ decode cX12_holds 12 = .ok (.iload_n 1, 1) ∧ decode cX12_holds 13 = .ok (.iaload, 1) ∧ decode cX12_holds 14 = .ok (.bipush 10, 2) ∧ decode cX12_holds 16 = .ok (.idiv, 1) ∧ decode cX12_holds 17 = .ok (.iadd, 1) ∧ decode cX12_holds 18 = .ok (.bipush 100, 2) ∧ decode cX12_holds 20 = .ok (.if_icmp .gt 7, 3) ∧ decode cX12_holds 23 = .ok (.iconst 1, 1) := op_42 lk_dX12_holds_0 fun e => op_180 e fun e => op_28 e fun e => op_46 e fun e => op_29 e fun e => op_96 e fun e => op_42 e fun e => op_180 e fun e => op_27 e fun e => op_46 e fun e => op_16p e rfl fun e => op_108 e fun e => op_96 e fun e => op_16p e rfl fun e => op_163p e rfl fun e => (op_4 e fun _ => True.intro).1
theorem dX12_holds_0 : decode cX12_holds 0 = .ok (.aload_n 0, 1) := bl_dX12_holds_0.1
theorem dX12_holds_1 : decode cX12_holds 1 = .ok (.getfield 25, 3) := bl_dX12_holds_0.2.1
theorem dX12_holds_4 : decode cX12_holds 4 = .ok (.iload_n 2, 1) := bl_dX12_holds_0.2.2.1
theorem dX12_holds_5 : decode cX12_holds 5 = .ok (.iaload, 1) := bl_dX12_holds_0.2.2.2.1
theorem dX12_holds_6 : decode cX12_holds 6 = .ok (.iload_n 3, 1) := bl_dX12_holds_0.2.2.2.2.1
theorem dX12_holds_7 : decode cX12_holds 7 = .ok (.iadd, 1) := bl_dX12_holds_0.2.2.2.2.2.1
theorem dX12_holds_8 : decode cX12_holds 8 = .ok (.aload_n 0, 1) := bl_dX12_holds_0.2.2.2.2.2.2.1
theorem dX12_holds_9 : decode cX12_holds 9 = .ok (.getfield 34, 3) := bl_dX12_holds_0.2.2.2.2.2.2.2.1
theorem dX12_holds_12 : decode cX12_holds 12 = .ok (.iload_n 1, 1) := bl_dX12_holds_0.2.2.2.2.2.2.2.2.1
theorem dX12_holds_13 : decode cX12_holds 13 = .ok (.iaload, 1) := bl_dX12_holds_0.2.2.2.2.2.2.2.2.2.1
theorem dX12_holds_14 : decode cX12_holds 14 = .ok (.bipush 10, 2) := bl_dX12_holds_0.2.2.2.2.2.2.2.2.2.2.1
theorem dX12_holds_16 : decode cX12_holds 16 = .ok (.idiv, 1) := bl_dX12_holds_0.2.2.2.2.2.2.2.2.2.2.2.1
theorem dX12_holds_17 : decode cX12_holds 17 = .ok (.iadd, 1) := bl_dX12_holds_0.2.2.2.2.2.2.2.2.2.2.2.2.1
theorem dX12_holds_18 : decode cX12_holds 18 = .ok (.bipush 100, 2) := bl_dX12_holds_0.2.2.2.2.2.2.2.2.2.2.2.2.2.1
theorem dX12_holds_20 : decode cX12_holds 20 = .ok (.if_icmp .gt 7, 3) := bl_dX12_holds_0.2.2.2.2.2.2.2.2.2.2.2.2.2.2.1
theorem dX12_holds_23 : decode cX12_holds 23 = .ok (.iconst 1, 1) := bl_dX12_holds_0.2.2.2.2.2.2.2.2.2.2.2.2.2.2.2
theorem lk_dX12_holds_24 : th_dr cX12_holds 24 = 167 :: 0 :: 4 :: 3 :: 172 :: th_dr cX12_holds 29 := rfl
theorem bl_dX12_holds_24 : decode cX12_holds 24 = .ok (.goto 4, 3) ∧ decode cX12_holds 27 = .ok (.iconst 0, 1) ∧ decode cX12_holds 28 = .ok (.ireturn, 1) := op_167p lk_dX12_holds_24 rfl fun e => op_3 e fun e => (op_172 e fun _ => True.intro).1
theorem dX12_holds_24 : decode cX12_holds 24 = .ok (.goto 4, 3) := bl_dX12_holds_24.1
theorem dX12_holds_27 : decode cX12_holds 27 = .ok (.iconst 0, 1) := bl_dX12_holds_24.2.1
theorem dX12_holds_28 : decode cX12_holds 28 = .ok (.ireturn, 1) := bl_dX12_holds_24.2.2
set_option maxRecDepth 20000 in
theorem gdwsX12_holds : wsX12_holds.all goodWord = true := by decide +kernel
set_option maxRecDepth 20000 in
theorem ggX12_flee_X12_holds : GoodIn wsX12_flee wsX12_holds := goodIn_q _ [(9, 3), (67, 38)] rfl gdwsX12_holds
set_option maxRecDepth 20000 in
theorem gX12_flee_X12_holds : GoodIn wsX12_flee (wsV RX12 237 RX12 yX12_holds wsX12_holds) := goodIn_app (goodIn_q _ [(5, 4)] rfl rfl) ggX12_flee_X12_holds
set_option maxRecDepth 20000 in
theorem ggX12_flee_X12_mayLie : GoodIn wsX12_flee wsX12_mayLie := goodIn_q _ [(15, 1), (1, 1), (16, 3), (8, 1), (19, 3), (11, 1), (22, 83)] rfl gdwsX12_mayLie
set_option maxRecDepth 20000 in
theorem gX12_flee_X12_mayLie : GoodIn wsX12_flee (wsV RX12 187 RX12 yX12_mayLie wsX12_mayLie) := goodIn_app (goodIn_q _ [(12, 3), (8, 1)] rfl rfl) ggX12_flee_X12_mayLie
theorem lk_dX12_flee_0 : th_dr cX12_flee 0 = 3 :: 61 :: 3 :: 62 :: 29 :: 42 :: 180 :: 0 :: 116 :: 162 :: 0 :: 21 :: 42 :: 180 :: 0 :: 105 :: 29 :: 42 :: 180 :: 0 :: 40 :: 29 :: 46 :: 79 :: th_dr cX12_flee 24 := rfl
theorem bl_dX12_flee_0 : decode cX12_flee 0 = .ok (.iconst 0, 1) ∧ decode cX12_flee 1 = .ok (.istore_n 2, 1) ∧ decode cX12_flee 2 = .ok (.iconst 0, 1) ∧ decode cX12_flee 3 = .ok (.istore_n 3, 1) ∧ decode cX12_flee 4 = .ok (.iload_n 3, 1) ∧ decode cX12_flee 5 = .ok (.aload_n 0, 1) ∧ decode cX12_flee 6 = .ok (.getfield 116, 3) ∧ decode cX12_flee 9 = .ok (.if_icmp .ge 21, 3) ∧ decode cX12_flee 12 = .ok (.aload_n 0, 1) ∧ decode cX12_flee 13 = .ok (.getfield 105, 3) ∧ decode cX12_flee 16 = .ok (.iload_n 3, 1) ∧ decode cX12_flee 17 = .ok (.aload_n 0, 1) ∧ decode cX12_flee 18 = .ok (.getfield 40, 3) ∧ decode cX12_flee 21 = .ok (.iload_n 3, 1) ∧ decode cX12_flee 22 = .ok (.iaload, 1) ∧ decode cX12_flee 23 = .ok (.iastore, 1) := op_3 lk_dX12_flee_0 fun e => op_61 e fun e => op_3 e fun e => op_62 e fun e => op_29 e fun e => op_42 e fun e => op_180 e fun e => op_162p e rfl fun e => op_42 e fun e => op_180 e fun e => op_29 e fun e => op_42 e fun e => op_180 e fun e => op_29 e fun e => op_46 e fun e => (op_79 e fun _ => True.intro).1
theorem dX12_flee_0 : decode cX12_flee 0 = .ok (.iconst 0, 1) := bl_dX12_flee_0.1
theorem dX12_flee_1 : decode cX12_flee 1 = .ok (.istore_n 2, 1) := bl_dX12_flee_0.2.1
theorem dX12_flee_2 : decode cX12_flee 2 = .ok (.iconst 0, 1) := bl_dX12_flee_0.2.2.1
theorem dX12_flee_3 : decode cX12_flee 3 = .ok (.istore_n 3, 1) := bl_dX12_flee_0.2.2.2.1
theorem dX12_flee_4 : decode cX12_flee 4 = .ok (.iload_n 3, 1) := bl_dX12_flee_0.2.2.2.2.1
theorem dX12_flee_5 : decode cX12_flee 5 = .ok (.aload_n 0, 1) := bl_dX12_flee_0.2.2.2.2.2.1
theorem dX12_flee_6 : decode cX12_flee 6 = .ok (.getfield 116, 3) := bl_dX12_flee_0.2.2.2.2.2.2.1
theorem dX12_flee_9 : decode cX12_flee 9 = .ok (.if_icmp .ge 21, 3) := bl_dX12_flee_0.2.2.2.2.2.2.2.1
theorem dX12_flee_12 : decode cX12_flee 12 = .ok (.aload_n 0, 1) := bl_dX12_flee_0.2.2.2.2.2.2.2.2.1
theorem dX12_flee_13 : decode cX12_flee 13 = .ok (.getfield 105, 3) := bl_dX12_flee_0.2.2.2.2.2.2.2.2.2.1
theorem dX12_flee_16 : decode cX12_flee 16 = .ok (.iload_n 3, 1) := bl_dX12_flee_0.2.2.2.2.2.2.2.2.2.2.1
theorem dX12_flee_17 : decode cX12_flee 17 = .ok (.aload_n 0, 1) := bl_dX12_flee_0.2.2.2.2.2.2.2.2.2.2.2.1
theorem dX12_flee_18 : decode cX12_flee 18 = .ok (.getfield 40, 3) := bl_dX12_flee_0.2.2.2.2.2.2.2.2.2.2.2.2.1
theorem dX12_flee_21 : decode cX12_flee 21 = .ok (.iload_n 3, 1) := bl_dX12_flee_0.2.2.2.2.2.2.2.2.2.2.2.2.2.1
theorem dX12_flee_22 : decode cX12_flee 22 = .ok (.iaload, 1) := bl_dX12_flee_0.2.2.2.2.2.2.2.2.2.2.2.2.2.2.1
theorem dX12_flee_23 : decode cX12_flee 23 = .ok (.iastore, 1) := bl_dX12_flee_0.2.2.2.2.2.2.2.2.2.2.2.2.2.2.2
theorem lk_dX12_flee_24 : th_dr cX12_flee 24 = 132 :: 3 :: 1 :: 167 :: 255 :: 233 :: 3 :: 62 :: 29 :: 42 :: 180 :: 0 :: 116 :: 162 :: 0 :: 110 :: 42 :: 180 :: 0 :: 40 :: 29 :: 46 :: 155 :: 0 :: 95 :: 42 :: 29 :: 42 :: th_dr cX12_flee 52 := rfl
theorem bl_dX12_flee_24 : decode cX12_flee 24 = .ok (.iinc 3 1, 3) ∧ decode cX12_flee 27 = .ok (.goto (-23), 3) ∧ decode cX12_flee 30 = .ok (.iconst 0, 1) ∧ decode cX12_flee 31 = .ok (.istore_n 3, 1) ∧ decode cX12_flee 32 = .ok (.iload_n 3, 1) ∧ decode cX12_flee 33 = .ok (.aload_n 0, 1) ∧ decode cX12_flee 34 = .ok (.getfield 116, 3) ∧ decode cX12_flee 37 = .ok (.if_icmp .ge 110, 3) ∧ decode cX12_flee 40 = .ok (.aload_n 0, 1) ∧ decode cX12_flee 41 = .ok (.getfield 40, 3) ∧ decode cX12_flee 44 = .ok (.iload_n 3, 1) ∧ decode cX12_flee 45 = .ok (.iaload, 1) ∧ decode cX12_flee 46 = .ok (.ifCond .lt 95, 3) ∧ decode cX12_flee 49 = .ok (.aload_n 0, 1) ∧ decode cX12_flee 50 = .ok (.iload_n 3, 1) ∧ decode cX12_flee 51 = .ok (.aload_n 0, 1) := op_132p lk_dX12_flee_24 rfl fun e => op_167n e rfl rfl fun e => op_3 e fun e => op_62 e fun e => op_29 e fun e => op_42 e fun e => op_180 e fun e => op_162p e rfl fun e => op_42 e fun e => op_180 e fun e => op_29 e fun e => op_46 e fun e => op_155p e rfl fun e => op_42 e fun e => op_29 e fun e => (op_42 e fun _ => True.intro).1
theorem dX12_flee_24 : decode cX12_flee 24 = .ok (.iinc 3 1, 3) := bl_dX12_flee_24.1
theorem dX12_flee_27 : decode cX12_flee 27 = .ok (.goto (-23), 3) := bl_dX12_flee_24.2.1
theorem dX12_flee_30 : decode cX12_flee 30 = .ok (.iconst 0, 1) := bl_dX12_flee_24.2.2.1
theorem dX12_flee_31 : decode cX12_flee 31 = .ok (.istore_n 3, 1) := bl_dX12_flee_24.2.2.2.1
theorem dX12_flee_32 : decode cX12_flee 32 = .ok (.iload_n 3, 1) := bl_dX12_flee_24.2.2.2.2.1
theorem dX12_flee_33 : decode cX12_flee 33 = .ok (.aload_n 0, 1) := bl_dX12_flee_24.2.2.2.2.2.1
theorem dX12_flee_34 : decode cX12_flee 34 = .ok (.getfield 116, 3) := bl_dX12_flee_24.2.2.2.2.2.2.1
theorem dX12_flee_37 : decode cX12_flee 37 = .ok (.if_icmp .ge 110, 3) := bl_dX12_flee_24.2.2.2.2.2.2.2.1
theorem dX12_flee_40 : decode cX12_flee 40 = .ok (.aload_n 0, 1) := bl_dX12_flee_24.2.2.2.2.2.2.2.2.1
theorem dX12_flee_41 : decode cX12_flee 41 = .ok (.getfield 40, 3) := bl_dX12_flee_24.2.2.2.2.2.2.2.2.2.1
theorem dX12_flee_44 : decode cX12_flee 44 = .ok (.iload_n 3, 1) := bl_dX12_flee_24.2.2.2.2.2.2.2.2.2.2.1
theorem dX12_flee_45 : decode cX12_flee 45 = .ok (.iaload, 1) := bl_dX12_flee_24.2.2.2.2.2.2.2.2.2.2.2.1
theorem dX12_flee_46 : decode cX12_flee 46 = .ok (.ifCond .lt 95, 3) := bl_dX12_flee_24.2.2.2.2.2.2.2.2.2.2.2.2.1
theorem dX12_flee_49 : decode cX12_flee 49 = .ok (.aload_n 0, 1) := bl_dX12_flee_24.2.2.2.2.2.2.2.2.2.2.2.2.2.1
theorem dX12_flee_50 : decode cX12_flee 50 = .ok (.iload_n 3, 1) := bl_dX12_flee_24.2.2.2.2.2.2.2.2.2.2.2.2.2.2.1
theorem dX12_flee_51 : decode cX12_flee 51 = .ok (.aload_n 0, 1) := bl_dX12_flee_24.2.2.2.2.2.2.2.2.2.2.2.2.2.2.2
set_option maxRecDepth 20000 in
theorem lk_dX12_flee_52 : th_dr cX12_flee 52 = 180 :: 0 :: 40 :: 29 :: 46 :: 27 :: 182 :: 0 :: 237 :: 153 :: 0 :: 6 :: 167 :: 0 :: 77 :: 132 :: 2 :: 1 :: 42 :: 180 :: 0 :: 105 :: 29 :: 2 :: 79 :: 2 :: 54 :: 4 :: 42 :: th_dr cX12_flee 81 := rfl
theorem bl_dX12_flee_52 : decode cX12_flee 52 = .ok (.getfield 40, 3) ∧ decode cX12_flee 55 = .ok (.iload_n 3, 1) ∧ decode cX12_flee 56 = .ok (.iaload, 1) ∧ decode cX12_flee 57 = .ok (.iload_n 1, 1) ∧ decode cX12_flee 58 = .ok (.invokevirtual 237, 3) ∧ decode cX12_flee 61 = .ok (.ifCond .eq 6, 3) ∧ decode cX12_flee 64 = .ok (.goto 77, 3) ∧ decode cX12_flee 67 = .ok (.iinc 2 1, 3) ∧ decode cX12_flee 70 = .ok (.aload_n 0, 1) ∧ decode cX12_flee 71 = .ok (.getfield 105, 3) ∧ decode cX12_flee 74 = .ok (.iload_n 3, 1) ∧ decode cX12_flee 75 = .ok (.iconst (-1), 1) ∧ decode cX12_flee 76 = .ok (.iastore, 1) ∧ decode cX12_flee 77 = .ok (.iconst (-1), 1) ∧ decode cX12_flee 78 = .ok (.istore 4, 2) ∧ decode cX12_flee 80 = .ok (.aload_n 0, 1) := op_180 lk_dX12_flee_52 fun e => op_29 e fun e => op_46 e fun e => op_27 e fun e => op_182 e fun e => op_153p e rfl fun e => op_167p e rfl fun e => op_132p e rfl fun e => op_42 e fun e => op_180 e fun e => op_29 e fun e => op_2 e fun e => op_79 e fun e => op_2 e fun e => op_54 e fun e => (op_42 e fun _ => True.intro).1
theorem dX12_flee_52 : decode cX12_flee 52 = .ok (.getfield 40, 3) := bl_dX12_flee_52.1
theorem dX12_flee_55 : decode cX12_flee 55 = .ok (.iload_n 3, 1) := bl_dX12_flee_52.2.1
theorem dX12_flee_56 : decode cX12_flee 56 = .ok (.iaload, 1) := bl_dX12_flee_52.2.2.1
theorem dX12_flee_57 : decode cX12_flee 57 = .ok (.iload_n 1, 1) := bl_dX12_flee_52.2.2.2.1
theorem dX12_flee_58 : decode cX12_flee 58 = .ok (.invokevirtual 237, 3) := bl_dX12_flee_52.2.2.2.2.1
theorem dX12_flee_61 : decode cX12_flee 61 = .ok (.ifCond .eq 6, 3) := bl_dX12_flee_52.2.2.2.2.2.1
theorem dX12_flee_64 : decode cX12_flee 64 = .ok (.goto 77, 3) := bl_dX12_flee_52.2.2.2.2.2.2.1
theorem dX12_flee_67 : decode cX12_flee 67 = .ok (.iinc 2 1, 3) := bl_dX12_flee_52.2.2.2.2.2.2.2.1
theorem dX12_flee_70 : decode cX12_flee 70 = .ok (.aload_n 0, 1) := bl_dX12_flee_52.2.2.2.2.2.2.2.2.1
theorem dX12_flee_71 : decode cX12_flee 71 = .ok (.getfield 105, 3) := bl_dX12_flee_52.2.2.2.2.2.2.2.2.2.1
theorem dX12_flee_74 : decode cX12_flee 74 = .ok (.iload_n 3, 1) := bl_dX12_flee_52.2.2.2.2.2.2.2.2.2.2.1
theorem dX12_flee_75 : decode cX12_flee 75 = .ok (.iconst (-1), 1) := bl_dX12_flee_52.2.2.2.2.2.2.2.2.2.2.2.1
theorem dX12_flee_76 : decode cX12_flee 76 = .ok (.iastore, 1) := bl_dX12_flee_52.2.2.2.2.2.2.2.2.2.2.2.2.1
theorem dX12_flee_77 : decode cX12_flee 77 = .ok (.iconst (-1), 1) := bl_dX12_flee_52.2.2.2.2.2.2.2.2.2.2.2.2.2.1
theorem dX12_flee_78 : decode cX12_flee 78 = .ok (.istore 4, 2) := bl_dX12_flee_52.2.2.2.2.2.2.2.2.2.2.2.2.2.2.1
theorem dX12_flee_80 : decode cX12_flee 80 = .ok (.aload_n 0, 1) := bl_dX12_flee_52.2.2.2.2.2.2.2.2.2.2.2.2.2.2.2
set_option maxRecDepth 20000 in
theorem lk_dX12_flee_81 : th_dr cX12_flee 81 = 180 :: 0 :: 109 :: 4 :: 100 :: 54 :: 5 :: 21 :: 5 :: 155 :: 0 :: 43 :: 42 :: 29 :: 21 :: 5 :: 27 :: 182 :: 0 :: 237 :: 153 :: 0 :: 22 :: 42 :: 29 :: 21 :: 5 :: 42 :: th_dr cX12_flee 109 := rfl
theorem bl_dX12_flee_81 : decode cX12_flee 81 = .ok (.getfield 109, 3) ∧ decode cX12_flee 84 = .ok (.iconst 1, 1) ∧ decode cX12_flee 85 = .ok (.isub, 1) ∧ decode cX12_flee 86 = .ok (.istore 5, 2) ∧ decode cX12_flee 88 = .ok (.iload 5, 2) ∧ decode cX12_flee 90 = .ok (.ifCond .lt 43, 3) ∧ decode cX12_flee 93 = .ok (.aload_n 0, 1) ∧ decode cX12_flee 94 = .ok (.iload_n 3, 1) ∧ decode cX12_flee 95 = .ok (.iload 5, 2) ∧ decode cX12_flee 97 = .ok (.iload_n 1, 1) ∧ decode cX12_flee 98 = .ok (.invokevirtual 237, 3) ∧ decode cX12_flee 101 = .ok (.ifCond .eq 22, 3) ∧ decode cX12_flee 104 = .ok (.aload_n 0, 1) ∧ decode cX12_flee 105 = .ok (.iload_n 3, 1) ∧ decode cX12_flee 106 = .ok (.iload 5, 2) ∧ decode cX12_flee 108 = .ok (.aload_n 0, 1) := op_180 lk_dX12_flee_81 fun e => op_4 e fun e => op_100 e fun e => op_54 e fun e => op_21 e fun e => op_155p e rfl fun e => op_42 e fun e => op_29 e fun e => op_21 e fun e => op_27 e fun e => op_182 e fun e => op_153p e rfl fun e => op_42 e fun e => op_29 e fun e => op_21 e fun e => (op_42 e fun _ => True.intro).1
theorem dX12_flee_81 : decode cX12_flee 81 = .ok (.getfield 109, 3) := bl_dX12_flee_81.1
theorem dX12_flee_84 : decode cX12_flee 84 = .ok (.iconst 1, 1) := bl_dX12_flee_81.2.1
theorem dX12_flee_85 : decode cX12_flee 85 = .ok (.isub, 1) := bl_dX12_flee_81.2.2.1
theorem dX12_flee_86 : decode cX12_flee 86 = .ok (.istore 5, 2) := bl_dX12_flee_81.2.2.2.1
theorem dX12_flee_88 : decode cX12_flee 88 = .ok (.iload 5, 2) := bl_dX12_flee_81.2.2.2.2.1
theorem dX12_flee_90 : decode cX12_flee 90 = .ok (.ifCond .lt 43, 3) := bl_dX12_flee_81.2.2.2.2.2.1
theorem dX12_flee_93 : decode cX12_flee 93 = .ok (.aload_n 0, 1) := bl_dX12_flee_81.2.2.2.2.2.2.1
theorem dX12_flee_94 : decode cX12_flee 94 = .ok (.iload_n 3, 1) := bl_dX12_flee_81.2.2.2.2.2.2.2.1
theorem dX12_flee_95 : decode cX12_flee 95 = .ok (.iload 5, 2) := bl_dX12_flee_81.2.2.2.2.2.2.2.2.1
theorem dX12_flee_97 : decode cX12_flee 97 = .ok (.iload_n 1, 1) := bl_dX12_flee_81.2.2.2.2.2.2.2.2.2.1
theorem dX12_flee_98 : decode cX12_flee 98 = .ok (.invokevirtual 237, 3) := bl_dX12_flee_81.2.2.2.2.2.2.2.2.2.2.1
theorem dX12_flee_101 : decode cX12_flee 101 = .ok (.ifCond .eq 22, 3) := bl_dX12_flee_81.2.2.2.2.2.2.2.2.2.2.2.1
theorem dX12_flee_104 : decode cX12_flee 104 = .ok (.aload_n 0, 1) := bl_dX12_flee_81.2.2.2.2.2.2.2.2.2.2.2.2.1
theorem dX12_flee_105 : decode cX12_flee 105 = .ok (.iload_n 3, 1) := bl_dX12_flee_81.2.2.2.2.2.2.2.2.2.2.2.2.2.1
theorem dX12_flee_106 : decode cX12_flee 106 = .ok (.iload 5, 2) := bl_dX12_flee_81.2.2.2.2.2.2.2.2.2.2.2.2.2.2.1
theorem dX12_flee_108 : decode cX12_flee 108 = .ok (.aload_n 0, 1) := bl_dX12_flee_81.2.2.2.2.2.2.2.2.2.2.2.2.2.2.2
set_option maxRecDepth 20000 in
theorem lk_dX12_flee_109 : th_dr cX12_flee 109 = 180 :: 0 :: 105 :: 182 :: 0 :: 187 :: 153 :: 0 :: 8 :: 21 :: 5 :: 167 :: 0 :: 5 :: 21 :: 4 :: 54 :: 4 :: 132 :: 5 :: 255 :: 167 :: 255 :: 214 :: 42 :: 180 :: 0 :: 105 :: 29 :: 21 :: 4 :: 79 :: 132 :: 3 :: 1 :: 167 :: 255 :: 144 :: th_dr cX12_flee 147 := rfl
theorem bl_dX12_flee_109 : decode cX12_flee 109 = .ok (.getfield 105, 3) ∧ decode cX12_flee 112 = .ok (.invokevirtual 187, 3) ∧ decode cX12_flee 115 = .ok (.ifCond .eq 8, 3) ∧ decode cX12_flee 118 = .ok (.iload 5, 2) ∧ decode cX12_flee 120 = .ok (.goto 5, 3) ∧ decode cX12_flee 123 = .ok (.iload 4, 2) ∧ decode cX12_flee 125 = .ok (.istore 4, 2) ∧ decode cX12_flee 127 = .ok (.iinc 5 (-1), 3) ∧ decode cX12_flee 130 = .ok (.goto (-42), 3) ∧ decode cX12_flee 133 = .ok (.aload_n 0, 1) ∧ decode cX12_flee 134 = .ok (.getfield 105, 3) ∧ decode cX12_flee 137 = .ok (.iload_n 3, 1) ∧ decode cX12_flee 138 = .ok (.iload 4, 2) ∧ decode cX12_flee 140 = .ok (.iastore, 1) ∧ decode cX12_flee 141 = .ok (.iinc 3 1, 3) ∧ decode cX12_flee 144 = .ok (.goto (-112), 3) := op_180 lk_dX12_flee_109 fun e => op_182 e fun e => op_153p e rfl fun e => op_21 e fun e => op_167p e rfl fun e => op_21 e fun e => op_54 e fun e => op_132n e rfl rfl fun e => op_167n e rfl rfl fun e => op_42 e fun e => op_180 e fun e => op_29 e fun e => op_21 e fun e => op_79 e fun e => op_132p e rfl fun e => (op_167n e rfl rfl fun _ => True.intro).1
theorem dX12_flee_109 : decode cX12_flee 109 = .ok (.getfield 105, 3) := bl_dX12_flee_109.1
theorem dX12_flee_112 : decode cX12_flee 112 = .ok (.invokevirtual 187, 3) := bl_dX12_flee_109.2.1
theorem dX12_flee_115 : decode cX12_flee 115 = .ok (.ifCond .eq 8, 3) := bl_dX12_flee_109.2.2.1
theorem dX12_flee_118 : decode cX12_flee 118 = .ok (.iload 5, 2) := bl_dX12_flee_109.2.2.2.1
theorem dX12_flee_120 : decode cX12_flee 120 = .ok (.goto 5, 3) := bl_dX12_flee_109.2.2.2.2.1
theorem dX12_flee_123 : decode cX12_flee 123 = .ok (.iload 4, 2) := bl_dX12_flee_109.2.2.2.2.2.1
theorem dX12_flee_125 : decode cX12_flee 125 = .ok (.istore 4, 2) := bl_dX12_flee_109.2.2.2.2.2.2.1
theorem dX12_flee_127 : decode cX12_flee 127 = .ok (.iinc 5 (-1), 3) := bl_dX12_flee_109.2.2.2.2.2.2.2.1
theorem dX12_flee_130 : decode cX12_flee 130 = .ok (.goto (-42), 3) := bl_dX12_flee_109.2.2.2.2.2.2.2.2.1
theorem dX12_flee_133 : decode cX12_flee 133 = .ok (.aload_n 0, 1) := bl_dX12_flee_109.2.2.2.2.2.2.2.2.2.1
theorem dX12_flee_134 : decode cX12_flee 134 = .ok (.getfield 105, 3) := bl_dX12_flee_109.2.2.2.2.2.2.2.2.2.2.1
theorem dX12_flee_137 : decode cX12_flee 137 = .ok (.iload_n 3, 1) := bl_dX12_flee_109.2.2.2.2.2.2.2.2.2.2.2.1
theorem dX12_flee_138 : decode cX12_flee 138 = .ok (.iload 4, 2) := bl_dX12_flee_109.2.2.2.2.2.2.2.2.2.2.2.2.1
theorem dX12_flee_140 : decode cX12_flee 140 = .ok (.iastore, 1) := bl_dX12_flee_109.2.2.2.2.2.2.2.2.2.2.2.2.2.1
theorem dX12_flee_141 : decode cX12_flee 141 = .ok (.iinc 3 1, 3) := bl_dX12_flee_109.2.2.2.2.2.2.2.2.2.2.2.2.2.2.1
theorem dX12_flee_144 : decode cX12_flee 144 = .ok (.goto (-112), 3) := bl_dX12_flee_109.2.2.2.2.2.2.2.2.2.2.2.2.2.2.2
set_option maxRecDepth 20000 in
theorem lk_dX12_flee_147 : th_dr cX12_flee 147 = 28 :: 172 :: th_dr cX12_flee 149 := rfl
theorem bl_dX12_flee_147 : decode cX12_flee 147 = .ok (.iload_n 2, 1) ∧ decode cX12_flee 148 = .ok (.ireturn, 1) := op_28 lk_dX12_flee_147 fun e => (op_172 e fun _ => True.intro).1
theorem dX12_flee_147 : decode cX12_flee 147 = .ok (.iload_n 2, 1) := bl_dX12_flee_147.1
theorem dX12_flee_148 : decode cX12_flee 148 = .ok (.ireturn, 1) := bl_dX12_flee_147.2
set_option maxRecDepth 20000 in
theorem ggX12_storm_X12_within : GoodIn wsX12_storm wsX12_within := goodIn_q _ [(5, 1)] rfl gdwsX12_within
set_option maxRecDepth 20000 in
theorem gX12_storm_X12_within : GoodIn wsX12_storm (va_wsS RX12 112 yX12_within wsX12_within) := goodIn_app (goodIn_q _ [(2, 3)] rfl rfl) ggX12_storm_X12_within
set_option maxRecDepth 20000 in
theorem gdwsX12_flee : wsX12_flee.all goodWord = true := by decide +kernel
set_option maxRecDepth 20000 in
theorem ggX12_storm_X12_flee : GoodIn wsX12_storm wsX12_flee := goodIn_q _ [(9, 8), (4, 1), (17, 58), (81, 38)] rfl gdwsX12_flee
set_option maxRecDepth 20000 in
theorem gX12_storm_X12_flee : GoodIn wsX12_storm (wsV RX12 240 RX12 yX12_flee wsX12_flee) := goodIn_app (goodIn_q _ [(6, 3), (4, 1)] rfl rfl) ggX12_storm_X12_flee
set_option maxRecDepth 20000 in
theorem ggX12_storm_X12_finding : GoodIn wsX12_storm wsX12_finding := goodIn_q _ [(78, 41)] rfl gdwsX12_finding
set_option maxRecDepth 20000 in
theorem gX12_storm_X12_finding : GoodIn wsX12_storm (wsV RX12 120 RX12 yX12_finding wsX12_finding) := goodIn_app (goodIn_q _ [(75, 3), (4, 1)] rfl rfl) ggX12_storm_X12_finding
theorem lk_dX12_storm_0 : th_dr cX12_storm 0 = 27 :: 4 :: 16 :: 100 :: 184 :: 0 :: 112 :: 153 :: 0 :: 11 :: 42 :: 27 :: 182 :: 0 :: 240 :: 167 :: 0 :: 9 :: 42 :: 18 :: 119 :: 182 :: 0 :: 120 :: 172 :: th_dr cX12_storm 25 := rfl
theorem bl_dX12_storm_0 : decode cX12_storm 0 = .ok (.iload_n 1, 1) ∧ decode cX12_storm 1 = .ok (.iconst 1, 1) ∧ decode cX12_storm 2 = .ok (.bipush 100, 2) ∧ decode cX12_storm 4 = .ok (.invokestatic 112, 3) ∧ decode cX12_storm 7 = .ok (.ifCond .eq 11, 3) ∧ decode cX12_storm 10 = .ok (.aload_n 0, 1) ∧ decode cX12_storm 11 = .ok (.iload_n 1, 1) ∧ decode cX12_storm 12 = .ok (.invokevirtual 240, 3) ∧ decode cX12_storm 15 = .ok (.goto 9, 3) ∧ decode cX12_storm 18 = .ok (.aload_n 0, 1) ∧ decode cX12_storm 19 = .ok (.ldc 119, 2) ∧ decode cX12_storm 21 = .ok (.invokevirtual 120, 3) ∧ decode cX12_storm 24 = .ok (.ireturn, 1) := op_27 lk_dX12_storm_0 fun e => op_4 e fun e => op_16p e rfl fun e => op_184 e fun e => op_153p e rfl fun e => op_42 e fun e => op_27 e fun e => op_182 e fun e => op_167p e rfl fun e => op_42 e fun e => op_18 e fun e => op_182 e fun e => (op_172 e fun _ => True.intro).1
theorem dX12_storm_0 : decode cX12_storm 0 = .ok (.iload_n 1, 1) := bl_dX12_storm_0.1
theorem dX12_storm_1 : decode cX12_storm 1 = .ok (.iconst 1, 1) := bl_dX12_storm_0.2.1
theorem dX12_storm_2 : decode cX12_storm 2 = .ok (.bipush 100, 2) := bl_dX12_storm_0.2.2.1
theorem dX12_storm_4 : decode cX12_storm 4 = .ok (.invokestatic 112, 3) := bl_dX12_storm_0.2.2.2.1
theorem dX12_storm_7 : decode cX12_storm 7 = .ok (.ifCond .eq 11, 3) := bl_dX12_storm_0.2.2.2.2.1
theorem dX12_storm_10 : decode cX12_storm 10 = .ok (.aload_n 0, 1) := bl_dX12_storm_0.2.2.2.2.2.1
theorem dX12_storm_11 : decode cX12_storm 11 = .ok (.iload_n 1, 1) := bl_dX12_storm_0.2.2.2.2.2.2.1
theorem dX12_storm_12 : decode cX12_storm 12 = .ok (.invokevirtual 240, 3) := bl_dX12_storm_0.2.2.2.2.2.2.2.1
theorem dX12_storm_15 : decode cX12_storm 15 = .ok (.goto 9, 3) := bl_dX12_storm_0.2.2.2.2.2.2.2.2.1
theorem dX12_storm_18 : decode cX12_storm 18 = .ok (.aload_n 0, 1) := bl_dX12_storm_0.2.2.2.2.2.2.2.2.2.1
theorem dX12_storm_19 : decode cX12_storm 19 = .ok (.ldc 119, 2) := bl_dX12_storm_0.2.2.2.2.2.2.2.2.2.2.1
theorem dX12_storm_21 : decode cX12_storm 21 = .ok (.invokevirtual 120, 3) := bl_dX12_storm_0.2.2.2.2.2.2.2.2.2.2.2.1
theorem dX12_storm_24 : decode cX12_storm 24 = .ok (.ireturn, 1) := bl_dX12_storm_0.2.2.2.2.2.2.2.2.2.2.2.2
set_option maxRecDepth 20000 in
theorem ggX12_fled_X12_isBoat : GoodIn wsX12_fled wsX12_isBoat := goodIn_q _ [(9, 4), (8, 1), (13, 1), (86, 38)] rfl gdwsX12_isBoat
set_option maxRecDepth 20000 in
theorem gX12_fled_X12_isBoat : GoodIn wsX12_fled (wsV RX12 125 RX12 yX12_isBoat wsX12_isBoat) := goodIn_app (goodIn_q _ [(5, 4)] rfl rfl) ggX12_fled_X12_isBoat
set_option maxRecDepth 20000 in
theorem ggX12_fled_X12_within : GoodIn wsX12_fled wsX12_within := goodIn_q _ [(13, 1)] rfl gdwsX12_within
set_option maxRecDepth 20000 in
theorem gX12_fled_X12_within : GoodIn wsX12_fled (va_wsS RX12 112 yX12_within wsX12_within) := goodIn_app (goodIn_q _ [(11, 2), (8, 1)] rfl rfl) ggX12_fled_X12_within
set_option maxRecDepth 20000 in
theorem ggX12_fled_X12_finding : GoodIn wsX12_fled wsX12_finding := goodIn_q _ [(17, 3), (86, 38)] rfl gdwsX12_finding
set_option maxRecDepth 20000 in
theorem gX12_fled_X12_finding : GoodIn wsX12_fled (wsV RX12 120 RX12 yX12_finding wsX12_finding) := goodIn_app (goodIn_q _ [(14, 3), (8, 1)] rfl rfl) ggX12_fled_X12_finding
set_option maxRecDepth 20000 in
theorem ggX12_fled_X12_flee : GoodIn wsX12_fled wsX12_flee := goodIn_q _ [(23, 1), (10, 1), (4, 1), (2, 1), (24, 4), (8, 1), (28, 96)] rfl gdwsX12_flee
set_option maxRecDepth 20000 in
theorem gX12_fled_X12_flee : GoodIn wsX12_fled (wsV RX12 240 RX12 yX12_flee wsX12_flee) := goodIn_app (goodIn_q _ [(20, 3), (8, 1)] rfl rfl) ggX12_fled_X12_flee
theorem lk_dX12_fled_0 : th_dr cX12_fled 0 = 42 :: 27 :: 182 :: 0 :: 125 :: 153 :: 0 :: 13 :: 28 :: 4 :: 16 :: 100 :: 184 :: 0 :: 112 :: 154 :: 0 :: 10 :: 42 :: 18 :: 119 :: 182 :: 0 :: 120 :: 172 :: 42 :: 180 :: 0 :: 40 :: 27 :: th_dr cX12_fled 30 := rfl
theorem bl_dX12_fled_0 : decode cX12_fled 0 = .ok (.aload_n 0, 1) ∧ decode cX12_fled 1 = .ok (.iload_n 1, 1) ∧ decode cX12_fled 2 = .ok (.invokevirtual 125, 3) ∧ decode cX12_fled 5 = .ok (.ifCond .eq 13, 3) ∧ decode cX12_fled 8 = .ok (.iload_n 2, 1) ∧ decode cX12_fled 9 = .ok (.iconst 1, 1) ∧ decode cX12_fled 10 = .ok (.bipush 100, 2) ∧ decode cX12_fled 12 = .ok (.invokestatic 112, 3) ∧ decode cX12_fled 15 = .ok (.ifCond .ne 10, 3) ∧ decode cX12_fled 18 = .ok (.aload_n 0, 1) ∧ decode cX12_fled 19 = .ok (.ldc 119, 2) ∧ decode cX12_fled 21 = .ok (.invokevirtual 120, 3) ∧ decode cX12_fled 24 = .ok (.ireturn, 1) ∧ decode cX12_fled 25 = .ok (.aload_n 0, 1) ∧ decode cX12_fled 26 = .ok (.getfield 40, 3) ∧ decode cX12_fled 29 = .ok (.iload_n 1, 1) := op_42 lk_dX12_fled_0 fun e => op_27 e fun e => op_182 e fun e => op_153p e rfl fun e => op_28 e fun e => op_4 e fun e => op_16p e rfl fun e => op_184 e fun e => op_154p e rfl fun e => op_42 e fun e => op_18 e fun e => op_182 e fun e => op_172 e fun e => op_42 e fun e => op_180 e fun e => (op_27 e fun _ => True.intro).1
theorem dX12_fled_0 : decode cX12_fled 0 = .ok (.aload_n 0, 1) := bl_dX12_fled_0.1
theorem dX12_fled_1 : decode cX12_fled 1 = .ok (.iload_n 1, 1) := bl_dX12_fled_0.2.1
theorem dX12_fled_2 : decode cX12_fled 2 = .ok (.invokevirtual 125, 3) := bl_dX12_fled_0.2.2.1
theorem dX12_fled_5 : decode cX12_fled 5 = .ok (.ifCond .eq 13, 3) := bl_dX12_fled_0.2.2.2.1
theorem dX12_fled_8 : decode cX12_fled 8 = .ok (.iload_n 2, 1) := bl_dX12_fled_0.2.2.2.2.1
theorem dX12_fled_9 : decode cX12_fled 9 = .ok (.iconst 1, 1) := bl_dX12_fled_0.2.2.2.2.2.1
theorem dX12_fled_10 : decode cX12_fled 10 = .ok (.bipush 100, 2) := bl_dX12_fled_0.2.2.2.2.2.2.1
theorem dX12_fled_12 : decode cX12_fled 12 = .ok (.invokestatic 112, 3) := bl_dX12_fled_0.2.2.2.2.2.2.2.1
theorem dX12_fled_15 : decode cX12_fled 15 = .ok (.ifCond .ne 10, 3) := bl_dX12_fled_0.2.2.2.2.2.2.2.2.1
theorem dX12_fled_18 : decode cX12_fled 18 = .ok (.aload_n 0, 1) := bl_dX12_fled_0.2.2.2.2.2.2.2.2.2.1
theorem dX12_fled_19 : decode cX12_fled 19 = .ok (.ldc 119, 2) := bl_dX12_fled_0.2.2.2.2.2.2.2.2.2.2.1
theorem dX12_fled_21 : decode cX12_fled 21 = .ok (.invokevirtual 120, 3) := bl_dX12_fled_0.2.2.2.2.2.2.2.2.2.2.2.1
theorem dX12_fled_24 : decode cX12_fled 24 = .ok (.ireturn, 1) := bl_dX12_fled_0.2.2.2.2.2.2.2.2.2.2.2.2.1
theorem dX12_fled_25 : decode cX12_fled 25 = .ok (.aload_n 0, 1) := bl_dX12_fled_0.2.2.2.2.2.2.2.2.2.2.2.2.2.1
theorem dX12_fled_26 : decode cX12_fled 26 = .ok (.getfield 40, 3) := bl_dX12_fled_0.2.2.2.2.2.2.2.2.2.2.2.2.2.2.1
theorem dX12_fled_29 : decode cX12_fled 29 = .ok (.iload_n 1, 1) := bl_dX12_fled_0.2.2.2.2.2.2.2.2.2.2.2.2.2.2.2
theorem lk_dX12_fled_30 : th_dr cX12_fled 30 = 46 :: 156 :: 0 :: 10 :: 42 :: 18 :: 186 :: 182 :: 0 :: 120 :: 172 :: 42 :: 28 :: 182 :: 0 :: 240 :: 62 :: 42 :: 180 :: 0 :: 105 :: 27 :: 46 :: 172 :: th_dr cX12_fled 54 := rfl
theorem bl_dX12_fled_30 : decode cX12_fled 30 = .ok (.iaload, 1) ∧ decode cX12_fled 31 = .ok (.ifCond .ge 10, 3) ∧ decode cX12_fled 34 = .ok (.aload_n 0, 1) ∧ decode cX12_fled 35 = .ok (.ldc 186, 2) ∧ decode cX12_fled 37 = .ok (.invokevirtual 120, 3) ∧ decode cX12_fled 40 = .ok (.ireturn, 1) ∧ decode cX12_fled 41 = .ok (.aload_n 0, 1) ∧ decode cX12_fled 42 = .ok (.iload_n 2, 1) ∧ decode cX12_fled 43 = .ok (.invokevirtual 240, 3) ∧ decode cX12_fled 46 = .ok (.istore_n 3, 1) ∧ decode cX12_fled 47 = .ok (.aload_n 0, 1) ∧ decode cX12_fled 48 = .ok (.getfield 105, 3) ∧ decode cX12_fled 51 = .ok (.iload_n 1, 1) ∧ decode cX12_fled 52 = .ok (.iaload, 1) ∧ decode cX12_fled 53 = .ok (.ireturn, 1) := op_46 lk_dX12_fled_30 fun e => op_156p e rfl fun e => op_42 e fun e => op_18 e fun e => op_182 e fun e => op_172 e fun e => op_42 e fun e => op_28 e fun e => op_182 e fun e => op_62 e fun e => op_42 e fun e => op_180 e fun e => op_27 e fun e => op_46 e fun e => (op_172 e fun _ => True.intro).1
theorem dX12_fled_30 : decode cX12_fled 30 = .ok (.iaload, 1) := bl_dX12_fled_30.1
theorem dX12_fled_31 : decode cX12_fled 31 = .ok (.ifCond .ge 10, 3) := bl_dX12_fled_30.2.1
theorem dX12_fled_34 : decode cX12_fled 34 = .ok (.aload_n 0, 1) := bl_dX12_fled_30.2.2.1
theorem dX12_fled_35 : decode cX12_fled 35 = .ok (.ldc 186, 2) := bl_dX12_fled_30.2.2.2.1
theorem dX12_fled_37 : decode cX12_fled 37 = .ok (.invokevirtual 120, 3) := bl_dX12_fled_30.2.2.2.2.1
theorem dX12_fled_40 : decode cX12_fled 40 = .ok (.ireturn, 1) := bl_dX12_fled_30.2.2.2.2.2.1
theorem dX12_fled_41 : decode cX12_fled 41 = .ok (.aload_n 0, 1) := bl_dX12_fled_30.2.2.2.2.2.2.1
theorem dX12_fled_42 : decode cX12_fled 42 = .ok (.iload_n 2, 1) := bl_dX12_fled_30.2.2.2.2.2.2.2.1
theorem dX12_fled_43 : decode cX12_fled 43 = .ok (.invokevirtual 240, 3) := bl_dX12_fled_30.2.2.2.2.2.2.2.2.1
theorem dX12_fled_46 : decode cX12_fled 46 = .ok (.istore_n 3, 1) := bl_dX12_fled_30.2.2.2.2.2.2.2.2.2.1
theorem dX12_fled_47 : decode cX12_fled 47 = .ok (.aload_n 0, 1) := bl_dX12_fled_30.2.2.2.2.2.2.2.2.2.2.1
theorem dX12_fled_48 : decode cX12_fled 48 = .ok (.getfield 105, 3) := bl_dX12_fled_30.2.2.2.2.2.2.2.2.2.2.2.1
theorem dX12_fled_51 : decode cX12_fled 51 = .ok (.iload_n 1, 1) := bl_dX12_fled_30.2.2.2.2.2.2.2.2.2.2.2.2.1
theorem dX12_fled_52 : decode cX12_fled 52 = .ok (.iaload, 1) := bl_dX12_fled_30.2.2.2.2.2.2.2.2.2.2.2.2.2.1
theorem dX12_fled_53 : decode cX12_fled 53 = .ok (.ireturn, 1) := bl_dX12_fled_30.2.2.2.2.2.2.2.2.2.2.2.2.2.2
set_option maxRecDepth 20000 in
theorem ggX12_rate_X12_within : GoodIn wsX12_rate wsX12_within := goodIn_q _ [(6, 1)] rfl gdwsX12_within
set_option maxRecDepth 20000 in
theorem gX12_rate_X12_within : GoodIn wsX12_rate (va_wsS RX12 112 yX12_within wsX12_within) := goodIn_app (goodIn_q _ [(3, 3)] rfl rfl) ggX12_rate_X12_within
set_option maxRecDepth 20000 in
theorem ggX12_rate_X12_finding : GoodIn wsX12_rate wsX12_finding := goodIn_q _ [(10, 41)] rfl gdwsX12_finding
set_option maxRecDepth 20000 in
theorem gX12_rate_X12_finding : GoodIn wsX12_rate (wsV RX12 120 RX12 yX12_finding wsX12_finding) := goodIn_app (goodIn_q _ [(7, 3), (5, 1)] rfl rfl) ggX12_rate_X12_finding
theorem lk_dX12_rate_0 : th_dr cX12_rate 0 = 27 :: 3 :: 16 :: 100 :: 184 :: 0 :: 112 :: 154 :: 0 :: 10 :: 42 :: 18 :: 119 :: 182 :: 0 :: 120 :: 172 :: 42 :: 180 :: 0 :: 71 :: 61 :: 42 :: 27 :: 181 :: 0 :: 71 :: 28 :: th_dr cX12_rate 28 := rfl
theorem bl_dX12_rate_0 : decode cX12_rate 0 = .ok (.iload_n 1, 1) ∧ decode cX12_rate 1 = .ok (.iconst 0, 1) ∧ decode cX12_rate 2 = .ok (.bipush 100, 2) ∧ decode cX12_rate 4 = .ok (.invokestatic 112, 3) ∧ decode cX12_rate 7 = .ok (.ifCond .ne 10, 3) ∧ decode cX12_rate 10 = .ok (.aload_n 0, 1) ∧ decode cX12_rate 11 = .ok (.ldc 119, 2) ∧ decode cX12_rate 13 = .ok (.invokevirtual 120, 3) ∧ decode cX12_rate 16 = .ok (.ireturn, 1) ∧ decode cX12_rate 17 = .ok (.aload_n 0, 1) ∧ decode cX12_rate 18 = .ok (.getfield 71, 3) ∧ decode cX12_rate 21 = .ok (.istore_n 2, 1) ∧ decode cX12_rate 22 = .ok (.aload_n 0, 1) ∧ decode cX12_rate 23 = .ok (.iload_n 1, 1) ∧ decode cX12_rate 24 = .ok (.putfield 71, 3) ∧ decode cX12_rate 27 = .ok (.iload_n 2, 1) := op_27 lk_dX12_rate_0 fun e => op_3 e fun e => op_16p e rfl fun e => op_184 e fun e => op_154p e rfl fun e => op_42 e fun e => op_18 e fun e => op_182 e fun e => op_172 e fun e => op_42 e fun e => op_180 e fun e => op_61 e fun e => op_42 e fun e => op_27 e fun e => op_181 e fun e => (op_28 e fun _ => True.intro).1
theorem dX12_rate_0 : decode cX12_rate 0 = .ok (.iload_n 1, 1) := bl_dX12_rate_0.1
theorem dX12_rate_1 : decode cX12_rate 1 = .ok (.iconst 0, 1) := bl_dX12_rate_0.2.1
theorem dX12_rate_2 : decode cX12_rate 2 = .ok (.bipush 100, 2) := bl_dX12_rate_0.2.2.1
theorem dX12_rate_4 : decode cX12_rate 4 = .ok (.invokestatic 112, 3) := bl_dX12_rate_0.2.2.2.1
theorem dX12_rate_7 : decode cX12_rate 7 = .ok (.ifCond .ne 10, 3) := bl_dX12_rate_0.2.2.2.2.1
theorem dX12_rate_10 : decode cX12_rate 10 = .ok (.aload_n 0, 1) := bl_dX12_rate_0.2.2.2.2.2.1
theorem dX12_rate_11 : decode cX12_rate 11 = .ok (.ldc 119, 2) := bl_dX12_rate_0.2.2.2.2.2.2.1
theorem dX12_rate_13 : decode cX12_rate 13 = .ok (.invokevirtual 120, 3) := bl_dX12_rate_0.2.2.2.2.2.2.2.1
theorem dX12_rate_16 : decode cX12_rate 16 = .ok (.ireturn, 1) := bl_dX12_rate_0.2.2.2.2.2.2.2.2.1
theorem dX12_rate_17 : decode cX12_rate 17 = .ok (.aload_n 0, 1) := bl_dX12_rate_0.2.2.2.2.2.2.2.2.2.1
theorem dX12_rate_18 : decode cX12_rate 18 = .ok (.getfield 71, 3) := bl_dX12_rate_0.2.2.2.2.2.2.2.2.2.2.1
theorem dX12_rate_21 : decode cX12_rate 21 = .ok (.istore_n 2, 1) := bl_dX12_rate_0.2.2.2.2.2.2.2.2.2.2.2.1
theorem dX12_rate_22 : decode cX12_rate 22 = .ok (.aload_n 0, 1) := bl_dX12_rate_0.2.2.2.2.2.2.2.2.2.2.2.2.1
theorem dX12_rate_23 : decode cX12_rate 23 = .ok (.iload_n 1, 1) := bl_dX12_rate_0.2.2.2.2.2.2.2.2.2.2.2.2.2.1
theorem dX12_rate_24 : decode cX12_rate 24 = .ok (.putfield 71, 3) := bl_dX12_rate_0.2.2.2.2.2.2.2.2.2.2.2.2.2.2.1
theorem dX12_rate_27 : decode cX12_rate 27 = .ok (.iload_n 2, 1) := bl_dX12_rate_0.2.2.2.2.2.2.2.2.2.2.2.2.2.2.2
theorem lk_dX12_rate_28 : th_dr cX12_rate 28 = 172 :: th_dr cX12_rate 29 := rfl
theorem dX12_rate_28 : decode cX12_rate 28 = .ok (.ireturn, 1) := (op_172 lk_dX12_rate_28 fun _ => True.intro).1
set_option maxRecDepth 20000 in
theorem ggX12_dues_X12_duesOf : GoodIn wsX12_dues wsX12_duesOf := goodIn_q _ [(7, 42)] rfl gdwsX12_duesOf
set_option maxRecDepth 20000 in
theorem gX12_dues_X12_duesOf : GoodIn wsX12_dues (wsV RX12 129 RX12 yX12_duesOf wsX12_duesOf) := goodIn_app (goodIn_q _ [(3, 4)] rfl rfl) ggX12_dues_X12_duesOf
theorem lk_dX12_dues_0 : th_dr cX12_dues 0 = 3 :: 60 :: 3 :: 61 :: 28 :: 42 :: 180 :: 0 :: 116 :: 162 :: 0 :: 30 :: 27 :: 42 :: 180 :: 0 :: 40 :: 28 :: 46 :: 156 :: 0 :: 7 :: 3 :: 167 :: 0 :: 8 :: th_dr cX12_dues 26 := rfl
theorem bl_dX12_dues_0 : decode cX12_dues 0 = .ok (.iconst 0, 1) ∧ decode cX12_dues 1 = .ok (.istore_n 1, 1) ∧ decode cX12_dues 2 = .ok (.iconst 0, 1) ∧ decode cX12_dues 3 = .ok (.istore_n 2, 1) ∧ decode cX12_dues 4 = .ok (.iload_n 2, 1) ∧ decode cX12_dues 5 = .ok (.aload_n 0, 1) ∧ decode cX12_dues 6 = .ok (.getfield 116, 3) ∧ decode cX12_dues 9 = .ok (.if_icmp .ge 30, 3) ∧ decode cX12_dues 12 = .ok (.iload_n 1, 1) ∧ decode cX12_dues 13 = .ok (.aload_n 0, 1) ∧ decode cX12_dues 14 = .ok (.getfield 40, 3) ∧ decode cX12_dues 17 = .ok (.iload_n 2, 1) ∧ decode cX12_dues 18 = .ok (.iaload, 1) ∧ decode cX12_dues 19 = .ok (.ifCond .ge 7, 3) ∧ decode cX12_dues 22 = .ok (.iconst 0, 1) ∧ decode cX12_dues 23 = .ok (.goto 8, 3) := op_3 lk_dX12_dues_0 fun e => op_60 e fun e => op_3 e fun e => op_61 e fun e => op_28 e fun e => op_42 e fun e => op_180 e fun e => op_162p e rfl fun e => op_27 e fun e => op_42 e fun e => op_180 e fun e => op_28 e fun e => op_46 e fun e => op_156p e rfl fun e => op_3 e fun e => (op_167p e rfl fun _ => True.intro).1
theorem dX12_dues_0 : decode cX12_dues 0 = .ok (.iconst 0, 1) := bl_dX12_dues_0.1
theorem dX12_dues_1 : decode cX12_dues 1 = .ok (.istore_n 1, 1) := bl_dX12_dues_0.2.1
theorem dX12_dues_2 : decode cX12_dues 2 = .ok (.iconst 0, 1) := bl_dX12_dues_0.2.2.1
theorem dX12_dues_3 : decode cX12_dues 3 = .ok (.istore_n 2, 1) := bl_dX12_dues_0.2.2.2.1
theorem dX12_dues_4 : decode cX12_dues 4 = .ok (.iload_n 2, 1) := bl_dX12_dues_0.2.2.2.2.1
theorem dX12_dues_5 : decode cX12_dues 5 = .ok (.aload_n 0, 1) := bl_dX12_dues_0.2.2.2.2.2.1
theorem dX12_dues_6 : decode cX12_dues 6 = .ok (.getfield 116, 3) := bl_dX12_dues_0.2.2.2.2.2.2.1
theorem dX12_dues_9 : decode cX12_dues 9 = .ok (.if_icmp .ge 30, 3) := bl_dX12_dues_0.2.2.2.2.2.2.2.1
theorem dX12_dues_12 : decode cX12_dues 12 = .ok (.iload_n 1, 1) := bl_dX12_dues_0.2.2.2.2.2.2.2.2.1
theorem dX12_dues_13 : decode cX12_dues 13 = .ok (.aload_n 0, 1) := bl_dX12_dues_0.2.2.2.2.2.2.2.2.2.1
theorem dX12_dues_14 : decode cX12_dues 14 = .ok (.getfield 40, 3) := bl_dX12_dues_0.2.2.2.2.2.2.2.2.2.2.1
theorem dX12_dues_17 : decode cX12_dues 17 = .ok (.iload_n 2, 1) := bl_dX12_dues_0.2.2.2.2.2.2.2.2.2.2.2.1
theorem dX12_dues_18 : decode cX12_dues 18 = .ok (.iaload, 1) := bl_dX12_dues_0.2.2.2.2.2.2.2.2.2.2.2.2.1
theorem dX12_dues_19 : decode cX12_dues 19 = .ok (.ifCond .ge 7, 3) := bl_dX12_dues_0.2.2.2.2.2.2.2.2.2.2.2.2.2.1
theorem dX12_dues_22 : decode cX12_dues 22 = .ok (.iconst 0, 1) := bl_dX12_dues_0.2.2.2.2.2.2.2.2.2.2.2.2.2.2.1
theorem dX12_dues_23 : decode cX12_dues 23 = .ok (.goto 8, 3) := bl_dX12_dues_0.2.2.2.2.2.2.2.2.2.2.2.2.2.2.2
theorem lk_dX12_dues_26 : th_dr cX12_dues 26 = 42 :: 28 :: 182 :: 0 :: 129 :: 96 :: 60 :: 132 :: 2 :: 1 :: 167 :: 255 :: 224 :: 27 :: 172 :: th_dr cX12_dues 41 := rfl
theorem bl_dX12_dues_26 : decode cX12_dues 26 = .ok (.aload_n 0, 1) ∧ decode cX12_dues 27 = .ok (.iload_n 2, 1) ∧ decode cX12_dues 28 = .ok (.invokevirtual 129, 3) ∧ decode cX12_dues 31 = .ok (.iadd, 1) ∧ decode cX12_dues 32 = .ok (.istore_n 1, 1) ∧ decode cX12_dues 33 = .ok (.iinc 2 1, 3) ∧ decode cX12_dues 36 = .ok (.goto (-32), 3) ∧ decode cX12_dues 39 = .ok (.iload_n 1, 1) ∧ decode cX12_dues 40 = .ok (.ireturn, 1) := op_42 lk_dX12_dues_26 fun e => op_28 e fun e => op_182 e fun e => op_96 e fun e => op_60 e fun e => op_132p e rfl fun e => op_167n e rfl rfl fun e => op_27 e fun e => (op_172 e fun _ => True.intro).1
theorem dX12_dues_26 : decode cX12_dues 26 = .ok (.aload_n 0, 1) := bl_dX12_dues_26.1
theorem dX12_dues_27 : decode cX12_dues 27 = .ok (.iload_n 2, 1) := bl_dX12_dues_26.2.1
theorem dX12_dues_28 : decode cX12_dues 28 = .ok (.invokevirtual 129, 3) := bl_dX12_dues_26.2.2.1
theorem dX12_dues_31 : decode cX12_dues 31 = .ok (.iadd, 1) := bl_dX12_dues_26.2.2.2.1
theorem dX12_dues_32 : decode cX12_dues 32 = .ok (.istore_n 1, 1) := bl_dX12_dues_26.2.2.2.2.1
theorem dX12_dues_33 : decode cX12_dues 33 = .ok (.iinc 2 1, 3) := bl_dX12_dues_26.2.2.2.2.2.1
theorem dX12_dues_36 : decode cX12_dues 36 = .ok (.goto (-32), 3) := bl_dX12_dues_26.2.2.2.2.2.2.1
theorem dX12_dues_39 : decode cX12_dues 39 = .ok (.iload_n 1, 1) := bl_dX12_dues_26.2.2.2.2.2.2.2.1
theorem dX12_dues_40 : decode cX12_dues 40 = .ok (.ireturn, 1) := bl_dX12_dues_26.2.2.2.2.2.2.2.2
set_option maxRecDepth 20000 in
theorem ggX12_tell_X12_finding : GoodIn wsX12_tell wsX12_finding := goodIn_q _ [(8, 41)] rfl gdwsX12_finding
set_option maxRecDepth 20000 in
theorem gX12_tell_X12_finding : GoodIn wsX12_tell (wsV RX12 120 RX12 yX12_finding wsX12_finding) := goodIn_app (goodIn_q _ [(4, 4)] rfl rfl) ggX12_tell_X12_finding
theorem lk_dX12_tell_0 : th_dr cX12_tell 0 = 42 :: 180 :: 0 :: 243 :: 16 :: 24 :: 160 :: 0 :: 10 :: 42 :: 18 :: 124 :: 182 :: 0 :: 120 :: 172 :: 42 :: 180 :: 0 :: 74 :: 42 :: 180 :: 0 :: 243 :: 27 :: 79 :: 42 :: 89 :: th_dr cX12_tell 28 := rfl
theorem bl_dX12_tell_0 : decode cX12_tell 0 = .ok (.aload_n 0, 1) ∧ decode cX12_tell 1 = .ok (.getfield 243, 3) ∧ decode cX12_tell 4 = .ok (.bipush 24, 2) ∧ decode cX12_tell 6 = .ok (.if_icmp .ne 10, 3) ∧ decode cX12_tell 9 = .ok (.aload_n 0, 1) ∧ decode cX12_tell 10 = .ok (.ldc 124, 2) ∧ decode cX12_tell 12 = .ok (.invokevirtual 120, 3) ∧ decode cX12_tell 15 = .ok (.ireturn, 1) ∧ decode cX12_tell 16 = .ok (.aload_n 0, 1) ∧ decode cX12_tell 17 = .ok (.getfield 74, 3) ∧ decode cX12_tell 20 = .ok (.aload_n 0, 1) ∧ decode cX12_tell 21 = .ok (.getfield 243, 3) ∧ decode cX12_tell 24 = .ok (.iload_n 1, 1) ∧ decode cX12_tell 25 = .ok (.iastore, 1) ∧ decode cX12_tell 26 = .ok (.aload_n 0, 1) ∧ decode cX12_tell 27 = .ok (.dup, 1) := op_42 lk_dX12_tell_0 fun e => op_180 e fun e => op_16p e rfl fun e => op_160p e rfl fun e => op_42 e fun e => op_18 e fun e => op_182 e fun e => op_172 e fun e => op_42 e fun e => op_180 e fun e => op_42 e fun e => op_180 e fun e => op_27 e fun e => op_79 e fun e => op_42 e fun e => (op_89 e fun _ => True.intro).1
theorem dX12_tell_0 : decode cX12_tell 0 = .ok (.aload_n 0, 1) := bl_dX12_tell_0.1
theorem dX12_tell_1 : decode cX12_tell 1 = .ok (.getfield 243, 3) := bl_dX12_tell_0.2.1
theorem dX12_tell_4 : decode cX12_tell 4 = .ok (.bipush 24, 2) := bl_dX12_tell_0.2.2.1
theorem dX12_tell_6 : decode cX12_tell 6 = .ok (.if_icmp .ne 10, 3) := bl_dX12_tell_0.2.2.2.1
theorem dX12_tell_9 : decode cX12_tell 9 = .ok (.aload_n 0, 1) := bl_dX12_tell_0.2.2.2.2.1
theorem dX12_tell_10 : decode cX12_tell 10 = .ok (.ldc 124, 2) := bl_dX12_tell_0.2.2.2.2.2.1
theorem dX12_tell_12 : decode cX12_tell 12 = .ok (.invokevirtual 120, 3) := bl_dX12_tell_0.2.2.2.2.2.2.1
theorem dX12_tell_15 : decode cX12_tell 15 = .ok (.ireturn, 1) := bl_dX12_tell_0.2.2.2.2.2.2.2.1
theorem dX12_tell_16 : decode cX12_tell 16 = .ok (.aload_n 0, 1) := bl_dX12_tell_0.2.2.2.2.2.2.2.2.1
theorem dX12_tell_17 : decode cX12_tell 17 = .ok (.getfield 74, 3) := bl_dX12_tell_0.2.2.2.2.2.2.2.2.2.1
theorem dX12_tell_20 : decode cX12_tell 20 = .ok (.aload_n 0, 1) := bl_dX12_tell_0.2.2.2.2.2.2.2.2.2.2.1
theorem dX12_tell_21 : decode cX12_tell 21 = .ok (.getfield 243, 3) := bl_dX12_tell_0.2.2.2.2.2.2.2.2.2.2.2.1
theorem dX12_tell_24 : decode cX12_tell 24 = .ok (.iload_n 1, 1) := bl_dX12_tell_0.2.2.2.2.2.2.2.2.2.2.2.2.1
theorem dX12_tell_25 : decode cX12_tell 25 = .ok (.iastore, 1) := bl_dX12_tell_0.2.2.2.2.2.2.2.2.2.2.2.2.2.1
theorem dX12_tell_26 : decode cX12_tell 26 = .ok (.aload_n 0, 1) := bl_dX12_tell_0.2.2.2.2.2.2.2.2.2.2.2.2.2.2.1
theorem dX12_tell_27 : decode cX12_tell 27 = .ok (.dup, 1) := bl_dX12_tell_0.2.2.2.2.2.2.2.2.2.2.2.2.2.2.2
theorem lk_dX12_tell_28 : th_dr cX12_tell 28 = 180 :: 0 :: 243 :: 4 :: 96 :: 181 :: 0 :: 243 :: 42 :: 180 :: 0 :: 243 :: 172 :: th_dr cX12_tell 41 := rfl
theorem bl_dX12_tell_28 : decode cX12_tell 28 = .ok (.getfield 243, 3) ∧ decode cX12_tell 31 = .ok (.iconst 1, 1) ∧ decode cX12_tell 32 = .ok (.iadd, 1) ∧ decode cX12_tell 33 = .ok (.putfield 243, 3) ∧ decode cX12_tell 36 = .ok (.aload_n 0, 1) ∧ decode cX12_tell 37 = .ok (.getfield 243, 3) ∧ decode cX12_tell 40 = .ok (.ireturn, 1) := op_180 lk_dX12_tell_28 fun e => op_4 e fun e => op_96 e fun e => op_181 e fun e => op_42 e fun e => op_180 e fun e => (op_172 e fun _ => True.intro).1
theorem dX12_tell_28 : decode cX12_tell 28 = .ok (.getfield 243, 3) := bl_dX12_tell_28.1
theorem dX12_tell_31 : decode cX12_tell 31 = .ok (.iconst 1, 1) := bl_dX12_tell_28.2.1
theorem dX12_tell_32 : decode cX12_tell 32 = .ok (.iadd, 1) := bl_dX12_tell_28.2.2.1
theorem dX12_tell_33 : decode cX12_tell 33 = .ok (.putfield 243, 3) := bl_dX12_tell_28.2.2.2.1
theorem dX12_tell_36 : decode cX12_tell 36 = .ok (.aload_n 0, 1) := bl_dX12_tell_28.2.2.2.2.1
theorem dX12_tell_37 : decode cX12_tell 37 = .ok (.getfield 243, 3) := bl_dX12_tell_28.2.2.2.2.2.1
theorem dX12_tell_40 : decode cX12_tell 40 = .ok (.ireturn, 1) := bl_dX12_tell_28.2.2.2.2.2.2
set_option maxRecDepth 20000 in
theorem ggX12_check_X12_findRings : GoodIn wsX12_check wsX12_findRings := goodIn_q _ [(9, 1), (2, 1), (4, 1), (10, 6), (8, 1), (16, 56)] rfl gdwsX12_findRings
set_option maxRecDepth 20000 in
theorem gX12_check_X12_findRings : GoodIn wsX12_check (wsV RX12 227 RX12 yX12_findRings wsX12_findRings) := goodIn_app (goodIn_q _ [(5, 4)] rfl rfl) ggX12_check_X12_findRings
theorem lk_dX12_check_0 : th_dr cX12_check 0 = 42 :: 180 :: 0 :: 243 :: 60 :: 42 :: 3 :: 181 :: 0 :: 243 :: 42 :: 182 :: 0 :: 227 :: 3 :: 61 :: 28 :: 27 :: 162 :: 0 :: 36 :: 28 :: 42 :: 180 :: 0 :: 116 :: th_dr cX12_check 26 := rfl
theorem bl_dX12_check_0 : decode cX12_check 0 = .ok (.aload_n 0, 1) ∧ decode cX12_check 1 = .ok (.getfield 243, 3) ∧ decode cX12_check 4 = .ok (.istore_n 1, 1) ∧ decode cX12_check 5 = .ok (.aload_n 0, 1) ∧ decode cX12_check 6 = .ok (.iconst 0, 1) ∧ decode cX12_check 7 = .ok (.putfield 243, 3) ∧ decode cX12_check 10 = .ok (.aload_n 0, 1) ∧ decode cX12_check 11 = .ok (.invokevirtual 227, 3) ∧ decode cX12_check 14 = .ok (.iconst 0, 1) ∧ decode cX12_check 15 = .ok (.istore_n 2, 1) ∧ decode cX12_check 16 = .ok (.iload_n 2, 1) ∧ decode cX12_check 17 = .ok (.iload_n 1, 1) ∧ decode cX12_check 18 = .ok (.if_icmp .ge 36, 3) ∧ decode cX12_check 21 = .ok (.iload_n 2, 1) ∧ decode cX12_check 22 = .ok (.aload_n 0, 1) ∧ decode cX12_check 23 = .ok (.getfield 116, 3) := op_42 lk_dX12_check_0 fun e => op_180 e fun e => op_60 e fun e => op_42 e fun e => op_3 e fun e => op_181 e fun e => op_42 e fun e => op_182 e fun e => op_3 e fun e => op_61 e fun e => op_28 e fun e => op_27 e fun e => op_162p e rfl fun e => op_28 e fun e => op_42 e fun e => (op_180 e fun _ => True.intro).1
theorem dX12_check_0 : decode cX12_check 0 = .ok (.aload_n 0, 1) := bl_dX12_check_0.1
theorem dX12_check_1 : decode cX12_check 1 = .ok (.getfield 243, 3) := bl_dX12_check_0.2.1
theorem dX12_check_4 : decode cX12_check 4 = .ok (.istore_n 1, 1) := bl_dX12_check_0.2.2.1
theorem dX12_check_5 : decode cX12_check 5 = .ok (.aload_n 0, 1) := bl_dX12_check_0.2.2.2.1
theorem dX12_check_6 : decode cX12_check 6 = .ok (.iconst 0, 1) := bl_dX12_check_0.2.2.2.2.1
theorem dX12_check_7 : decode cX12_check 7 = .ok (.putfield 243, 3) := bl_dX12_check_0.2.2.2.2.2.1
theorem dX12_check_10 : decode cX12_check 10 = .ok (.aload_n 0, 1) := bl_dX12_check_0.2.2.2.2.2.2.1
theorem dX12_check_11 : decode cX12_check 11 = .ok (.invokevirtual 227, 3) := bl_dX12_check_0.2.2.2.2.2.2.2.1
theorem dX12_check_14 : decode cX12_check 14 = .ok (.iconst 0, 1) := bl_dX12_check_0.2.2.2.2.2.2.2.2.1
theorem dX12_check_15 : decode cX12_check 15 = .ok (.istore_n 2, 1) := bl_dX12_check_0.2.2.2.2.2.2.2.2.2.1
theorem dX12_check_16 : decode cX12_check 16 = .ok (.iload_n 2, 1) := bl_dX12_check_0.2.2.2.2.2.2.2.2.2.2.1
theorem dX12_check_17 : decode cX12_check 17 = .ok (.iload_n 1, 1) := bl_dX12_check_0.2.2.2.2.2.2.2.2.2.2.2.1
theorem dX12_check_18 : decode cX12_check 18 = .ok (.if_icmp .ge 36, 3) := bl_dX12_check_0.2.2.2.2.2.2.2.2.2.2.2.2.1
theorem dX12_check_21 : decode cX12_check 21 = .ok (.iload_n 2, 1) := bl_dX12_check_0.2.2.2.2.2.2.2.2.2.2.2.2.2.1
theorem dX12_check_22 : decode cX12_check 22 = .ok (.aload_n 0, 1) := bl_dX12_check_0.2.2.2.2.2.2.2.2.2.2.2.2.2.2.1
theorem dX12_check_23 : decode cX12_check 23 = .ok (.getfield 116, 3) := bl_dX12_check_0.2.2.2.2.2.2.2.2.2.2.2.2.2.2.2
theorem lk_dX12_check_26 : th_dr cX12_check 26 = 162 :: 0 :: 18 :: 42 :: 180 :: 0 :: 74 :: 28 :: 46 :: 42 :: 180 :: 0 :: 95 :: 28 :: 46 :: 159 :: 0 :: 7 :: 4 :: 28 :: 96 :: 172 :: 132 :: 2 :: 1 :: 167 :: 255 :: 221 :: th_dr cX12_check 54 := rfl
theorem bl_dX12_check_26 : decode cX12_check 26 = .ok (.if_icmp .ge 18, 3) ∧ decode cX12_check 29 = .ok (.aload_n 0, 1) ∧ decode cX12_check 30 = .ok (.getfield 74, 3) ∧ decode cX12_check 33 = .ok (.iload_n 2, 1) ∧ decode cX12_check 34 = .ok (.iaload, 1) ∧ decode cX12_check 35 = .ok (.aload_n 0, 1) ∧ decode cX12_check 36 = .ok (.getfield 95, 3) ∧ decode cX12_check 39 = .ok (.iload_n 2, 1) ∧ decode cX12_check 40 = .ok (.iaload, 1) ∧ decode cX12_check 41 = .ok (.if_icmp .eq 7, 3) ∧ decode cX12_check 44 = .ok (.iconst 1, 1) ∧ decode cX12_check 45 = .ok (.iload_n 2, 1) ∧ decode cX12_check 46 = .ok (.iadd, 1) ∧ decode cX12_check 47 = .ok (.ireturn, 1) ∧ decode cX12_check 48 = .ok (.iinc 2 1, 3) ∧ decode cX12_check 51 = .ok (.goto (-35), 3) := op_162p lk_dX12_check_26 rfl fun e => op_42 e fun e => op_180 e fun e => op_28 e fun e => op_46 e fun e => op_42 e fun e => op_180 e fun e => op_28 e fun e => op_46 e fun e => op_159p e rfl fun e => op_4 e fun e => op_28 e fun e => op_96 e fun e => op_172 e fun e => op_132p e rfl fun e => (op_167n e rfl rfl fun _ => True.intro).1
theorem dX12_check_26 : decode cX12_check 26 = .ok (.if_icmp .ge 18, 3) := bl_dX12_check_26.1
theorem dX12_check_29 : decode cX12_check 29 = .ok (.aload_n 0, 1) := bl_dX12_check_26.2.1
theorem dX12_check_30 : decode cX12_check 30 = .ok (.getfield 74, 3) := bl_dX12_check_26.2.2.1
theorem dX12_check_33 : decode cX12_check 33 = .ok (.iload_n 2, 1) := bl_dX12_check_26.2.2.2.1
theorem dX12_check_34 : decode cX12_check 34 = .ok (.iaload, 1) := bl_dX12_check_26.2.2.2.2.1
theorem dX12_check_35 : decode cX12_check 35 = .ok (.aload_n 0, 1) := bl_dX12_check_26.2.2.2.2.2.1
theorem dX12_check_36 : decode cX12_check 36 = .ok (.getfield 95, 3) := bl_dX12_check_26.2.2.2.2.2.2.1
theorem dX12_check_39 : decode cX12_check 39 = .ok (.iload_n 2, 1) := bl_dX12_check_26.2.2.2.2.2.2.2.1
theorem dX12_check_40 : decode cX12_check 40 = .ok (.iaload, 1) := bl_dX12_check_26.2.2.2.2.2.2.2.2.1
theorem dX12_check_41 : decode cX12_check 41 = .ok (.if_icmp .eq 7, 3) := bl_dX12_check_26.2.2.2.2.2.2.2.2.2.1
theorem dX12_check_44 : decode cX12_check 44 = .ok (.iconst 1, 1) := bl_dX12_check_26.2.2.2.2.2.2.2.2.2.2.1
theorem dX12_check_45 : decode cX12_check 45 = .ok (.iload_n 2, 1) := bl_dX12_check_26.2.2.2.2.2.2.2.2.2.2.2.1
theorem dX12_check_46 : decode cX12_check 46 = .ok (.iadd, 1) := bl_dX12_check_26.2.2.2.2.2.2.2.2.2.2.2.2.1
theorem dX12_check_47 : decode cX12_check 47 = .ok (.ireturn, 1) := bl_dX12_check_26.2.2.2.2.2.2.2.2.2.2.2.2.2.1
theorem dX12_check_48 : decode cX12_check 48 = .ok (.iinc 2 1, 3) := bl_dX12_check_26.2.2.2.2.2.2.2.2.2.2.2.2.2.2.1
theorem dX12_check_51 : decode cX12_check 51 = .ok (.goto (-35), 3) := bl_dX12_check_26.2.2.2.2.2.2.2.2.2.2.2.2.2.2.2
theorem lk_dX12_check_54 : th_dr cX12_check 54 = 3 :: 172 :: th_dr cX12_check 56 := rfl
theorem bl_dX12_check_54 : decode cX12_check 54 = .ok (.iconst 0, 1) ∧ decode cX12_check 55 = .ok (.ireturn, 1) := op_3 lk_dX12_check_54 fun e => (op_172 e fun _ => True.intro).1
theorem dX12_check_54 : decode cX12_check 54 = .ok (.iconst 0, 1) := bl_dX12_check_54.1
theorem dX12_check_55 : decode cX12_check 55 = .ok (.ireturn, 1) := bl_dX12_check_54.2
set_option maxRecDepth 20000 in
theorem ggX12_count_X12_partedMany : GoodIn wsX12_count wsX12_partedMany := goodIn_q _ [(12, 1), (3, 1), (13, 3), (11, 1), (16, 2), (24, 38)] rfl gdwsX12_partedMany
set_option maxRecDepth 20000 in
theorem gX12_count_X12_partedMany : GoodIn wsX12_count (wsV RX12 230 RX12 yX12_partedMany wsX12_partedMany) := goodIn_app (goodIn_q _ [(8, 4)] rfl rfl) ggX12_count_X12_partedMany
set_option maxRecDepth 20000 in
theorem ggX12_count_X12_finding : GoodIn wsX12_count wsX12_finding := goodIn_q _ [(21, 41)] rfl gdwsX12_finding
set_option maxRecDepth 20000 in
theorem gX12_count_X12_finding : GoodIn wsX12_count (wsV RX12 120 RX12 yX12_finding wsX12_finding) := goodIn_app (goodIn_q _ [(18, 3), (11, 1)] rfl rfl) ggX12_count_X12_finding
theorem lk_dX12_count_0 : th_dr cX12_count 0 = 3 :: 61 :: 3 :: 62 :: 29 :: 42 :: 180 :: 0 :: 116 :: 162 :: 0 :: 26 :: 28 :: 42 :: 180 :: 0 :: 40 :: 29 :: 46 :: 155 :: 0 :: 7 :: 4 :: 167 :: 0 :: 4 :: th_dr cX12_count 26 := rfl
theorem bl_dX12_count_0 : decode cX12_count 0 = .ok (.iconst 0, 1) ∧ decode cX12_count 1 = .ok (.istore_n 2, 1) ∧ decode cX12_count 2 = .ok (.iconst 0, 1) ∧ decode cX12_count 3 = .ok (.istore_n 3, 1) ∧ decode cX12_count 4 = .ok (.iload_n 3, 1) ∧ decode cX12_count 5 = .ok (.aload_n 0, 1) ∧ decode cX12_count 6 = .ok (.getfield 116, 3) ∧ decode cX12_count 9 = .ok (.if_icmp .ge 26, 3) ∧ decode cX12_count 12 = .ok (.iload_n 2, 1) ∧ decode cX12_count 13 = .ok (.aload_n 0, 1) ∧ decode cX12_count 14 = .ok (.getfield 40, 3) ∧ decode cX12_count 17 = .ok (.iload_n 3, 1) ∧ decode cX12_count 18 = .ok (.iaload, 1) ∧ decode cX12_count 19 = .ok (.ifCond .lt 7, 3) ∧ decode cX12_count 22 = .ok (.iconst 1, 1) ∧ decode cX12_count 23 = .ok (.goto 4, 3) := op_3 lk_dX12_count_0 fun e => op_61 e fun e => op_3 e fun e => op_62 e fun e => op_29 e fun e => op_42 e fun e => op_180 e fun e => op_162p e rfl fun e => op_28 e fun e => op_42 e fun e => op_180 e fun e => op_29 e fun e => op_46 e fun e => op_155p e rfl fun e => op_4 e fun e => (op_167p e rfl fun _ => True.intro).1
theorem dX12_count_0 : decode cX12_count 0 = .ok (.iconst 0, 1) := bl_dX12_count_0.1
theorem dX12_count_1 : decode cX12_count 1 = .ok (.istore_n 2, 1) := bl_dX12_count_0.2.1
theorem dX12_count_2 : decode cX12_count 2 = .ok (.iconst 0, 1) := bl_dX12_count_0.2.2.1
theorem dX12_count_3 : decode cX12_count 3 = .ok (.istore_n 3, 1) := bl_dX12_count_0.2.2.2.1
theorem dX12_count_4 : decode cX12_count 4 = .ok (.iload_n 3, 1) := bl_dX12_count_0.2.2.2.2.1
theorem dX12_count_5 : decode cX12_count 5 = .ok (.aload_n 0, 1) := bl_dX12_count_0.2.2.2.2.2.1
theorem dX12_count_6 : decode cX12_count 6 = .ok (.getfield 116, 3) := bl_dX12_count_0.2.2.2.2.2.2.1
theorem dX12_count_9 : decode cX12_count 9 = .ok (.if_icmp .ge 26, 3) := bl_dX12_count_0.2.2.2.2.2.2.2.1
theorem dX12_count_12 : decode cX12_count 12 = .ok (.iload_n 2, 1) := bl_dX12_count_0.2.2.2.2.2.2.2.2.1
theorem dX12_count_13 : decode cX12_count 13 = .ok (.aload_n 0, 1) := bl_dX12_count_0.2.2.2.2.2.2.2.2.2.1
theorem dX12_count_14 : decode cX12_count 14 = .ok (.getfield 40, 3) := bl_dX12_count_0.2.2.2.2.2.2.2.2.2.2.1
theorem dX12_count_17 : decode cX12_count 17 = .ok (.iload_n 3, 1) := bl_dX12_count_0.2.2.2.2.2.2.2.2.2.2.2.1
theorem dX12_count_18 : decode cX12_count 18 = .ok (.iaload, 1) := bl_dX12_count_0.2.2.2.2.2.2.2.2.2.2.2.2.1
theorem dX12_count_19 : decode cX12_count 19 = .ok (.ifCond .lt 7, 3) := bl_dX12_count_0.2.2.2.2.2.2.2.2.2.2.2.2.2.1
theorem dX12_count_22 : decode cX12_count 22 = .ok (.iconst 1, 1) := bl_dX12_count_0.2.2.2.2.2.2.2.2.2.2.2.2.2.2.1
theorem dX12_count_23 : decode cX12_count 23 = .ok (.goto 4, 3) := bl_dX12_count_0.2.2.2.2.2.2.2.2.2.2.2.2.2.2.2
theorem lk_dX12_count_26 : th_dr cX12_count 26 = 3 :: 96 :: 61 :: 132 :: 3 :: 1 :: 167 :: 255 :: 228 :: 27 :: th_dr cX12_count 36 := rfl
theorem bl_dX12_count_26 : decode cX12_count 26 = .ok (.iconst 0, 1) ∧ decode cX12_count 27 = .ok (.iadd, 1) ∧ decode cX12_count 28 = .ok (.istore_n 2, 1) ∧ decode cX12_count 29 = .ok (.iinc 3 1, 3) ∧ decode cX12_count 32 = .ok (.goto (-28), 3) ∧ decode cX12_count 35 = .ok (.iload_n 1, 1) := op_3 lk_dX12_count_26 fun e => op_96 e fun e => op_61 e fun e => op_132p e rfl fun e => op_167n e rfl rfl fun e => (op_27 e fun _ => True.intro).1
theorem dX12_count_26 : decode cX12_count 26 = .ok (.iconst 0, 1) := bl_dX12_count_26.1
theorem dX12_count_27 : decode cX12_count 27 = .ok (.iadd, 1) := bl_dX12_count_26.2.1
theorem dX12_count_28 : decode cX12_count 28 = .ok (.istore_n 2, 1) := bl_dX12_count_26.2.2.1
theorem dX12_count_29 : decode cX12_count 29 = .ok (.iinc 3 1, 3) := bl_dX12_count_26.2.2.2.1
theorem dX12_count_32 : decode cX12_count 32 = .ok (.goto (-28), 3) := bl_dX12_count_26.2.2.2.2.1
theorem dX12_count_35 : decode cX12_count 35 = .ok (.iload_n 1, 1) := bl_dX12_count_26.2.2.2.2.2
theorem dX12_count_36 : decode cX12_count 36 = .ok (.tableswitch 76 0 6 #[44, 49, 54, 56, 61, 66, 71], 44) := by decide +kernel
set_option maxRecDepth 20000 in
theorem lk_dX12_count_80 : th_dr cX12_count 80 = 42 :: 180 :: 0 :: 109 :: 172 :: 42 :: 180 :: 0 :: 116 :: 172 :: 28 :: 172 :: 42 :: 180 :: 0 :: 133 :: 172 :: 42 :: 180 :: 0 :: 243 :: 172 :: 42 :: 182 :: 0 :: 230 :: th_dr cX12_count 106 := rfl
theorem bl_dX12_count_80 : decode cX12_count 80 = .ok (.aload_n 0, 1) ∧ decode cX12_count 81 = .ok (.getfield 109, 3) ∧ decode cX12_count 84 = .ok (.ireturn, 1) ∧ decode cX12_count 85 = .ok (.aload_n 0, 1) ∧ decode cX12_count 86 = .ok (.getfield 116, 3) ∧ decode cX12_count 89 = .ok (.ireturn, 1) ∧ decode cX12_count 90 = .ok (.iload_n 2, 1) ∧ decode cX12_count 91 = .ok (.ireturn, 1) ∧ decode cX12_count 92 = .ok (.aload_n 0, 1) ∧ decode cX12_count 93 = .ok (.getfield 133, 3) ∧ decode cX12_count 96 = .ok (.ireturn, 1) ∧ decode cX12_count 97 = .ok (.aload_n 0, 1) ∧ decode cX12_count 98 = .ok (.getfield 243, 3) ∧ decode cX12_count 101 = .ok (.ireturn, 1) ∧ decode cX12_count 102 = .ok (.aload_n 0, 1) ∧ decode cX12_count 103 = .ok (.invokevirtual 230, 3) := op_42 lk_dX12_count_80 fun e => op_180 e fun e => op_172 e fun e => op_42 e fun e => op_180 e fun e => op_172 e fun e => op_28 e fun e => op_172 e fun e => op_42 e fun e => op_180 e fun e => op_172 e fun e => op_42 e fun e => op_180 e fun e => op_172 e fun e => op_42 e fun e => (op_182 e fun _ => True.intro).1
theorem dX12_count_80 : decode cX12_count 80 = .ok (.aload_n 0, 1) := bl_dX12_count_80.1
theorem dX12_count_81 : decode cX12_count 81 = .ok (.getfield 109, 3) := bl_dX12_count_80.2.1
theorem dX12_count_84 : decode cX12_count 84 = .ok (.ireturn, 1) := bl_dX12_count_80.2.2.1
theorem dX12_count_85 : decode cX12_count 85 = .ok (.aload_n 0, 1) := bl_dX12_count_80.2.2.2.1
theorem dX12_count_86 : decode cX12_count 86 = .ok (.getfield 116, 3) := bl_dX12_count_80.2.2.2.2.1
theorem dX12_count_89 : decode cX12_count 89 = .ok (.ireturn, 1) := bl_dX12_count_80.2.2.2.2.2.1
theorem dX12_count_90 : decode cX12_count 90 = .ok (.iload_n 2, 1) := bl_dX12_count_80.2.2.2.2.2.2.1
theorem dX12_count_91 : decode cX12_count 91 = .ok (.ireturn, 1) := bl_dX12_count_80.2.2.2.2.2.2.2.1
theorem dX12_count_92 : decode cX12_count 92 = .ok (.aload_n 0, 1) := bl_dX12_count_80.2.2.2.2.2.2.2.2.1
theorem dX12_count_93 : decode cX12_count 93 = .ok (.getfield 133, 3) := bl_dX12_count_80.2.2.2.2.2.2.2.2.2.1
theorem dX12_count_96 : decode cX12_count 96 = .ok (.ireturn, 1) := bl_dX12_count_80.2.2.2.2.2.2.2.2.2.2.1
theorem dX12_count_97 : decode cX12_count 97 = .ok (.aload_n 0, 1) := bl_dX12_count_80.2.2.2.2.2.2.2.2.2.2.2.1
theorem dX12_count_98 : decode cX12_count 98 = .ok (.getfield 243, 3) := bl_dX12_count_80.2.2.2.2.2.2.2.2.2.2.2.2.1
theorem dX12_count_101 : decode cX12_count 101 = .ok (.ireturn, 1) := bl_dX12_count_80.2.2.2.2.2.2.2.2.2.2.2.2.2.1
theorem dX12_count_102 : decode cX12_count 102 = .ok (.aload_n 0, 1) := bl_dX12_count_80.2.2.2.2.2.2.2.2.2.2.2.2.2.2.1
theorem dX12_count_103 : decode cX12_count 103 = .ok (.invokevirtual 230, 3) := bl_dX12_count_80.2.2.2.2.2.2.2.2.2.2.2.2.2.2.2
set_option maxRecDepth 20000 in
theorem lk_dX12_count_106 : th_dr cX12_count 106 = 172 :: 42 :: 180 :: 0 :: 46 :: 172 :: 42 :: 18 :: 119 :: 182 :: 0 :: 120 :: 172 :: th_dr cX12_count 119 := rfl
theorem bl_dX12_count_106 : decode cX12_count 106 = .ok (.ireturn, 1) ∧ decode cX12_count 107 = .ok (.aload_n 0, 1) ∧ decode cX12_count 108 = .ok (.getfield 46, 3) ∧ decode cX12_count 111 = .ok (.ireturn, 1) ∧ decode cX12_count 112 = .ok (.aload_n 0, 1) ∧ decode cX12_count 113 = .ok (.ldc 119, 2) ∧ decode cX12_count 115 = .ok (.invokevirtual 120, 3) ∧ decode cX12_count 118 = .ok (.ireturn, 1) := op_172 lk_dX12_count_106 fun e => op_42 e fun e => op_180 e fun e => op_172 e fun e => op_42 e fun e => op_18 e fun e => op_182 e fun e => (op_172 e fun _ => True.intro).1
theorem dX12_count_106 : decode cX12_count 106 = .ok (.ireturn, 1) := bl_dX12_count_106.1
theorem dX12_count_107 : decode cX12_count 107 = .ok (.aload_n 0, 1) := bl_dX12_count_106.2.1
theorem dX12_count_108 : decode cX12_count 108 = .ok (.getfield 46, 3) := bl_dX12_count_106.2.2.1
theorem dX12_count_111 : decode cX12_count 111 = .ok (.ireturn, 1) := bl_dX12_count_106.2.2.2.1
theorem dX12_count_112 : decode cX12_count 112 = .ok (.aload_n 0, 1) := bl_dX12_count_106.2.2.2.2.1
theorem dX12_count_113 : decode cX12_count 113 = .ok (.ldc 119, 2) := bl_dX12_count_106.2.2.2.2.2.1
theorem dX12_count_115 : decode cX12_count 115 = .ok (.invokevirtual 120, 3) := bl_dX12_count_106.2.2.2.2.2.2.1
theorem dX12_count_118 : decode cX12_count 118 = .ok (.ireturn, 1) := bl_dX12_count_106.2.2.2.2.2.2.2
set_option maxRecDepth 20000 in
theorem ggX12_found_X12_within : GoodIn wsX12_found wsX12_within := goodIn_q _ [(6, 1)] rfl gdwsX12_within
set_option maxRecDepth 20000 in
theorem gX12_found_X12_within : GoodIn wsX12_found (va_wsS RX12 112 yX12_within wsX12_within) := goodIn_app (goodIn_q _ [(3, 3)] rfl rfl) ggX12_found_X12_within
set_option maxRecDepth 20000 in
theorem ggX12_found_X12_finding : GoodIn wsX12_found wsX12_finding := goodIn_q _ [(10, 1), (1, 1), (11, 39)] rfl gdwsX12_finding
set_option maxRecDepth 20000 in
theorem gX12_found_X12_finding : GoodIn wsX12_found (wsV RX12 120 RX12 yX12_finding wsX12_finding) := goodIn_app (goodIn_q _ [(7, 3), (5, 1)] rfl rfl) ggX12_found_X12_finding
theorem lk_dX12_found_0 : th_dr cX12_found 0 = 27 :: 4 :: 8 :: 184 :: 0 :: 112 :: 153 :: 0 :: 12 :: 42 :: 180 :: 0 :: 77 :: 27 :: 46 :: 167 :: 0 :: 9 :: 42 :: 18 :: 119 :: 182 :: 0 :: 120 :: 172 :: th_dr cX12_found 25 := rfl
theorem bl_dX12_found_0 : decode cX12_found 0 = .ok (.iload_n 1, 1) ∧ decode cX12_found 1 = .ok (.iconst 1, 1) ∧ decode cX12_found 2 = .ok (.iconst 5, 1) ∧ decode cX12_found 3 = .ok (.invokestatic 112, 3) ∧ decode cX12_found 6 = .ok (.ifCond .eq 12, 3) ∧ decode cX12_found 9 = .ok (.aload_n 0, 1) ∧ decode cX12_found 10 = .ok (.getfield 77, 3) ∧ decode cX12_found 13 = .ok (.iload_n 1, 1) ∧ decode cX12_found 14 = .ok (.iaload, 1) ∧ decode cX12_found 15 = .ok (.goto 9, 3) ∧ decode cX12_found 18 = .ok (.aload_n 0, 1) ∧ decode cX12_found 19 = .ok (.ldc 119, 2) ∧ decode cX12_found 21 = .ok (.invokevirtual 120, 3) ∧ decode cX12_found 24 = .ok (.ireturn, 1) := op_27 lk_dX12_found_0 fun e => op_4 e fun e => op_8 e fun e => op_184 e fun e => op_153p e rfl fun e => op_42 e fun e => op_180 e fun e => op_27 e fun e => op_46 e fun e => op_167p e rfl fun e => op_42 e fun e => op_18 e fun e => op_182 e fun e => (op_172 e fun _ => True.intro).1
theorem dX12_found_0 : decode cX12_found 0 = .ok (.iload_n 1, 1) := bl_dX12_found_0.1
theorem dX12_found_1 : decode cX12_found 1 = .ok (.iconst 1, 1) := bl_dX12_found_0.2.1
theorem dX12_found_2 : decode cX12_found 2 = .ok (.iconst 5, 1) := bl_dX12_found_0.2.2.1
theorem dX12_found_3 : decode cX12_found 3 = .ok (.invokestatic 112, 3) := bl_dX12_found_0.2.2.2.1
theorem dX12_found_6 : decode cX12_found 6 = .ok (.ifCond .eq 12, 3) := bl_dX12_found_0.2.2.2.2.1
theorem dX12_found_9 : decode cX12_found 9 = .ok (.aload_n 0, 1) := bl_dX12_found_0.2.2.2.2.2.1
theorem dX12_found_10 : decode cX12_found 10 = .ok (.getfield 77, 3) := bl_dX12_found_0.2.2.2.2.2.2.1
theorem dX12_found_13 : decode cX12_found 13 = .ok (.iload_n 1, 1) := bl_dX12_found_0.2.2.2.2.2.2.2.1
theorem dX12_found_14 : decode cX12_found 14 = .ok (.iaload, 1) := bl_dX12_found_0.2.2.2.2.2.2.2.2.1
theorem dX12_found_15 : decode cX12_found 15 = .ok (.goto 9, 3) := bl_dX12_found_0.2.2.2.2.2.2.2.2.2.1
theorem dX12_found_18 : decode cX12_found 18 = .ok (.aload_n 0, 1) := bl_dX12_found_0.2.2.2.2.2.2.2.2.2.2.1
theorem dX12_found_19 : decode cX12_found 19 = .ok (.ldc 119, 2) := bl_dX12_found_0.2.2.2.2.2.2.2.2.2.2.2.1
theorem dX12_found_21 : decode cX12_found 21 = .ok (.invokevirtual 120, 3) := bl_dX12_found_0.2.2.2.2.2.2.2.2.2.2.2.2.1
theorem dX12_found_24 : decode cX12_found 24 = .ok (.ireturn, 1) := bl_dX12_found_0.2.2.2.2.2.2.2.2.2.2.2.2.2
theorem lk_dJ6_bitCount_0f7a4_0 : th_dr cJ6_bitCount_0f7a4 0 = 26 :: 26 :: 4 :: 124 :: 19 :: 1 :: 9 :: 126 :: 100 :: 59 :: 26 :: 19 :: 1 :: 10 :: 126 :: 26 :: 5 :: 124 :: 19 :: 1 :: 10 :: 126 :: th_dr cJ6_bitCount_0f7a4 22 := rfl
theorem bl_dJ6_bitCount_0f7a4_0 : decode cJ6_bitCount_0f7a4 0 = .ok (.iload_n 0, 1) ∧ decode cJ6_bitCount_0f7a4 1 = .ok (.iload_n 0, 1) ∧ decode cJ6_bitCount_0f7a4 2 = .ok (.iconst 1, 1) ∧ decode cJ6_bitCount_0f7a4 3 = .ok (.iushr, 1) ∧ decode cJ6_bitCount_0f7a4 4 = .ok (.ldc_w 265, 3) ∧ decode cJ6_bitCount_0f7a4 7 = .ok (.iand, 1) ∧ decode cJ6_bitCount_0f7a4 8 = .ok (.isub, 1) ∧ decode cJ6_bitCount_0f7a4 9 = .ok (.istore_n 0, 1) ∧ decode cJ6_bitCount_0f7a4 10 = .ok (.iload_n 0, 1) ∧ decode cJ6_bitCount_0f7a4 11 = .ok (.ldc_w 266, 3) ∧ decode cJ6_bitCount_0f7a4 14 = .ok (.iand, 1) ∧ decode cJ6_bitCount_0f7a4 15 = .ok (.iload_n 0, 1) ∧ decode cJ6_bitCount_0f7a4 16 = .ok (.iconst 2, 1) ∧ decode cJ6_bitCount_0f7a4 17 = .ok (.iushr, 1) ∧ decode cJ6_bitCount_0f7a4 18 = .ok (.ldc_w 266, 3) ∧ decode cJ6_bitCount_0f7a4 21 = .ok (.iand, 1) := op_26 lk_dJ6_bitCount_0f7a4_0 fun e => op_26 e fun e => op_4 e fun e => op_124 e fun e => op_19 e fun e => op_126 e fun e => op_100 e fun e => op_59 e fun e => op_26 e fun e => op_19 e fun e => op_126 e fun e => op_26 e fun e => op_5 e fun e => op_124 e fun e => op_19 e fun e => (op_126 e fun _ => True.intro).1
theorem dJ6_bitCount_0f7a4_0 : decode cJ6_bitCount_0f7a4 0 = .ok (.iload_n 0, 1) := bl_dJ6_bitCount_0f7a4_0.1
theorem dJ6_bitCount_0f7a4_1 : decode cJ6_bitCount_0f7a4 1 = .ok (.iload_n 0, 1) := bl_dJ6_bitCount_0f7a4_0.2.1
theorem dJ6_bitCount_0f7a4_2 : decode cJ6_bitCount_0f7a4 2 = .ok (.iconst 1, 1) := bl_dJ6_bitCount_0f7a4_0.2.2.1
theorem dJ6_bitCount_0f7a4_3 : decode cJ6_bitCount_0f7a4 3 = .ok (.iushr, 1) := bl_dJ6_bitCount_0f7a4_0.2.2.2.1
theorem dJ6_bitCount_0f7a4_4 : decode cJ6_bitCount_0f7a4 4 = .ok (.ldc_w 265, 3) := bl_dJ6_bitCount_0f7a4_0.2.2.2.2.1
theorem dJ6_bitCount_0f7a4_7 : decode cJ6_bitCount_0f7a4 7 = .ok (.iand, 1) := bl_dJ6_bitCount_0f7a4_0.2.2.2.2.2.1
theorem dJ6_bitCount_0f7a4_8 : decode cJ6_bitCount_0f7a4 8 = .ok (.isub, 1) := bl_dJ6_bitCount_0f7a4_0.2.2.2.2.2.2.1
theorem dJ6_bitCount_0f7a4_9 : decode cJ6_bitCount_0f7a4 9 = .ok (.istore_n 0, 1) := bl_dJ6_bitCount_0f7a4_0.2.2.2.2.2.2.2.1
theorem dJ6_bitCount_0f7a4_10 : decode cJ6_bitCount_0f7a4 10 = .ok (.iload_n 0, 1) := bl_dJ6_bitCount_0f7a4_0.2.2.2.2.2.2.2.2.1
theorem dJ6_bitCount_0f7a4_11 : decode cJ6_bitCount_0f7a4 11 = .ok (.ldc_w 266, 3) := bl_dJ6_bitCount_0f7a4_0.2.2.2.2.2.2.2.2.2.1
theorem dJ6_bitCount_0f7a4_14 : decode cJ6_bitCount_0f7a4 14 = .ok (.iand, 1) := bl_dJ6_bitCount_0f7a4_0.2.2.2.2.2.2.2.2.2.2.1
theorem dJ6_bitCount_0f7a4_15 : decode cJ6_bitCount_0f7a4 15 = .ok (.iload_n 0, 1) := bl_dJ6_bitCount_0f7a4_0.2.2.2.2.2.2.2.2.2.2.2.1
theorem dJ6_bitCount_0f7a4_16 : decode cJ6_bitCount_0f7a4 16 = .ok (.iconst 2, 1) := bl_dJ6_bitCount_0f7a4_0.2.2.2.2.2.2.2.2.2.2.2.2.1
theorem dJ6_bitCount_0f7a4_17 : decode cJ6_bitCount_0f7a4 17 = .ok (.iushr, 1) := bl_dJ6_bitCount_0f7a4_0.2.2.2.2.2.2.2.2.2.2.2.2.2.1
theorem dJ6_bitCount_0f7a4_18 : decode cJ6_bitCount_0f7a4 18 = .ok (.ldc_w 266, 3) := bl_dJ6_bitCount_0f7a4_0.2.2.2.2.2.2.2.2.2.2.2.2.2.2.1
theorem dJ6_bitCount_0f7a4_21 : decode cJ6_bitCount_0f7a4 21 = .ok (.iand, 1) := bl_dJ6_bitCount_0f7a4_0.2.2.2.2.2.2.2.2.2.2.2.2.2.2.2
theorem lk_dJ6_bitCount_0f7a4_22 : th_dr cJ6_bitCount_0f7a4 22 = 96 :: 59 :: 26 :: 26 :: 7 :: 124 :: 96 :: 19 :: 1 :: 11 :: 126 :: 59 :: 26 :: th_dr cJ6_bitCount_0f7a4 35 := rfl
theorem bl_dJ6_bitCount_0f7a4_22 : decode cJ6_bitCount_0f7a4 22 = .ok (.iadd, 1) ∧ decode cJ6_bitCount_0f7a4 23 = .ok (.istore_n 0, 1) ∧ decode cJ6_bitCount_0f7a4 24 = .ok (.iload_n 0, 1) ∧ decode cJ6_bitCount_0f7a4 25 = .ok (.iload_n 0, 1) ∧ decode cJ6_bitCount_0f7a4 26 = .ok (.iconst 4, 1) ∧ decode cJ6_bitCount_0f7a4 27 = .ok (.iushr, 1) ∧ decode cJ6_bitCount_0f7a4 28 = .ok (.iadd, 1) ∧ decode cJ6_bitCount_0f7a4 29 = .ok (.ldc_w 267, 3) ∧ decode cJ6_bitCount_0f7a4 32 = .ok (.iand, 1) ∧ decode cJ6_bitCount_0f7a4 33 = .ok (.istore_n 0, 1) ∧ decode cJ6_bitCount_0f7a4 34 = .ok (.iload_n 0, 1) := op_96 lk_dJ6_bitCount_0f7a4_22 fun e => op_59 e fun e => op_26 e fun e => op_26 e fun e => op_7 e fun e => op_124 e fun e => op_96 e fun e => op_19 e fun e => op_126 e fun e => op_59 e fun e => (op_26 e fun _ => True.intro).1
theorem dJ6_bitCount_0f7a4_22 : decode cJ6_bitCount_0f7a4 22 = .ok (.iadd, 1) := bl_dJ6_bitCount_0f7a4_22.1
theorem dJ6_bitCount_0f7a4_23 : decode cJ6_bitCount_0f7a4 23 = .ok (.istore_n 0, 1) := bl_dJ6_bitCount_0f7a4_22.2.1
theorem dJ6_bitCount_0f7a4_24 : decode cJ6_bitCount_0f7a4 24 = .ok (.iload_n 0, 1) := bl_dJ6_bitCount_0f7a4_22.2.2.1
theorem dJ6_bitCount_0f7a4_25 : decode cJ6_bitCount_0f7a4 25 = .ok (.iload_n 0, 1) := bl_dJ6_bitCount_0f7a4_22.2.2.2.1
theorem dJ6_bitCount_0f7a4_26 : decode cJ6_bitCount_0f7a4 26 = .ok (.iconst 4, 1) := bl_dJ6_bitCount_0f7a4_22.2.2.2.2.1
theorem dJ6_bitCount_0f7a4_27 : decode cJ6_bitCount_0f7a4 27 = .ok (.iushr, 1) := bl_dJ6_bitCount_0f7a4_22.2.2.2.2.2.1
theorem dJ6_bitCount_0f7a4_28 : decode cJ6_bitCount_0f7a4 28 = .ok (.iadd, 1) := bl_dJ6_bitCount_0f7a4_22.2.2.2.2.2.2.1
theorem dJ6_bitCount_0f7a4_29 : decode cJ6_bitCount_0f7a4 29 = .ok (.ldc_w 267, 3) := bl_dJ6_bitCount_0f7a4_22.2.2.2.2.2.2.2.1
theorem dJ6_bitCount_0f7a4_32 : decode cJ6_bitCount_0f7a4 32 = .ok (.iand, 1) := bl_dJ6_bitCount_0f7a4_22.2.2.2.2.2.2.2.2.1
theorem dJ6_bitCount_0f7a4_33 : decode cJ6_bitCount_0f7a4 33 = .ok (.istore_n 0, 1) := bl_dJ6_bitCount_0f7a4_22.2.2.2.2.2.2.2.2.2.1
theorem dJ6_bitCount_0f7a4_34 : decode cJ6_bitCount_0f7a4 34 = .ok (.iload_n 0, 1) := bl_dJ6_bitCount_0f7a4_22.2.2.2.2.2.2.2.2.2.2
