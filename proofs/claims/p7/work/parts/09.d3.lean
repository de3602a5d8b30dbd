theorem lk_dX7_barredBy_1 : th_dr cX7_barredBy 1 = 16 :: 12 :: 104 :: 28 :: 96 :: 8 :: 104 :: 29 :: 96 :: 54 :: 4 :: 42 :: 180 :: 0 :: 25 :: 21 :: 4 :: 46 :: 2 :: 159 :: 0 :: 11 :: 42 :: th_dr cX7_barredBy 24 := rfl
theorem bl_dX7_barredBy_1 : decode cX7_barredBy 1 = .ok (.bipush 12, 2) ∧ decode cX7_barredBy 3 = .ok (.imul, 1) ∧ decode cX7_barredBy 4 = .ok (.iload_n 2, 1) ∧ decode cX7_barredBy 5 = .ok (.iadd, 1) ∧ decode cX7_barredBy 6 = .ok (.iconst 5, 1) ∧ decode cX7_barredBy 7 = .ok (.imul, 1) ∧ decode cX7_barredBy 8 = .ok (.iload_n 3, 1) ∧ decode cX7_barredBy 9 = .ok (.iadd, 1) ∧ decode cX7_barredBy 10 = .ok (.istore 4, 2) ∧ decode cX7_barredBy 12 = .ok (.aload_n 0, 1) ∧ decode cX7_barredBy 13 = .ok (.getfield 25, 3) ∧ decode cX7_barredBy 16 = .ok (.iload 4, 2) ∧ decode cX7_barredBy 18 = .ok (.iaload, 1) ∧ decode cX7_barredBy 19 = .ok (.iconst (-1), 1) ∧ decode cX7_barredBy 20 = .ok (.if_icmp .eq 11, 3) ∧ decode cX7_barredBy 23 = .ok (.aload_n 0, 1) := op_16p lk_dX7_barredBy_1 rfl fun e => op_104 e fun e => op_28 e fun e => op_96 e fun e => op_8 e fun e => op_104 e fun e => op_29 e fun e => op_96 e fun e => op_54 e fun e => op_42 e fun e => op_180 e fun e => op_21 e fun e => op_46 e fun e => op_2 e fun e => op_159p e rfl fun e => (op_42 e fun _ => True.intro).1
theorem dX7_barredBy_1 : decode cX7_barredBy 1 = .ok (.bipush 12, 2) := bl_dX7_barredBy_1.1
theorem dX7_barredBy_3 : decode cX7_barredBy 3 = .ok (.imul, 1) := bl_dX7_barredBy_1.2.1
theorem dX7_barredBy_4 : decode cX7_barredBy 4 = .ok (.iload_n 2, 1) := bl_dX7_barredBy_1.2.2.1
theorem dX7_barredBy_5 : decode cX7_barredBy 5 = .ok (.iadd, 1) := bl_dX7_barredBy_1.2.2.2.1
theorem dX7_barredBy_6 : decode cX7_barredBy 6 = .ok (.iconst 5, 1) := bl_dX7_barredBy_1.2.2.2.2.1
theorem dX7_barredBy_7 : decode cX7_barredBy 7 = .ok (.imul, 1) := bl_dX7_barredBy_1.2.2.2.2.2.1
theorem dX7_barredBy_8 : decode cX7_barredBy 8 = .ok (.iload_n 3, 1) := bl_dX7_barredBy_1.2.2.2.2.2.2.1
theorem dX7_barredBy_9 : decode cX7_barredBy 9 = .ok (.iadd, 1) := bl_dX7_barredBy_1.2.2.2.2.2.2.2.1
theorem dX7_barredBy_10 : decode cX7_barredBy 10 = .ok (.istore 4, 2) := bl_dX7_barredBy_1.2.2.2.2.2.2.2.2.1
theorem dX7_barredBy_12 : decode cX7_barredBy 12 = .ok (.aload_n 0, 1) := bl_dX7_barredBy_1.2.2.2.2.2.2.2.2.2.1
theorem dX7_barredBy_13 : decode cX7_barredBy 13 = .ok (.getfield 25, 3) := bl_dX7_barredBy_1.2.2.2.2.2.2.2.2.2.2.1
theorem dX7_barredBy_16 : decode cX7_barredBy 16 = .ok (.iload 4, 2) := bl_dX7_barredBy_1.2.2.2.2.2.2.2.2.2.2.2.1
theorem dX7_barredBy_18 : decode cX7_barredBy 18 = .ok (.iaload, 1) := bl_dX7_barredBy_1.2.2.2.2.2.2.2.2.2.2.2.2.1
theorem dX7_barredBy_19 : decode cX7_barredBy 19 = .ok (.iconst (-1), 1) := bl_dX7_barredBy_1.2.2.2.2.2.2.2.2.2.2.2.2.2.1
theorem dX7_barredBy_20 : decode cX7_barredBy 20 = .ok (.if_icmp .eq 11, 3) := bl_dX7_barredBy_1.2.2.2.2.2.2.2.2.2.2.2.2.2.2.1
theorem dX7_barredBy_23 : decode cX7_barredBy 23 = .ok (.aload_n 0, 1) := bl_dX7_barredBy_1.2.2.2.2.2.2.2.2.2.2.2.2.2.2.2
theorem lk_dX7_barredBy_24 : th_dr cX7_barredBy 24 = 180 :: 0 :: 25 :: 21 :: 4 :: 46 :: 172 :: 42 :: 180 :: 0 :: 11 :: 27 :: 50 :: 58 :: 5 :: 42 :: 180 :: 0 :: 11 :: 29 :: 50 :: 58 :: 6 :: 42 :: 180 :: 0 :: 37 :: th_dr cX7_barredBy 51 := rfl
theorem bl_dX7_barredBy_24 : decode cX7_barredBy 24 = .ok (.getfield 25, 3) ∧ decode cX7_barredBy 27 = .ok (.iload 4, 2) ∧ decode cX7_barredBy 29 = .ok (.iaload, 1) ∧ decode cX7_barredBy 30 = .ok (.ireturn, 1) ∧ decode cX7_barredBy 31 = .ok (.aload_n 0, 1) ∧ decode cX7_barredBy 32 = .ok (.getfield 11, 3) ∧ decode cX7_barredBy 35 = .ok (.iload_n 1, 1) ∧ decode cX7_barredBy 36 = .ok (.aaload, 1) ∧ decode cX7_barredBy 37 = .ok (.astore 5, 2) ∧ decode cX7_barredBy 39 = .ok (.aload_n 0, 1) ∧ decode cX7_barredBy 40 = .ok (.getfield 11, 3) ∧ decode cX7_barredBy 43 = .ok (.iload_n 3, 1) ∧ decode cX7_barredBy 44 = .ok (.aaload, 1) ∧ decode cX7_barredBy 45 = .ok (.astore 6, 2) ∧ decode cX7_barredBy 47 = .ok (.aload_n 0, 1) ∧ decode cX7_barredBy 48 = .ok (.getfield 37, 3) := op_180 lk_dX7_barredBy_24 fun e => op_21 e fun e => op_46 e fun e => op_172 e fun e => op_42 e fun e => op_180 e fun e => op_27 e fun e => op_50 e fun e => op_58 e fun e => op_42 e fun e => op_180 e fun e => op_29 e fun e => op_50 e fun e => op_58 e fun e => op_42 e fun e => (op_180 e fun _ => True.intro).1
theorem dX7_barredBy_24 : decode cX7_barredBy 24 = .ok (.getfield 25, 3) := bl_dX7_barredBy_24.1
theorem dX7_barredBy_27 : decode cX7_barredBy 27 = .ok (.iload 4, 2) := bl_dX7_barredBy_24.2.1
theorem dX7_barredBy_29 : decode cX7_barredBy 29 = .ok (.iaload, 1) := bl_dX7_barredBy_24.2.2.1
theorem dX7_barredBy_30 : decode cX7_barredBy 30 = .ok (.ireturn, 1) := bl_dX7_barredBy_24.2.2.2.1
theorem dX7_barredBy_31 : decode cX7_barredBy 31 = .ok (.aload_n 0, 1) := bl_dX7_barredBy_24.2.2.2.2.1
theorem dX7_barredBy_32 : decode cX7_barredBy 32 = .ok (.getfield 11, 3) := bl_dX7_barredBy_24.2.2.2.2.2.1
theorem dX7_barredBy_35 : decode cX7_barredBy 35 = .ok (.iload_n 1, 1) := bl_dX7_barredBy_24.2.2.2.2.2.2.1
theorem dX7_barredBy_36 : decode cX7_barredBy 36 = .ok (.aaload, 1) := bl_dX7_barredBy_24.2.2.2.2.2.2.2.1
theorem dX7_barredBy_37 : decode cX7_barredBy 37 = .ok (.astore 5, 2) := bl_dX7_barredBy_24.2.2.2.2.2.2.2.2.1
theorem dX7_barredBy_39 : decode cX7_barredBy 39 = .ok (.aload_n 0, 1) := bl_dX7_barredBy_24.2.2.2.2.2.2.2.2.2.1
theorem dX7_barredBy_40 : decode cX7_barredBy 40 = .ok (.getfield 11, 3) := bl_dX7_barredBy_24.2.2.2.2.2.2.2.2.2.2.1
theorem dX7_barredBy_43 : decode cX7_barredBy 43 = .ok (.iload_n 3, 1) := bl_dX7_barredBy_24.2.2.2.2.2.2.2.2.2.2.2.1
theorem dX7_barredBy_44 : decode cX7_barredBy 44 = .ok (.aaload, 1) := bl_dX7_barredBy_24.2.2.2.2.2.2.2.2.2.2.2.2.1
theorem dX7_barredBy_45 : decode cX7_barredBy 45 = .ok (.astore 6, 2) := bl_dX7_barredBy_24.2.2.2.2.2.2.2.2.2.2.2.2.2.1
theorem dX7_barredBy_47 : decode cX7_barredBy 47 = .ok (.aload_n 0, 1) := bl_dX7_barredBy_24.2.2.2.2.2.2.2.2.2.2.2.2.2.2.1
theorem dX7_barredBy_48 : decode cX7_barredBy 48 = .ok (.getfield 37, 3) := bl_dX7_barredBy_24.2.2.2.2.2.2.2.2.2.2.2.2.2.2.2
set_option maxRecDepth 20000 in
theorem lk_dX7_barredBy_51 : th_dr cX7_barredBy 51 = 28 :: 182 :: 0 :: 71 :: 58 :: 7 :: 25 :: 5 :: 198 :: 0 :: 13 :: 25 :: 6 :: 198 :: 0 :: 8 :: 25 :: 7 :: 199 :: 0 :: 5 :: 3 :: 172 :: 4 :: 28 :: 120 :: 54 :: 8 :: 3 :: th_dr cX7_barredBy 80 := rfl
theorem bl_dX7_barredBy_51 : decode cX7_barredBy 51 = .ok (.iload_n 2, 1) ∧ decode cX7_barredBy 52 = .ok (.invokevirtual 71, 3) ∧ decode cX7_barredBy 55 = .ok (.astore 7, 2) ∧ decode cX7_barredBy 57 = .ok (.aload 5, 2) ∧ decode cX7_barredBy 59 = .ok (.ifnull 13, 3) ∧ decode cX7_barredBy 62 = .ok (.aload 6, 2) ∧ decode cX7_barredBy 64 = .ok (.ifnull 8, 3) ∧ decode cX7_barredBy 67 = .ok (.aload 7, 2) ∧ decode cX7_barredBy 69 = .ok (.ifnonnull 5, 3) ∧ decode cX7_barredBy 72 = .ok (.iconst 0, 1) ∧ decode cX7_barredBy 73 = .ok (.ireturn, 1) ∧ decode cX7_barredBy 74 = .ok (.iconst 1, 1) ∧ decode cX7_barredBy 75 = .ok (.iload_n 2, 1) ∧ decode cX7_barredBy 76 = .ok (.ishl, 1) ∧ decode cX7_barredBy 77 = .ok (.istore 8, 2) ∧ decode cX7_barredBy 79 = .ok (.iconst 0, 1) := op_28 lk_dX7_barredBy_51 fun e => op_182 e fun e => op_58 e fun e => op_25 e fun e => op_198p e rfl fun e => op_25 e fun e => op_198p e rfl fun e => op_25 e fun e => op_199p e rfl fun e => op_3 e fun e => op_172 e fun e => op_4 e fun e => op_28 e fun e => op_120 e fun e => op_54 e fun e => (op_3 e fun _ => True.intro).1
theorem dX7_barredBy_51 : decode cX7_barredBy 51 = .ok (.iload_n 2, 1) := bl_dX7_barredBy_51.1
theorem dX7_barredBy_52 : decode cX7_barredBy 52 = .ok (.invokevirtual 71, 3) := bl_dX7_barredBy_51.2.1
theorem dX7_barredBy_55 : decode cX7_barredBy 55 = .ok (.astore 7, 2) := bl_dX7_barredBy_51.2.2.1
theorem dX7_barredBy_57 : decode cX7_barredBy 57 = .ok (.aload 5, 2) := bl_dX7_barredBy_51.2.2.2.1
theorem dX7_barredBy_59 : decode cX7_barredBy 59 = .ok (.ifnull 13, 3) := bl_dX7_barredBy_51.2.2.2.2.1
theorem dX7_barredBy_62 : decode cX7_barredBy 62 = .ok (.aload 6, 2) := bl_dX7_barredBy_51.2.2.2.2.2.1
theorem dX7_barredBy_64 : decode cX7_barredBy 64 = .ok (.ifnull 8, 3) := bl_dX7_barredBy_51.2.2.2.2.2.2.1
theorem dX7_barredBy_67 : decode cX7_barredBy 67 = .ok (.aload 7, 2) := bl_dX7_barredBy_51.2.2.2.2.2.2.2.1
theorem dX7_barredBy_69 : decode cX7_barredBy 69 = .ok (.ifnonnull 5, 3) := bl_dX7_barredBy_51.2.2.2.2.2.2.2.2.1
theorem dX7_barredBy_72 : decode cX7_barredBy 72 = .ok (.iconst 0, 1) := bl_dX7_barredBy_51.2.2.2.2.2.2.2.2.2.1
theorem dX7_barredBy_73 : decode cX7_barredBy 73 = .ok (.ireturn, 1) := bl_dX7_barredBy_51.2.2.2.2.2.2.2.2.2.2.1
theorem dX7_barredBy_74 : decode cX7_barredBy 74 = .ok (.iconst 1, 1) := bl_dX7_barredBy_51.2.2.2.2.2.2.2.2.2.2.2.1
theorem dX7_barredBy_75 : decode cX7_barredBy 75 = .ok (.iload_n 2, 1) := bl_dX7_barredBy_51.2.2.2.2.2.2.2.2.2.2.2.2.1
theorem dX7_barredBy_76 : decode cX7_barredBy 76 = .ok (.ishl, 1) := bl_dX7_barredBy_51.2.2.2.2.2.2.2.2.2.2.2.2.2.1
theorem dX7_barredBy_77 : decode cX7_barredBy 77 = .ok (.istore 8, 2) := bl_dX7_barredBy_51.2.2.2.2.2.2.2.2.2.2.2.2.2.2.1
theorem dX7_barredBy_79 : decode cX7_barredBy 79 = .ok (.iconst 0, 1) := bl_dX7_barredBy_51.2.2.2.2.2.2.2.2.2.2.2.2.2.2.2
set_option maxRecDepth 20000 in
theorem lk_dX7_barredBy_80 : th_dr cX7_barredBy 80 = 54 :: 9 :: 21 :: 9 :: 42 :: 180 :: 0 :: 37 :: 180 :: 0 :: 68 :: 162 :: 0 :: 89 :: 21 :: 9 :: 28 :: 159 :: 0 :: 21 :: 42 :: 180 :: 0 :: 21 :: 29 :: 46 :: 21 :: 9 :: 122 :: 4 :: th_dr cX7_barredBy 110 := rfl
theorem bl_dX7_barredBy_80 : decode cX7_barredBy 80 = .ok (.istore 9, 2) ∧ decode cX7_barredBy 82 = .ok (.iload 9, 2) ∧ decode cX7_barredBy 84 = .ok (.aload_n 0, 1) ∧ decode cX7_barredBy 85 = .ok (.getfield 37, 3) ∧ decode cX7_barredBy 88 = .ok (.getfield 68, 3) ∧ decode cX7_barredBy 91 = .ok (.if_icmp .ge 89, 3) ∧ decode cX7_barredBy 94 = .ok (.iload 9, 2) ∧ decode cX7_barredBy 96 = .ok (.iload_n 2, 1) ∧ decode cX7_barredBy 97 = .ok (.if_icmp .eq 21, 3) ∧ decode cX7_barredBy 100 = .ok (.aload_n 0, 1) ∧ decode cX7_barredBy 101 = .ok (.getfield 21, 3) ∧ decode cX7_barredBy 104 = .ok (.iload_n 3, 1) ∧ decode cX7_barredBy 105 = .ok (.iaload, 1) ∧ decode cX7_barredBy 106 = .ok (.iload 9, 2) ∧ decode cX7_barredBy 108 = .ok (.ishr, 1) ∧ decode cX7_barredBy 109 = .ok (.iconst 1, 1) := op_54 lk_dX7_barredBy_80 fun e => op_21 e fun e => op_42 e fun e => op_180 e fun e => op_180 e fun e => op_162p e rfl fun e => op_21 e fun e => op_28 e fun e => op_159p e rfl fun e => op_42 e fun e => op_180 e fun e => op_29 e fun e => op_46 e fun e => op_21 e fun e => op_122 e fun e => (op_4 e fun _ => True.intro).1
theorem dX7_barredBy_80 : decode cX7_barredBy 80 = .ok (.istore 9, 2) := bl_dX7_barredBy_80.1
theorem dX7_barredBy_82 : decode cX7_barredBy 82 = .ok (.iload 9, 2) := bl_dX7_barredBy_80.2.1
theorem dX7_barredBy_84 : decode cX7_barredBy 84 = .ok (.aload_n 0, 1) := bl_dX7_barredBy_80.2.2.1
theorem dX7_barredBy_85 : decode cX7_barredBy 85 = .ok (.getfield 37, 3) := bl_dX7_barredBy_80.2.2.2.1
theorem dX7_barredBy_88 : decode cX7_barredBy 88 = .ok (.getfield 68, 3) := bl_dX7_barredBy_80.2.2.2.2.1
theorem dX7_barredBy_91 : decode cX7_barredBy 91 = .ok (.if_icmp .ge 89, 3) := bl_dX7_barredBy_80.2.2.2.2.2.1
theorem dX7_barredBy_94 : decode cX7_barredBy 94 = .ok (.iload 9, 2) := bl_dX7_barredBy_80.2.2.2.2.2.2.1
theorem dX7_barredBy_96 : decode cX7_barredBy 96 = .ok (.iload_n 2, 1) := bl_dX7_barredBy_80.2.2.2.2.2.2.2.1
theorem dX7_barredBy_97 : decode cX7_barredBy 97 = .ok (.if_icmp .eq 21, 3) := bl_dX7_barredBy_80.2.2.2.2.2.2.2.2.1
theorem dX7_barredBy_100 : decode cX7_barredBy 100 = .ok (.aload_n 0, 1) := bl_dX7_barredBy_80.2.2.2.2.2.2.2.2.2.1
theorem dX7_barredBy_101 : decode cX7_barredBy 101 = .ok (.getfield 21, 3) := bl_dX7_barredBy_80.2.2.2.2.2.2.2.2.2.2.1
theorem dX7_barredBy_104 : decode cX7_barredBy 104 = .ok (.iload_n 3, 1) := bl_dX7_barredBy_80.2.2.2.2.2.2.2.2.2.2.2.1
theorem dX7_barredBy_105 : decode cX7_barredBy 105 = .ok (.iaload, 1) := bl_dX7_barredBy_80.2.2.2.2.2.2.2.2.2.2.2.2.1
theorem dX7_barredBy_106 : decode cX7_barredBy 106 = .ok (.iload 9, 2) := bl_dX7_barredBy_80.2.2.2.2.2.2.2.2.2.2.2.2.2.1
theorem dX7_barredBy_108 : decode cX7_barredBy 108 = .ok (.ishr, 1) := bl_dX7_barredBy_80.2.2.2.2.2.2.2.2.2.2.2.2.2.2.1
theorem dX7_barredBy_109 : decode cX7_barredBy 109 = .ok (.iconst 1, 1) := bl_dX7_barredBy_80.2.2.2.2.2.2.2.2.2.2.2.2.2.2.2
set_option maxRecDepth 20000 in
theorem lk_dX7_barredBy_110 : th_dr cX7_barredBy 110 = 126 :: 153 :: 0 :: 7 :: 4 :: 167 :: 0 :: 4 :: 3 :: 54 :: 10 :: 21 :: 10 :: 153 :: 0 :: 15 :: 42 :: 180 :: 0 :: 37 :: 21 :: 9 :: 182 :: 0 :: 71 :: 167 :: 0 :: 4 :: 1 :: 58 :: 11 :: 25 :: 11 :: th_dr cX7_barredBy 143 := rfl
theorem bl_dX7_barredBy_110 : decode cX7_barredBy 110 = .ok (.iand, 1) ∧ decode cX7_barredBy 111 = .ok (.ifCond .eq 7, 3) ∧ decode cX7_barredBy 114 = .ok (.iconst 1, 1) ∧ decode cX7_barredBy 115 = .ok (.goto 4, 3) ∧ decode cX7_barredBy 118 = .ok (.iconst 0, 1) ∧ decode cX7_barredBy 119 = .ok (.istore 10, 2) ∧ decode cX7_barredBy 121 = .ok (.iload 10, 2) ∧ decode cX7_barredBy 123 = .ok (.ifCond .eq 15, 3) ∧ decode cX7_barredBy 126 = .ok (.aload_n 0, 1) ∧ decode cX7_barredBy 127 = .ok (.getfield 37, 3) ∧ decode cX7_barredBy 130 = .ok (.iload 9, 2) ∧ decode cX7_barredBy 132 = .ok (.invokevirtual 71, 3) ∧ decode cX7_barredBy 135 = .ok (.goto 4, 3) ∧ decode cX7_barredBy 138 = .ok (.aconst_null, 1) ∧ decode cX7_barredBy 139 = .ok (.astore 11, 2) ∧ decode cX7_barredBy 141 = .ok (.aload 11, 2) := op_126 lk_dX7_barredBy_110 fun e => op_153p e rfl fun e => op_4 e fun e => op_167p e rfl fun e => op_3 e fun e => op_54 e fun e => op_21 e fun e => op_153p e rfl fun e => op_42 e fun e => op_180 e fun e => op_21 e fun e => op_182 e fun e => op_167p e rfl fun e => op_1 e fun e => op_58 e fun e => (op_25 e fun _ => True.intro).1
theorem dX7_barredBy_110 : decode cX7_barredBy 110 = .ok (.iand, 1) := bl_dX7_barredBy_110.1
theorem dX7_barredBy_111 : decode cX7_barredBy 111 = .ok (.ifCond .eq 7, 3) := bl_dX7_barredBy_110.2.1
theorem dX7_barredBy_114 : decode cX7_barredBy 114 = .ok (.iconst 1, 1) := bl_dX7_barredBy_110.2.2.1
theorem dX7_barredBy_115 : decode cX7_barredBy 115 = .ok (.goto 4, 3) := bl_dX7_barredBy_110.2.2.2.1
theorem dX7_barredBy_118 : decode cX7_barredBy 118 = .ok (.iconst 0, 1) := bl_dX7_barredBy_110.2.2.2.2.1
theorem dX7_barredBy_119 : decode cX7_barredBy 119 = .ok (.istore 10, 2) := bl_dX7_barredBy_110.2.2.2.2.2.1
theorem dX7_barredBy_121 : decode cX7_barredBy 121 = .ok (.iload 10, 2) := bl_dX7_barredBy_110.2.2.2.2.2.2.1
theorem dX7_barredBy_123 : decode cX7_barredBy 123 = .ok (.ifCond .eq 15, 3) := bl_dX7_barredBy_110.2.2.2.2.2.2.2.1
theorem dX7_barredBy_126 : decode cX7_barredBy 126 = .ok (.aload_n 0, 1) := bl_dX7_barredBy_110.2.2.2.2.2.2.2.2.1
theorem dX7_barredBy_127 : decode cX7_barredBy 127 = .ok (.getfield 37, 3) := bl_dX7_barredBy_110.2.2.2.2.2.2.2.2.2.1
theorem dX7_barredBy_130 : decode cX7_barredBy 130 = .ok (.iload 9, 2) := bl_dX7_barredBy_110.2.2.2.2.2.2.2.2.2.2.1
theorem dX7_barredBy_132 : decode cX7_barredBy 132 = .ok (.invokevirtual 71, 3) := bl_dX7_barredBy_110.2.2.2.2.2.2.2.2.2.2.2.1
theorem dX7_barredBy_135 : decode cX7_barredBy 135 = .ok (.goto 4, 3) := bl_dX7_barredBy_110.2.2.2.2.2.2.2.2.2.2.2.2.1
theorem dX7_barredBy_138 : decode cX7_barredBy 138 = .ok (.aconst_null, 1) := bl_dX7_barredBy_110.2.2.2.2.2.2.2.2.2.2.2.2.2.1
theorem dX7_barredBy_139 : decode cX7_barredBy 139 = .ok (.astore 11, 2) := bl_dX7_barredBy_110.2.2.2.2.2.2.2.2.2.2.2.2.2.2.1
theorem dX7_barredBy_141 : decode cX7_barredBy 141 = .ok (.aload 11, 2) := bl_dX7_barredBy_110.2.2.2.2.2.2.2.2.2.2.2.2.2.2.2
set_option maxRecDepth 20000 in
theorem lk_dX7_barredBy_143 : th_dr cX7_barredBy 143 = 198 :: 0 :: 31 :: 42 :: 180 :: 0 :: 37 :: 25 :: 5 :: 25 :: 7 :: 25 :: 6 :: 25 :: 11 :: 182 :: 0 :: 104 :: 2 :: 159 :: 0 :: 12 :: 21 :: 8 :: 4 :: 21 :: 9 :: 120 :: 128 :: 54 :: 8 :: th_dr cX7_barredBy 174 := rfl
theorem bl_dX7_barredBy_143 : decode cX7_barredBy 143 = .ok (.ifnull 31, 3) ∧ decode cX7_barredBy 146 = .ok (.aload_n 0, 1) ∧ decode cX7_barredBy 147 = .ok (.getfield 37, 3) ∧ decode cX7_barredBy 150 = .ok (.aload 5, 2) ∧ decode cX7_barredBy 152 = .ok (.aload 7, 2) ∧ decode cX7_barredBy 154 = .ok (.aload 6, 2) ∧ decode cX7_barredBy 156 = .ok (.aload 11, 2) ∧ decode cX7_barredBy 158 = .ok (.invokevirtual 104, 3) ∧ decode cX7_barredBy 161 = .ok (.iconst (-1), 1) ∧ decode cX7_barredBy 162 = .ok (.if_icmp .eq 12, 3) ∧ decode cX7_barredBy 165 = .ok (.iload 8, 2) ∧ decode cX7_barredBy 167 = .ok (.iconst 1, 1) ∧ decode cX7_barredBy 168 = .ok (.iload 9, 2) ∧ decode cX7_barredBy 170 = .ok (.ishl, 1) ∧ decode cX7_barredBy 171 = .ok (.ior, 1) ∧ decode cX7_barredBy 172 = .ok (.istore 8, 2) := op_198p lk_dX7_barredBy_143 rfl fun e => op_42 e fun e => op_180 e fun e => op_25 e fun e => op_25 e fun e => op_25 e fun e => op_25 e fun e => op_182 e fun e => op_2 e fun e => op_159p e rfl fun e => op_21 e fun e => op_4 e fun e => op_21 e fun e => op_120 e fun e => op_128 e fun e => (op_54 e fun _ => True.intro).1
theorem dX7_barredBy_143 : decode cX7_barredBy 143 = .ok (.ifnull 31, 3) := bl_dX7_barredBy_143.1
theorem dX7_barredBy_146 : decode cX7_barredBy 146 = .ok (.aload_n 0, 1) := bl_dX7_barredBy_143.2.1
theorem dX7_barredBy_147 : decode cX7_barredBy 147 = .ok (.getfield 37, 3) := bl_dX7_barredBy_143.2.2.1
theorem dX7_barredBy_150 : decode cX7_barredBy 150 = .ok (.aload 5, 2) := bl_dX7_barredBy_143.2.2.2.1
theorem dX7_barredBy_152 : decode cX7_barredBy 152 = .ok (.aload 7, 2) := bl_dX7_barredBy_143.2.2.2.2.1
theorem dX7_barredBy_154 : decode cX7_barredBy 154 = .ok (.aload 6, 2) := bl_dX7_barredBy_143.2.2.2.2.2.1
theorem dX7_barredBy_156 : decode cX7_barredBy 156 = .ok (.aload 11, 2) := bl_dX7_barredBy_143.2.2.2.2.2.2.1
theorem dX7_barredBy_158 : decode cX7_barredBy 158 = .ok (.invokevirtual 104, 3) := bl_dX7_barredBy_143.2.2.2.2.2.2.2.1
theorem dX7_barredBy_161 : decode cX7_barredBy 161 = .ok (.iconst (-1), 1) := bl_dX7_barredBy_143.2.2.2.2.2.2.2.2.1
theorem dX7_barredBy_162 : decode cX7_barredBy 162 = .ok (.if_icmp .eq 12, 3) := bl_dX7_barredBy_143.2.2.2.2.2.2.2.2.2.1
theorem dX7_barredBy_165 : decode cX7_barredBy 165 = .ok (.iload 8, 2) := bl_dX7_barredBy_143.2.2.2.2.2.2.2.2.2.2.1
theorem dX7_barredBy_167 : decode cX7_barredBy 167 = .ok (.iconst 1, 1) := bl_dX7_barredBy_143.2.2.2.2.2.2.2.2.2.2.2.1
theorem dX7_barredBy_168 : decode cX7_barredBy 168 = .ok (.iload 9, 2) := bl_dX7_barredBy_143.2.2.2.2.2.2.2.2.2.2.2.2.1
theorem dX7_barredBy_170 : decode cX7_barredBy 170 = .ok (.ishl, 1) := bl_dX7_barredBy_143.2.2.2.2.2.2.2.2.2.2.2.2.2.1
theorem dX7_barredBy_171 : decode cX7_barredBy 171 = .ok (.ior, 1) := bl_dX7_barredBy_143.2.2.2.2.2.2.2.2.2.2.2.2.2.2.1
theorem dX7_barredBy_172 : decode cX7_barredBy 172 = .ok (.istore 8, 2) := bl_dX7_barredBy_143.2.2.2.2.2.2.2.2.2.2.2.2.2.2.2
set_option maxRecDepth 20000 in
theorem lk_dX7_barredBy_174 : th_dr cX7_barredBy 174 = 132 :: 9 :: 1 :: 167 :: 255 :: 161 :: 42 :: 180 :: 0 :: 25 :: 21 :: 4 :: 21 :: 8 :: 79 :: 21 :: 8 :: 172 :: th_dr cX7_barredBy 192 := rfl
theorem bl_dX7_barredBy_174 : decode cX7_barredBy 174 = .ok (.iinc 9 1, 3) ∧ decode cX7_barredBy 177 = .ok (.goto (-95), 3) ∧ decode cX7_barredBy 180 = .ok (.aload_n 0, 1) ∧ decode cX7_barredBy 181 = .ok (.getfield 25, 3) ∧ decode cX7_barredBy 184 = .ok (.iload 4, 2) ∧ decode cX7_barredBy 186 = .ok (.iload 8, 2) ∧ decode cX7_barredBy 188 = .ok (.iastore, 1) ∧ decode cX7_barredBy 189 = .ok (.iload 8, 2) ∧ decode cX7_barredBy 191 = .ok (.ireturn, 1) := op_132p lk_dX7_barredBy_174 rfl fun e => op_167n e rfl rfl fun e => op_42 e fun e => op_180 e fun e => op_21 e fun e => op_21 e fun e => op_79 e fun e => op_21 e fun e => (op_172 e fun _ => True.intro).1
theorem dX7_barredBy_174 : decode cX7_barredBy 174 = .ok (.iinc 9 1, 3) := bl_dX7_barredBy_174.1
theorem dX7_barredBy_177 : decode cX7_barredBy 177 = .ok (.goto (-95), 3) := bl_dX7_barredBy_174.2.1
theorem dX7_barredBy_180 : decode cX7_barredBy 180 = .ok (.aload_n 0, 1) := bl_dX7_barredBy_174.2.2.1
theorem dX7_barredBy_181 : decode cX7_barredBy 181 = .ok (.getfield 25, 3) := bl_dX7_barredBy_174.2.2.2.1
theorem dX7_barredBy_184 : decode cX7_barredBy 184 = .ok (.iload 4, 2) := bl_dX7_barredBy_174.2.2.2.2.1
theorem dX7_barredBy_186 : decode cX7_barredBy 186 = .ok (.iload 8, 2) := bl_dX7_barredBy_174.2.2.2.2.2.1
theorem dX7_barredBy_188 : decode cX7_barredBy 188 = .ok (.iastore, 1) := bl_dX7_barredBy_174.2.2.2.2.2.2.1
theorem dX7_barredBy_189 : decode cX7_barredBy 189 = .ok (.iload 8, 2) := bl_dX7_barredBy_174.2.2.2.2.2.2.2.1
theorem dX7_barredBy_191 : decode cX7_barredBy 191 = .ok (.ireturn, 1) := bl_dX7_barredBy_174.2.2.2.2.2.2.2.2
set_option maxRecDepth 20000 in
theorem ggX8_init_X2_init : GoodIn wsX8_init wsX2_init := goodIn_q _ [(4, 29)] rfl gdwsX2_init
set_option maxRecDepth 20000 in
theorem gX8_init_X2_init : GoodIn wsX8_init (wsX2_init) := ggX8_init_X2_init
theorem lk_dX8_init_0 : th_dr cX8_init 0 = 42 :: 27 :: 28 :: 29 :: 183 :: 0 :: 3 :: 177 :: th_dr cX8_init 8 := rfl
theorem bl_dX8_init_0 : decode cX8_init 0 = .ok (.aload_n 0, 1) ∧ decode cX8_init 1 = .ok (.iload_n 1, 1) ∧ decode cX8_init 2 = .ok (.iload_n 2, 1) ∧ decode cX8_init 3 = .ok (.iload_n 3, 1) ∧ decode cX8_init 4 = .ok (.invokespecial 3, 3) ∧ decode cX8_init 7 = .ok (.return_, 1) := op_42 lk_dX8_init_0 fun e => op_27 e fun e => op_28 e fun e => op_29 e fun e => op_183 e fun e => (op_177 e fun _ => True.intro).1
theorem dX8_init_0 : decode cX8_init 0 = .ok (.aload_n 0, 1) := bl_dX8_init_0.1
theorem dX8_init_1 : decode cX8_init 1 = .ok (.iload_n 1, 1) := bl_dX8_init_0.2.1
theorem dX8_init_2 : decode cX8_init 2 = .ok (.iload_n 2, 1) := bl_dX8_init_0.2.2.1
theorem dX8_init_3 : decode cX8_init 3 = .ok (.iload_n 3, 1) := bl_dX8_init_0.2.2.2.1
theorem dX8_init_4 : decode cX8_init 4 = .ok (.invokespecial 3, 3) := bl_dX8_init_0.2.2.2.2.1
theorem dX8_init_7 : decode cX8_init 7 = .ok (.return_, 1) := bl_dX8_init_0.2.2.2.2.2
theorem lk_dX8_kindNumber_0 : th_dr cX8_kindNumber 0 = 3 :: 172 :: th_dr cX8_kindNumber 2 := rfl
theorem bl_dX8_kindNumber_0 : decode cX8_kindNumber 0 = .ok (.iconst 0, 1) ∧ decode cX8_kindNumber 1 = .ok (.ireturn, 1) := op_3 lk_dX8_kindNumber_0 fun e => (op_172 e fun _ => True.intro).1
theorem dX8_kindNumber_0 : decode cX8_kindNumber 0 = .ok (.iconst 0, 1) := bl_dX8_kindNumber_0.1
theorem dX8_kindNumber_1 : decode cX8_kindNumber 1 = .ok (.ireturn, 1) := bl_dX8_kindNumber_0.2
set_option maxRecDepth 20000 in
theorem ggX9_init_X2_init : GoodIn wsX9_init wsX2_init := goodIn_q _ [(4, 29)] rfl gdwsX2_init
set_option maxRecDepth 20000 in
theorem gX9_init_X2_init : GoodIn wsX9_init (wsX2_init) := ggX9_init_X2_init
theorem lk_dX9_init_0 : th_dr cX9_init 0 = 42 :: 27 :: 28 :: 29 :: 183 :: 0 :: 3 :: 177 :: th_dr cX9_init 8 := rfl
theorem bl_dX9_init_0 : decode cX9_init 0 = .ok (.aload_n 0, 1) ∧ decode cX9_init 1 = .ok (.iload_n 1, 1) ∧ decode cX9_init 2 = .ok (.iload_n 2, 1) ∧ decode cX9_init 3 = .ok (.iload_n 3, 1) ∧ decode cX9_init 4 = .ok (.invokespecial 3, 3) ∧ decode cX9_init 7 = .ok (.return_, 1) := op_42 lk_dX9_init_0 fun e => op_27 e fun e => op_28 e fun e => op_29 e fun e => op_183 e fun e => (op_177 e fun _ => True.intro).1
theorem dX9_init_0 : decode cX9_init 0 = .ok (.aload_n 0, 1) := bl_dX9_init_0.1
theorem dX9_init_1 : decode cX9_init 1 = .ok (.iload_n 1, 1) := bl_dX9_init_0.2.1
theorem dX9_init_2 : decode cX9_init 2 = .ok (.iload_n 2, 1) := bl_dX9_init_0.2.2.1
theorem dX9_init_3 : decode cX9_init 3 = .ok (.iload_n 3, 1) := bl_dX9_init_0.2.2.2.1
theorem dX9_init_4 : decode cX9_init 4 = .ok (.invokespecial 3, 3) := bl_dX9_init_0.2.2.2.2.1
theorem dX9_init_7 : decode cX9_init 7 = .ok (.return_, 1) := bl_dX9_init_0.2.2.2.2.2
theorem lk_dX9_kindNumber_0 : th_dr cX9_kindNumber 0 = 4 :: 172 :: th_dr cX9_kindNumber 2 := rfl
theorem bl_dX9_kindNumber_0 : decode cX9_kindNumber 0 = .ok (.iconst 1, 1) ∧ decode cX9_kindNumber 1 = .ok (.ireturn, 1) := op_4 lk_dX9_kindNumber_0 fun e => (op_172 e fun _ => True.intro).1
theorem dX9_kindNumber_0 : decode cX9_kindNumber 0 = .ok (.iconst 1, 1) := bl_dX9_kindNumber_0.1
theorem dX9_kindNumber_1 : decode cX9_kindNumber 1 = .ok (.ireturn, 1) := bl_dX9_kindNumber_0.2
theorem lk_dX9_reach_0 : th_dr cX9_reach 0 = 42 :: 180 :: 0 :: 9 :: 42 :: 180 :: 0 :: 9 :: 5 :: 108 :: 96 :: 172 :: th_dr cX9_reach 12 := rfl
theorem bl_dX9_reach_0 : decode cX9_reach 0 = .ok (.aload_n 0, 1) ∧ decode cX9_reach 1 = .ok (.getfield 9, 3) ∧ decode cX9_reach 4 = .ok (.aload_n 0, 1) ∧ decode cX9_reach 5 = .ok (.getfield 9, 3) ∧ decode cX9_reach 8 = .ok (.iconst 2, 1) ∧ decode cX9_reach 9 = .ok (.idiv, 1) ∧ decode cX9_reach 10 = .ok (.iadd, 1) ∧ decode cX9_reach 11 = .ok (.ireturn, 1) := op_42 lk_dX9_reach_0 fun e => op_180 e fun e => op_42 e fun e => op_180 e fun e => op_5 e fun e => op_108 e fun e => op_96 e fun e => (op_172 e fun _ => True.intro).1
theorem dX9_reach_0 : decode cX9_reach 0 = .ok (.aload_n 0, 1) := bl_dX9_reach_0.1
theorem dX9_reach_1 : decode cX9_reach 1 = .ok (.getfield 9, 3) := bl_dX9_reach_0.2.1
theorem dX9_reach_4 : decode cX9_reach 4 = .ok (.aload_n 0, 1) := bl_dX9_reach_0.2.2.1
theorem dX9_reach_5 : decode cX9_reach 5 = .ok (.getfield 9, 3) := bl_dX9_reach_0.2.2.2.1
theorem dX9_reach_8 : decode cX9_reach 8 = .ok (.iconst 2, 1) := bl_dX9_reach_0.2.2.2.2.1
theorem dX9_reach_9 : decode cX9_reach 9 = .ok (.idiv, 1) := bl_dX9_reach_0.2.2.2.2.2.1
theorem dX9_reach_10 : decode cX9_reach 10 = .ok (.iadd, 1) := bl_dX9_reach_0.2.2.2.2.2.2.1
theorem dX9_reach_11 : decode cX9_reach 11 = .ok (.ireturn, 1) := bl_dX9_reach_0.2.2.2.2.2.2.2
set_option maxRecDepth 20000 in
theorem ggX9_fee_X2_plainFee : GoodIn wsX9_fee wsX2_plainFee := goodIn_q _ [(6, 20)] rfl gdwsX2_plainFee
set_option maxRecDepth 20000 in
theorem gX9_fee_X2_plainFee_u15X9 : GoodIn wsX9_fee (va_wsU RX9 15 RX9 "BayMoorings$Boat" ⟨"BayMoorings$Twin", "plainFee", "(I)I"⟩ yX2_plainFee wsX2_plainFee) := goodIn_app (goodIn_q _ [(1, 5)] rfl rfl) ggX9_fee_X2_plainFee
theorem lk_dX9_fee_0 : th_dr cX9_fee 0 = 42 :: 27 :: 182 :: 0 :: 15 :: 61 :: 28 :: 28 :: 5 :: 108 :: 96 :: 172 :: th_dr cX9_fee 12 := rfl
theorem bl_dX9_fee_0 : decode cX9_fee 0 = .ok (.aload_n 0, 1) ∧ decode cX9_fee 1 = .ok (.iload_n 1, 1) ∧ decode cX9_fee 2 = .ok (.invokevirtual 15, 3) ∧ decode cX9_fee 5 = .ok (.istore_n 2, 1) ∧ decode cX9_fee 6 = .ok (.iload_n 2, 1) ∧ decode cX9_fee 7 = .ok (.iload_n 2, 1) ∧ decode cX9_fee 8 = .ok (.iconst 2, 1) ∧ decode cX9_fee 9 = .ok (.idiv, 1) ∧ decode cX9_fee 10 = .ok (.iadd, 1) ∧ decode cX9_fee 11 = .ok (.ireturn, 1) := op_42 lk_dX9_fee_0 fun e => op_27 e fun e => op_182 e fun e => op_61 e fun e => op_28 e fun e => op_28 e fun e => op_5 e fun e => op_108 e fun e => op_96 e fun e => (op_172 e fun _ => True.intro).1
theorem dX9_fee_0 : decode cX9_fee 0 = .ok (.aload_n 0, 1) := bl_dX9_fee_0.1
theorem dX9_fee_1 : decode cX9_fee 1 = .ok (.iload_n 1, 1) := bl_dX9_fee_0.2.1
theorem dX9_fee_2 : decode cX9_fee 2 = .ok (.invokevirtual 15, 3) := bl_dX9_fee_0.2.2.1
theorem dX9_fee_5 : decode cX9_fee 5 = .ok (.istore_n 2, 1) := bl_dX9_fee_0.2.2.2.1
theorem dX9_fee_6 : decode cX9_fee 6 = .ok (.iload_n 2, 1) := bl_dX9_fee_0.2.2.2.2.1
theorem dX9_fee_7 : decode cX9_fee 7 = .ok (.iload_n 2, 1) := bl_dX9_fee_0.2.2.2.2.2.1
theorem dX9_fee_8 : decode cX9_fee 8 = .ok (.iconst 2, 1) := bl_dX9_fee_0.2.2.2.2.2.2.1
theorem dX9_fee_9 : decode cX9_fee 9 = .ok (.idiv, 1) := bl_dX9_fee_0.2.2.2.2.2.2.2.1
theorem dX9_fee_10 : decode cX9_fee 10 = .ok (.iadd, 1) := bl_dX9_fee_0.2.2.2.2.2.2.2.2.1
theorem dX9_fee_11 : decode cX9_fee 11 = .ok (.ireturn, 1) := bl_dX9_fee_0.2.2.2.2.2.2.2.2.2
theorem lk_dX10_init_0 : th_dr cX10_init 0 = 42 :: 183 :: 0 :: 3 :: 42 :: 16 :: 10 :: 188 :: 10 :: 181 :: 0 :: 9 :: 42 :: 3 :: 181 :: 0 :: 15 :: 42 :: 43 :: 181 :: 0 :: 19 :: 177 :: th_dr cX10_init 23 := rfl
theorem bl_dX10_init_0 : decode cX10_init 0 = .ok (.aload_n 0, 1) ∧ decode cX10_init 1 = .ok (.invokespecial 3, 3) ∧ decode cX10_init 4 = .ok (.aload_n 0, 1) ∧ decode cX10_init 5 = .ok (.bipush 10, 2) ∧ decode cX10_init 7 = .ok (.newarray .int, 2) ∧ decode cX10_init 9 = .ok (.putfield 9, 3) ∧ decode cX10_init 12 = .ok (.aload_n 0, 1) ∧ decode cX10_init 13 = .ok (.iconst 0, 1) ∧ decode cX10_init 14 = .ok (.putfield 15, 3) ∧ decode cX10_init 17 = .ok (.aload_n 0, 1) ∧ decode cX10_init 18 = .ok (.aload_n 1, 1) ∧ decode cX10_init 19 = .ok (.putfield 19, 3) ∧ decode cX10_init 22 = .ok (.return_, 1) := op_42 lk_dX10_init_0 fun e => op_183 e fun e => op_42 e fun e => op_16p e rfl fun e => op_188_10 e fun e => op_181 e fun e => op_42 e fun e => op_3 e fun e => op_181 e fun e => op_42 e fun e => op_43 e fun e => op_181 e fun e => (op_177 e fun _ => True.intro).1
theorem dX10_init_0 : decode cX10_init 0 = .ok (.aload_n 0, 1) := bl_dX10_init_0.1
theorem dX10_init_1 : decode cX10_init 1 = .ok (.invokespecial 3, 3) := bl_dX10_init_0.2.1
theorem dX10_init_4 : decode cX10_init 4 = .ok (.aload_n 0, 1) := bl_dX10_init_0.2.2.1
theorem dX10_init_5 : decode cX10_init 5 = .ok (.bipush 10, 2) := bl_dX10_init_0.2.2.2.1
theorem dX10_init_7 : decode cX10_init 7 = .ok (.newarray .int, 2) := bl_dX10_init_0.2.2.2.2.1
theorem dX10_init_9 : decode cX10_init 9 = .ok (.putfield 9, 3) := bl_dX10_init_0.2.2.2.2.2.1
theorem dX10_init_12 : decode cX10_init 12 = .ok (.aload_n 0, 1) := bl_dX10_init_0.2.2.2.2.2.2.1
theorem dX10_init_13 : decode cX10_init 13 = .ok (.iconst 0, 1) := bl_dX10_init_0.2.2.2.2.2.2.2.1
theorem dX10_init_14 : decode cX10_init 14 = .ok (.putfield 15, 3) := bl_dX10_init_0.2.2.2.2.2.2.2.2.1
theorem dX10_init_17 : decode cX10_init 17 = .ok (.aload_n 0, 1) := bl_dX10_init_0.2.2.2.2.2.2.2.2.2.1
theorem dX10_init_18 : decode cX10_init 18 = .ok (.aload_n 1, 1) := bl_dX10_init_0.2.2.2.2.2.2.2.2.2.2.1
theorem dX10_init_19 : decode cX10_init 19 = .ok (.putfield 19, 3) := bl_dX10_init_0.2.2.2.2.2.2.2.2.2.2.2.1
theorem dX10_init_22 : decode cX10_init 22 = .ok (.return_, 1) := bl_dX10_init_0.2.2.2.2.2.2.2.2.2.2.2.2
theorem lk_dX10_placeOf_0 : th_dr cX10_placeOf 0 = 3 :: 61 :: 28 :: 42 :: 180 :: 0 :: 15 :: 162 :: 0 :: 21 :: 42 :: 180 :: 0 :: 9 :: 28 :: 46 :: 27 :: 160 :: 0 :: 5 :: 28 :: 172 :: 132 :: 2 :: 1 :: 167 :: 255 :: 233 :: th_dr cX10_placeOf 28 := rfl
theorem bl_dX10_placeOf_0 : decode cX10_placeOf 0 = .ok (.iconst 0, 1) ∧ decode cX10_placeOf 1 = .ok (.istore_n 2, 1) ∧ decode cX10_placeOf 2 = .ok (.iload_n 2, 1) ∧ decode cX10_placeOf 3 = .ok (.aload_n 0, 1) ∧ decode cX10_placeOf 4 = .ok (.getfield 15, 3) ∧ decode cX10_placeOf 7 = .ok (.if_icmp .ge 21, 3) ∧ decode cX10_placeOf 10 = .ok (.aload_n 0, 1) ∧ decode cX10_placeOf 11 = .ok (.getfield 9, 3) ∧ decode cX10_placeOf 14 = .ok (.iload_n 2, 1) ∧ decode cX10_placeOf 15 = .ok (.iaload, 1) ∧ decode cX10_placeOf 16 = .ok (.iload_n 1, 1) ∧ decode cX10_placeOf 17 = .ok (.if_icmp .ne 5, 3) ∧ decode cX10_placeOf 20 = .ok (.iload_n 2, 1) ∧ decode cX10_placeOf 21 = .ok (.ireturn, 1) ∧ decode cX10_placeOf 22 = .ok (.iinc 2 1, 3) ∧ decode cX10_placeOf 25 = .ok (.goto (-23), 3) := op_3 lk_dX10_placeOf_0 fun e => op_61 e fun e => op_28 e fun e => op_42 e fun e => op_180 e fun e => op_162p e rfl fun e => op_42 e fun e => op_180 e fun e => op_28 e fun e => op_46 e fun e => op_27 e fun e => op_160p e rfl fun e => op_28 e fun e => op_172 e fun e => op_132p e rfl fun e => (op_167n e rfl rfl fun _ => True.intro).1
theorem dX10_placeOf_0 : decode cX10_placeOf 0 = .ok (.iconst 0, 1) := bl_dX10_placeOf_0.1
theorem dX10_placeOf_1 : decode cX10_placeOf 1 = .ok (.istore_n 2, 1) := bl_dX10_placeOf_0.2.1
theorem dX10_placeOf_2 : decode cX10_placeOf 2 = .ok (.iload_n 2, 1) := bl_dX10_placeOf_0.2.2.1
theorem dX10_placeOf_3 : decode cX10_placeOf 3 = .ok (.aload_n 0, 1) := bl_dX10_placeOf_0.2.2.2.1
theorem dX10_placeOf_4 : decode cX10_placeOf 4 = .ok (.getfield 15, 3) := bl_dX10_placeOf_0.2.2.2.2.1
theorem dX10_placeOf_7 : decode cX10_placeOf 7 = .ok (.if_icmp .ge 21, 3) := bl_dX10_placeOf_0.2.2.2.2.2.1
theorem dX10_placeOf_10 : decode cX10_placeOf 10 = .ok (.aload_n 0, 1) := bl_dX10_placeOf_0.2.2.2.2.2.2.1
theorem dX10_placeOf_11 : decode cX10_placeOf 11 = .ok (.getfield 9, 3) := bl_dX10_placeOf_0.2.2.2.2.2.2.2.1
theorem dX10_placeOf_14 : decode cX10_placeOf 14 = .ok (.iload_n 2, 1) := bl_dX10_placeOf_0.2.2.2.2.2.2.2.2.1
theorem dX10_placeOf_15 : decode cX10_placeOf 15 = .ok (.iaload, 1) := bl_dX10_placeOf_0.2.2.2.2.2.2.2.2.2.1
theorem dX10_placeOf_16 : decode cX10_placeOf 16 = .ok (.iload_n 1, 1) := bl_dX10_placeOf_0.2.2.2.2.2.2.2.2.2.2.1
theorem dX10_placeOf_17 : decode cX10_placeOf 17 = .ok (.if_icmp .ne 5, 3) := bl_dX10_placeOf_0.2.2.2.2.2.2.2.2.2.2.2.1
theorem dX10_placeOf_20 : decode cX10_placeOf 20 = .ok (.iload_n 2, 1) := bl_dX10_placeOf_0.2.2.2.2.2.2.2.2.2.2.2.2.1
theorem dX10_placeOf_21 : decode cX10_placeOf 21 = .ok (.ireturn, 1) := bl_dX10_placeOf_0.2.2.2.2.2.2.2.2.2.2.2.2.2.1
theorem dX10_placeOf_22 : decode cX10_placeOf 22 = .ok (.iinc 2 1, 3) := bl_dX10_placeOf_0.2.2.2.2.2.2.2.2.2.2.2.2.2.2.1
theorem dX10_placeOf_25 : decode cX10_placeOf 25 = .ok (.goto (-23), 3) := bl_dX10_placeOf_0.2.2.2.2.2.2.2.2.2.2.2.2.2.2.2
theorem lk_dX10_placeOf_28 : th_dr cX10_placeOf 28 = 2 :: 172 :: th_dr cX10_placeOf 30 := rfl
theorem bl_dX10_placeOf_28 : decode cX10_placeOf 28 = .ok (.iconst (-1), 1) ∧ decode cX10_placeOf 29 = .ok (.ireturn, 1) := op_2 lk_dX10_placeOf_28 fun e => (op_172 e fun _ => True.intro).1
theorem dX10_placeOf_28 : decode cX10_placeOf 28 = .ok (.iconst (-1), 1) := bl_dX10_placeOf_28.1
theorem dX10_placeOf_29 : decode cX10_placeOf 29 = .ok (.ireturn, 1) := bl_dX10_placeOf_28.2
theorem lk_dX10_append_0 : th_dr cX10_append 0 = 42 :: 180 :: 0 :: 15 :: 16 :: 10 :: 162 :: 0 :: 23 :: 42 :: 180 :: 0 :: 9 :: 42 :: 180 :: 0 :: 15 :: 27 :: 79 :: 42 :: 89 :: 180 :: 0 :: 15 :: 4 :: 96 :: 181 :: 0 :: 15 :: th_dr cX10_append 29 := rfl
theorem bl_dX10_append_0 : decode cX10_append 0 = .ok (.aload_n 0, 1) ∧ decode cX10_append 1 = .ok (.getfield 15, 3) ∧ decode cX10_append 4 = .ok (.bipush 10, 2) ∧ decode cX10_append 6 = .ok (.if_icmp .ge 23, 3) ∧ decode cX10_append 9 = .ok (.aload_n 0, 1) ∧ decode cX10_append 10 = .ok (.getfield 9, 3) ∧ decode cX10_append 13 = .ok (.aload_n 0, 1) ∧ decode cX10_append 14 = .ok (.getfield 15, 3) ∧ decode cX10_append 17 = .ok (.iload_n 1, 1) ∧ decode cX10_append 18 = .ok (.iastore, 1) ∧ decode cX10_append 19 = .ok (.aload_n 0, 1) ∧ decode cX10_append 20 = .ok (.dup, 1) ∧ decode cX10_append 21 = .ok (.getfield 15, 3) ∧ decode cX10_append 24 = .ok (.iconst 1, 1) ∧ decode cX10_append 25 = .ok (.iadd, 1) ∧ decode cX10_append 26 = .ok (.putfield 15, 3) := op_42 lk_dX10_append_0 fun e => op_180 e fun e => op_16p e rfl fun e => op_162p e rfl fun e => op_42 e fun e => op_180 e fun e => op_42 e fun e => op_180 e fun e => op_27 e fun e => op_79 e fun e => op_42 e fun e => op_89 e fun e => op_180 e fun e => op_4 e fun e => op_96 e fun e => (op_181 e fun _ => True.intro).1
theorem dX10_append_0 : decode cX10_append 0 = .ok (.aload_n 0, 1) := bl_dX10_append_0.1
theorem dX10_append_1 : decode cX10_append 1 = .ok (.getfield 15, 3) := bl_dX10_append_0.2.1
theorem dX10_append_4 : decode cX10_append 4 = .ok (.bipush 10, 2) := bl_dX10_append_0.2.2.1
theorem dX10_append_6 : decode cX10_append 6 = .ok (.if_icmp .ge 23, 3) := bl_dX10_append_0.2.2.2.1
theorem dX10_append_9 : decode cX10_append 9 = .ok (.aload_n 0, 1) := bl_dX10_append_0.2.2.2.2.1
theorem dX10_append_10 : decode cX10_append 10 = .ok (.getfield 9, 3) := bl_dX10_append_0.2.2.2.2.2.1
theorem dX10_append_13 : decode cX10_append 13 = .ok (.aload_n 0, 1) := bl_dX10_append_0.2.2.2.2.2.2.1
theorem dX10_append_14 : decode cX10_append 14 = .ok (.getfield 15, 3) := bl_dX10_append_0.2.2.2.2.2.2.2.1
theorem dX10_append_17 : decode cX10_append 17 = .ok (.iload_n 1, 1) := bl_dX10_append_0.2.2.2.2.2.2.2.2.1
theorem dX10_append_18 : decode cX10_append 18 = .ok (.iastore, 1) := bl_dX10_append_0.2.2.2.2.2.2.2.2.2.1
theorem dX10_append_19 : decode cX10_append 19 = .ok (.aload_n 0, 1) := bl_dX10_append_0.2.2.2.2.2.2.2.2.2.2.1
theorem dX10_append_20 : decode cX10_append 20 = .ok (.dup, 1) := bl_dX10_append_0.2.2.2.2.2.2.2.2.2.2.2.1
theorem dX10_append_21 : decode cX10_append 21 = .ok (.getfield 15, 3) := bl_dX10_append_0.2.2.2.2.2.2.2.2.2.2.2.2.1
theorem dX10_append_24 : decode cX10_append 24 = .ok (.iconst 1, 1) := bl_dX10_append_0.2.2.2.2.2.2.2.2.2.2.2.2.2.1
theorem dX10_append_25 : decode cX10_append 25 = .ok (.iadd, 1) := bl_dX10_append_0.2.2.2.2.2.2.2.2.2.2.2.2.2.2.1
theorem dX10_append_26 : decode cX10_append 26 = .ok (.putfield 15, 3) := bl_dX10_append_0.2.2.2.2.2.2.2.2.2.2.2.2.2.2.2
theorem lk_dX10_append_29 : th_dr cX10_append 29 = 177 :: th_dr cX10_append 30 := rfl
theorem dX10_append_29 : decode cX10_append 29 = .ok (.return_, 1) := (op_177 lk_dX10_append_29 fun _ => True.intro).1
set_option maxRecDepth 20000 in
theorem ggX10_drop_X11_within : GoodIn wsX10_drop wsX11_within := goodIn_q _ [(5, 1)] rfl gdwsX11_within
set_option maxRecDepth 20000 in
theorem gX10_drop_X11_within_n23 : GoodIn wsX10_drop (wsX11_within) := ggX10_drop_X11_within
theorem lk_dX10_drop_0 : th_dr cX10_drop 0 = 27 :: 3 :: 42 :: 180 :: 0 :: 15 :: 4 :: 100 :: 184 :: 0 :: 23 :: 154 :: 0 :: 4 :: 177 :: 27 :: 4 :: 96 :: 61 :: 28 :: 42 :: 180 :: 0 :: 15 :: th_dr cX10_drop 24 := rfl
theorem bl_dX10_drop_0 : decode cX10_drop 0 = .ok (.iload_n 1, 1) ∧ decode cX10_drop 1 = .ok (.iconst 0, 1) ∧ decode cX10_drop 2 = .ok (.aload_n 0, 1) ∧ decode cX10_drop 3 = .ok (.getfield 15, 3) ∧ decode cX10_drop 6 = .ok (.iconst 1, 1) ∧ decode cX10_drop 7 = .ok (.isub, 1) ∧ decode cX10_drop 8 = .ok (.invokestatic 23, 3) ∧ decode cX10_drop 11 = .ok (.ifCond .ne 4, 3) ∧ decode cX10_drop 14 = .ok (.return_, 1) ∧ decode cX10_drop 15 = .ok (.iload_n 1, 1) ∧ decode cX10_drop 16 = .ok (.iconst 1, 1) ∧ decode cX10_drop 17 = .ok (.iadd, 1) ∧ decode cX10_drop 18 = .ok (.istore_n 2, 1) ∧ decode cX10_drop 19 = .ok (.iload_n 2, 1) ∧ decode cX10_drop 20 = .ok (.aload_n 0, 1) ∧ decode cX10_drop 21 = .ok (.getfield 15, 3) := op_27 lk_dX10_drop_0 fun e => op_3 e fun e => op_42 e fun e => op_180 e fun e => op_4 e fun e => op_100 e fun e => op_184 e fun e => op_154p e rfl fun e => op_177 e fun e => op_27 e fun e => op_4 e fun e => op_96 e fun e => op_61 e fun e => op_28 e fun e => op_42 e fun e => (op_180 e fun _ => True.intro).1
theorem dX10_drop_0 : decode cX10_drop 0 = .ok (.iload_n 1, 1) := bl_dX10_drop_0.1
theorem dX10_drop_1 : decode cX10_drop 1 = .ok (.iconst 0, 1) := bl_dX10_drop_0.2.1
theorem dX10_drop_2 : decode cX10_drop 2 = .ok (.aload_n 0, 1) := bl_dX10_drop_0.2.2.1
theorem dX10_drop_3 : decode cX10_drop 3 = .ok (.getfield 15, 3) := bl_dX10_drop_0.2.2.2.1
theorem dX10_drop_6 : decode cX10_drop 6 = .ok (.iconst 1, 1) := bl_dX10_drop_0.2.2.2.2.1
theorem dX10_drop_7 : decode cX10_drop 7 = .ok (.isub, 1) := bl_dX10_drop_0.2.2.2.2.2.1
theorem dX10_drop_8 : decode cX10_drop 8 = .ok (.invokestatic 23, 3) := bl_dX10_drop_0.2.2.2.2.2.2.1
theorem dX10_drop_11 : decode cX10_drop 11 = .ok (.ifCond .ne 4, 3) := bl_dX10_drop_0.2.2.2.2.2.2.2.1
theorem dX10_drop_14 : decode cX10_drop 14 = .ok (.return_, 1) := bl_dX10_drop_0.2.2.2.2.2.2.2.2.1
theorem dX10_drop_15 : decode cX10_drop 15 = .ok (.iload_n 1, 1) := bl_dX10_drop_0.2.2.2.2.2.2.2.2.2.1
theorem dX10_drop_16 : decode cX10_drop 16 = .ok (.iconst 1, 1) := bl_dX10_drop_0.2.2.2.2.2.2.2.2.2.2.1
theorem dX10_drop_17 : decode cX10_drop 17 = .ok (.iadd, 1) := bl_dX10_drop_0.2.2.2.2.2.2.2.2.2.2.2.1
theorem dX10_drop_18 : decode cX10_drop 18 = .ok (.istore_n 2, 1) := bl_dX10_drop_0.2.2.2.2.2.2.2.2.2.2.2.2.1
theorem dX10_drop_19 : decode cX10_drop 19 = .ok (.iload_n 2, 1) := bl_dX10_drop_0.2.2.2.2.2.2.2.2.2.2.2.2.2.1
theorem dX10_drop_20 : decode cX10_drop 20 = .ok (.aload_n 0, 1) := bl_dX10_drop_0.2.2.2.2.2.2.2.2.2.2.2.2.2.2.1
theorem dX10_drop_21 : decode cX10_drop 21 = .ok (.getfield 15, 3) := bl_dX10_drop_0.2.2.2.2.2.2.2.2.2.2.2.2.2.2.2
theorem lk_dX10_drop_24 : th_dr cX10_drop 24 = 162 :: 0 :: 23 :: 42 :: 180 :: 0 :: 9 :: 28 :: 4 :: 100 :: 42 :: 180 :: 0 :: 9 :: 28 :: 46 :: 79 :: 132 :: 2 :: 1 :: 167 :: 255 :: 231 :: 42 :: 89 :: 180 :: 0 :: 15 :: th_dr cX10_drop 52 := rfl
theorem bl_dX10_drop_24 : decode cX10_drop 24 = .ok (.if_icmp .ge 23, 3) ∧ decode cX10_drop 27 = .ok (.aload_n 0, 1) ∧ decode cX10_drop 28 = .ok (.getfield 9, 3) ∧ decode cX10_drop 31 = .ok (.iload_n 2, 1) ∧ decode cX10_drop 32 = .ok (.iconst 1, 1) ∧ decode cX10_drop 33 = .ok (.isub, 1) ∧ decode cX10_drop 34 = .ok (.aload_n 0, 1) ∧ decode cX10_drop 35 = .ok (.getfield 9, 3) ∧ decode cX10_drop 38 = .ok (.iload_n 2, 1) ∧ decode cX10_drop 39 = .ok (.iaload, 1) ∧ decode cX10_drop 40 = .ok (.iastore, 1) ∧ decode cX10_drop 41 = .ok (.iinc 2 1, 3) ∧ decode cX10_drop 44 = .ok (.goto (-25), 3) ∧ decode cX10_drop 47 = .ok (.aload_n 0, 1) ∧ decode cX10_drop 48 = .ok (.dup, 1) ∧ decode cX10_drop 49 = .ok (.getfield 15, 3) := op_162p lk_dX10_drop_24 rfl fun e => op_42 e fun e => op_180 e fun e => op_28 e fun e => op_4 e fun e => op_100 e fun e => op_42 e fun e => op_180 e fun e => op_28 e fun e => op_46 e fun e => op_79 e fun e => op_132p e rfl fun e => op_167n e rfl rfl fun e => op_42 e fun e => op_89 e fun e => (op_180 e fun _ => True.intro).1
theorem dX10_drop_24 : decode cX10_drop 24 = .ok (.if_icmp .ge 23, 3) := bl_dX10_drop_24.1
theorem dX10_drop_27 : decode cX10_drop 27 = .ok (.aload_n 0, 1) := bl_dX10_drop_24.2.1
theorem dX10_drop_28 : decode cX10_drop 28 = .ok (.getfield 9, 3) := bl_dX10_drop_24.2.2.1
theorem dX10_drop_31 : decode cX10_drop 31 = .ok (.iload_n 2, 1) := bl_dX10_drop_24.2.2.2.1
theorem dX10_drop_32 : decode cX10_drop 32 = .ok (.iconst 1, 1) := bl_dX10_drop_24.2.2.2.2.1
theorem dX10_drop_33 : decode cX10_drop 33 = .ok (.isub, 1) := bl_dX10_drop_24.2.2.2.2.2.1
theorem dX10_drop_34 : decode cX10_drop 34 = .ok (.aload_n 0, 1) := bl_dX10_drop_24.2.2.2.2.2.2.1
theorem dX10_drop_35 : decode cX10_drop 35 = .ok (.getfield 9, 3) := bl_dX10_drop_24.2.2.2.2.2.2.2.1
theorem dX10_drop_38 : decode cX10_drop 38 = .ok (.iload_n 2, 1) := bl_dX10_drop_24.2.2.2.2.2.2.2.2.1
theorem dX10_drop_39 : decode cX10_drop 39 = .ok (.iaload, 1) := bl_dX10_drop_24.2.2.2.2.2.2.2.2.2.1
theorem dX10_drop_40 : decode cX10_drop 40 = .ok (.iastore, 1) := bl_dX10_drop_24.2.2.2.2.2.2.2.2.2.2.1
theorem dX10_drop_41 : decode cX10_drop 41 = .ok (.iinc 2 1, 3) := bl_dX10_drop_24.2.2.2.2.2.2.2.2.2.2.2.1
theorem dX10_drop_44 : decode cX10_drop 44 = .ok (.goto (-25), 3) := bl_dX10_drop_24.2.2.2.2.2.2.2.2.2.2.2.2.1
theorem dX10_drop_47 : decode cX10_drop 47 = .ok (.aload_n 0, 1) := bl_dX10_drop_24.2.2.2.2.2.2.2.2.2.2.2.2.2.1
theorem dX10_drop_48 : decode cX10_drop 48 = .ok (.dup, 1) := bl_dX10_drop_24.2.2.2.2.2.2.2.2.2.2.2.2.2.2.1
theorem dX10_drop_49 : decode cX10_drop 49 = .ok (.getfield 15, 3) := bl_dX10_drop_24.2.2.2.2.2.2.2.2.2.2.2.2.2.2.2
theorem lk_dX10_drop_52 : th_dr cX10_drop 52 = 4 :: 100 :: 181 :: 0 :: 15 :: 177 :: th_dr cX10_drop 58 := rfl
theorem bl_dX10_drop_52 : decode cX10_drop 52 = .ok (.iconst 1, 1) ∧ decode cX10_drop 53 = .ok (.isub, 1) ∧ decode cX10_drop 54 = .ok (.putfield 15, 3) ∧ decode cX10_drop 57 = .ok (.return_, 1) := op_4 lk_dX10_drop_52 fun e => op_100 e fun e => op_181 e fun e => (op_177 e fun _ => True.intro).1
theorem dX10_drop_52 : decode cX10_drop 52 = .ok (.iconst 1, 1) := bl_dX10_drop_52.1
theorem dX10_drop_53 : decode cX10_drop 53 = .ok (.isub, 1) := bl_dX10_drop_52.2.1
theorem dX10_drop_54 : decode cX10_drop 54 = .ok (.putfield 15, 3) := bl_dX10_drop_52.2.2.1
theorem dX10_drop_57 : decode cX10_drop 57 = .ok (.return_, 1) := bl_dX10_drop_52.2.2.2
set_option maxRecDepth 20000 in
theorem ggX10_firstFor_X0_boatAt : GoodIn wsX10_firstFor wsX0_boatAt := goodIn_q _ [(10, 6), (131, 9)] rfl gdwsX0_boatAt
set_option maxRecDepth 20000 in
theorem gX10_firstFor_X0_boatAt : GoodIn wsX10_firstFor (wsV RX10 27 RX0 yX0_boatAt wsX0_boatAt) := goodIn_app (goodIn_q _ [(6, 4)] rfl rfl) ggX10_firstFor_X0_boatAt
set_option maxRecDepth 20000 in
theorem gdwsX2_hasRefused : wsX2_hasRefused.all goodWord = true := by decide +kernel
set_option maxRecDepth 20000 in
theorem ggX10_firstFor_X2_hasRefused : GoodIn wsX10_firstFor wsX2_hasRefused := goodIn_q _ [(21, 2), (140, 18)] rfl gdwsX2_hasRefused
set_option maxRecDepth 20000 in
theorem gX10_firstFor_X2_hasRefused_u38X4 : GoodIn wsX10_firstFor (va_wsU RX10 38 RX4 "BayMoorings$Boat" ⟨"BayMoorings$Boat", "hasRefused", "(I)Z"⟩ yX2_hasRefused wsX2_hasRefused) := goodIn_app (goodIn_q _ [(16, 5)] rfl rfl) ggX10_firstFor_X2_hasRefused
set_option maxRecDepth 20000 in
theorem gX10_firstFor_X2_hasRefused_u38X8 : GoodIn wsX10_firstFor (va_wsU RX10 38 RX8 "BayMoorings$Boat" ⟨"BayMoorings$Boat", "hasRefused", "(I)Z"⟩ yX2_hasRefused wsX2_hasRefused) := goodIn_app (goodIn_q _ [(16, 2), (23, 1), (19, 2)] rfl rfl) ggX10_firstFor_X2_hasRefused
set_option maxRecDepth 20000 in
theorem gX10_firstFor_X2_hasRefused_u38X9 : GoodIn wsX10_firstFor (va_wsU RX10 38 RX9 "BayMoorings$Boat" ⟨"BayMoorings$Boat", "hasRefused", "(I)Z"⟩ yX2_hasRefused wsX2_hasRefused) := goodIn_app (goodIn_q _ [(16, 2), (24, 1), (19, 2)] rfl rfl) ggX10_firstFor_X2_hasRefused
set_option maxRecDepth 20000 in
theorem ggX10_firstFor_X0_mayLie : GoodIn wsX10_firstFor wsX0_mayLie := goodIn_q _ [(28, 2), (11, 1), (30, 7), (13, 3), (37, 3), (9, 1), (40, 17), (20, 1), (57, 3), (7, 2), (10, 1), (12, 1), (60, 60), (123, 37)] rfl gdwsX0_mayLie
set_option maxRecDepth 20000 in
theorem gX10_firstFor_X0_mayLie : GoodIn wsX10_firstFor (wsV RX10 48 RX0 yX0_mayLie wsX0_mayLie) := goodIn_app (goodIn_q _ [(25, 3), (9, 1)] rfl rfl) ggX10_firstFor_X0_mayLie
theorem lk_dX10_firstFor_0 : th_dr cX10_firstFor 0 = 3 :: 61 :: 28 :: 42 :: 180 :: 0 :: 15 :: 162 :: 0 :: 64 :: 42 :: 180 :: 0 :: 19 :: 42 :: 180 :: 0 :: 9 :: 28 :: 46 :: 182 :: 0 :: 27 :: 78 :: 45 :: 198 :: 0 :: 40 :: th_dr cX10_firstFor 28 := rfl
theorem bl_dX10_firstFor_0 : decode cX10_firstFor 0 = .ok (.iconst 0, 1) ∧ decode cX10_firstFor 1 = .ok (.istore_n 2, 1) ∧ decode cX10_firstFor 2 = .ok (.iload_n 2, 1) ∧ decode cX10_firstFor 3 = .ok (.aload_n 0, 1) ∧ decode cX10_firstFor 4 = .ok (.getfield 15, 3) ∧ decode cX10_firstFor 7 = .ok (.if_icmp .ge 64, 3) ∧ decode cX10_firstFor 10 = .ok (.aload_n 0, 1) ∧ decode cX10_firstFor 11 = .ok (.getfield 19, 3) ∧ decode cX10_firstFor 14 = .ok (.aload_n 0, 1) ∧ decode cX10_firstFor 15 = .ok (.getfield 9, 3) ∧ decode cX10_firstFor 18 = .ok (.iload_n 2, 1) ∧ decode cX10_firstFor 19 = .ok (.iaload, 1) ∧ decode cX10_firstFor 20 = .ok (.invokevirtual 27, 3) ∧ decode cX10_firstFor 23 = .ok (.astore_n 3, 1) ∧ decode cX10_firstFor 24 = .ok (.aload_n 3, 1) ∧ decode cX10_firstFor 25 = .ok (.ifnull 40, 3) := op_3 lk_dX10_firstFor_0 fun e => op_61 e fun e => op_28 e fun e => op_42 e fun e => op_180 e fun e => op_162p e rfl fun e => op_42 e fun e => op_180 e fun e => op_42 e fun e => op_180 e fun e => op_28 e fun e => op_46 e fun e => op_182 e fun e => op_78 e fun e => op_45 e fun e => (op_198p e rfl fun _ => True.intro).1
theorem dX10_firstFor_0 : decode cX10_firstFor 0 = .ok (.iconst 0, 1) := bl_dX10_firstFor_0.1
theorem dX10_firstFor_1 : decode cX10_firstFor 1 = .ok (.istore_n 2, 1) := bl_dX10_firstFor_0.2.1
theorem dX10_firstFor_2 : decode cX10_firstFor 2 = .ok (.iload_n 2, 1) := bl_dX10_firstFor_0.2.2.1
theorem dX10_firstFor_3 : decode cX10_firstFor 3 = .ok (.aload_n 0, 1) := bl_dX10_firstFor_0.2.2.2.1
theorem dX10_firstFor_4 : decode cX10_firstFor 4 = .ok (.getfield 15, 3) := bl_dX10_firstFor_0.2.2.2.2.1
theorem dX10_firstFor_7 : decode cX10_firstFor 7 = .ok (.if_icmp .ge 64, 3) := bl_dX10_firstFor_0.2.2.2.2.2.1
theorem dX10_firstFor_10 : decode cX10_firstFor 10 = .ok (.aload_n 0, 1) := bl_dX10_firstFor_0.2.2.2.2.2.2.1
theorem dX10_firstFor_11 : decode cX10_firstFor 11 = .ok (.getfield 19, 3) := bl_dX10_firstFor_0.2.2.2.2.2.2.2.1
theorem dX10_firstFor_14 : decode cX10_firstFor 14 = .ok (.aload_n 0, 1) := bl_dX10_firstFor_0.2.2.2.2.2.2.2.2.1
theorem dX10_firstFor_15 : decode cX10_firstFor 15 = .ok (.getfield 9, 3) := bl_dX10_firstFor_0.2.2.2.2.2.2.2.2.2.1
theorem dX10_firstFor_18 : decode cX10_firstFor 18 = .ok (.iload_n 2, 1) := bl_dX10_firstFor_0.2.2.2.2.2.2.2.2.2.2.1
theorem dX10_firstFor_19 : decode cX10_firstFor 19 = .ok (.iaload, 1) := bl_dX10_firstFor_0.2.2.2.2.2.2.2.2.2.2.2.1
theorem dX10_firstFor_20 : decode cX10_firstFor 20 = .ok (.invokevirtual 27, 3) := bl_dX10_firstFor_0.2.2.2.2.2.2.2.2.2.2.2.2.1
theorem dX10_firstFor_23 : decode cX10_firstFor 23 = .ok (.astore_n 3, 1) := bl_dX10_firstFor_0.2.2.2.2.2.2.2.2.2.2.2.2.2.1
theorem dX10_firstFor_24 : decode cX10_firstFor 24 = .ok (.aload_n 3, 1) := bl_dX10_firstFor_0.2.2.2.2.2.2.2.2.2.2.2.2.2.2.1
theorem dX10_firstFor_25 : decode cX10_firstFor 25 = .ok (.ifnull 40, 3) := bl_dX10_firstFor_0.2.2.2.2.2.2.2.2.2.2.2.2.2.2.2
set_option maxRecDepth 20000 in
theorem lk_dX10_firstFor_28 : th_dr cX10_firstFor 28 = 45 :: 43 :: 180 :: 0 :: 33 :: 182 :: 0 :: 38 :: 154 :: 0 :: 29 :: 42 :: 180 :: 0 :: 19 :: 45 :: 43 :: 42 :: 180 :: 0 :: 19 :: 180 :: 0 :: 44 :: 182 :: 0 :: 48 :: 153 :: 0 :: 10 :: 42 :: 180 :: 0 :: 9 :: th_dr cX10_firstFor 62 := rfl
theorem bl_dX10_firstFor_28 : decode cX10_firstFor 28 = .ok (.aload_n 3, 1) ∧ decode cX10_firstFor 29 = .ok (.aload_n 1, 1) ∧ decode cX10_firstFor 30 = .ok (.getfield 33, 3) ∧ decode cX10_firstFor 33 = .ok (.invokevirtual 38, 3) ∧ decode cX10_firstFor 36 = .ok (.ifCond .ne 29, 3) ∧ decode cX10_firstFor 39 = .ok (.aload_n 0, 1) ∧ decode cX10_firstFor 40 = .ok (.getfield 19, 3) ∧ decode cX10_firstFor 43 = .ok (.aload_n 3, 1) ∧ decode cX10_firstFor 44 = .ok (.aload_n 1, 1) ∧ decode cX10_firstFor 45 = .ok (.aload_n 0, 1) ∧ decode cX10_firstFor 46 = .ok (.getfield 19, 3) ∧ decode cX10_firstFor 49 = .ok (.getfield 44, 3) ∧ decode cX10_firstFor 52 = .ok (.invokevirtual 48, 3) ∧ decode cX10_firstFor 55 = .ok (.ifCond .eq 10, 3) ∧ decode cX10_firstFor 58 = .ok (.aload_n 0, 1) ∧ decode cX10_firstFor 59 = .ok (.getfield 9, 3) := op_45 lk_dX10_firstFor_28 fun e => op_43 e fun e => op_180 e fun e => op_182 e fun e => op_154p e rfl fun e => op_42 e fun e => op_180 e fun e => op_45 e fun e => op_43 e fun e => op_42 e fun e => op_180 e fun e => op_180 e fun e => op_182 e fun e => op_153p e rfl fun e => op_42 e fun e => (op_180 e fun _ => True.intro).1
theorem dX10_firstFor_28 : decode cX10_firstFor 28 = .ok (.aload_n 3, 1) := bl_dX10_firstFor_28.1
theorem dX10_firstFor_29 : decode cX10_firstFor 29 = .ok (.aload_n 1, 1) := bl_dX10_firstFor_28.2.1
theorem dX10_firstFor_30 : decode cX10_firstFor 30 = .ok (.getfield 33, 3) := bl_dX10_firstFor_28.2.2.1
theorem dX10_firstFor_33 : decode cX10_firstFor 33 = .ok (.invokevirtual 38, 3) := bl_dX10_firstFor_28.2.2.2.1
theorem dX10_firstFor_36 : decode cX10_firstFor 36 = .ok (.ifCond .ne 29, 3) := bl_dX10_firstFor_28.2.2.2.2.1
theorem dX10_firstFor_39 : decode cX10_firstFor 39 = .ok (.aload_n 0, 1) := bl_dX10_firstFor_28.2.2.2.2.2.1
theorem dX10_firstFor_40 : decode cX10_firstFor 40 = .ok (.getfield 19, 3) := bl_dX10_firstFor_28.2.2.2.2.2.2.1
theorem dX10_firstFor_43 : decode cX10_firstFor 43 = .ok (.aload_n 3, 1) := bl_dX10_firstFor_28.2.2.2.2.2.2.2.1
theorem dX10_firstFor_44 : decode cX10_firstFor 44 = .ok (.aload_n 1, 1) := bl_dX10_firstFor_28.2.2.2.2.2.2.2.2.1
theorem dX10_firstFor_45 : decode cX10_firstFor 45 = .ok (.aload_n 0, 1) := bl_dX10_firstFor_28.2.2.2.2.2.2.2.2.2.1
theorem dX10_firstFor_46 : decode cX10_firstFor 46 = .ok (.getfield 19, 3) := bl_dX10_firstFor_28.2.2.2.2.2.2.2.2.2.2.1
theorem dX10_firstFor_49 : decode cX10_firstFor 49 = .ok (.getfield 44, 3) := bl_dX10_firstFor_28.2.2.2.2.2.2.2.2.2.2.2.1
theorem dX10_firstFor_52 : decode cX10_firstFor 52 = .ok (.invokevirtual 48, 3) := bl_dX10_firstFor_28.2.2.2.2.2.2.2.2.2.2.2.2.1
theorem dX10_firstFor_55 : decode cX10_firstFor 55 = .ok (.ifCond .eq 10, 3) := bl_dX10_firstFor_28.2.2.2.2.2.2.2.2.2.2.2.2.2.1
theorem dX10_firstFor_58 : decode cX10_firstFor 58 = .ok (.aload_n 0, 1) := bl_dX10_firstFor_28.2.2.2.2.2.2.2.2.2.2.2.2.2.2.1
theorem dX10_firstFor_59 : decode cX10_firstFor 59 = .ok (.getfield 9, 3) := bl_dX10_firstFor_28.2.2.2.2.2.2.2.2.2.2.2.2.2.2.2
set_option maxRecDepth 20000 in
theorem lk_dX10_firstFor_62 : th_dr cX10_firstFor 62 = 28 :: 46 :: 172 :: 132 :: 2 :: 1 :: 167 :: 255 :: 190 :: 2 :: 172 :: th_dr cX10_firstFor 73 := rfl
theorem bl_dX10_firstFor_62 : decode cX10_firstFor 62 = .ok (.iload_n 2, 1) ∧ decode cX10_firstFor 63 = .ok (.iaload, 1) ∧ decode cX10_firstFor 64 = .ok (.ireturn, 1) ∧ decode cX10_firstFor 65 = .ok (.iinc 2 1, 3) ∧ decode cX10_firstFor 68 = .ok (.goto (-66), 3) ∧ decode cX10_firstFor 71 = .ok (.iconst (-1), 1) ∧ decode cX10_firstFor 72 = .ok (.ireturn, 1) := op_28 lk_dX10_firstFor_62 fun e => op_46 e fun e => op_172 e fun e => op_132p e rfl fun e => op_167n e rfl rfl fun e => op_2 e fun e => (op_172 e fun _ => True.intro).1
theorem dX10_firstFor_62 : decode cX10_firstFor 62 = .ok (.iload_n 2, 1) := bl_dX10_firstFor_62.1
theorem dX10_firstFor_63 : decode cX10_firstFor 63 = .ok (.iaload, 1) := bl_dX10_firstFor_62.2.1
theorem dX10_firstFor_64 : decode cX10_firstFor 64 = .ok (.ireturn, 1) := bl_dX10_firstFor_62.2.2.1
theorem dX10_firstFor_65 : decode cX10_firstFor 65 = .ok (.iinc 2 1, 3) := bl_dX10_firstFor_62.2.2.2.1
theorem dX10_firstFor_68 : decode cX10_firstFor 68 = .ok (.goto (-66), 3) := bl_dX10_firstFor_62.2.2.2.2.1
theorem dX10_firstFor_71 : decode cX10_firstFor 71 = .ok (.iconst (-1), 1) := bl_dX10_firstFor_62.2.2.2.2.2.1
theorem dX10_firstFor_72 : decode cX10_firstFor 72 = .ok (.ireturn, 1) := bl_dX10_firstFor_62.2.2.2.2.2.2
set_option maxRecDepth 20000 in
theorem gdwsX0_init : wsX0_init.all goodWord = true := by decide +kernel
set_option maxRecDepth 20000 in
theorem ggX11_init_X0_init : GoodIn wsX11_init wsX0_init := goodIn_q _ [(32, 2), (2, 2), (34, 4), (24, 1), (38, 21), (96, 9), (133, 2)] rfl gdwsX0_init
set_option maxRecDepth 20000 in
theorem gX11_init_X0_init : GoodIn wsX11_init (wsX0_init) := ggX11_init_X0_init
set_option maxRecDepth 20000 in
theorem gdwsX10_init : wsX10_init.all goodWord = true := by decide +kernel
set_option maxRecDepth 20000 in
theorem ggX11_init_X10_init : GoodIn wsX11_init wsX10_init := goodIn_q _ [(61, 2), (2, 2), (24, 1), (63, 3), (115, 3)] rfl gdwsX10_init
set_option maxRecDepth 20000 in
theorem gX11_init_X10_init : GoodIn wsX11_init (wsX10_init) := ggX11_init_X10_init
set_option maxRecDepth 20000 in
theorem gdwsX7_init : wsX7_init.all goodWord = true := by decide +kernel
set_option maxRecDepth 20000 in
theorem ggX11_init_X7_init : GoodIn wsX11_init wsX7_init := goodIn_q _ [(68, 2), (2, 2), (70, 3), (24, 1), (73, 6), (118, 8)] rfl gdwsX7_init
set_option maxRecDepth 20000 in
theorem gX11_init_X7_init : GoodIn wsX11_init (wsX7_init) := ggX11_init_X7_init
set_option maxRecDepth 20000 in
theorem gdwsX6_init : wsX6_init.all goodWord = true := by decide +kernel
set_option maxRecDepth 20000 in
theorem ggX11_init_X6_init : GoodIn wsX11_init wsX6_init := goodIn_q _ [(81, 2), (2, 2), (24, 1), (83, 4), (126, 4)] rfl gdwsX6_init
set_option maxRecDepth 20000 in
theorem gX11_init_X6_init : GoodIn wsX11_init (wsX6_init) := ggX11_init_X6_init
set_option maxRecDepth 20000 in
theorem gdwsX5_init : wsX5_init.all goodWord = true := by decide +kernel
set_option maxRecDepth 20000 in
theorem ggX11_init_X5_init : GoodIn wsX11_init wsX5_init := goodIn_q _ [(89, 2), (2, 2), (91, 1), (42, 2), (92, 4), (50, 3), (24, 1), (53, 6), (133, 2), (130, 3)] rfl gdwsX5_init
set_option maxRecDepth 20000 in
theorem gX11_init_X5_init : GoodIn wsX11_init (wsX5_init) := ggX11_init_X5_init
theorem lk_dX11_init_0 : th_dr cX11_init 0 = 42 :: 183 :: 0 :: 1 :: 42 :: 187 :: 0 :: 7 :: 89 :: 183 :: 0 :: 9 :: 181 :: 0 :: 10 :: 42 :: 187 :: 0 :: 16 :: 89 :: 42 :: 180 :: 0 :: 10 :: 183 :: 0 :: 18 :: 181 :: 0 :: 21 :: 42 :: 187 :: 0 :: 25 :: th_dr cX11_init 34 := rfl
theorem bl_dX11_init_0 : decode cX11_init 0 = .ok (.aload_n 0, 1) ∧ decode cX11_init 1 = .ok (.invokespecial 1, 3) ∧ decode cX11_init 4 = .ok (.aload_n 0, 1) ∧ decode cX11_init 5 = .ok (.new 7, 3) ∧ decode cX11_init 8 = .ok (.dup, 1) ∧ decode cX11_init 9 = .ok (.invokespecial 9, 3) ∧ decode cX11_init 12 = .ok (.putfield 10, 3) ∧ decode cX11_init 15 = .ok (.aload_n 0, 1) ∧ decode cX11_init 16 = .ok (.new 16, 3) ∧ decode cX11_init 19 = .ok (.dup, 1) ∧ decode cX11_init 20 = .ok (.aload_n 0, 1) ∧ decode cX11_init 21 = .ok (.getfield 10, 3) ∧ decode cX11_init 24 = .ok (.invokespecial 18, 3) ∧ decode cX11_init 27 = .ok (.putfield 21, 3) ∧ decode cX11_init 30 = .ok (.aload_n 0, 1) ∧ decode cX11_init 31 = .ok (.new 25, 3) := op_42 lk_dX11_init_0 fun e => op_183 e fun e => op_42 e fun e => op_187 e fun e => op_89 e fun e => op_183 e fun e => op_181 e fun e => op_42 e fun e => op_187 e fun e => op_89 e fun e => op_42 e fun e => op_180 e fun e => op_183 e fun e => op_181 e fun e => op_42 e fun e => (op_187 e fun _ => True.intro).1
theorem dX11_init_0 : decode cX11_init 0 = .ok (.aload_n 0, 1) := bl_dX11_init_0.1
theorem dX11_init_1 : decode cX11_init 1 = .ok (.invokespecial 1, 3) := bl_dX11_init_0.2.1
theorem dX11_init_4 : decode cX11_init 4 = .ok (.aload_n 0, 1) := bl_dX11_init_0.2.2.1
theorem dX11_init_5 : decode cX11_init 5 = .ok (.new 7, 3) := bl_dX11_init_0.2.2.2.1
theorem dX11_init_8 : decode cX11_init 8 = .ok (.dup, 1) := bl_dX11_init_0.2.2.2.2.1
theorem dX11_init_9 : decode cX11_init 9 = .ok (.invokespecial 9, 3) := bl_dX11_init_0.2.2.2.2.2.1
theorem dX11_init_12 : decode cX11_init 12 = .ok (.putfield 10, 3) := bl_dX11_init_0.2.2.2.2.2.2.1
theorem dX11_init_15 : decode cX11_init 15 = .ok (.aload_n 0, 1) := bl_dX11_init_0.2.2.2.2.2.2.2.1
theorem dX11_init_16 : decode cX11_init 16 = .ok (.new 16, 3) := bl_dX11_init_0.2.2.2.2.2.2.2.2.1
theorem dX11_init_19 : decode cX11_init 19 = .ok (.dup, 1) := bl_dX11_init_0.2.2.2.2.2.2.2.2.2.1
theorem dX11_init_20 : decode cX11_init 20 = .ok (.aload_n 0, 1) := bl_dX11_init_0.2.2.2.2.2.2.2.2.2.2.1
theorem dX11_init_21 : decode cX11_init 21 = .ok (.getfield 10, 3) := bl_dX11_init_0.2.2.2.2.2.2.2.2.2.2.2.1
theorem dX11_init_24 : decode cX11_init 24 = .ok (.invokespecial 18, 3) := bl_dX11_init_0.2.2.2.2.2.2.2.2.2.2.2.2.1
theorem dX11_init_27 : decode cX11_init 27 = .ok (.putfield 21, 3) := bl_dX11_init_0.2.2.2.2.2.2.2.2.2.2.2.2.2.1
theorem dX11_init_30 : decode cX11_init 30 = .ok (.aload_n 0, 1) := bl_dX11_init_0.2.2.2.2.2.2.2.2.2.2.2.2.2.2.1
theorem dX11_init_31 : decode cX11_init 31 = .ok (.new 25, 3) := bl_dX11_init_0.2.2.2.2.2.2.2.2.2.2.2.2.2.2.2
set_option maxRecDepth 20000 in
theorem lk_dX11_init_34 : th_dr cX11_init 34 = 89 :: 42 :: 180 :: 0 :: 10 :: 183 :: 0 :: 27 :: 181 :: 0 :: 28 :: 42 :: 187 :: 0 :: 32 :: 89 :: 42 :: 180 :: 0 :: 10 :: 183 :: 0 :: 34 :: 181 :: 0 :: 35 :: 42 :: 187 :: 0 :: 39 :: 89 :: 42 :: th_dr cX11_init 66 := rfl
theorem bl_dX11_init_34 : decode cX11_init 34 = .ok (.dup, 1) ∧ decode cX11_init 35 = .ok (.aload_n 0, 1) ∧ decode cX11_init 36 = .ok (.getfield 10, 3) ∧ decode cX11_init 39 = .ok (.invokespecial 27, 3) ∧ decode cX11_init 42 = .ok (.putfield 28, 3) ∧ decode cX11_init 45 = .ok (.aload_n 0, 1) ∧ decode cX11_init 46 = .ok (.new 32, 3) ∧ decode cX11_init 49 = .ok (.dup, 1) ∧ decode cX11_init 50 = .ok (.aload_n 0, 1) ∧ decode cX11_init 51 = .ok (.getfield 10, 3) ∧ decode cX11_init 54 = .ok (.invokespecial 34, 3) ∧ decode cX11_init 57 = .ok (.putfield 35, 3) ∧ decode cX11_init 60 = .ok (.aload_n 0, 1) ∧ decode cX11_init 61 = .ok (.new 39, 3) ∧ decode cX11_init 64 = .ok (.dup, 1) ∧ decode cX11_init 65 = .ok (.aload_n 0, 1) := op_89 lk_dX11_init_34 fun e => op_42 e fun e => op_180 e fun e => op_183 e fun e => op_181 e fun e => op_42 e fun e => op_187 e fun e => op_89 e fun e => op_42 e fun e => op_180 e fun e => op_183 e fun e => op_181 e fun e => op_42 e fun e => op_187 e fun e => op_89 e fun e => (op_42 e fun _ => True.intro).1
theorem dX11_init_34 : decode cX11_init 34 = .ok (.dup, 1) := bl_dX11_init_34.1
theorem dX11_init_35 : decode cX11_init 35 = .ok (.aload_n 0, 1) := bl_dX11_init_34.2.1
theorem dX11_init_36 : decode cX11_init 36 = .ok (.getfield 10, 3) := bl_dX11_init_34.2.2.1
theorem dX11_init_39 : decode cX11_init 39 = .ok (.invokespecial 27, 3) := bl_dX11_init_34.2.2.2.1
theorem dX11_init_42 : decode cX11_init 42 = .ok (.putfield 28, 3) := bl_dX11_init_34.2.2.2.2.1
theorem dX11_init_45 : decode cX11_init 45 = .ok (.aload_n 0, 1) := bl_dX11_init_34.2.2.2.2.2.1
theorem dX11_init_46 : decode cX11_init 46 = .ok (.new 32, 3) := bl_dX11_init_34.2.2.2.2.2.2.1
theorem dX11_init_49 : decode cX11_init 49 = .ok (.dup, 1) := bl_dX11_init_34.2.2.2.2.2.2.2.1
theorem dX11_init_50 : decode cX11_init 50 = .ok (.aload_n 0, 1) := bl_dX11_init_34.2.2.2.2.2.2.2.2.1
theorem dX11_init_51 : decode cX11_init 51 = .ok (.getfield 10, 3) := bl_dX11_init_34.2.2.2.2.2.2.2.2.2.1
theorem dX11_init_54 : decode cX11_init 54 = .ok (.invokespecial 34, 3) := bl_dX11_init_34.2.2.2.2.2.2.2.2.2.2.1
theorem dX11_init_57 : decode cX11_init 57 = .ok (.putfield 35, 3) := bl_dX11_init_34.2.2.2.2.2.2.2.2.2.2.2.1
theorem dX11_init_60 : decode cX11_init 60 = .ok (.aload_n 0, 1) := bl_dX11_init_34.2.2.2.2.2.2.2.2.2.2.2.2.1
theorem dX11_init_61 : decode cX11_init 61 = .ok (.new 39, 3) := bl_dX11_init_34.2.2.2.2.2.2.2.2.2.2.2.2.2.1
theorem dX11_init_64 : decode cX11_init 64 = .ok (.dup, 1) := bl_dX11_init_34.2.2.2.2.2.2.2.2.2.2.2.2.2.2.1
theorem dX11_init_65 : decode cX11_init 65 = .ok (.aload_n 0, 1) := bl_dX11_init_34.2.2.2.2.2.2.2.2.2.2.2.2.2.2.2
set_option maxRecDepth 20000 in
theorem lk_dX11_init_66 : th_dr cX11_init 66 = 180 :: 0 :: 10 :: 183 :: 0 :: 41 :: 181 :: 0 :: 42 :: 42 :: 16 :: 6 :: 188 :: 10 :: 181 :: 0 :: 46 :: 42 :: 16 :: 24 :: 188 :: 10 :: 181 :: 0 :: 50 :: 42 :: 3 :: 181 :: 0 :: 53 :: 42 :: 6 :: th_dr cX11_init 98 := rfl
theorem bl_dX11_init_66 : decode cX11_init 66 = .ok (.getfield 10, 3) ∧ decode cX11_init 69 = .ok (.invokespecial 41, 3) ∧ decode cX11_init 72 = .ok (.putfield 42, 3) ∧ decode cX11_init 75 = .ok (.aload_n 0, 1) ∧ decode cX11_init 76 = .ok (.bipush 6, 2) ∧ decode cX11_init 78 = .ok (.newarray .int, 2) ∧ decode cX11_init 80 = .ok (.putfield 46, 3) ∧ decode cX11_init 83 = .ok (.aload_n 0, 1) ∧ decode cX11_init 84 = .ok (.bipush 24, 2) ∧ decode cX11_init 86 = .ok (.newarray .int, 2) ∧ decode cX11_init 88 = .ok (.putfield 50, 3) ∧ decode cX11_init 91 = .ok (.aload_n 0, 1) ∧ decode cX11_init 92 = .ok (.iconst 0, 1) ∧ decode cX11_init 93 = .ok (.putfield 53, 3) ∧ decode cX11_init 96 = .ok (.aload_n 0, 1) ∧ decode cX11_init 97 = .ok (.iconst 3, 1) := op_180 lk_dX11_init_66 fun e => op_183 e fun e => op_181 e fun e => op_42 e fun e => op_16p e rfl fun e => op_188_10 e fun e => op_181 e fun e => op_42 e fun e => op_16p e rfl fun e => op_188_10 e fun e => op_181 e fun e => op_42 e fun e => op_3 e fun e => op_181 e fun e => op_42 e fun e => (op_6 e fun _ => True.intro).1
theorem dX11_init_66 : decode cX11_init 66 = .ok (.getfield 10, 3) := bl_dX11_init_66.1
theorem dX11_init_69 : decode cX11_init 69 = .ok (.invokespecial 41, 3) := bl_dX11_init_66.2.1
theorem dX11_init_72 : decode cX11_init 72 = .ok (.putfield 42, 3) := bl_dX11_init_66.2.2.1
theorem dX11_init_75 : decode cX11_init 75 = .ok (.aload_n 0, 1) := bl_dX11_init_66.2.2.2.1
theorem dX11_init_76 : decode cX11_init 76 = .ok (.bipush 6, 2) := bl_dX11_init_66.2.2.2.2.1
theorem dX11_init_78 : decode cX11_init 78 = .ok (.newarray .int, 2) := bl_dX11_init_66.2.2.2.2.2.1
theorem dX11_init_80 : decode cX11_init 80 = .ok (.putfield 46, 3) := bl_dX11_init_66.2.2.2.2.2.2.1
theorem dX11_init_83 : decode cX11_init 83 = .ok (.aload_n 0, 1) := bl_dX11_init_66.2.2.2.2.2.2.2.1
theorem dX11_init_84 : decode cX11_init 84 = .ok (.bipush 24, 2) := bl_dX11_init_66.2.2.2.2.2.2.2.2.1
theorem dX11_init_86 : decode cX11_init 86 = .ok (.newarray .int, 2) := bl_dX11_init_66.2.2.2.2.2.2.2.2.2.1
theorem dX11_init_88 : decode cX11_init 88 = .ok (.putfield 50, 3) := bl_dX11_init_66.2.2.2.2.2.2.2.2.2.2.1
theorem dX11_init_91 : decode cX11_init 91 = .ok (.aload_n 0, 1) := bl_dX11_init_66.2.2.2.2.2.2.2.2.2.2.2.1
theorem dX11_init_92 : decode cX11_init 92 = .ok (.iconst 0, 1) := bl_dX11_init_66.2.2.2.2.2.2.2.2.2.2.2.2.1
theorem dX11_init_93 : decode cX11_init 93 = .ok (.putfield 53, 3) := bl_dX11_init_66.2.2.2.2.2.2.2.2.2.2.2.2.2.1
theorem dX11_init_96 : decode cX11_init 96 = .ok (.aload_n 0, 1) := bl_dX11_init_66.2.2.2.2.2.2.2.2.2.2.2.2.2.2.1
theorem dX11_init_97 : decode cX11_init 97 = .ok (.iconst 3, 1) := bl_dX11_init_66.2.2.2.2.2.2.2.2.2.2.2.2.2.2.2
set_option maxRecDepth 20000 in
theorem lk_dX11_init_98 : th_dr cX11_init 98 = 181 :: 0 :: 57 :: 42 :: 4 :: 181 :: 0 :: 60 :: 177 :: th_dr cX11_init 107 := rfl
theorem bl_dX11_init_98 : decode cX11_init 98 = .ok (.putfield 57, 3) ∧ decode cX11_init 101 = .ok (.aload_n 0, 1) ∧ decode cX11_init 102 = .ok (.iconst 1, 1) ∧ decode cX11_init 103 = .ok (.putfield 60, 3) ∧ decode cX11_init 106 = .ok (.return_, 1) := op_181 lk_dX11_init_98 fun e => op_42 e fun e => op_4 e fun e => op_181 e fun e => (op_177 e fun _ => True.intro).1
theorem dX11_init_98 : decode cX11_init 98 = .ok (.putfield 57, 3) := bl_dX11_init_98.1
theorem dX11_init_101 : decode cX11_init 101 = .ok (.aload_n 0, 1) := bl_dX11_init_98.2.1
theorem dX11_init_102 : decode cX11_init 102 = .ok (.iconst 1, 1) := bl_dX11_init_98.2.2.1
theorem dX11_init_103 : decode cX11_init 103 = .ok (.putfield 60, 3) := bl_dX11_init_98.2.2.2.1
theorem dX11_init_106 : decode cX11_init 106 = .ok (.return_, 1) := bl_dX11_init_98.2.2.2.2
set_option maxRecDepth 20000 in
theorem ggX11_buoy_X11_within : GoodIn wsX11_buoy wsX11_within := goodIn_q _ [(6, 1)] rfl gdwsX11_within
set_option maxRecDepth 20000 in
theorem gX11_buoy_X11_within : GoodIn wsX11_buoy (va_wsS RX11 64 yX11_within wsX11_within) := goodIn_app (goodIn_q _ [(3, 3)] rfl rfl) ggX11_buoy_X11_within
set_option maxRecDepth 20000 in
theorem gdwsX11_finding : wsX11_finding.all goodWord = true := by decide +kernel
set_option maxRecDepth 20000 in
theorem ggX11_buoy_X11_finding : GoodIn wsX11_buoy wsX11_finding := goodIn_q _ [(10, 3), (3, 4), (48, 10)] rfl gdwsX11_finding
set_option maxRecDepth 20000 in
theorem gX11_buoy_X11_finding : GoodIn wsX11_buoy (wsV RX11 68 RX11 yX11_finding wsX11_finding) := goodIn_app (goodIn_q _ [(7, 3), (5, 1)] rfl rfl) ggX11_buoy_X11_finding
set_option maxRecDepth 20000 in
theorem gdwsX0_addBuoy : wsX0_addBuoy.all goodWord = true := by decide +kernel
set_option maxRecDepth 20000 in
theorem ggX11_buoy_X0_addBuoy : GoodIn wsX11_buoy wsX0_addBuoy := goodIn_q _ [(17, 27), (5, 1), (44, 1), (3, 2), (6, 1), (45, 3), (58, 17)] rfl gdwsX0_addBuoy
set_option maxRecDepth 20000 in
theorem gX11_buoy_X0_addBuoy : GoodIn wsX11_buoy (wsV RX11 75 RX0 yX0_addBuoy wsX0_addBuoy) := goodIn_app (goodIn_q _ [(13, 4)] rfl rfl) ggX11_buoy_X0_addBuoy
theorem lk_dX11_buoy_0 : th_dr cX11_buoy 0 = 27 :: 3 :: 17 :: 3 :: 231 :: 184 :: 0 :: 64 :: 153 :: 0 :: 18 :: 28 :: 3 :: 17 :: 3 :: 231 :: 184 :: 0 :: 64 :: 153 :: 0 :: 7 :: 4 :: 167 :: 0 :: 4 :: 3 :: 54 :: 5 :: 21 :: 5 :: 153 :: 0 :: 27 :: th_dr cX11_buoy 34 := rfl
theorem bl_dX11_buoy_0 : decode cX11_buoy 0 = .ok (.iload_n 1, 1) ∧ decode cX11_buoy 1 = .ok (.iconst 0, 1) ∧ decode cX11_buoy 2 = .ok (.sipush 999, 3) ∧ decode cX11_buoy 5 = .ok (.invokestatic 64, 3) ∧ decode cX11_buoy 8 = .ok (.ifCond .eq 18, 3) ∧ decode cX11_buoy 11 = .ok (.iload_n 2, 1) ∧ decode cX11_buoy 12 = .ok (.iconst 0, 1) ∧ decode cX11_buoy 13 = .ok (.sipush 999, 3) ∧ decode cX11_buoy 16 = .ok (.invokestatic 64, 3) ∧ decode cX11_buoy 19 = .ok (.ifCond .eq 7, 3) ∧ decode cX11_buoy 22 = .ok (.iconst 1, 1) ∧ decode cX11_buoy 23 = .ok (.goto 4, 3) ∧ decode cX11_buoy 26 = .ok (.iconst 0, 1) ∧ decode cX11_buoy 27 = .ok (.istore 5, 2) ∧ decode cX11_buoy 29 = .ok (.iload 5, 2) ∧ decode cX11_buoy 31 = .ok (.ifCond .eq 27, 3) := op_27 lk_dX11_buoy_0 fun e => op_3 e fun e => op_17p e rfl fun e => op_184 e fun e => op_153p e rfl fun e => op_28 e fun e => op_3 e fun e => op_17p e rfl fun e => op_184 e fun e => op_153p e rfl fun e => op_4 e fun e => op_167p e rfl fun e => op_3 e fun e => op_54 e fun e => op_21 e fun e => (op_153p e rfl fun _ => True.intro).1
theorem dX11_buoy_0 : decode cX11_buoy 0 = .ok (.iload_n 1, 1) := bl_dX11_buoy_0.1
theorem dX11_buoy_1 : decode cX11_buoy 1 = .ok (.iconst 0, 1) := bl_dX11_buoy_0.2.1
theorem dX11_buoy_2 : decode cX11_buoy 2 = .ok (.sipush 999, 3) := bl_dX11_buoy_0.2.2.1
theorem dX11_buoy_5 : decode cX11_buoy 5 = .ok (.invokestatic 64, 3) := bl_dX11_buoy_0.2.2.2.1
theorem dX11_buoy_8 : decode cX11_buoy 8 = .ok (.ifCond .eq 18, 3) := bl_dX11_buoy_0.2.2.2.2.1
theorem dX11_buoy_11 : decode cX11_buoy 11 = .ok (.iload_n 2, 1) := bl_dX11_buoy_0.2.2.2.2.2.1
theorem dX11_buoy_12 : decode cX11_buoy 12 = .ok (.iconst 0, 1) := bl_dX11_buoy_0.2.2.2.2.2.2.1
theorem dX11_buoy_13 : decode cX11_buoy 13 = .ok (.sipush 999, 3) := bl_dX11_buoy_0.2.2.2.2.2.2.2.1
theorem dX11_buoy_16 : decode cX11_buoy 16 = .ok (.invokestatic 64, 3) := bl_dX11_buoy_0.2.2.2.2.2.2.2.2.1
theorem dX11_buoy_19 : decode cX11_buoy 19 = .ok (.ifCond .eq 7, 3) := bl_dX11_buoy_0.2.2.2.2.2.2.2.2.2.1
theorem dX11_buoy_22 : decode cX11_buoy 22 = .ok (.iconst 1, 1) := bl_dX11_buoy_0.2.2.2.2.2.2.2.2.2.2.1
theorem dX11_buoy_23 : decode cX11_buoy 23 = .ok (.goto 4, 3) := bl_dX11_buoy_0.2.2.2.2.2.2.2.2.2.2.2.1
theorem dX11_buoy_26 : decode cX11_buoy 26 = .ok (.iconst 0, 1) := bl_dX11_buoy_0.2.2.2.2.2.2.2.2.2.2.2.2.1
theorem dX11_buoy_27 : decode cX11_buoy 27 = .ok (.istore 5, 2) := bl_dX11_buoy_0.2.2.2.2.2.2.2.2.2.2.2.2.2.1
theorem dX11_buoy_29 : decode cX11_buoy 29 = .ok (.iload 5, 2) := bl_dX11_buoy_0.2.2.2.2.2.2.2.2.2.2.2.2.2.2.1
theorem dX11_buoy_31 : decode cX11_buoy 31 = .ok (.ifCond .eq 27, 3) := bl_dX11_buoy_0.2.2.2.2.2.2.2.2.2.2.2.2.2.2.2
set_option maxRecDepth 20000 in
theorem lk_dX11_buoy_34 : th_dr cX11_buoy 34 = 29 :: 3 :: 17 :: 1 :: 44 :: 184 :: 0 :: 64 :: 153 :: 0 :: 16 :: 21 :: 4 :: 16 :: 10 :: 17 :: 1 :: 144 :: 184 :: 0 :: 64 :: 154 :: 0 :: 9 :: 42 :: 4 :: 182 :: 0 :: 68 :: 172 :: 42 :: 180 :: 0 :: 10 :: th_dr cX11_buoy 68 := rfl
theorem bl_dX11_buoy_34 : decode cX11_buoy 34 = .ok (.iload_n 3, 1) ∧ decode cX11_buoy 35 = .ok (.iconst 0, 1) ∧ decode cX11_buoy 36 = .ok (.sipush 300, 3) ∧ decode cX11_buoy 39 = .ok (.invokestatic 64, 3) ∧ decode cX11_buoy 42 = .ok (.ifCond .eq 16, 3) ∧ decode cX11_buoy 45 = .ok (.iload 4, 2) ∧ decode cX11_buoy 47 = .ok (.bipush 10, 2) ∧ decode cX11_buoy 49 = .ok (.sipush 400, 3) ∧ decode cX11_buoy 52 = .ok (.invokestatic 64, 3) ∧ decode cX11_buoy 55 = .ok (.ifCond .ne 9, 3) ∧ decode cX11_buoy 58 = .ok (.aload_n 0, 1) ∧ decode cX11_buoy 59 = .ok (.iconst 1, 1) ∧ decode cX11_buoy 60 = .ok (.invokevirtual 68, 3) ∧ decode cX11_buoy 63 = .ok (.ireturn, 1) ∧ decode cX11_buoy 64 = .ok (.aload_n 0, 1) ∧ decode cX11_buoy 65 = .ok (.getfield 10, 3) := op_29 lk_dX11_buoy_34 fun e => op_3 e fun e => op_17p e rfl fun e => op_184 e fun e => op_153p e rfl fun e => op_21 e fun e => op_16p e rfl fun e => op_17p e rfl fun e => op_184 e fun e => op_154p e rfl fun e => op_42 e fun e => op_4 e fun e => op_182 e fun e => op_172 e fun e => op_42 e fun e => (op_180 e fun _ => True.intro).1
theorem dX11_buoy_34 : decode cX11_buoy 34 = .ok (.iload_n 3, 1) := bl_dX11_buoy_34.1
theorem dX11_buoy_35 : decode cX11_buoy 35 = .ok (.iconst 0, 1) := bl_dX11_buoy_34.2.1
theorem dX11_buoy_36 : decode cX11_buoy 36 = .ok (.sipush 300, 3) := bl_dX11_buoy_34.2.2.1
theorem dX11_buoy_39 : decode cX11_buoy 39 = .ok (.invokestatic 64, 3) := bl_dX11_buoy_34.2.2.2.1
theorem dX11_buoy_42 : decode cX11_buoy 42 = .ok (.ifCond .eq 16, 3) := bl_dX11_buoy_34.2.2.2.2.1
theorem dX11_buoy_45 : decode cX11_buoy 45 = .ok (.iload 4, 2) := bl_dX11_buoy_34.2.2.2.2.2.1
theorem dX11_buoy_47 : decode cX11_buoy 47 = .ok (.bipush 10, 2) := bl_dX11_buoy_34.2.2.2.2.2.2.1
theorem dX11_buoy_49 : decode cX11_buoy 49 = .ok (.sipush 400, 3) := bl_dX11_buoy_34.2.2.2.2.2.2.2.1
theorem dX11_buoy_52 : decode cX11_buoy 52 = .ok (.invokestatic 64, 3) := bl_dX11_buoy_34.2.2.2.2.2.2.2.2.1
theorem dX11_buoy_55 : decode cX11_buoy 55 = .ok (.ifCond .ne 9, 3) := bl_dX11_buoy_34.2.2.2.2.2.2.2.2.2.1
theorem dX11_buoy_58 : decode cX11_buoy 58 = .ok (.aload_n 0, 1) := bl_dX11_buoy_34.2.2.2.2.2.2.2.2.2.2.1
theorem dX11_buoy_59 : decode cX11_buoy 59 = .ok (.iconst 1, 1) := bl_dX11_buoy_34.2.2.2.2.2.2.2.2.2.2.2.1
theorem dX11_buoy_60 : decode cX11_buoy 60 = .ok (.invokevirtual 68, 3) := bl_dX11_buoy_34.2.2.2.2.2.2.2.2.2.2.2.2.1
theorem dX11_buoy_63 : decode cX11_buoy 63 = .ok (.ireturn, 1) := bl_dX11_buoy_34.2.2.2.2.2.2.2.2.2.2.2.2.2.1
theorem dX11_buoy_64 : decode cX11_buoy 64 = .ok (.aload_n 0, 1) := bl_dX11_buoy_34.2.2.2.2.2.2.2.2.2.2.2.2.2.2.1
theorem dX11_buoy_65 : decode cX11_buoy 65 = .ok (.getfield 10, 3) := bl_dX11_buoy_34.2.2.2.2.2.2.2.2.2.2.2.2.2.2.2
set_option maxRecDepth 20000 in
theorem lk_dX11_buoy_68 : th_dr cX11_buoy 68 = 180 :: 0 :: 72 :: 16 :: 12 :: 161 :: 0 :: 9 :: 42 :: 7 :: 182 :: 0 :: 68 :: 172 :: 42 :: 180 :: 0 :: 10 :: 27 :: 28 :: 29 :: 21 :: 4 :: 182 :: 0 :: 75 :: 172 :: th_dr cX11_buoy 95 := rfl
theorem bl_dX11_buoy_68 : decode cX11_buoy 68 = .ok (.getfield 72, 3) ∧ decode cX11_buoy 71 = .ok (.bipush 12, 2) ∧ decode cX11_buoy 73 = .ok (.if_icmp .lt 9, 3) ∧ decode cX11_buoy 76 = .ok (.aload_n 0, 1) ∧ decode cX11_buoy 77 = .ok (.iconst 4, 1) ∧ decode cX11_buoy 78 = .ok (.invokevirtual 68, 3) ∧ decode cX11_buoy 81 = .ok (.ireturn, 1) ∧ decode cX11_buoy 82 = .ok (.aload_n 0, 1) ∧ decode cX11_buoy 83 = .ok (.getfield 10, 3) ∧ decode cX11_buoy 86 = .ok (.iload_n 1, 1) ∧ decode cX11_buoy 87 = .ok (.iload_n 2, 1) ∧ decode cX11_buoy 88 = .ok (.iload_n 3, 1) ∧ decode cX11_buoy 89 = .ok (.iload 4, 2) ∧ decode cX11_buoy 91 = .ok (.invokevirtual 75, 3) ∧ decode cX11_buoy 94 = .ok (.ireturn, 1) := op_180 lk_dX11_buoy_68 fun e => op_16p e rfl fun e => op_161p e rfl fun e => op_42 e fun e => op_7 e fun e => op_182 e fun e => op_172 e fun e => op_42 e fun e => op_180 e fun e => op_27 e fun e => op_28 e fun e => op_29 e fun e => op_21 e fun e => op_182 e fun e => (op_172 e fun _ => True.intro).1
theorem dX11_buoy_68 : decode cX11_buoy 68 = .ok (.getfield 72, 3) := bl_dX11_buoy_68.1
theorem dX11_buoy_71 : decode cX11_buoy 71 = .ok (.bipush 12, 2) := bl_dX11_buoy_68.2.1
theorem dX11_buoy_73 : decode cX11_buoy 73 = .ok (.if_icmp .lt 9, 3) := bl_dX11_buoy_68.2.2.1
theorem dX11_buoy_76 : decode cX11_buoy 76 = .ok (.aload_n 0, 1) := bl_dX11_buoy_68.2.2.2.1
theorem dX11_buoy_77 : decode cX11_buoy 77 = .ok (.iconst 4, 1) := bl_dX11_buoy_68.2.2.2.2.1
theorem dX11_buoy_78 : decode cX11_buoy 78 = .ok (.invokevirtual 68, 3) := bl_dX11_buoy_68.2.2.2.2.2.1
theorem dX11_buoy_81 : decode cX11_buoy 81 = .ok (.ireturn, 1) := bl_dX11_buoy_68.2.2.2.2.2.2.1
theorem dX11_buoy_82 : decode cX11_buoy 82 = .ok (.aload_n 0, 1) := bl_dX11_buoy_68.2.2.2.2.2.2.2.1
theorem dX11_buoy_83 : decode cX11_buoy 83 = .ok (.getfield 10, 3) := bl_dX11_buoy_68.2.2.2.2.2.2.2.2.1
theorem dX11_buoy_86 : decode cX11_buoy 86 = .ok (.iload_n 1, 1) := bl_dX11_buoy_68.2.2.2.2.2.2.2.2.2.1
theorem dX11_buoy_87 : decode cX11_buoy 87 = .ok (.iload_n 2, 1) := bl_dX11_buoy_68.2.2.2.2.2.2.2.2.2.2.1
theorem dX11_buoy_88 : decode cX11_buoy 88 = .ok (.iload_n 3, 1) := bl_dX11_buoy_68.2.2.2.2.2.2.2.2.2.2.2.1
theorem dX11_buoy_89 : decode cX11_buoy 89 = .ok (.iload 4, 2) := bl_dX11_buoy_68.2.2.2.2.2.2.2.2.2.2.2.2.1
theorem dX11_buoy_91 : decode cX11_buoy 91 = .ok (.invokevirtual 75, 3) := bl_dX11_buoy_68.2.2.2.2.2.2.2.2.2.2.2.2.2.1
theorem dX11_buoy_94 : decode cX11_buoy 94 = .ok (.ireturn, 1) := bl_dX11_buoy_68.2.2.2.2.2.2.2.2.2.2.2.2.2.2
set_option maxRecDepth 20000 in
theorem gdwsX11_isKind : wsX11_isKind.all goodWord = true := by decide +kernel
set_option maxRecDepth 20000 in
theorem ggX11_boat_X11_isKind : GoodIn wsX11_boat wsX11_isKind := goodIn_q _ [(6, 3), (5, 1), (9, 1)] rfl gdwsX11_isKind
set_option maxRecDepth 20000 in
theorem gX11_boat_X11_isKind : GoodIn wsX11_boat (va_wsS RX11 79 yX11_isKind wsX11_isKind) := goodIn_app (goodIn_q _ [(3, 3)] rfl rfl) ggX11_boat_X11_isKind
set_option maxRecDepth 20000 in
theorem ggX11_boat_X11_within : GoodIn wsX11_boat wsX11_within := goodIn_q _ [(9, 1)] rfl gdwsX11_within
set_option maxRecDepth 20000 in
theorem gX11_boat_X11_within : GoodIn wsX11_boat (va_wsS RX11 64 yX11_within wsX11_within) := goodIn_app (goodIn_q _ [(7, 2), (5, 1)] rfl rfl) ggX11_boat_X11_within
set_option maxRecDepth 20000 in
theorem ggX11_boat_X11_finding : GoodIn wsX11_boat wsX11_finding := goodIn_q _ [(13, 3), (7, 2), (5, 1), (9, 1), (60, 10)] rfl gdwsX11_finding
set_option maxRecDepth 20000 in
theorem gX11_boat_X11_finding : GoodIn wsX11_boat (wsV RX11 68 RX11 yX11_finding wsX11_finding) := goodIn_app (goodIn_q _ [(10, 3), (5, 1)] rfl rfl) ggX11_boat_X11_finding
set_option maxRecDepth 20000 in
theorem gdwsX0_addBoat : wsX0_addBoat.all goodWord = true := by decide +kernel
set_option maxRecDepth 20000 in
theorem ggX11_boat_X0_addBoat : GoodIn wsX11_boat wsX0_addBoat := goodIn_q _ [(20, 5), (19, 1), (25, 35), (70, 27)] rfl gdwsX0_addBoat
set_option maxRecDepth 20000 in
theorem gX11_boat_X0_addBoat : GoodIn wsX11_boat (wsV RX11 86 RX0 yX0_addBoat wsX0_addBoat) := goodIn_app (goodIn_q _ [(16, 4)] rfl rfl) ggX11_boat_X0_addBoat
theorem lk_dX11_boat_0 : th_dr cX11_boat 0 = 27 :: 184 :: 0 :: 79 :: 153 :: 0 :: 25 :: 28 :: 16 :: 10 :: 17 :: 1 :: 44 :: 184 :: 0 :: 64 :: 153 :: 0 :: 13 :: 29 :: 3 :: 16 :: 100 :: 184 :: 0 :: 64 :: 154 :: 0 :: 9 :: 42 :: 4 :: 182 :: 0 :: 68 :: th_dr cX11_boat 34 := rfl
theorem bl_dX11_boat_0 : decode cX11_boat 0 = .ok (.iload_n 1, 1) ∧ decode cX11_boat 1 = .ok (.invokestatic 79, 3) ∧ decode cX11_boat 4 = .ok (.ifCond .eq 25, 3) ∧ decode cX11_boat 7 = .ok (.iload_n 2, 1) ∧ decode cX11_boat 8 = .ok (.bipush 10, 2) ∧ decode cX11_boat 10 = .ok (.sipush 300, 3) ∧ decode cX11_boat 13 = .ok (.invokestatic 64, 3) ∧ decode cX11_boat 16 = .ok (.ifCond .eq 13, 3) ∧ decode cX11_boat 19 = .ok (.iload_n 3, 1) ∧ decode cX11_boat 20 = .ok (.iconst 0, 1) ∧ decode cX11_boat 21 = .ok (.bipush 100, 2) ∧ decode cX11_boat 23 = .ok (.invokestatic 64, 3) ∧ decode cX11_boat 26 = .ok (.ifCond .ne 9, 3) ∧ decode cX11_boat 29 = .ok (.aload_n 0, 1) ∧ decode cX11_boat 30 = .ok (.iconst 1, 1) ∧ decode cX11_boat 31 = .ok (.invokevirtual 68, 3) := op_27 lk_dX11_boat_0 fun e => op_184 e fun e => op_153p e rfl fun e => op_28 e fun e => op_16p e rfl fun e => op_17p e rfl fun e => op_184 e fun e => op_153p e rfl fun e => op_29 e fun e => op_3 e fun e => op_16p e rfl fun e => op_184 e fun e => op_154p e rfl fun e => op_42 e fun e => op_4 e fun e => (op_182 e fun _ => True.intro).1
theorem dX11_boat_0 : decode cX11_boat 0 = .ok (.iload_n 1, 1) := bl_dX11_boat_0.1
theorem dX11_boat_1 : decode cX11_boat 1 = .ok (.invokestatic 79, 3) := bl_dX11_boat_0.2.1
theorem dX11_boat_4 : decode cX11_boat 4 = .ok (.ifCond .eq 25, 3) := bl_dX11_boat_0.2.2.1
theorem dX11_boat_7 : decode cX11_boat 7 = .ok (.iload_n 2, 1) := bl_dX11_boat_0.2.2.2.1
theorem dX11_boat_8 : decode cX11_boat 8 = .ok (.bipush 10, 2) := bl_dX11_boat_0.2.2.2.2.1
theorem dX11_boat_10 : decode cX11_boat 10 = .ok (.sipush 300, 3) := bl_dX11_boat_0.2.2.2.2.2.1
theorem dX11_boat_13 : decode cX11_boat 13 = .ok (.invokestatic 64, 3) := bl_dX11_boat_0.2.2.2.2.2.2.1
theorem dX11_boat_16 : decode cX11_boat 16 = .ok (.ifCond .eq 13, 3) := bl_dX11_boat_0.2.2.2.2.2.2.2.1
theorem dX11_boat_19 : decode cX11_boat 19 = .ok (.iload_n 3, 1) := bl_dX11_boat_0.2.2.2.2.2.2.2.2.1
theorem dX11_boat_20 : decode cX11_boat 20 = .ok (.iconst 0, 1) := bl_dX11_boat_0.2.2.2.2.2.2.2.2.2.1
theorem dX11_boat_21 : decode cX11_boat 21 = .ok (.bipush 100, 2) := bl_dX11_boat_0.2.2.2.2.2.2.2.2.2.2.1
theorem dX11_boat_23 : decode cX11_boat 23 = .ok (.invokestatic 64, 3) := bl_dX11_boat_0.2.2.2.2.2.2.2.2.2.2.2.1
theorem dX11_boat_26 : decode cX11_boat 26 = .ok (.ifCond .ne 9, 3) := bl_dX11_boat_0.2.2.2.2.2.2.2.2.2.2.2.2.1
theorem dX11_boat_29 : decode cX11_boat 29 = .ok (.aload_n 0, 1) := bl_dX11_boat_0.2.2.2.2.2.2.2.2.2.2.2.2.2.1
theorem dX11_boat_30 : decode cX11_boat 30 = .ok (.iconst 1, 1) := bl_dX11_boat_0.2.2.2.2.2.2.2.2.2.2.2.2.2.2.1
theorem dX11_boat_31 : decode cX11_boat 31 = .ok (.invokevirtual 68, 3) := bl_dX11_boat_0.2.2.2.2.2.2.2.2.2.2.2.2.2.2.2
set_option maxRecDepth 20000 in
theorem lk_dX11_boat_34 : th_dr cX11_boat 34 = 172 :: 42 :: 180 :: 0 :: 10 :: 180 :: 0 :: 83 :: 16 :: 16 :: 161 :: 0 :: 9 :: 42 :: 7 :: 182 :: 0 :: 68 :: 172 :: 42 :: 180 :: 0 :: 10 :: 27 :: 28 :: 29 :: 182 :: 0 :: 86 :: th_dr cX11_boat 63 := rfl
theorem bl_dX11_boat_34 : decode cX11_boat 34 = .ok (.ireturn, 1) ∧ decode cX11_boat 35 = .ok (.aload_n 0, 1) ∧ decode cX11_boat 36 = .ok (.getfield 10, 3) ∧ decode cX11_boat 39 = .ok (.getfield 83, 3) ∧ decode cX11_boat 42 = .ok (.bipush 16, 2) ∧ decode cX11_boat 44 = .ok (.if_icmp .lt 9, 3) ∧ decode cX11_boat 47 = .ok (.aload_n 0, 1) ∧ decode cX11_boat 48 = .ok (.iconst 4, 1) ∧ decode cX11_boat 49 = .ok (.invokevirtual 68, 3) ∧ decode cX11_boat 52 = .ok (.ireturn, 1) ∧ decode cX11_boat 53 = .ok (.aload_n 0, 1) ∧ decode cX11_boat 54 = .ok (.getfield 10, 3) ∧ decode cX11_boat 57 = .ok (.iload_n 1, 1) ∧ decode cX11_boat 58 = .ok (.iload_n 2, 1) ∧ decode cX11_boat 59 = .ok (.iload_n 3, 1) ∧ decode cX11_boat 60 = .ok (.invokevirtual 86, 3) := op_172 lk_dX11_boat_34 fun e => op_42 e fun e => op_180 e fun e => op_180 e fun e => op_16p e rfl fun e => op_161p e rfl fun e => op_42 e fun e => op_7 e fun e => op_182 e fun e => op_172 e fun e => op_42 e fun e => op_180 e fun e => op_27 e fun e => op_28 e fun e => op_29 e fun e => (op_182 e fun _ => True.intro).1
theorem dX11_boat_34 : decode cX11_boat 34 = .ok (.ireturn, 1) := bl_dX11_boat_34.1
theorem dX11_boat_35 : decode cX11_boat 35 = .ok (.aload_n 0, 1) := bl_dX11_boat_34.2.1
theorem dX11_boat_36 : decode cX11_boat 36 = .ok (.getfield 10, 3) := bl_dX11_boat_34.2.2.1
theorem dX11_boat_39 : decode cX11_boat 39 = .ok (.getfield 83, 3) := bl_dX11_boat_34.2.2.2.1
theorem dX11_boat_42 : decode cX11_boat 42 = .ok (.bipush 16, 2) := bl_dX11_boat_34.2.2.2.2.1
theorem dX11_boat_44 : decode cX11_boat 44 = .ok (.if_icmp .lt 9, 3) := bl_dX11_boat_34.2.2.2.2.2.1
theorem dX11_boat_47 : decode cX11_boat 47 = .ok (.aload_n 0, 1) := bl_dX11_boat_34.2.2.2.2.2.2.1
theorem dX11_boat_48 : decode cX11_boat 48 = .ok (.iconst 4, 1) := bl_dX11_boat_34.2.2.2.2.2.2.2.1
theorem dX11_boat_49 : decode cX11_boat 49 = .ok (.invokevirtual 68, 3) := bl_dX11_boat_34.2.2.2.2.2.2.2.2.1
theorem dX11_boat_52 : decode cX11_boat 52 = .ok (.ireturn, 1) := bl_dX11_boat_34.2.2.2.2.2.2.2.2.2.1
theorem dX11_boat_53 : decode cX11_boat 53 = .ok (.aload_n 0, 1) := bl_dX11_boat_34.2.2.2.2.2.2.2.2.2.2.1
theorem dX11_boat_54 : decode cX11_boat 54 = .ok (.getfield 10, 3) := bl_dX11_boat_34.2.2.2.2.2.2.2.2.2.2.2.1
theorem dX11_boat_57 : decode cX11_boat 57 = .ok (.iload_n 1, 1) := bl_dX11_boat_34.2.2.2.2.2.2.2.2.2.2.2.2.1
theorem dX11_boat_58 : decode cX11_boat 58 = .ok (.iload_n 2, 1) := bl_dX11_boat_34.2.2.2.2.2.2.2.2.2.2.2.2.2.1
theorem dX11_boat_59 : decode cX11_boat 59 = .ok (.iload_n 3, 1) := bl_dX11_boat_34.2.2.2.2.2.2.2.2.2.2.2.2.2.2.1
theorem dX11_boat_60 : decode cX11_boat 60 = .ok (.invokevirtual 86, 3) := bl_dX11_boat_34.2.2.2.2.2.2.2.2.2.2.2.2.2.2.2
set_option maxRecDepth 20000 in
theorem lk_dX11_boat_63 : th_dr cX11_boat 63 = 172 :: th_dr cX11_boat 64 := rfl
theorem dX11_boat_63 : decode cX11_boat 63 = .ok (.ireturn, 1) := (op_172 lk_dX11_boat_63 fun _ => True.intro).1
set_option maxRecDepth 20000 in
theorem ggX11_as_X0_boatAt : GoodIn wsX11_as wsX0_boatAt := goodIn_q _ [(7, 6), (76, 9)] rfl gdwsX0_boatAt
set_option maxRecDepth 20000 in
theorem gX11_as_X0_boatAt : GoodIn wsX11_as (wsV RX11 90 RX0 yX0_boatAt wsX0_boatAt) := goodIn_app (goodIn_q _ [(3, 4)] rfl rfl) ggX11_as_X0_boatAt
set_option maxRecDepth 20000 in
theorem ggX11_as_X11_isKind : GoodIn wsX11_as wsX11_isKind := goodIn_q _ [(15, 2), (10, 3)] rfl gdwsX11_isKind
set_option maxRecDepth 20000 in
theorem gX11_as_X11_isKind : GoodIn wsX11_as (va_wsS RX11 79 yX11_isKind wsX11_isKind) := goodIn_app (goodIn_q _ [(13, 2), (11, 1)] rfl rfl) ggX11_as_X11_isKind
set_option maxRecDepth 20000 in
theorem ggX11_as_X11_finding : GoodIn wsX11_as wsX11_finding := goodIn_q _ [(20, 3), (16, 1), (10, 3), (66, 10)] rfl gdwsX11_finding
set_option maxRecDepth 20000 in
theorem gX11_as_X11_finding : GoodIn wsX11_as (wsV RX11 68 RX11 yX11_finding wsX11_finding) := goodIn_app (goodIn_q _ [(17, 3), (11, 1)] rfl rfl) ggX11_as_X11_finding
set_option maxRecDepth 20000 in
theorem gdwsX2_isOf : wsX2_isOf.all goodWord = true := by decide +kernel
set_option maxRecDepth 20000 in
theorem ggX11_as_X2_isOf : GoodIn wsX11_as wsX2_isOf := goodIn_q _ [(28, 15)] rfl gdwsX2_isOf
set_option maxRecDepth 20000 in
theorem gX11_as_X2_isOf_u94X4 : GoodIn wsX11_as (va_wsU RX11 94 RX4 "BayMoorings$Boat" ⟨"BayMoorings$Boat", "isOf", "(I)Z"⟩ yX2_isOf wsX2_isOf) := goodIn_app (goodIn_q _ [(23, 5)] rfl rfl) ggX11_as_X2_isOf
set_option maxRecDepth 20000 in
theorem gX11_as_X2_isOf_u94X8 : GoodIn wsX11_as (va_wsU RX11 94 RX8 "BayMoorings$Boat" ⟨"BayMoorings$Boat", "isOf", "(I)Z"⟩ yX2_isOf wsX2_isOf) := goodIn_app (goodIn_q _ [(23, 2), (43, 1), (26, 2)] rfl rfl) ggX11_as_X2_isOf
set_option maxRecDepth 20000 in
theorem gX11_as_X2_isOf_u94X9 : GoodIn wsX11_as (va_wsU RX11 94 RX9 "BayMoorings$Boat" ⟨"BayMoorings$Boat", "isOf", "(I)Z"⟩ yX2_isOf wsX2_isOf) := goodIn_app (goodIn_q _ [(23, 2), (44, 1), (26, 2)] rfl rfl) ggX11_as_X2_isOf
set_option maxRecDepth 20000 in
theorem gdwsX2_fee : wsX2_fee.all goodWord = true := by decide +kernel
set_option maxRecDepth 20000 in
theorem ggX11_as_X2_fee : GoodIn wsX11_as wsX2_fee := goodIn_q _ [(49, 5), (27, 1), (54, 4), (85, 18)] rfl gdwsX2_fee
set_option maxRecDepth 20000 in
theorem gX11_as_X2_fee_u99X4 : GoodIn wsX11_as (va_wsU RX11 99 RX4 "BayMoorings$Boat" ⟨"BayMoorings$Boat", "fee", "(I)I"⟩ yX2_fee wsX2_fee) := goodIn_app (goodIn_q _ [(45, 4), (27, 1)] rfl rfl) ggX11_as_X2_fee
set_option maxRecDepth 20000 in
theorem gX11_as_X2_fee_u99X8 : GoodIn wsX11_as (va_wsU RX11 99 RX8 "BayMoorings$Boat" ⟨"BayMoorings$Boat", "fee", "(I)I"⟩ yX2_fee wsX2_fee) := goodIn_app (goodIn_q _ [(45, 2), (58, 1), (48, 1), (27, 1)] rfl rfl) ggX11_as_X2_fee
set_option maxRecDepth 20000 in
theorem gdwsX9_fee : wsX9_fee.all goodWord = true := by decide +kernel
set_option maxRecDepth 20000 in
theorem ggX11_as_X9_fee : GoodIn wsX11_as wsX9_fee := goodIn_q _ [(62, 4), (53, 1), (27, 1), (54, 2), (85, 18)] rfl gdwsX9_fee
set_option maxRecDepth 20000 in
theorem gX11_as_X9_fee_u99X9 : GoodIn wsX11_as (va_wsO RX11 99 RX9 "BayMoorings$Boat" ⟨"BayMoorings$Boat", "fee", "(I)I"⟩ yX9_fee wsX9_fee) := goodIn_app (goodIn_q _ [(45, 2), (48, 1), (60, 2), (41, 1)] rfl rfl) ggX11_as_X9_fee
theorem lk_dX11_as_0 : th_dr cX11_as 0 = 42 :: 180 :: 0 :: 10 :: 27 :: 182 :: 0 :: 90 :: 78 :: 45 :: 198 :: 0 :: 10 :: 28 :: 184 :: 0 :: 79 :: 154 :: 0 :: 9 :: 42 :: 4 :: 182 :: 0 :: 68 :: 172 :: 45 :: 28 :: th_dr cX11_as 28 := rfl
theorem bl_dX11_as_0 : decode cX11_as 0 = .ok (.aload_n 0, 1) ∧ decode cX11_as 1 = .ok (.getfield 10, 3) ∧ decode cX11_as 4 = .ok (.iload_n 1, 1) ∧ decode cX11_as 5 = .ok (.invokevirtual 90, 3) ∧ decode cX11_as 8 = .ok (.astore_n 3, 1) ∧ decode cX11_as 9 = .ok (.aload_n 3, 1) ∧ decode cX11_as 10 = .ok (.ifnull 10, 3) ∧ decode cX11_as 13 = .ok (.iload_n 2, 1) ∧ decode cX11_as 14 = .ok (.invokestatic 79, 3) ∧ decode cX11_as 17 = .ok (.ifCond .ne 9, 3) ∧ decode cX11_as 20 = .ok (.aload_n 0, 1) ∧ decode cX11_as 21 = .ok (.iconst 1, 1) ∧ decode cX11_as 22 = .ok (.invokevirtual 68, 3) ∧ decode cX11_as 25 = .ok (.ireturn, 1) ∧ decode cX11_as 26 = .ok (.aload_n 3, 1) ∧ decode cX11_as 27 = .ok (.iload_n 2, 1) := op_42 lk_dX11_as_0 fun e => op_180 e fun e => op_27 e fun e => op_182 e fun e => op_78 e fun e => op_45 e fun e => op_198p e rfl fun e => op_28 e fun e => op_184 e fun e => op_154p e rfl fun e => op_42 e fun e => op_4 e fun e => op_182 e fun e => op_172 e fun e => op_45 e fun e => (op_28 e fun _ => True.intro).1
theorem dX11_as_0 : decode cX11_as 0 = .ok (.aload_n 0, 1) := bl_dX11_as_0.1
theorem dX11_as_1 : decode cX11_as 1 = .ok (.getfield 10, 3) := bl_dX11_as_0.2.1
theorem dX11_as_4 : decode cX11_as 4 = .ok (.iload_n 1, 1) := bl_dX11_as_0.2.2.1
theorem dX11_as_5 : decode cX11_as 5 = .ok (.invokevirtual 90, 3) := bl_dX11_as_0.2.2.2.1
theorem dX11_as_8 : decode cX11_as 8 = .ok (.astore_n 3, 1) := bl_dX11_as_0.2.2.2.2.1
theorem dX11_as_9 : decode cX11_as 9 = .ok (.aload_n 3, 1) := bl_dX11_as_0.2.2.2.2.2.1
theorem dX11_as_10 : decode cX11_as 10 = .ok (.ifnull 10, 3) := bl_dX11_as_0.2.2.2.2.2.2.1
theorem dX11_as_13 : decode cX11_as 13 = .ok (.iload_n 2, 1) := bl_dX11_as_0.2.2.2.2.2.2.2.1
theorem dX11_as_14 : decode cX11_as 14 = .ok (.invokestatic 79, 3) := bl_dX11_as_0.2.2.2.2.2.2.2.2.1
theorem dX11_as_17 : decode cX11_as 17 = .ok (.ifCond .ne 9, 3) := bl_dX11_as_0.2.2.2.2.2.2.2.2.2.1
theorem dX11_as_20 : decode cX11_as 20 = .ok (.aload_n 0, 1) := bl_dX11_as_0.2.2.2.2.2.2.2.2.2.2.1
theorem dX11_as_21 : decode cX11_as 21 = .ok (.iconst 1, 1) := bl_dX11_as_0.2.2.2.2.2.2.2.2.2.2.2.1
theorem dX11_as_22 : decode cX11_as 22 = .ok (.invokevirtual 68, 3) := bl_dX11_as_0.2.2.2.2.2.2.2.2.2.2.2.2.1
theorem dX11_as_25 : decode cX11_as 25 = .ok (.ireturn, 1) := bl_dX11_as_0.2.2.2.2.2.2.2.2.2.2.2.2.2.1
theorem dX11_as_26 : decode cX11_as 26 = .ok (.aload_n 3, 1) := bl_dX11_as_0.2.2.2.2.2.2.2.2.2.2.2.2.2.2.1
theorem dX11_as_27 : decode cX11_as 27 = .ok (.iload_n 2, 1) := bl_dX11_as_0.2.2.2.2.2.2.2.2.2.2.2.2.2.2.2
theorem lk_dX11_as_28 : th_dr cX11_as 28 = 182 :: 0 :: 94 :: 154 :: 0 :: 9 :: 42 :: 8 :: 182 :: 0 :: 68 :: 172 :: 45 :: 42 :: 180 :: 0 :: 57 :: 182 :: 0 :: 99 :: 172 :: th_dr cX11_as 49 := rfl
theorem bl_dX11_as_28 : decode cX11_as 28 = .ok (.invokevirtual 94, 3) ∧ decode cX11_as 31 = .ok (.ifCond .ne 9, 3) ∧ decode cX11_as 34 = .ok (.aload_n 0, 1) ∧ decode cX11_as 35 = .ok (.iconst 5, 1) ∧ decode cX11_as 36 = .ok (.invokevirtual 68, 3) ∧ decode cX11_as 39 = .ok (.ireturn, 1) ∧ decode cX11_as 40 = .ok (.aload_n 3, 1) ∧ decode cX11_as 41 = .ok (.aload_n 0, 1) ∧ decode cX11_as 42 = .ok (.getfield 57, 3) ∧ decode cX11_as 45 = .ok (.invokevirtual 99, 3) ∧ decode cX11_as 48 = .ok (.ireturn, 1) := op_182 lk_dX11_as_28 fun e => op_154p e rfl fun e => op_42 e fun e => op_8 e fun e => op_182 e fun e => op_172 e fun e => op_45 e fun e => op_42 e fun e => op_180 e fun e => op_182 e fun e => (op_172 e fun _ => True.intro).1
theorem dX11_as_28 : decode cX11_as 28 = .ok (.invokevirtual 94, 3) := bl_dX11_as_28.1
theorem dX11_as_31 : decode cX11_as 31 = .ok (.ifCond .ne 9, 3) := bl_dX11_as_28.2.1
theorem dX11_as_34 : decode cX11_as 34 = .ok (.aload_n 0, 1) := bl_dX11_as_28.2.2.1
theorem dX11_as_35 : decode cX11_as 35 = .ok (.iconst 5, 1) := bl_dX11_as_28.2.2.2.1
theorem dX11_as_36 : decode cX11_as 36 = .ok (.invokevirtual 68, 3) := bl_dX11_as_28.2.2.2.2.1
theorem dX11_as_39 : decode cX11_as 39 = .ok (.ireturn, 1) := bl_dX11_as_28.2.2.2.2.2.1
theorem dX11_as_40 : decode cX11_as 40 = .ok (.aload_n 3, 1) := bl_dX11_as_28.2.2.2.2.2.2.1
theorem dX11_as_41 : decode cX11_as 41 = .ok (.aload_n 0, 1) := bl_dX11_as_28.2.2.2.2.2.2.2.1
theorem dX11_as_42 : decode cX11_as 42 = .ok (.getfield 57, 3) := bl_dX11_as_28.2.2.2.2.2.2.2.2.1
theorem dX11_as_45 : decode cX11_as 45 = .ok (.invokevirtual 99, 3) := bl_dX11_as_28.2.2.2.2.2.2.2.2.2.1
theorem dX11_as_48 : decode cX11_as 48 = .ok (.ireturn, 1) := bl_dX11_as_28.2.2.2.2.2.2.2.2.2.2
set_option maxRecDepth 20000 in
theorem ggX11_tide_X11_isHour : GoodIn wsX11_tide wsX11_isHour := goodIn_q _ [(6, 3), (5, 1), (9, 1)] rfl gdwsX11_isHour
set_option maxRecDepth 20000 in
theorem gX11_tide_X11_isHour : GoodIn wsX11_tide (va_wsS RX11 102 yX11_isHour wsX11_isHour) := goodIn_app (goodIn_q _ [(3, 3)] rfl rfl) ggX11_tide_X11_isHour
set_option maxRecDepth 20000 in
theorem ggX11_tide_X11_within : GoodIn wsX11_tide wsX11_within := goodIn_q _ [(9, 1)] rfl gdwsX11_within
set_option maxRecDepth 20000 in
theorem gX11_tide_X11_within : GoodIn wsX11_tide (va_wsS RX11 64 yX11_within wsX11_within) := goodIn_app (goodIn_q _ [(7, 2), (5, 1)] rfl rfl) ggX11_tide_X11_within
set_option maxRecDepth 20000 in
theorem ggX11_tide_X11_finding : GoodIn wsX11_tide wsX11_finding := goodIn_q _ [(13, 3), (7, 2), (5, 1), (9, 1), (49, 10)] rfl gdwsX11_finding
set_option maxRecDepth 20000 in
theorem gX11_tide_X11_finding : GoodIn wsX11_tide (wsV RX11 68 RX11 yX11_finding wsX11_finding) := goodIn_app (goodIn_q _ [(10, 3), (5, 1)] rfl rfl) ggX11_tide_X11_finding
set_option maxRecDepth 20000 in
theorem gdwsX0_setTide : wsX0_setTide.all goodWord = true := by decide +kernel
set_option maxRecDepth 20000 in
theorem ggX11_tide_X0_setTide : GoodIn wsX11_tide wsX0_setTide := goodIn_q _ [(20, 9), (4, 6), (29, 3), (19, 1), (32, 17), (59, 17)] rfl gdwsX0_setTide
set_option maxRecDepth 20000 in
theorem gX11_tide_X0_setTide : GoodIn wsX11_tide (wsV RX11 108 RX0 yX0_setTide wsX0_setTide) := goodIn_app (goodIn_q _ [(16, 4)] rfl rfl) ggX11_tide_X0_setTide
theorem lk_dX11_tide_0 : th_dr cX11_tide 0 = 27 :: 184 :: 0 :: 102 :: 153 :: 0 :: 14 :: 28 :: 3 :: 17 :: 0 :: 200 :: 184 :: 0 :: 64 :: 154 :: 0 :: 9 :: 42 :: 4 :: 182 :: 0 :: 68 :: 172 :: 42 :: 180 :: 0 :: 10 :: 180 :: 0 :: 105 :: 27 :: th_dr cX11_tide 32 := rfl
theorem bl_dX11_tide_0 : decode cX11_tide 0 = .ok (.iload_n 1, 1) ∧ decode cX11_tide 1 = .ok (.invokestatic 102, 3) ∧ decode cX11_tide 4 = .ok (.ifCond .eq 14, 3) ∧ decode cX11_tide 7 = .ok (.iload_n 2, 1) ∧ decode cX11_tide 8 = .ok (.iconst 0, 1) ∧ decode cX11_tide 9 = .ok (.sipush 200, 3) ∧ decode cX11_tide 12 = .ok (.invokestatic 64, 3) ∧ decode cX11_tide 15 = .ok (.ifCond .ne 9, 3) ∧ decode cX11_tide 18 = .ok (.aload_n 0, 1) ∧ decode cX11_tide 19 = .ok (.iconst 1, 1) ∧ decode cX11_tide 20 = .ok (.invokevirtual 68, 3) ∧ decode cX11_tide 23 = .ok (.ireturn, 1) ∧ decode cX11_tide 24 = .ok (.aload_n 0, 1) ∧ decode cX11_tide 25 = .ok (.getfield 10, 3) ∧ decode cX11_tide 28 = .ok (.getfield 105, 3) ∧ decode cX11_tide 31 = .ok (.iload_n 1, 1) := op_27 lk_dX11_tide_0 fun e => op_184 e fun e => op_153p e rfl fun e => op_28 e fun e => op_3 e fun e => op_17p e rfl fun e => op_184 e fun e => op_154p e rfl fun e => op_42 e fun e => op_4 e fun e => op_182 e fun e => op_172 e fun e => op_42 e fun e => op_180 e fun e => op_180 e fun e => (op_27 e fun _ => True.intro).1
theorem dX11_tide_0 : decode cX11_tide 0 = .ok (.iload_n 1, 1) := bl_dX11_tide_0.1
theorem dX11_tide_1 : decode cX11_tide 1 = .ok (.invokestatic 102, 3) := bl_dX11_tide_0.2.1
theorem dX11_tide_4 : decode cX11_tide 4 = .ok (.ifCond .eq 14, 3) := bl_dX11_tide_0.2.2.1
theorem dX11_tide_7 : decode cX11_tide 7 = .ok (.iload_n 2, 1) := bl_dX11_tide_0.2.2.2.1
theorem dX11_tide_8 : decode cX11_tide 8 = .ok (.iconst 0, 1) := bl_dX11_tide_0.2.2.2.2.1
theorem dX11_tide_9 : decode cX11_tide 9 = .ok (.sipush 200, 3) := bl_dX11_tide_0.2.2.2.2.2.1
theorem dX11_tide_12 : decode cX11_tide 12 = .ok (.invokestatic 64, 3) := bl_dX11_tide_0.2.2.2.2.2.2.1
theorem dX11_tide_15 : decode cX11_tide 15 = .ok (.ifCond .ne 9, 3) := bl_dX11_tide_0.2.2.2.2.2.2.2.1
theorem dX11_tide_18 : decode cX11_tide 18 = .ok (.aload_n 0, 1) := bl_dX11_tide_0.2.2.2.2.2.2.2.2.1
theorem dX11_tide_19 : decode cX11_tide 19 = .ok (.iconst 1, 1) := bl_dX11_tide_0.2.2.2.2.2.2.2.2.2.1
theorem dX11_tide_20 : decode cX11_tide 20 = .ok (.invokevirtual 68, 3) := bl_dX11_tide_0.2.2.2.2.2.2.2.2.2.2.1
theorem dX11_tide_23 : decode cX11_tide 23 = .ok (.ireturn, 1) := bl_dX11_tide_0.2.2.2.2.2.2.2.2.2.2.2.1
theorem dX11_tide_24 : decode cX11_tide 24 = .ok (.aload_n 0, 1) := bl_dX11_tide_0.2.2.2.2.2.2.2.2.2.2.2.2.1
theorem dX11_tide_25 : decode cX11_tide 25 = .ok (.getfield 10, 3) := bl_dX11_tide_0.2.2.2.2.2.2.2.2.2.2.2.2.2.1
theorem dX11_tide_28 : decode cX11_tide 28 = .ok (.getfield 105, 3) := bl_dX11_tide_0.2.2.2.2.2.2.2.2.2.2.2.2.2.2.1
theorem dX11_tide_31 : decode cX11_tide 31 = .ok (.iload_n 1, 1) := bl_dX11_tide_0.2.2.2.2.2.2.2.2.2.2.2.2.2.2.2
theorem lk_dX11_tide_32 : th_dr cX11_tide 32 = 46 :: 62 :: 42 :: 180 :: 0 :: 10 :: 27 :: 28 :: 182 :: 0 :: 108 :: 29 :: 172 :: th_dr cX11_tide 45 := rfl
theorem bl_dX11_tide_32 : decode cX11_tide 32 = .ok (.iaload, 1) ∧ decode cX11_tide 33 = .ok (.istore_n 3, 1) ∧ decode cX11_tide 34 = .ok (.aload_n 0, 1) ∧ decode cX11_tide 35 = .ok (.getfield 10, 3) ∧ decode cX11_tide 38 = .ok (.iload_n 1, 1) ∧ decode cX11_tide 39 = .ok (.iload_n 2, 1) ∧ decode cX11_tide 40 = .ok (.invokevirtual 108, 3) ∧ decode cX11_tide 43 = .ok (.iload_n 3, 1) ∧ decode cX11_tide 44 = .ok (.ireturn, 1) := op_46 lk_dX11_tide_32 fun e => op_62 e fun e => op_42 e fun e => op_180 e fun e => op_27 e fun e => op_28 e fun e => op_182 e fun e => op_29 e fun e => (op_172 e fun _ => True.intro).1
theorem dX11_tide_32 : decode cX11_tide 32 = .ok (.iaload, 1) := bl_dX11_tide_32.1
theorem dX11_tide_33 : decode cX11_tide 33 = .ok (.istore_n 3, 1) := bl_dX11_tide_32.2.1
theorem dX11_tide_34 : decode cX11_tide 34 = .ok (.aload_n 0, 1) := bl_dX11_tide_32.2.2.1
theorem dX11_tide_35 : decode cX11_tide 35 = .ok (.getfield 10, 3) := bl_dX11_tide_32.2.2.2.1
theorem dX11_tide_38 : decode cX11_tide 38 = .ok (.iload_n 1, 1) := bl_dX11_tide_32.2.2.2.2.1
theorem dX11_tide_39 : decode cX11_tide 39 = .ok (.iload_n 2, 1) := bl_dX11_tide_32.2.2.2.2.2.1
theorem dX11_tide_40 : decode cX11_tide 40 = .ok (.invokevirtual 108, 3) := bl_dX11_tide_32.2.2.2.2.2.2.1
theorem dX11_tide_43 : decode cX11_tide 43 = .ok (.iload_n 3, 1) := bl_dX11_tide_32.2.2.2.2.2.2.2.1
theorem dX11_tide_44 : decode cX11_tide 44 = .ok (.ireturn, 1) := bl_dX11_tide_32.2.2.2.2.2.2.2.2
set_option maxRecDepth 20000 in
theorem ggX11_winds_X11_within : GoodIn wsX11_winds wsX11_within := goodIn_q _ [(6, 1)] rfl gdwsX11_within
set_option maxRecDepth 20000 in
theorem gX11_winds_X11_within : GoodIn wsX11_winds (va_wsS RX11 64 yX11_within wsX11_within) := goodIn_app (goodIn_q _ [(3, 3)] rfl rfl) ggX11_winds_X11_within
set_option maxRecDepth 20000 in
theorem ggX11_winds_X11_finding : GoodIn wsX11_winds wsX11_finding := goodIn_q _ [(10, 3), (3, 4), (13, 10)] rfl gdwsX11_finding
set_option maxRecDepth 20000 in
theorem gX11_winds_X11_finding : GoodIn wsX11_winds (wsV RX11 68 RX11 yX11_finding wsX11_finding) := goodIn_app (goodIn_q _ [(7, 3), (5, 1)] rfl rfl) ggX11_winds_X11_finding
theorem lk_dX11_winds_0 : th_dr cX11_winds 0 = 27 :: 4 :: 17 :: 0 :: 255 :: 184 :: 0 :: 64 :: 154 :: 0 :: 9 :: 42 :: 4 :: 182 :: 0 :: 68 :: 172 :: 42 :: 180 :: 0 :: 10 :: 180 :: 0 :: 112 :: 61 :: 42 :: 180 :: 0 :: 10 :: 27 :: th_dr cX11_winds 30 := rfl
theorem bl_dX11_winds_0 : decode cX11_winds 0 = .ok (.iload_n 1, 1) ∧ decode cX11_winds 1 = .ok (.iconst 1, 1) ∧ decode cX11_winds 2 = .ok (.sipush 255, 3) ∧ decode cX11_winds 5 = .ok (.invokestatic 64, 3) ∧ decode cX11_winds 8 = .ok (.ifCond .ne 9, 3) ∧ decode cX11_winds 11 = .ok (.aload_n 0, 1) ∧ decode cX11_winds 12 = .ok (.iconst 1, 1) ∧ decode cX11_winds 13 = .ok (.invokevirtual 68, 3) ∧ decode cX11_winds 16 = .ok (.ireturn, 1) ∧ decode cX11_winds 17 = .ok (.aload_n 0, 1) ∧ decode cX11_winds 18 = .ok (.getfield 10, 3) ∧ decode cX11_winds 21 = .ok (.getfield 112, 3) ∧ decode cX11_winds 24 = .ok (.istore_n 2, 1) ∧ decode cX11_winds 25 = .ok (.aload_n 0, 1) ∧ decode cX11_winds 26 = .ok (.getfield 10, 3) ∧ decode cX11_winds 29 = .ok (.iload_n 1, 1) := op_27 lk_dX11_winds_0 fun e => op_4 e fun e => op_17p e rfl fun e => op_184 e fun e => op_154p e rfl fun e => op_42 e fun e => op_4 e fun e => op_182 e fun e => op_172 e fun e => op_42 e fun e => op_180 e fun e => op_180 e fun e => op_61 e fun e => op_42 e fun e => op_180 e fun e => (op_27 e fun _ => True.intro).1
theorem dX11_winds_0 : decode cX11_winds 0 = .ok (.iload_n 1, 1) := bl_dX11_winds_0.1
theorem dX11_winds_1 : decode cX11_winds 1 = .ok (.iconst 1, 1) := bl_dX11_winds_0.2.1
theorem dX11_winds_2 : decode cX11_winds 2 = .ok (.sipush 255, 3) := bl_dX11_winds_0.2.2.1
theorem dX11_winds_5 : decode cX11_winds 5 = .ok (.invokestatic 64, 3) := bl_dX11_winds_0.2.2.2.1
theorem dX11_winds_8 : decode cX11_winds 8 = .ok (.ifCond .ne 9, 3) := bl_dX11_winds_0.2.2.2.2.1
theorem dX11_winds_11 : decode cX11_winds 11 = .ok (.aload_n 0, 1) := bl_dX11_winds_0.2.2.2.2.2.1
theorem dX11_winds_12 : decode cX11_winds 12 = .ok (.iconst 1, 1) := bl_dX11_winds_0.2.2.2.2.2.2.1
theorem dX11_winds_13 : decode cX11_winds 13 = .ok (.invokevirtual 68, 3) := bl_dX11_winds_0.2.2.2.2.2.2.2.1
theorem dX11_winds_16 : decode cX11_winds 16 = .ok (.ireturn, 1) := bl_dX11_winds_0.2.2.2.2.2.2.2.2.1
theorem dX11_winds_17 : decode cX11_winds 17 = .ok (.aload_n 0, 1) := bl_dX11_winds_0.2.2.2.2.2.2.2.2.2.1
theorem dX11_winds_18 : decode cX11_winds 18 = .ok (.getfield 10, 3) := bl_dX11_winds_0.2.2.2.2.2.2.2.2.2.2.1
theorem dX11_winds_21 : decode cX11_winds 21 = .ok (.getfield 112, 3) := bl_dX11_winds_0.2.2.2.2.2.2.2.2.2.2.2.1
theorem dX11_winds_24 : decode cX11_winds 24 = .ok (.istore_n 2, 1) := bl_dX11_winds_0.2.2.2.2.2.2.2.2.2.2.2.2.1
theorem dX11_winds_25 : decode cX11_winds 25 = .ok (.aload_n 0, 1) := bl_dX11_winds_0.2.2.2.2.2.2.2.2.2.2.2.2.2.1
theorem dX11_winds_26 : decode cX11_winds 26 = .ok (.getfield 10, 3) := bl_dX11_winds_0.2.2.2.2.2.2.2.2.2.2.2.2.2.2.1
theorem dX11_winds_29 : decode cX11_winds 29 = .ok (.iload_n 1, 1) := bl_dX11_winds_0.2.2.2.2.2.2.2.2.2.2.2.2.2.2.2
theorem lk_dX11_winds_30 : th_dr cX11_winds 30 = 181 :: 0 :: 112 :: 28 :: 172 :: th_dr cX11_winds 35 := rfl
theorem bl_dX11_winds_30 : decode cX11_winds 30 = .ok (.putfield 112, 3) ∧ decode cX11_winds 33 = .ok (.iload_n 2, 1) ∧ decode cX11_winds 34 = .ok (.ireturn, 1) := op_181 lk_dX11_winds_30 fun e => op_28 e fun e => (op_172 e fun _ => True.intro).1
theorem dX11_winds_30 : decode cX11_winds 30 = .ok (.putfield 112, 3) := bl_dX11_winds_30.1
theorem dX11_winds_33 : decode cX11_winds 33 = .ok (.iload_n 2, 1) := bl_dX11_winds_30.2.1
theorem dX11_winds_34 : decode cX11_winds 34 = .ok (.ireturn, 1) := bl_dX11_winds_30.2.2
set_option maxRecDepth 20000 in
theorem ggX11_about_X0_boatAt : GoodIn wsX11_about wsX0_boatAt := goodIn_q _ [(11, 6), (101, 9)] rfl gdwsX0_boatAt
set_option maxRecDepth 20000 in
theorem gX11_about_X0_boatAt : GoodIn wsX11_about (wsV RX11 90 RX0 yX0_boatAt wsX0_boatAt) := goodIn_app (goodIn_q _ [(7, 4)] rfl rfl) ggX11_about_X0_boatAt
set_option maxRecDepth 20000 in
theorem ggX11_about_X11_finding : GoodIn wsX11_about wsX11_finding := goodIn_q _ [(20, 4), (14, 3), (73, 10)] rfl gdwsX11_finding
set_option maxRecDepth 20000 in
theorem gX11_about_X11_finding : GoodIn wsX11_about (wsV RX11 68 RX11 yX11_finding wsX11_finding) := goodIn_app (goodIn_q _ [(17, 3), (15, 1)] rfl rfl) ggX11_about_X11_finding
set_option maxRecDepth 20000 in
theorem ggX11_about_X4_kindNumber : GoodIn wsX11_about wsX4_kindNumber := goodIn_q _ [(29, 1)] rfl gdwsX4_kindNumber
set_option maxRecDepth 20000 in
theorem gX11_about_X4_kindNumber_u115X4 : GoodIn wsX11_about (va_wsU RX11 115 RX4 "BayMoorings$Boat" ⟨"BayMoorings$Boat", "kindNumber", "()I"⟩ yX4_kindNumber wsX4_kindNumber) := goodIn_app (goodIn_q _ [(24, 5)] rfl rfl) ggX11_about_X4_kindNumber
set_option maxRecDepth 20000 in
theorem ggX11_about_X8_kindNumber : GoodIn wsX11_about wsX8_kindNumber := goodIn_q _ [(33, 1)] rfl gdwsX8_kindNumber
set_option maxRecDepth 20000 in
theorem gX11_about_X8_kindNumber_u115X8 : GoodIn wsX11_about (va_wsU RX11 115 RX8 "BayMoorings$Boat" ⟨"BayMoorings$Boat", "kindNumber", "()I"⟩ yX8_kindNumber wsX8_kindNumber) := goodIn_app (goodIn_q _ [(24, 2), (30, 3)] rfl rfl) ggX11_about_X8_kindNumber
set_option maxRecDepth 20000 in
theorem ggX11_about_X9_kindNumber : GoodIn wsX11_about wsX9_kindNumber := goodIn_q _ [(37, 1)] rfl gdwsX9_kindNumber
set_option maxRecDepth 20000 in
theorem gX11_about_X9_kindNumber_u115X9 : GoodIn wsX11_about (va_wsU RX11 115 RX9 "BayMoorings$Boat" ⟨"BayMoorings$Boat", "kindNumber", "()I"⟩ yX9_kindNumber wsX9_kindNumber) := goodIn_app (goodIn_q _ [(24, 2), (34, 3)] rfl rfl) ggX11_about_X9_kindNumber
set_option maxRecDepth 20000 in
theorem ggX11_about_X1_buoyOf : GoodIn wsX11_about wsX1_buoyOf := goodIn_q _ [(42, 2), (14, 3), (110, 2)] rfl gdwsX1_buoyOf
set_option maxRecDepth 20000 in
theorem gX11_about_X1_buoyOf : GoodIn wsX11_about (wsV RX11 129 RX1 yX1_buoyOf wsX1_buoyOf) := goodIn_app (goodIn_q _ [(38, 4)] rfl rfl) ggX11_about_X1_buoyOf
set_option maxRecDepth 20000 in
theorem gdwsX10_placeOf : wsX10_placeOf.all goodWord = true := by decide +kernel
set_option maxRecDepth 20000 in
theorem ggX11_about_X10_placeOf : GoodIn wsX11_about wsX10_placeOf := goodIn_q _ [(48, 3), (112, 3)] rfl gdwsX10_placeOf
set_option maxRecDepth 20000 in
theorem gX11_about_X10_placeOf : GoodIn wsX11_about (wsV RX11 134 RX10 yX10_placeOf wsX10_placeOf) := goodIn_app (goodIn_q _ [(44, 4)] rfl rfl) ggX11_about_X10_placeOf
set_option maxRecDepth 20000 in
theorem ggX11_about_X2_fee : GoodIn wsX11_about wsX2_fee := goodIn_q _ [(56, 5), (55, 1), (61, 4), (83, 18)] rfl gdwsX2_fee
set_option maxRecDepth 20000 in
theorem gX11_about_X2_fee_u99X4 : GoodIn wsX11_about (va_wsU RX11 99 RX4 "BayMoorings$Boat" ⟨"BayMoorings$Boat", "fee", "(I)I"⟩ yX2_fee wsX2_fee) := goodIn_app (goodIn_q _ [(51, 5)] rfl rfl) ggX11_about_X2_fee
set_option maxRecDepth 20000 in
theorem gX11_about_X2_fee_u99X8 : GoodIn wsX11_about (va_wsU RX11 99 RX8 "BayMoorings$Boat" ⟨"BayMoorings$Boat", "fee", "(I)I"⟩ yX2_fee wsX2_fee) := goodIn_app (goodIn_q _ [(51, 2), (65, 1), (54, 2)] rfl rfl) ggX11_about_X2_fee
set_option maxRecDepth 20000 in
theorem ggX11_about_X9_fee : GoodIn wsX11_about wsX9_fee := goodIn_q _ [(69, 4), (60, 1), (55, 1), (61, 2), (83, 18)] rfl gdwsX9_fee
set_option maxRecDepth 20000 in
theorem gX11_about_X9_fee_u99X9 : GoodIn wsX11_about (va_wsO RX11 99 RX9 "BayMoorings$Boat" ⟨"BayMoorings$Boat", "fee", "(I)I"⟩ yX9_fee wsX9_fee) := goodIn_app (goodIn_q _ [(51, 2), (54, 1), (67, 2), (36, 1)] rfl rfl) ggX11_about_X9_fee
theorem lk_dX11_about_0 : th_dr cX11_about 0 = 42 :: 180 :: 0 :: 10 :: 27 :: 182 :: 0 :: 90 :: 78 :: 45 :: 199 :: 0 :: 9 :: 42 :: 4 :: 182 :: 0 :: 68 :: 172 :: 28 :: th_dr cX11_about 20 := rfl
theorem bl_dX11_about_0 : decode cX11_about 0 = .ok (.aload_n 0, 1) ∧ decode cX11_about 1 = .ok (.getfield 10, 3) ∧ decode cX11_about 4 = .ok (.iload_n 1, 1) ∧ decode cX11_about 5 = .ok (.invokevirtual 90, 3) ∧ decode cX11_about 8 = .ok (.astore_n 3, 1) ∧ decode cX11_about 9 = .ok (.aload_n 3, 1) ∧ decode cX11_about 10 = .ok (.ifnonnull 9, 3) ∧ decode cX11_about 13 = .ok (.aload_n 0, 1) ∧ decode cX11_about 14 = .ok (.iconst 1, 1) ∧ decode cX11_about 15 = .ok (.invokevirtual 68, 3) ∧ decode cX11_about 18 = .ok (.ireturn, 1) ∧ decode cX11_about 19 = .ok (.iload_n 2, 1) := op_42 lk_dX11_about_0 fun e => op_180 e fun e => op_27 e fun e => op_182 e fun e => op_78 e fun e => op_45 e fun e => op_199p e rfl fun e => op_42 e fun e => op_4 e fun e => op_182 e fun e => op_172 e fun e => (op_28 e fun _ => True.intro).1
theorem dX11_about_0 : decode cX11_about 0 = .ok (.aload_n 0, 1) := bl_dX11_about_0.1
theorem dX11_about_1 : decode cX11_about 1 = .ok (.getfield 10, 3) := bl_dX11_about_0.2.1
theorem dX11_about_4 : decode cX11_about 4 = .ok (.iload_n 1, 1) := bl_dX11_about_0.2.2.1
theorem dX11_about_5 : decode cX11_about 5 = .ok (.invokevirtual 90, 3) := bl_dX11_about_0.2.2.2.1
theorem dX11_about_8 : decode cX11_about 8 = .ok (.astore_n 3, 1) := bl_dX11_about_0.2.2.2.2.1
theorem dX11_about_9 : decode cX11_about 9 = .ok (.aload_n 3, 1) := bl_dX11_about_0.2.2.2.2.2.1
theorem dX11_about_10 : decode cX11_about 10 = .ok (.ifnonnull 9, 3) := bl_dX11_about_0.2.2.2.2.2.2.1
theorem dX11_about_13 : decode cX11_about 13 = .ok (.aload_n 0, 1) := bl_dX11_about_0.2.2.2.2.2.2.2.1
theorem dX11_about_14 : decode cX11_about 14 = .ok (.iconst 1, 1) := bl_dX11_about_0.2.2.2.2.2.2.2.2.1
theorem dX11_about_15 : decode cX11_about 15 = .ok (.invokevirtual 68, 3) := bl_dX11_about_0.2.2.2.2.2.2.2.2.2.1
theorem dX11_about_18 : decode cX11_about 18 = .ok (.ireturn, 1) := bl_dX11_about_0.2.2.2.2.2.2.2.2.2.2.1
theorem dX11_about_19 : decode cX11_about 19 = .ok (.iload_n 2, 1) := bl_dX11_about_0.2.2.2.2.2.2.2.2.2.2.2
theorem dX11_about_20 : decode cX11_about 20 = .ok (.tableswitch 104 0 5 #[40, 45, 50, 55, 67, 76], 40) := by decide +kernel
set_option maxRecDepth 20000 in
theorem lk_dX11_about_60 : th_dr cX11_about 60 = 45 :: 182 :: 0 :: 115 :: 172 :: 45 :: 180 :: 0 :: 119 :: 172 :: 45 :: 180 :: 0 :: 122 :: 172 :: 42 :: 180 :: 0 :: 10 :: 180 :: 0 :: 125 :: 27 :: 182 :: 0 :: 129 :: 172 :: 42 :: th_dr cX11_about 88 := rfl
theorem bl_dX11_about_60 : decode cX11_about 60 = .ok (.aload_n 3, 1) ∧ decode cX11_about 61 = .ok (.invokevirtual 115, 3) ∧ decode cX11_about 64 = .ok (.ireturn, 1) ∧ decode cX11_about 65 = .ok (.aload_n 3, 1) ∧ decode cX11_about 66 = .ok (.getfield 119, 3) ∧ decode cX11_about 69 = .ok (.ireturn, 1) ∧ decode cX11_about 70 = .ok (.aload_n 3, 1) ∧ decode cX11_about 71 = .ok (.getfield 122, 3) ∧ decode cX11_about 74 = .ok (.ireturn, 1) ∧ decode cX11_about 75 = .ok (.aload_n 0, 1) ∧ decode cX11_about 76 = .ok (.getfield 10, 3) ∧ decode cX11_about 79 = .ok (.getfield 125, 3) ∧ decode cX11_about 82 = .ok (.iload_n 1, 1) ∧ decode cX11_about 83 = .ok (.invokevirtual 129, 3) ∧ decode cX11_about 86 = .ok (.ireturn, 1) ∧ decode cX11_about 87 = .ok (.aload_n 0, 1) := op_45 lk_dX11_about_60 fun e => op_182 e fun e => op_172 e fun e => op_45 e fun e => op_180 e fun e => op_172 e fun e => op_45 e fun e => op_180 e fun e => op_172 e fun e => op_42 e fun e => op_180 e fun e => op_180 e fun e => op_27 e fun e => op_182 e fun e => op_172 e fun e => (op_42 e fun _ => True.intro).1
theorem dX11_about_60 : decode cX11_about 60 = .ok (.aload_n 3, 1) := bl_dX11_about_60.1
theorem dX11_about_61 : decode cX11_about 61 = .ok (.invokevirtual 115, 3) := bl_dX11_about_60.2.1
theorem dX11_about_64 : decode cX11_about 64 = .ok (.ireturn, 1) := bl_dX11_about_60.2.2.1
theorem dX11_about_65 : decode cX11_about 65 = .ok (.aload_n 3, 1) := bl_dX11_about_60.2.2.2.1
theorem dX11_about_66 : decode cX11_about 66 = .ok (.getfield 119, 3) := bl_dX11_about_60.2.2.2.2.1
theorem dX11_about_69 : decode cX11_about 69 = .ok (.ireturn, 1) := bl_dX11_about_60.2.2.2.2.2.1
theorem dX11_about_70 : decode cX11_about 70 = .ok (.aload_n 3, 1) := bl_dX11_about_60.2.2.2.2.2.2.1
theorem dX11_about_71 : decode cX11_about 71 = .ok (.getfield 122, 3) := bl_dX11_about_60.2.2.2.2.2.2.2.1
theorem dX11_about_74 : decode cX11_about 74 = .ok (.ireturn, 1) := bl_dX11_about_60.2.2.2.2.2.2.2.2.1
theorem dX11_about_75 : decode cX11_about 75 = .ok (.aload_n 0, 1) := bl_dX11_about_60.2.2.2.2.2.2.2.2.2.1
theorem dX11_about_76 : decode cX11_about 76 = .ok (.getfield 10, 3) := bl_dX11_about_60.2.2.2.2.2.2.2.2.2.2.1
theorem dX11_about_79 : decode cX11_about 79 = .ok (.getfield 125, 3) := bl_dX11_about_60.2.2.2.2.2.2.2.2.2.2.2.1
theorem dX11_about_82 : decode cX11_about 82 = .ok (.iload_n 1, 1) := bl_dX11_about_60.2.2.2.2.2.2.2.2.2.2.2.2.1
theorem dX11_about_83 : decode cX11_about 83 = .ok (.invokevirtual 129, 3) := bl_dX11_about_60.2.2.2.2.2.2.2.2.2.2.2.2.2.1
theorem dX11_about_86 : decode cX11_about 86 = .ok (.ireturn, 1) := bl_dX11_about_60.2.2.2.2.2.2.2.2.2.2.2.2.2.2.1
theorem dX11_about_87 : decode cX11_about 87 = .ok (.aload_n 0, 1) := bl_dX11_about_60.2.2.2.2.2.2.2.2.2.2.2.2.2.2.2
set_option maxRecDepth 20000 in
theorem lk_dX11_about_88 : th_dr cX11_about 88 = 180 :: 0 :: 21 :: 27 :: 182 :: 0 :: 134 :: 172 :: 42 :: 180 :: 0 :: 10 :: 180 :: 0 :: 125 :: 27 :: 182 :: 0 :: 129 :: 2 :: 160 :: 0 :: 7 :: 3 :: 167 :: 0 :: 11 :: 45 :: 42 :: 180 :: 0 :: 57 :: th_dr cX11_about 120 := rfl
theorem bl_dX11_about_88 : decode cX11_about 88 = .ok (.getfield 21, 3) ∧ decode cX11_about 91 = .ok (.iload_n 1, 1) ∧ decode cX11_about 92 = .ok (.invokevirtual 134, 3) ∧ decode cX11_about 95 = .ok (.ireturn, 1) ∧ decode cX11_about 96 = .ok (.aload_n 0, 1) ∧ decode cX11_about 97 = .ok (.getfield 10, 3) ∧ decode cX11_about 100 = .ok (.getfield 125, 3) ∧ decode cX11_about 103 = .ok (.iload_n 1, 1) ∧ decode cX11_about 104 = .ok (.invokevirtual 129, 3) ∧ decode cX11_about 107 = .ok (.iconst (-1), 1) ∧ decode cX11_about 108 = .ok (.if_icmp .ne 7, 3) ∧ decode cX11_about 111 = .ok (.iconst 0, 1) ∧ decode cX11_about 112 = .ok (.goto 11, 3) ∧ decode cX11_about 115 = .ok (.aload_n 3, 1) ∧ decode cX11_about 116 = .ok (.aload_n 0, 1) ∧ decode cX11_about 117 = .ok (.getfield 57, 3) := op_180 lk_dX11_about_88 fun e => op_27 e fun e => op_182 e fun e => op_172 e fun e => op_42 e fun e => op_180 e fun e => op_180 e fun e => op_27 e fun e => op_182 e fun e => op_2 e fun e => op_160p e rfl fun e => op_3 e fun e => op_167p e rfl fun e => op_45 e fun e => op_42 e fun e => (op_180 e fun _ => True.intro).1
theorem dX11_about_88 : decode cX11_about 88 = .ok (.getfield 21, 3) := bl_dX11_about_88.1
theorem dX11_about_91 : decode cX11_about 91 = .ok (.iload_n 1, 1) := bl_dX11_about_88.2.1
theorem dX11_about_92 : decode cX11_about 92 = .ok (.invokevirtual 134, 3) := bl_dX11_about_88.2.2.1
theorem dX11_about_95 : decode cX11_about 95 = .ok (.ireturn, 1) := bl_dX11_about_88.2.2.2.1
theorem dX11_about_96 : decode cX11_about 96 = .ok (.aload_n 0, 1) := bl_dX11_about_88.2.2.2.2.1
theorem dX11_about_97 : decode cX11_about 97 = .ok (.getfield 10, 3) := bl_dX11_about_88.2.2.2.2.2.1
theorem dX11_about_100 : decode cX11_about 100 = .ok (.getfield 125, 3) := bl_dX11_about_88.2.2.2.2.2.2.1
theorem dX11_about_103 : decode cX11_about 103 = .ok (.iload_n 1, 1) := bl_dX11_about_88.2.2.2.2.2.2.2.1
theorem dX11_about_104 : decode cX11_about 104 = .ok (.invokevirtual 129, 3) := bl_dX11_about_88.2.2.2.2.2.2.2.2.1
theorem dX11_about_107 : decode cX11_about 107 = .ok (.iconst (-1), 1) := bl_dX11_about_88.2.2.2.2.2.2.2.2.2.1
theorem dX11_about_108 : decode cX11_about 108 = .ok (.if_icmp .ne 7, 3) := bl_dX11_about_88.2.2.2.2.2.2.2.2.2.2.1
theorem dX11_about_111 : decode cX11_about 111 = .ok (.iconst 0, 1) := bl_dX11_about_88.2.2.2.2.2.2.2.2.2.2.2.1
theorem dX11_about_112 : decode cX11_about 112 = .ok (.goto 11, 3) := bl_dX11_about_88.2.2.2.2.2.2.2.2.2.2.2.2.1
theorem dX11_about_115 : decode cX11_about 115 = .ok (.aload_n 3, 1) := bl_dX11_about_88.2.2.2.2.2.2.2.2.2.2.2.2.2.1
theorem dX11_about_116 : decode cX11_about 116 = .ok (.aload_n 0, 1) := bl_dX11_about_88.2.2.2.2.2.2.2.2.2.2.2.2.2.2.1
theorem dX11_about_117 : decode cX11_about 117 = .ok (.getfield 57, 3) := bl_dX11_about_88.2.2.2.2.2.2.2.2.2.2.2.2.2.2.2
set_option maxRecDepth 20000 in
theorem lk_dX11_about_120 : th_dr cX11_about 120 = 182 :: 0 :: 99 :: 172 :: 42 :: 4 :: 182 :: 0 :: 68 :: 172 :: th_dr cX11_about 130 := rfl
theorem bl_dX11_about_120 : decode cX11_about 120 = .ok (.invokevirtual 99, 3) ∧ decode cX11_about 123 = .ok (.ireturn, 1) ∧ decode cX11_about 124 = .ok (.aload_n 0, 1) ∧ decode cX11_about 125 = .ok (.iconst 1, 1) ∧ decode cX11_about 126 = .ok (.invokevirtual 68, 3) ∧ decode cX11_about 129 = .ok (.ireturn, 1) := op_182 lk_dX11_about_120 fun e => op_172 e fun e => op_42 e fun e => op_4 e fun e => op_182 e fun e => (op_172 e fun _ => True.intro).1
theorem dX11_about_120 : decode cX11_about 120 = .ok (.invokevirtual 99, 3) := bl_dX11_about_120.1
theorem dX11_about_123 : decode cX11_about 123 = .ok (.ireturn, 1) := bl_dX11_about_120.2.1
theorem dX11_about_124 : decode cX11_about 124 = .ok (.aload_n 0, 1) := bl_dX11_about_120.2.2.1
theorem dX11_about_125 : decode cX11_about 125 = .ok (.iconst 1, 1) := bl_dX11_about_120.2.2.2.1
theorem dX11_about_126 : decode cX11_about 126 = .ok (.invokevirtual 68, 3) := bl_dX11_about_120.2.2.2.2.1
theorem dX11_about_129 : decode cX11_about 129 = .ok (.ireturn, 1) := bl_dX11_about_120.2.2.2.2.2
set_option maxRecDepth 20000 in
theorem ggX11_of_X0_buoyAt : GoodIn wsX11_of wsX0_buoyAt := goodIn_q _ [(13, 6), (56, 9)] rfl gdwsX0_buoyAt
set_option maxRecDepth 20000 in
theorem gX11_of_X0_buoyAt : GoodIn wsX11_of (wsV RX11 137 RX0 yX0_buoyAt wsX0_buoyAt) := goodIn_app (goodIn_q _ [(9, 4)] rfl rfl) ggX11_of_X0_buoyAt
set_option maxRecDepth 20000 in
theorem ggX11_of_X11_finding : GoodIn wsX11_of wsX11_finding := goodIn_q _ [(22, 4), (16, 3), (38, 10)] rfl gdwsX11_finding
set_option maxRecDepth 20000 in
theorem gX11_of_X11_finding : GoodIn wsX11_of (wsV RX11 68 RX11 yX11_finding wsX11_finding) := goodIn_app (goodIn_q _ [(19, 3), (17, 1)] rfl rfl) ggX11_of_X11_finding
set_option maxRecDepth 20000 in
theorem ggX11_of_X1_boatOf : GoodIn wsX11_of wsX1_boatOf := goodIn_q _ [(30, 2), (16, 3), (65, 2)] rfl gdwsX1_boatOf
set_option maxRecDepth 20000 in
theorem gX11_of_X1_boatOf : GoodIn wsX11_of (wsV RX11 155 RX1 yX1_boatOf wsX1_boatOf) := goodIn_app (goodIn_q _ [(26, 4)] rfl rfl) ggX11_of_X1_boatOf
set_option maxRecDepth 20000 in
theorem ggX11_of_X3_isParted : GoodIn wsX11_of wsX3_isParted := goodIn_q _ [(36, 2), (48, 8)] rfl gdwsX3_isParted
set_option maxRecDepth 20000 in
theorem gX11_of_X3_isParted : GoodIn wsX11_of (wsV RX11 164 RX3 yX3_isParted wsX3_isParted) := goodIn_app (goodIn_q _ [(32, 4)] rfl rfl) ggX11_of_X3_isParted
theorem lk_dX11_of_0 : th_dr cX11_of 0 = 42 :: 180 :: 0 :: 10 :: 27 :: 182 :: 0 :: 137 :: 78 :: 45 :: 199 :: 0 :: 9 :: 42 :: 4 :: 182 :: 0 :: 68 :: 172 :: 28 :: th_dr cX11_of 20 := rfl
theorem bl_dX11_of_0 : decode cX11_of 0 = .ok (.aload_n 0, 1) ∧ decode cX11_of 1 = .ok (.getfield 10, 3) ∧ decode cX11_of 4 = .ok (.iload_n 1, 1) ∧ decode cX11_of 5 = .ok (.invokevirtual 137, 3) ∧ decode cX11_of 8 = .ok (.astore_n 3, 1) ∧ decode cX11_of 9 = .ok (.aload_n 3, 1) ∧ decode cX11_of 10 = .ok (.ifnonnull 9, 3) ∧ decode cX11_of 13 = .ok (.aload_n 0, 1) ∧ decode cX11_of 14 = .ok (.iconst 1, 1) ∧ decode cX11_of 15 = .ok (.invokevirtual 68, 3) ∧ decode cX11_of 18 = .ok (.ireturn, 1) ∧ decode cX11_of 19 = .ok (.iload_n 2, 1) := op_42 lk_dX11_of_0 fun e => op_180 e fun e => op_27 e fun e => op_182 e fun e => op_78 e fun e => op_45 e fun e => op_199p e rfl fun e => op_42 e fun e => op_4 e fun e => op_182 e fun e => op_172 e fun e => (op_28 e fun _ => True.intro).1
theorem dX11_of_0 : decode cX11_of 0 = .ok (.aload_n 0, 1) := bl_dX11_of_0.1
theorem dX11_of_1 : decode cX11_of 1 = .ok (.getfield 10, 3) := bl_dX11_of_0.2.1
theorem dX11_of_4 : decode cX11_of 4 = .ok (.iload_n 1, 1) := bl_dX11_of_0.2.2.1
theorem dX11_of_5 : decode cX11_of 5 = .ok (.invokevirtual 137, 3) := bl_dX11_of_0.2.2.2.1
theorem dX11_of_8 : decode cX11_of 8 = .ok (.astore_n 3, 1) := bl_dX11_of_0.2.2.2.2.1
theorem dX11_of_9 : decode cX11_of 9 = .ok (.aload_n 3, 1) := bl_dX11_of_0.2.2.2.2.2.1
theorem dX11_of_10 : decode cX11_of 10 = .ok (.ifnonnull 9, 3) := bl_dX11_of_0.2.2.2.2.2.2.1
theorem dX11_of_13 : decode cX11_of 13 = .ok (.aload_n 0, 1) := bl_dX11_of_0.2.2.2.2.2.2.2.1
theorem dX11_of_14 : decode cX11_of 14 = .ok (.iconst 1, 1) := bl_dX11_of_0.2.2.2.2.2.2.2.2.1
theorem dX11_of_15 : decode cX11_of 15 = .ok (.invokevirtual 68, 3) := bl_dX11_of_0.2.2.2.2.2.2.2.2.2.1
theorem dX11_of_18 : decode cX11_of 18 = .ok (.ireturn, 1) := bl_dX11_of_0.2.2.2.2.2.2.2.2.2.2.1
theorem dX11_of_19 : decode cX11_of 19 = .ok (.iload_n 2, 1) := bl_dX11_of_0.2.2.2.2.2.2.2.2.2.2.2
theorem dX11_of_20 : decode cX11_of 20 = .ok (.tableswitch 103 0 7 #[48, 53, 58, 63, 68, 80, 85, 90], 48) := by decide +kernel
set_option maxRecDepth 20000 in
theorem lk_dX11_of_68 : th_dr cX11_of 68 = 45 :: 180 :: 0 :: 141 :: 172 :: 45 :: 180 :: 0 :: 146 :: 172 :: 45 :: 180 :: 0 :: 149 :: 172 :: 45 :: 180 :: 0 :: 152 :: 172 :: 42 :: 180 :: 0 :: 10 :: 180 :: 0 :: 125 :: 27 :: th_dr cX11_of 96 := rfl
theorem bl_dX11_of_68 : decode cX11_of 68 = .ok (.aload_n 3, 1) ∧ decode cX11_of 69 = .ok (.getfield 141, 3) ∧ decode cX11_of 72 = .ok (.ireturn, 1) ∧ decode cX11_of 73 = .ok (.aload_n 3, 1) ∧ decode cX11_of 74 = .ok (.getfield 146, 3) ∧ decode cX11_of 77 = .ok (.ireturn, 1) ∧ decode cX11_of 78 = .ok (.aload_n 3, 1) ∧ decode cX11_of 79 = .ok (.getfield 149, 3) ∧ decode cX11_of 82 = .ok (.ireturn, 1) ∧ decode cX11_of 83 = .ok (.aload_n 3, 1) ∧ decode cX11_of 84 = .ok (.getfield 152, 3) ∧ decode cX11_of 87 = .ok (.ireturn, 1) ∧ decode cX11_of 88 = .ok (.aload_n 0, 1) ∧ decode cX11_of 89 = .ok (.getfield 10, 3) ∧ decode cX11_of 92 = .ok (.getfield 125, 3) ∧ decode cX11_of 95 = .ok (.iload_n 1, 1) := op_45 lk_dX11_of_68 fun e => op_180 e fun e => op_172 e fun e => op_45 e fun e => op_180 e fun e => op_172 e fun e => op_45 e fun e => op_180 e fun e => op_172 e fun e => op_45 e fun e => op_180 e fun e => op_172 e fun e => op_42 e fun e => op_180 e fun e => op_180 e fun e => (op_27 e fun _ => True.intro).1
theorem dX11_of_68 : decode cX11_of 68 = .ok (.aload_n 3, 1) := bl_dX11_of_68.1
theorem dX11_of_69 : decode cX11_of 69 = .ok (.getfield 141, 3) := bl_dX11_of_68.2.1
theorem dX11_of_72 : decode cX11_of 72 = .ok (.ireturn, 1) := bl_dX11_of_68.2.2.1
theorem dX11_of_73 : decode cX11_of 73 = .ok (.aload_n 3, 1) := bl_dX11_of_68.2.2.2.1
theorem dX11_of_74 : decode cX11_of 74 = .ok (.getfield 146, 3) := bl_dX11_of_68.2.2.2.2.1
theorem dX11_of_77 : decode cX11_of 77 = .ok (.ireturn, 1) := bl_dX11_of_68.2.2.2.2.2.1
theorem dX11_of_78 : decode cX11_of 78 = .ok (.aload_n 3, 1) := bl_dX11_of_68.2.2.2.2.2.2.1
theorem dX11_of_79 : decode cX11_of 79 = .ok (.getfield 149, 3) := bl_dX11_of_68.2.2.2.2.2.2.2.1
theorem dX11_of_82 : decode cX11_of 82 = .ok (.ireturn, 1) := bl_dX11_of_68.2.2.2.2.2.2.2.2.1
theorem dX11_of_83 : decode cX11_of 83 = .ok (.aload_n 3, 1) := bl_dX11_of_68.2.2.2.2.2.2.2.2.2.1
theorem dX11_of_84 : decode cX11_of 84 = .ok (.getfield 152, 3) := bl_dX11_of_68.2.2.2.2.2.2.2.2.2.2.1
theorem dX11_of_87 : decode cX11_of 87 = .ok (.ireturn, 1) := bl_dX11_of_68.2.2.2.2.2.2.2.2.2.2.2.1
theorem dX11_of_88 : decode cX11_of 88 = .ok (.aload_n 0, 1) := bl_dX11_of_68.2.2.2.2.2.2.2.2.2.2.2.2.1
theorem dX11_of_89 : decode cX11_of 89 = .ok (.getfield 10, 3) := bl_dX11_of_68.2.2.2.2.2.2.2.2.2.2.2.2.2.1
theorem dX11_of_92 : decode cX11_of 92 = .ok (.getfield 125, 3) := bl_dX11_of_68.2.2.2.2.2.2.2.2.2.2.2.2.2.2.1
theorem dX11_of_95 : decode cX11_of 95 = .ok (.iload_n 1, 1) := bl_dX11_of_68.2.2.2.2.2.2.2.2.2.2.2.2.2.2.2
set_option maxRecDepth 20000 in
theorem lk_dX11_of_96 : th_dr cX11_of 96 = 182 :: 0 :: 155 :: 172 :: 45 :: 180 :: 0 :: 158 :: 172 :: 45 :: 180 :: 0 :: 161 :: 172 :: 45 :: 182 :: 0 :: 164 :: 153 :: 0 :: 7 :: 4 :: 167 :: 0 :: 4 :: 3 :: 172 :: 42 :: th_dr cX11_of 124 := rfl
theorem bl_dX11_of_96 : decode cX11_of 96 = .ok (.invokevirtual 155, 3) ∧ decode cX11_of 99 = .ok (.ireturn, 1) ∧ decode cX11_of 100 = .ok (.aload_n 3, 1) ∧ decode cX11_of 101 = .ok (.getfield 158, 3) ∧ decode cX11_of 104 = .ok (.ireturn, 1) ∧ decode cX11_of 105 = .ok (.aload_n 3, 1) ∧ decode cX11_of 106 = .ok (.getfield 161, 3) ∧ decode cX11_of 109 = .ok (.ireturn, 1) ∧ decode cX11_of 110 = .ok (.aload_n 3, 1) ∧ decode cX11_of 111 = .ok (.invokevirtual 164, 3) ∧ decode cX11_of 114 = .ok (.ifCond .eq 7, 3) ∧ decode cX11_of 117 = .ok (.iconst 1, 1) ∧ decode cX11_of 118 = .ok (.goto 4, 3) ∧ decode cX11_of 121 = .ok (.iconst 0, 1) ∧ decode cX11_of 122 = .ok (.ireturn, 1) ∧ decode cX11_of 123 = .ok (.aload_n 0, 1) := op_182 lk_dX11_of_96 fun e => op_172 e fun e => op_45 e fun e => op_180 e fun e => op_172 e fun e => op_45 e fun e => op_180 e fun e => op_172 e fun e => op_45 e fun e => op_182 e fun e => op_153p e rfl fun e => op_4 e fun e => op_167p e rfl fun e => op_3 e fun e => op_172 e fun e => (op_42 e fun _ => True.intro).1
theorem dX11_of_96 : decode cX11_of 96 = .ok (.invokevirtual 155, 3) := bl_dX11_of_96.1
theorem dX11_of_99 : decode cX11_of 99 = .ok (.ireturn, 1) := bl_dX11_of_96.2.1
theorem dX11_of_100 : decode cX11_of 100 = .ok (.aload_n 3, 1) := bl_dX11_of_96.2.2.1
theorem dX11_of_101 : decode cX11_of 101 = .ok (.getfield 158, 3) := bl_dX11_of_96.2.2.2.1
theorem dX11_of_104 : decode cX11_of 104 = .ok (.ireturn, 1) := bl_dX11_of_96.2.2.2.2.1
theorem dX11_of_105 : decode cX11_of 105 = .ok (.aload_n 3, 1) := bl_dX11_of_96.2.2.2.2.2.1
theorem dX11_of_106 : decode cX11_of 106 = .ok (.getfield 161, 3) := bl_dX11_of_96.2.2.2.2.2.2.1
theorem dX11_of_109 : decode cX11_of 109 = .ok (.ireturn, 1) := bl_dX11_of_96.2.2.2.2.2.2.2.1
theorem dX11_of_110 : decode cX11_of 110 = .ok (.aload_n 3, 1) := bl_dX11_of_96.2.2.2.2.2.2.2.2.1
theorem dX11_of_111 : decode cX11_of 111 = .ok (.invokevirtual 164, 3) := bl_dX11_of_96.2.2.2.2.2.2.2.2.2.1
theorem dX11_of_114 : decode cX11_of 114 = .ok (.ifCond .eq 7, 3) := bl_dX11_of_96.2.2.2.2.2.2.2.2.2.2.1
theorem dX11_of_117 : decode cX11_of 117 = .ok (.iconst 1, 1) := bl_dX11_of_96.2.2.2.2.2.2.2.2.2.2.2.1
theorem dX11_of_118 : decode cX11_of 118 = .ok (.goto 4, 3) := bl_dX11_of_96.2.2.2.2.2.2.2.2.2.2.2.2.1
theorem dX11_of_121 : decode cX11_of 121 = .ok (.iconst 0, 1) := bl_dX11_of_96.2.2.2.2.2.2.2.2.2.2.2.2.2.1
theorem dX11_of_122 : decode cX11_of 122 = .ok (.ireturn, 1) := bl_dX11_of_96.2.2.2.2.2.2.2.2.2.2.2.2.2.2.1
theorem dX11_of_123 : decode cX11_of 123 = .ok (.aload_n 0, 1) := bl_dX11_of_96.2.2.2.2.2.2.2.2.2.2.2.2.2.2.2
set_option maxRecDepth 20000 in
theorem lk_dX11_of_124 : th_dr cX11_of 124 = 4 :: 182 :: 0 :: 68 :: 172 :: th_dr cX11_of 129 := rfl
theorem bl_dX11_of_124 : decode cX11_of 124 = .ok (.iconst 1, 1) ∧ decode cX11_of 125 = .ok (.invokevirtual 68, 3) ∧ decode cX11_of 128 = .ok (.ireturn, 1) := op_4 lk_dX11_of_124 fun e => op_182 e fun e => (op_172 e fun _ => True.intro).1
theorem dX11_of_124 : decode cX11_of 124 = .ok (.iconst 1, 1) := bl_dX11_of_124.1
theorem dX11_of_125 : decode cX11_of 125 = .ok (.invokevirtual 68, 3) := bl_dX11_of_124.2.1
theorem dX11_of_128 : decode cX11_of 128 = .ok (.ireturn, 1) := bl_dX11_of_124.2.2
set_option maxRecDepth 20000 in
theorem ggX11_out_X0_boatAt : GoodIn wsX11_out wsX0_boatAt := goodIn_q _ [(6, 6), (59, 9)] rfl gdwsX0_boatAt
set_option maxRecDepth 20000 in
theorem gX11_out_X0_boatAt : GoodIn wsX11_out (wsV RX11 90 RX0 yX0_boatAt wsX0_boatAt) := goodIn_app (goodIn_q _ [(2, 4)] rfl rfl) ggX11_out_X0_boatAt
set_option maxRecDepth 20000 in
theorem ggX11_out_X0_buoyAt : GoodIn wsX11_out wsX0_buoyAt := goodIn_q _ [(15, 3), (9, 3), (59, 9)] rfl gdwsX0_buoyAt
set_option maxRecDepth 20000 in
theorem gX11_out_X0_buoyAt : GoodIn wsX11_out (wsV RX11 137 RX0 yX0_buoyAt wsX0_buoyAt) := goodIn_app (goodIn_q _ [(12, 3), (5, 1)] rfl rfl) ggX11_out_X0_buoyAt
set_option maxRecDepth 20000 in
theorem ggX11_out_X11_isHour : GoodIn wsX11_out wsX11_isHour := goodIn_q _ [(20, 2), (9, 3)] rfl gdwsX11_isHour
set_option maxRecDepth 20000 in
theorem gX11_out_X11_isHour : GoodIn wsX11_out (va_wsS RX11 102 yX11_isHour wsX11_isHour) := goodIn_app (goodIn_q _ [(18, 2), (10, 1)] rfl rfl) ggX11_out_X11_isHour
set_option maxRecDepth 20000 in
theorem ggX11_out_X11_finding : GoodIn wsX11_out wsX11_finding := goodIn_q _ [(25, 3), (21, 1), (9, 3), (49, 10)] rfl gdwsX11_finding
set_option maxRecDepth 20000 in
theorem gX11_out_X11_finding : GoodIn wsX11_out (wsV RX11 68 RX11 yX11_finding wsX11_finding) := goodIn_app (goodIn_q _ [(22, 3), (10, 1)] rfl rfl) ggX11_out_X11_finding
set_option maxRecDepth 20000 in
theorem ggX11_out_X3_slackAt : GoodIn wsX11_out wsX3_slackAt := goodIn_q _ [(32, 2), (68, 8)] rfl gdwsX3_slackAt
set_option maxRecDepth 20000 in
theorem gX11_out_X3_slackAt : GoodIn wsX11_out (wsV RX11 168 RX3 yX3_slackAt wsX3_slackAt) := goodIn_app (goodIn_q _ [(28, 4)] rfl rfl) ggX11_out_X3_slackAt
set_option maxRecDepth 20000 in
theorem ggX11_out_X2_reach : GoodIn wsX11_out wsX2_reach := goodIn_q _ [(39, 2), (76, 18)] rfl gdwsX2_reach
set_option maxRecDepth 20000 in
theorem gX11_out_X2_reach_u171X4 : GoodIn wsX11_out (va_wsU RX11 171 RX4 "BayMoorings$Boat" ⟨"BayMoorings$Boat", "reach", "()I"⟩ yX2_reach wsX2_reach) := goodIn_app (goodIn_q _ [(34, 5)] rfl rfl) ggX11_out_X2_reach
set_option maxRecDepth 20000 in
theorem gX11_out_X2_reach_u171X8 : GoodIn wsX11_out (va_wsU RX11 171 RX8 "BayMoorings$Boat" ⟨"BayMoorings$Boat", "reach", "()I"⟩ yX2_reach wsX2_reach) := goodIn_app (goodIn_q _ [(34, 2), (41, 1), (37, 2)] rfl rfl) ggX11_out_X2_reach
set_option maxRecDepth 20000 in
theorem ggX11_out_X9_reach : GoodIn wsX11_out wsX9_reach := goodIn_q _ [(46, 3), (76, 18)] rfl gdwsX9_reach
set_option maxRecDepth 20000 in
theorem gX11_out_X9_reach_u171X9 : GoodIn wsX11_out (va_wsO RX11 171 RX9 "BayMoorings$Boat" ⟨"BayMoorings$Boat", "reach", "()I"⟩ yX9_reach wsX9_reach) := goodIn_app (goodIn_q _ [(34, 2), (37, 1), (43, 3)] rfl rfl) ggX11_out_X9_reach
theorem lk_dX11_out_0 : th_dr cX11_out 0 = 42 :: 180 :: 0 :: 10 :: 27 :: 182 :: 0 :: 90 :: 58 :: 4 :: 42 :: 180 :: 0 :: 10 :: 28 :: 182 :: 0 :: 137 :: 58 :: 5 :: 25 :: 4 :: 198 :: 0 :: 15 :: 25 :: 5 :: 198 :: 0 :: 10 :: 29 :: 184 :: 0 :: 102 :: th_dr cX11_out 34 := rfl
theorem bl_dX11_out_0 : decode cX11_out 0 = .ok (.aload_n 0, 1) ∧ decode cX11_out 1 = .ok (.getfield 10, 3) ∧ decode cX11_out 4 = .ok (.iload_n 1, 1) ∧ decode cX11_out 5 = .ok (.invokevirtual 90, 3) ∧ decode cX11_out 8 = .ok (.astore 4, 2) ∧ decode cX11_out 10 = .ok (.aload_n 0, 1) ∧ decode cX11_out 11 = .ok (.getfield 10, 3) ∧ decode cX11_out 14 = .ok (.iload_n 2, 1) ∧ decode cX11_out 15 = .ok (.invokevirtual 137, 3) ∧ decode cX11_out 18 = .ok (.astore 5, 2) ∧ decode cX11_out 20 = .ok (.aload 4, 2) ∧ decode cX11_out 22 = .ok (.ifnull 15, 3) ∧ decode cX11_out 25 = .ok (.aload 5, 2) ∧ decode cX11_out 27 = .ok (.ifnull 10, 3) ∧ decode cX11_out 30 = .ok (.iload_n 3, 1) ∧ decode cX11_out 31 = .ok (.invokestatic 102, 3) := op_42 lk_dX11_out_0 fun e => op_180 e fun e => op_27 e fun e => op_182 e fun e => op_58 e fun e => op_42 e fun e => op_180 e fun e => op_28 e fun e => op_182 e fun e => op_58 e fun e => op_25 e fun e => op_198p e rfl fun e => op_25 e fun e => op_198p e rfl fun e => op_29 e fun e => (op_184 e fun _ => True.intro).1
theorem dX11_out_0 : decode cX11_out 0 = .ok (.aload_n 0, 1) := bl_dX11_out_0.1
theorem dX11_out_1 : decode cX11_out 1 = .ok (.getfield 10, 3) := bl_dX11_out_0.2.1
theorem dX11_out_4 : decode cX11_out 4 = .ok (.iload_n 1, 1) := bl_dX11_out_0.2.2.1
theorem dX11_out_5 : decode cX11_out 5 = .ok (.invokevirtual 90, 3) := bl_dX11_out_0.2.2.2.1
theorem dX11_out_8 : decode cX11_out 8 = .ok (.astore 4, 2) := bl_dX11_out_0.2.2.2.2.1
theorem dX11_out_10 : decode cX11_out 10 = .ok (.aload_n 0, 1) := bl_dX11_out_0.2.2.2.2.2.1
theorem dX11_out_11 : decode cX11_out 11 = .ok (.getfield 10, 3) := bl_dX11_out_0.2.2.2.2.2.2.1
theorem dX11_out_14 : decode cX11_out 14 = .ok (.iload_n 2, 1) := bl_dX11_out_0.2.2.2.2.2.2.2.1
theorem dX11_out_15 : decode cX11_out 15 = .ok (.invokevirtual 137, 3) := bl_dX11_out_0.2.2.2.2.2.2.2.2.1
theorem dX11_out_18 : decode cX11_out 18 = .ok (.astore 5, 2) := bl_dX11_out_0.2.2.2.2.2.2.2.2.2.1
theorem dX11_out_20 : decode cX11_out 20 = .ok (.aload 4, 2) := bl_dX11_out_0.2.2.2.2.2.2.2.2.2.2.1
theorem dX11_out_22 : decode cX11_out 22 = .ok (.ifnull 15, 3) := bl_dX11_out_0.2.2.2.2.2.2.2.2.2.2.2.1
theorem dX11_out_25 : decode cX11_out 25 = .ok (.aload 5, 2) := bl_dX11_out_0.2.2.2.2.2.2.2.2.2.2.2.2.1
theorem dX11_out_27 : decode cX11_out 27 = .ok (.ifnull 10, 3) := bl_dX11_out_0.2.2.2.2.2.2.2.2.2.2.2.2.2.1
theorem dX11_out_30 : decode cX11_out 30 = .ok (.iload_n 3, 1) := bl_dX11_out_0.2.2.2.2.2.2.2.2.2.2.2.2.2.2.1
theorem dX11_out_31 : decode cX11_out 31 = .ok (.invokestatic 102, 3) := bl_dX11_out_0.2.2.2.2.2.2.2.2.2.2.2.2.2.2.2
theorem lk_dX11_out_34 : th_dr cX11_out 34 = 154 :: 0 :: 9 :: 42 :: 4 :: 182 :: 0 :: 68 :: 172 :: 25 :: 5 :: 29 :: 182 :: 0 :: 168 :: 25 :: 4 :: 182 :: 0 :: 171 :: 96 :: 172 :: th_dr cX11_out 56 := rfl
theorem bl_dX11_out_34 : decode cX11_out 34 = .ok (.ifCond .ne 9, 3) ∧ decode cX11_out 37 = .ok (.aload_n 0, 1) ∧ decode cX11_out 38 = .ok (.iconst 1, 1) ∧ decode cX11_out 39 = .ok (.invokevirtual 68, 3) ∧ decode cX11_out 42 = .ok (.ireturn, 1) ∧ decode cX11_out 43 = .ok (.aload 5, 2) ∧ decode cX11_out 45 = .ok (.iload_n 3, 1) ∧ decode cX11_out 46 = .ok (.invokevirtual 168, 3) ∧ decode cX11_out 49 = .ok (.aload 4, 2) ∧ decode cX11_out 51 = .ok (.invokevirtual 171, 3) ∧ decode cX11_out 54 = .ok (.iadd, 1) ∧ decode cX11_out 55 = .ok (.ireturn, 1) := op_154p lk_dX11_out_34 rfl fun e => op_42 e fun e => op_4 e fun e => op_182 e fun e => op_172 e fun e => op_25 e fun e => op_29 e fun e => op_182 e fun e => op_25 e fun e => op_182 e fun e => op_96 e fun e => (op_172 e fun _ => True.intro).1
theorem dX11_out_34 : decode cX11_out 34 = .ok (.ifCond .ne 9, 3) := bl_dX11_out_34.1
theorem dX11_out_37 : decode cX11_out 37 = .ok (.aload_n 0, 1) := bl_dX11_out_34.2.1
theorem dX11_out_38 : decode cX11_out 38 = .ok (.iconst 1, 1) := bl_dX11_out_34.2.2.1
theorem dX11_out_39 : decode cX11_out 39 = .ok (.invokevirtual 68, 3) := bl_dX11_out_34.2.2.2.1
theorem dX11_out_42 : decode cX11_out 42 = .ok (.ireturn, 1) := bl_dX11_out_34.2.2.2.2.1
theorem dX11_out_43 : decode cX11_out 43 = .ok (.aload 5, 2) := bl_dX11_out_34.2.2.2.2.2.1
theorem dX11_out_45 : decode cX11_out 45 = .ok (.iload_n 3, 1) := bl_dX11_out_34.2.2.2.2.2.2.1
theorem dX11_out_46 : decode cX11_out 46 = .ok (.invokevirtual 168, 3) := bl_dX11_out_34.2.2.2.2.2.2.2.1
theorem dX11_out_49 : decode cX11_out 49 = .ok (.aload 4, 2) := bl_dX11_out_34.2.2.2.2.2.2.2.2.1
theorem dX11_out_51 : decode cX11_out 51 = .ok (.invokevirtual 171, 3) := bl_dX11_out_34.2.2.2.2.2.2.2.2.2.1
theorem dX11_out_54 : decode cX11_out 54 = .ok (.iadd, 1) := bl_dX11_out_34.2.2.2.2.2.2.2.2.2.2.1
theorem dX11_out_55 : decode cX11_out 55 = .ok (.ireturn, 1) := bl_dX11_out_34.2.2.2.2.2.2.2.2.2.2.2
set_option maxRecDepth 20000 in
theorem ggX11_fits_X0_boatAt : GoodIn wsX11_fits wsX0_boatAt := goodIn_q _ [(6, 6), (58, 9)] rfl gdwsX0_boatAt
set_option maxRecDepth 20000 in
theorem gX11_fits_X0_boatAt : GoodIn wsX11_fits (wsV RX11 90 RX0 yX0_boatAt wsX0_boatAt) := goodIn_app (goodIn_q _ [(2, 4)] rfl rfl) ggX11_fits_X0_boatAt
set_option maxRecDepth 20000 in
theorem ggX11_fits_X0_buoyAt : GoodIn wsX11_fits wsX0_buoyAt := goodIn_q _ [(15, 3), (9, 3), (58, 9)] rfl gdwsX0_buoyAt
set_option maxRecDepth 20000 in
theorem gX11_fits_X0_buoyAt : GoodIn wsX11_fits (wsV RX11 137 RX0 yX0_buoyAt wsX0_buoyAt) := goodIn_app (goodIn_q _ [(12, 3), (5, 1)] rfl rfl) ggX11_fits_X0_buoyAt
set_option maxRecDepth 20000 in
theorem ggX11_fits_X11_finding : GoodIn wsX11_fits wsX11_finding := goodIn_q _ [(21, 4), (9, 3), (48, 10)] rfl gdwsX11_finding
set_option maxRecDepth 20000 in
theorem gX11_fits_X11_finding : GoodIn wsX11_fits (wsV RX11 68 RX11 yX11_finding wsX11_finding) := goodIn_app (goodIn_q _ [(18, 3), (10, 1)] rfl rfl) ggX11_fits_X11_finding
set_option maxRecDepth 20000 in
theorem ggX11_fits_X0_suits : GoodIn wsX11_fits wsX0_suits := goodIn_q _ [(28, 20), (67, 26), (58, 9)] rfl gdwsX0_suits
set_option maxRecDepth 20000 in
theorem gX11_fits_X0_suits : GoodIn wsX11_fits (wsV RX11 174 RX0 yX0_suits wsX0_suits) := goodIn_app (goodIn_q _ [(25, 3), (5, 1)] rfl rfl) ggX11_fits_X0_suits
theorem lk_dX11_fits_0 : th_dr cX11_fits 0 = 42 :: 180 :: 0 :: 10 :: 27 :: 182 :: 0 :: 90 :: 78 :: 42 :: 180 :: 0 :: 10 :: 28 :: 182 :: 0 :: 137 :: 58 :: 4 :: 45 :: 198 :: 0 :: 8 :: 25 :: 4 :: 199 :: 0 :: 9 :: 42 :: 4 :: th_dr cX11_fits 30 := rfl
theorem bl_dX11_fits_0 : decode cX11_fits 0 = .ok (.aload_n 0, 1) ∧ decode cX11_fits 1 = .ok (.getfield 10, 3) ∧ decode cX11_fits 4 = .ok (.iload_n 1, 1) ∧ decode cX11_fits 5 = .ok (.invokevirtual 90, 3) ∧ decode cX11_fits 8 = .ok (.astore_n 3, 1) ∧ decode cX11_fits 9 = .ok (.aload_n 0, 1) ∧ decode cX11_fits 10 = .ok (.getfield 10, 3) ∧ decode cX11_fits 13 = .ok (.iload_n 2, 1) ∧ decode cX11_fits 14 = .ok (.invokevirtual 137, 3) ∧ decode cX11_fits 17 = .ok (.astore 4, 2) ∧ decode cX11_fits 19 = .ok (.aload_n 3, 1) ∧ decode cX11_fits 20 = .ok (.ifnull 8, 3) ∧ decode cX11_fits 23 = .ok (.aload 4, 2) ∧ decode cX11_fits 25 = .ok (.ifnonnull 9, 3) ∧ decode cX11_fits 28 = .ok (.aload_n 0, 1) ∧ decode cX11_fits 29 = .ok (.iconst 1, 1) := op_42 lk_dX11_fits_0 fun e => op_180 e fun e => op_27 e fun e => op_182 e fun e => op_78 e fun e => op_42 e fun e => op_180 e fun e => op_28 e fun e => op_182 e fun e => op_58 e fun e => op_45 e fun e => op_198p e rfl fun e => op_25 e fun e => op_199p e rfl fun e => op_42 e fun e => (op_4 e fun _ => True.intro).1
theorem dX11_fits_0 : decode cX11_fits 0 = .ok (.aload_n 0, 1) := bl_dX11_fits_0.1
theorem dX11_fits_1 : decode cX11_fits 1 = .ok (.getfield 10, 3) := bl_dX11_fits_0.2.1
theorem dX11_fits_4 : decode cX11_fits 4 = .ok (.iload_n 1, 1) := bl_dX11_fits_0.2.2.1
theorem dX11_fits_5 : decode cX11_fits 5 = .ok (.invokevirtual 90, 3) := bl_dX11_fits_0.2.2.2.1
theorem dX11_fits_8 : decode cX11_fits 8 = .ok (.astore_n 3, 1) := bl_dX11_fits_0.2.2.2.2.1
theorem dX11_fits_9 : decode cX11_fits 9 = .ok (.aload_n 0, 1) := bl_dX11_fits_0.2.2.2.2.2.1
theorem dX11_fits_10 : decode cX11_fits 10 = .ok (.getfield 10, 3) := bl_dX11_fits_0.2.2.2.2.2.2.1
theorem dX11_fits_13 : decode cX11_fits 13 = .ok (.iload_n 2, 1) := bl_dX11_fits_0.2.2.2.2.2.2.2.1
theorem dX11_fits_14 : decode cX11_fits 14 = .ok (.invokevirtual 137, 3) := bl_dX11_fits_0.2.2.2.2.2.2.2.2.1
theorem dX11_fits_17 : decode cX11_fits 17 = .ok (.astore 4, 2) := bl_dX11_fits_0.2.2.2.2.2.2.2.2.2.1
theorem dX11_fits_19 : decode cX11_fits 19 = .ok (.aload_n 3, 1) := bl_dX11_fits_0.2.2.2.2.2.2.2.2.2.2.1
theorem dX11_fits_20 : decode cX11_fits 20 = .ok (.ifnull 8, 3) := bl_dX11_fits_0.2.2.2.2.2.2.2.2.2.2.2.1
theorem dX11_fits_23 : decode cX11_fits 23 = .ok (.aload 4, 2) := bl_dX11_fits_0.2.2.2.2.2.2.2.2.2.2.2.2.1
theorem dX11_fits_25 : decode cX11_fits 25 = .ok (.ifnonnull 9, 3) := bl_dX11_fits_0.2.2.2.2.2.2.2.2.2.2.2.2.2.1
theorem dX11_fits_28 : decode cX11_fits 28 = .ok (.aload_n 0, 1) := bl_dX11_fits_0.2.2.2.2.2.2.2.2.2.2.2.2.2.2.1
theorem dX11_fits_29 : decode cX11_fits 29 = .ok (.iconst 1, 1) := bl_dX11_fits_0.2.2.2.2.2.2.2.2.2.2.2.2.2.2.2
theorem lk_dX11_fits_30 : th_dr cX11_fits 30 = 182 :: 0 :: 68 :: 172 :: 42 :: 180 :: 0 :: 10 :: 45 :: 25 :: 4 :: 182 :: 0 :: 174 :: 153 :: 0 :: 7 :: 4 :: 167 :: 0 :: 4 :: 3 :: 172 :: th_dr cX11_fits 53 := rfl
theorem bl_dX11_fits_30 : decode cX11_fits 30 = .ok (.invokevirtual 68, 3) ∧ decode cX11_fits 33 = .ok (.ireturn, 1) ∧ decode cX11_fits 34 = .ok (.aload_n 0, 1) ∧ decode cX11_fits 35 = .ok (.getfield 10, 3) ∧ decode cX11_fits 38 = .ok (.aload_n 3, 1) ∧ decode cX11_fits 39 = .ok (.aload 4, 2) ∧ decode cX11_fits 41 = .ok (.invokevirtual 174, 3) ∧ decode cX11_fits 44 = .ok (.ifCond .eq 7, 3) ∧ decode cX11_fits 47 = .ok (.iconst 1, 1) ∧ decode cX11_fits 48 = .ok (.goto 4, 3) ∧ decode cX11_fits 51 = .ok (.iconst 0, 1) ∧ decode cX11_fits 52 = .ok (.ireturn, 1) := op_182 lk_dX11_fits_30 fun e => op_172 e fun e => op_42 e fun e => op_180 e fun e => op_45 e fun e => op_25 e fun e => op_182 e fun e => op_153p e rfl fun e => op_4 e fun e => op_167p e rfl fun e => op_3 e fun e => (op_172 e fun _ => True.intro).1
theorem dX11_fits_30 : decode cX11_fits 30 = .ok (.invokevirtual 68, 3) := bl_dX11_fits_30.1
theorem dX11_fits_33 : decode cX11_fits 33 = .ok (.ireturn, 1) := bl_dX11_fits_30.2.1
theorem dX11_fits_34 : decode cX11_fits 34 = .ok (.aload_n 0, 1) := bl_dX11_fits_30.2.2.1
theorem dX11_fits_35 : decode cX11_fits 35 = .ok (.getfield 10, 3) := bl_dX11_fits_30.2.2.2.1
theorem dX11_fits_38 : decode cX11_fits 38 = .ok (.aload_n 3, 1) := bl_dX11_fits_30.2.2.2.2.1
theorem dX11_fits_39 : decode cX11_fits 39 = .ok (.aload 4, 2) := bl_dX11_fits_30.2.2.2.2.2.1
theorem dX11_fits_41 : decode cX11_fits 41 = .ok (.invokevirtual 174, 3) := bl_dX11_fits_30.2.2.2.2.2.2.1
theorem dX11_fits_44 : decode cX11_fits 44 = .ok (.ifCond .eq 7, 3) := bl_dX11_fits_30.2.2.2.2.2.2.2.1
theorem dX11_fits_47 : decode cX11_fits 47 = .ok (.iconst 1, 1) := bl_dX11_fits_30.2.2.2.2.2.2.2.2.1
theorem dX11_fits_48 : decode cX11_fits 48 = .ok (.goto 4, 3) := bl_dX11_fits_30.2.2.2.2.2.2.2.2.2.1
theorem dX11_fits_51 : decode cX11_fits 51 = .ok (.iconst 0, 1) := bl_dX11_fits_30.2.2.2.2.2.2.2.2.2.2.1
theorem dX11_fits_52 : decode cX11_fits 52 = .ok (.ireturn, 1) := bl_dX11_fits_30.2.2.2.2.2.2.2.2.2.2.2
set_option maxRecDepth 20000 in
theorem ggX11_touch_X0_boatAt : GoodIn wsX11_touch wsX0_boatAt := goodIn_q _ [(6, 6), (85, 9)] rfl gdwsX0_boatAt
set_option maxRecDepth 20000 in
theorem gX11_touch_X0_boatAt : GoodIn wsX11_touch (wsV RX11 90 RX0 yX0_boatAt wsX0_boatAt) := goodIn_app (goodIn_q _ [(2, 4)] rfl rfl) ggX11_touch_X0_boatAt
set_option maxRecDepth 20000 in
theorem ggX11_touch_X0_buoyAt : GoodIn wsX11_touch wsX0_buoyAt := goodIn_q _ [(15, 3), (9, 3), (85, 9)] rfl gdwsX0_buoyAt
set_option maxRecDepth 20000 in
theorem gX11_touch_X0_buoyAt : GoodIn wsX11_touch (wsV RX11 137 RX0 yX0_buoyAt wsX0_buoyAt) := goodIn_app (goodIn_q _ [(12, 3), (5, 1)] rfl rfl) ggX11_touch_X0_buoyAt
set_option maxRecDepth 20000 in
theorem ggX11_touch_X11_finding : GoodIn wsX11_touch wsX11_finding := goodIn_q _ [(21, 4), (9, 3), (75, 10)] rfl gdwsX11_finding
set_option maxRecDepth 20000 in
theorem gX11_touch_X11_finding : GoodIn wsX11_touch (wsV RX11 68 RX11 yX11_finding wsX11_finding) := goodIn_app (goodIn_q _ [(18, 3), (10, 1)] rfl rfl) ggX11_touch_X11_finding
set_option maxRecDepth 20000 in
theorem ggX11_touch_X0_firstTouch : GoodIn wsX11_touch wsX0_firstTouch := goodIn_q _ [(28, 28), (5, 1), (56, 19), (94, 8), (85, 9), (102, 18)] rfl gdwsX0_firstTouch
set_option maxRecDepth 20000 in
theorem gX11_touch_X0_firstTouch : GoodIn wsX11_touch (wsV RX11 178 RX0 yX0_firstTouch wsX0_firstTouch) := goodIn_app (goodIn_q _ [(25, 3), (5, 1)] rfl rfl) ggX11_touch_X0_firstTouch
theorem lk_dX11_touch_0 : th_dr cX11_touch 0 = 42 :: 180 :: 0 :: 10 :: 27 :: 182 :: 0 :: 90 :: 58 :: 5 :: 42 :: 180 :: 0 :: 10 :: 28 :: 182 :: 0 :: 137 :: 58 :: 6 :: 42 :: 180 :: 0 :: 10 :: 29 :: 182 :: 0 :: 90 :: 58 :: 7 :: 42 :: th_dr cX11_touch 31 := rfl
theorem bl_dX11_touch_0 : decode cX11_touch 0 = .ok (.aload_n 0, 1) ∧ decode cX11_touch 1 = .ok (.getfield 10, 3) ∧ decode cX11_touch 4 = .ok (.iload_n 1, 1) ∧ decode cX11_touch 5 = .ok (.invokevirtual 90, 3) ∧ decode cX11_touch 8 = .ok (.astore 5, 2) ∧ decode cX11_touch 10 = .ok (.aload_n 0, 1) ∧ decode cX11_touch 11 = .ok (.getfield 10, 3) ∧ decode cX11_touch 14 = .ok (.iload_n 2, 1) ∧ decode cX11_touch 15 = .ok (.invokevirtual 137, 3) ∧ decode cX11_touch 18 = .ok (.astore 6, 2) ∧ decode cX11_touch 20 = .ok (.aload_n 0, 1) ∧ decode cX11_touch 21 = .ok (.getfield 10, 3) ∧ decode cX11_touch 24 = .ok (.iload_n 3, 1) ∧ decode cX11_touch 25 = .ok (.invokevirtual 90, 3) ∧ decode cX11_touch 28 = .ok (.astore 7, 2) ∧ decode cX11_touch 30 = .ok (.aload_n 0, 1) := op_42 lk_dX11_touch_0 fun e => op_180 e fun e => op_27 e fun e => op_182 e fun e => op_58 e fun e => op_42 e fun e => op_180 e fun e => op_28 e fun e => op_182 e fun e => op_58 e fun e => op_42 e fun e => op_180 e fun e => op_29 e fun e => op_182 e fun e => op_58 e fun e => (op_42 e fun _ => True.intro).1
theorem dX11_touch_0 : decode cX11_touch 0 = .ok (.aload_n 0, 1) := bl_dX11_touch_0.1
theorem dX11_touch_1 : decode cX11_touch 1 = .ok (.getfield 10, 3) := bl_dX11_touch_0.2.1
theorem dX11_touch_4 : decode cX11_touch 4 = .ok (.iload_n 1, 1) := bl_dX11_touch_0.2.2.1
theorem dX11_touch_5 : decode cX11_touch 5 = .ok (.invokevirtual 90, 3) := bl_dX11_touch_0.2.2.2.1
theorem dX11_touch_8 : decode cX11_touch 8 = .ok (.astore 5, 2) := bl_dX11_touch_0.2.2.2.2.1
theorem dX11_touch_10 : decode cX11_touch 10 = .ok (.aload_n 0, 1) := bl_dX11_touch_0.2.2.2.2.2.1
theorem dX11_touch_11 : decode cX11_touch 11 = .ok (.getfield 10, 3) := bl_dX11_touch_0.2.2.2.2.2.2.1
theorem dX11_touch_14 : decode cX11_touch 14 = .ok (.iload_n 2, 1) := bl_dX11_touch_0.2.2.2.2.2.2.2.1
theorem dX11_touch_15 : decode cX11_touch 15 = .ok (.invokevirtual 137, 3) := bl_dX11_touch_0.2.2.2.2.2.2.2.2.1
theorem dX11_touch_18 : decode cX11_touch 18 = .ok (.astore 6, 2) := bl_dX11_touch_0.2.2.2.2.2.2.2.2.2.1
theorem dX11_touch_20 : decode cX11_touch 20 = .ok (.aload_n 0, 1) := bl_dX11_touch_0.2.2.2.2.2.2.2.2.2.2.1
theorem dX11_touch_21 : decode cX11_touch 21 = .ok (.getfield 10, 3) := bl_dX11_touch_0.2.2.2.2.2.2.2.2.2.2.2.1
theorem dX11_touch_24 : decode cX11_touch 24 = .ok (.iload_n 3, 1) := bl_dX11_touch_0.2.2.2.2.2.2.2.2.2.2.2.2.1
theorem dX11_touch_25 : decode cX11_touch 25 = .ok (.invokevirtual 90, 3) := bl_dX11_touch_0.2.2.2.2.2.2.2.2.2.2.2.2.2.1
theorem dX11_touch_28 : decode cX11_touch 28 = .ok (.astore 7, 2) := bl_dX11_touch_0.2.2.2.2.2.2.2.2.2.2.2.2.2.2.1
theorem dX11_touch_30 : decode cX11_touch 30 = .ok (.aload_n 0, 1) := bl_dX11_touch_0.2.2.2.2.2.2.2.2.2.2.2.2.2.2.2
set_option maxRecDepth 20000 in
theorem lk_dX11_touch_31 : th_dr cX11_touch 31 = 180 :: 0 :: 10 :: 21 :: 4 :: 182 :: 0 :: 137 :: 58 :: 8 :: 25 :: 5 :: 198 :: 0 :: 18 :: 25 :: 6 :: 198 :: 0 :: 13 :: 25 :: 7 :: 198 :: 0 :: 8 :: 25 :: 8 :: 199 :: 0 :: 9 :: 42 :: 4 :: 182 :: 0 :: 68 :: 172 :: th_dr cX11_touch 67 := rfl
theorem bl_dX11_touch_31 : decode cX11_touch 31 = .ok (.getfield 10, 3) ∧ decode cX11_touch 34 = .ok (.iload 4, 2) ∧ decode cX11_touch 36 = .ok (.invokevirtual 137, 3) ∧ decode cX11_touch 39 = .ok (.astore 8, 2) ∧ decode cX11_touch 41 = .ok (.aload 5, 2) ∧ decode cX11_touch 43 = .ok (.ifnull 18, 3) ∧ decode cX11_touch 46 = .ok (.aload 6, 2) ∧ decode cX11_touch 48 = .ok (.ifnull 13, 3) ∧ decode cX11_touch 51 = .ok (.aload 7, 2) ∧ decode cX11_touch 53 = .ok (.ifnull 8, 3) ∧ decode cX11_touch 56 = .ok (.aload 8, 2) ∧ decode cX11_touch 58 = .ok (.ifnonnull 9, 3) ∧ decode cX11_touch 61 = .ok (.aload_n 0, 1) ∧ decode cX11_touch 62 = .ok (.iconst 1, 1) ∧ decode cX11_touch 63 = .ok (.invokevirtual 68, 3) ∧ decode cX11_touch 66 = .ok (.ireturn, 1) := op_180 lk_dX11_touch_31 fun e => op_21 e fun e => op_182 e fun e => op_58 e fun e => op_25 e fun e => op_198p e rfl fun e => op_25 e fun e => op_198p e rfl fun e => op_25 e fun e => op_198p e rfl fun e => op_25 e fun e => op_199p e rfl fun e => op_42 e fun e => op_4 e fun e => op_182 e fun e => (op_172 e fun _ => True.intro).1
theorem dX11_touch_31 : decode cX11_touch 31 = .ok (.getfield 10, 3) := bl_dX11_touch_31.1
theorem dX11_touch_34 : decode cX11_touch 34 = .ok (.iload 4, 2) := bl_dX11_touch_31.2.1
theorem dX11_touch_36 : decode cX11_touch 36 = .ok (.invokevirtual 137, 3) := bl_dX11_touch_31.2.2.1
theorem dX11_touch_39 : decode cX11_touch 39 = .ok (.astore 8, 2) := bl_dX11_touch_31.2.2.2.1
theorem dX11_touch_41 : decode cX11_touch 41 = .ok (.aload 5, 2) := bl_dX11_touch_31.2.2.2.2.1
theorem dX11_touch_43 : decode cX11_touch 43 = .ok (.ifnull 18, 3) := bl_dX11_touch_31.2.2.2.2.2.1
theorem dX11_touch_46 : decode cX11_touch 46 = .ok (.aload 6, 2) := bl_dX11_touch_31.2.2.2.2.2.2.1
theorem dX11_touch_48 : decode cX11_touch 48 = .ok (.ifnull 13, 3) := bl_dX11_touch_31.2.2.2.2.2.2.2.1
theorem dX11_touch_51 : decode cX11_touch 51 = .ok (.aload 7, 2) := bl_dX11_touch_31.2.2.2.2.2.2.2.2.1
theorem dX11_touch_53 : decode cX11_touch 53 = .ok (.ifnull 8, 3) := bl_dX11_touch_31.2.2.2.2.2.2.2.2.2.1
theorem dX11_touch_56 : decode cX11_touch 56 = .ok (.aload 8, 2) := bl_dX11_touch_31.2.2.2.2.2.2.2.2.2.2.1
theorem dX11_touch_58 : decode cX11_touch 58 = .ok (.ifnonnull 9, 3) := bl_dX11_touch_31.2.2.2.2.2.2.2.2.2.2.2.1
theorem dX11_touch_61 : decode cX11_touch 61 = .ok (.aload_n 0, 1) := bl_dX11_touch_31.2.2.2.2.2.2.2.2.2.2.2.2.1
theorem dX11_touch_62 : decode cX11_touch 62 = .ok (.iconst 1, 1) := bl_dX11_touch_31.2.2.2.2.2.2.2.2.2.2.2.2.2.1
theorem dX11_touch_63 : decode cX11_touch 63 = .ok (.invokevirtual 68, 3) := bl_dX11_touch_31.2.2.2.2.2.2.2.2.2.2.2.2.2.2.1
theorem dX11_touch_66 : decode cX11_touch 66 = .ok (.ireturn, 1) := bl_dX11_touch_31.2.2.2.2.2.2.2.2.2.2.2.2.2.2.2
set_option maxRecDepth 20000 in
theorem lk_dX11_touch_67 : th_dr cX11_touch 67 = 27 :: 29 :: 159 :: 0 :: 9 :: 28 :: 21 :: 4 :: 160 :: 0 :: 9 :: 42 :: 4 :: 182 :: 0 :: 68 :: 172 :: 42 :: 180 :: 0 :: 10 :: 25 :: 5 :: 25 :: 6 :: 25 :: 7 :: 25 :: 8 :: th_dr cX11_touch 96 := rfl
theorem bl_dX11_touch_67 : decode cX11_touch 67 = .ok (.iload_n 1, 1) ∧ decode cX11_touch 68 = .ok (.iload_n 3, 1) ∧ decode cX11_touch 69 = .ok (.if_icmp .eq 9, 3) ∧ decode cX11_touch 72 = .ok (.iload_n 2, 1) ∧ decode cX11_touch 73 = .ok (.iload 4, 2) ∧ decode cX11_touch 75 = .ok (.if_icmp .ne 9, 3) ∧ decode cX11_touch 78 = .ok (.aload_n 0, 1) ∧ decode cX11_touch 79 = .ok (.iconst 1, 1) ∧ decode cX11_touch 80 = .ok (.invokevirtual 68, 3) ∧ decode cX11_touch 83 = .ok (.ireturn, 1) ∧ decode cX11_touch 84 = .ok (.aload_n 0, 1) ∧ decode cX11_touch 85 = .ok (.getfield 10, 3) ∧ decode cX11_touch 88 = .ok (.aload 5, 2) ∧ decode cX11_touch 90 = .ok (.aload 6, 2) ∧ decode cX11_touch 92 = .ok (.aload 7, 2) ∧ decode cX11_touch 94 = .ok (.aload 8, 2) := op_27 lk_dX11_touch_67 fun e => op_29 e fun e => op_159p e rfl fun e => op_28 e fun e => op_21 e fun e => op_160p e rfl fun e => op_42 e fun e => op_4 e fun e => op_182 e fun e => op_172 e fun e => op_42 e fun e => op_180 e fun e => op_25 e fun e => op_25 e fun e => op_25 e fun e => (op_25 e fun _ => True.intro).1
theorem dX11_touch_67 : decode cX11_touch 67 = .ok (.iload_n 1, 1) := bl_dX11_touch_67.1
theorem dX11_touch_68 : decode cX11_touch 68 = .ok (.iload_n 3, 1) := bl_dX11_touch_67.2.1
theorem dX11_touch_69 : decode cX11_touch 69 = .ok (.if_icmp .eq 9, 3) := bl_dX11_touch_67.2.2.1
theorem dX11_touch_72 : decode cX11_touch 72 = .ok (.iload_n 2, 1) := bl_dX11_touch_67.2.2.2.1
theorem dX11_touch_73 : decode cX11_touch 73 = .ok (.iload 4, 2) := bl_dX11_touch_67.2.2.2.2.1
theorem dX11_touch_75 : decode cX11_touch 75 = .ok (.if_icmp .ne 9, 3) := bl_dX11_touch_67.2.2.2.2.2.1
theorem dX11_touch_78 : decode cX11_touch 78 = .ok (.aload_n 0, 1) := bl_dX11_touch_67.2.2.2.2.2.2.1
theorem dX11_touch_79 : decode cX11_touch 79 = .ok (.iconst 1, 1) := bl_dX11_touch_67.2.2.2.2.2.2.2.1
theorem dX11_touch_80 : decode cX11_touch 80 = .ok (.invokevirtual 68, 3) := bl_dX11_touch_67.2.2.2.2.2.2.2.2.1
theorem dX11_touch_83 : decode cX11_touch 83 = .ok (.ireturn, 1) := bl_dX11_touch_67.2.2.2.2.2.2.2.2.2.1
theorem dX11_touch_84 : decode cX11_touch 84 = .ok (.aload_n 0, 1) := bl_dX11_touch_67.2.2.2.2.2.2.2.2.2.2.1
theorem dX11_touch_85 : decode cX11_touch 85 = .ok (.getfield 10, 3) := bl_dX11_touch_67.2.2.2.2.2.2.2.2.2.2.2.1
theorem dX11_touch_88 : decode cX11_touch 88 = .ok (.aload 5, 2) := bl_dX11_touch_67.2.2.2.2.2.2.2.2.2.2.2.2.1
theorem dX11_touch_90 : decode cX11_touch 90 = .ok (.aload 6, 2) := bl_dX11_touch_67.2.2.2.2.2.2.2.2.2.2.2.2.2.1
theorem dX11_touch_92 : decode cX11_touch 92 = .ok (.aload 7, 2) := bl_dX11_touch_67.2.2.2.2.2.2.2.2.2.2.2.2.2.2.1
theorem dX11_touch_94 : decode cX11_touch 94 = .ok (.aload 8, 2) := bl_dX11_touch_67.2.2.2.2.2.2.2.2.2.2.2.2.2.2.2
set_option maxRecDepth 20000 in
theorem lk_dX11_touch_96 : th_dr cX11_touch 96 = 182 :: 0 :: 178 :: 172 :: th_dr cX11_touch 100 := rfl
theorem bl_dX11_touch_96 : decode cX11_touch 96 = .ok (.invokevirtual 178, 3) ∧ decode cX11_touch 99 = .ok (.ireturn, 1) := op_182 lk_dX11_touch_96 fun e => (op_172 e fun _ => True.intro).1
theorem dX11_touch_96 : decode cX11_touch 96 = .ok (.invokevirtual 178, 3) := bl_dX11_touch_96.1
theorem dX11_touch_99 : decode cX11_touch 99 = .ok (.ireturn, 1) := bl_dX11_touch_96.2
set_option maxRecDepth 20000 in
theorem ggX11_moor_X0_boatAt : GoodIn wsX11_moor wsX0_boatAt := goodIn_q _ [(8, 6), (145, 9)] rfl gdwsX0_boatAt
set_option maxRecDepth 20000 in
theorem gX11_moor_X0_boatAt : GoodIn wsX11_moor (wsV RX11 90 RX0 yX0_boatAt wsX0_boatAt) := goodIn_app (goodIn_q _ [(4, 4)] rfl rfl) ggX11_moor_X0_boatAt
set_option maxRecDepth 20000 in
theorem ggX11_moor_X0_buoyAt : GoodIn wsX11_moor wsX0_buoyAt := goodIn_q _ [(17, 3), (11, 3), (145, 9)] rfl gdwsX0_buoyAt
set_option maxRecDepth 20000 in
theorem gX11_moor_X0_buoyAt : GoodIn wsX11_moor (wsV RX11 137 RX0 yX0_buoyAt wsX0_buoyAt) := goodIn_app (goodIn_q _ [(14, 3), (7, 1)] rfl rfl) ggX11_moor_X0_buoyAt
set_option maxRecDepth 20000 in
theorem ggX11_moor_X11_finding : GoodIn wsX11_moor wsX11_finding := goodIn_q _ [(23, 4), (11, 3), (135, 10)] rfl gdwsX11_finding
set_option maxRecDepth 20000 in
theorem gX11_moor_X11_finding : GoodIn wsX11_moor (wsV RX11 68 RX11 yX11_finding wsX11_finding) := goodIn_app (goodIn_q _ [(20, 3), (12, 1)] rfl rfl) ggX11_moor_X11_finding
set_option maxRecDepth 20000 in
theorem ggX11_moor_X1_buoyOf : GoodIn wsX11_moor wsX1_buoyOf := goodIn_q _ [(31, 2), (11, 3), (154, 2)] rfl gdwsX1_buoyOf
set_option maxRecDepth 20000 in
theorem gX11_moor_X1_buoyOf : GoodIn wsX11_moor (wsV RX11 129 RX1 yX1_buoyOf wsX1_buoyOf) := goodIn_app (goodIn_q _ [(27, 4)] rfl rfl) ggX11_moor_X1_buoyOf
set_option maxRecDepth 20000 in
theorem ggX11_moor_X1_boatOf : GoodIn wsX11_moor wsX1_boatOf := goodIn_q _ [(36, 2), (11, 3), (154, 2)] rfl gdwsX1_boatOf
set_option maxRecDepth 20000 in
theorem gX11_moor_X1_boatOf : GoodIn wsX11_moor (wsV RX11 155 RX1 yX1_boatOf wsX1_boatOf) := goodIn_app (goodIn_q _ [(33, 3), (30, 1)] rfl rfl) ggX11_moor_X1_boatOf
set_option maxRecDepth 20000 in
theorem ggX11_moor_X0_mayLie : GoodIn wsX11_moor wsX0_mayLie := goodIn_q _ [(41, 2), (9, 1), (43, 2), (34, 2), (30, 1), (36, 2), (11, 3), (45, 3), (7, 1), (48, 21), (5, 2), (8, 1), (10, 1), (69, 1), (28, 2), (31, 2), (70, 1), (15, 5), (71, 49), (156, 8), (145, 9), (164, 18), (154, 2)] rfl gdwsX0_mayLie
set_option maxRecDepth 20000 in
theorem gX11_moor_X0_mayLie : GoodIn wsX11_moor (wsV RX11 182 RX0 yX0_mayLie wsX0_mayLie) := goodIn_app (goodIn_q _ [(38, 3), (7, 1)] rfl rfl) ggX11_moor_X0_mayLie
set_option maxRecDepth 20000 in
theorem ggX11_moor_X1_put : GoodIn wsX11_moor wsX1_put := goodIn_q _ [(123, 1), (32, 1), (37, 1), (11, 3), (154, 2)] rfl gdwsX1_put
set_option maxRecDepth 20000 in
theorem gX11_moor_X1_put : GoodIn wsX11_moor (wsV RX11 186 RX1 yX1_put wsX1_put) := goodIn_app (goodIn_q _ [(120, 3), (30, 1)] rfl rfl) ggX11_moor_X1_put
set_option maxRecDepth 20000 in
theorem ggX11_moor_X10_placeOf : GoodIn wsX11_moor wsX10_placeOf := goodIn_q _ [(128, 3), (182, 3)] rfl gdwsX10_placeOf
set_option maxRecDepth 20000 in
theorem gX11_moor_X10_placeOf : GoodIn wsX11_moor (wsV RX11 134 RX10 yX10_placeOf wsX10_placeOf) := goodIn_app (goodIn_q _ [(124, 4)] rfl rfl) ggX11_moor_X10_placeOf
set_option maxRecDepth 20000 in
theorem gdwsX10_drop : wsX10_drop.all goodWord = true := by decide +kernel
set_option maxRecDepth 20000 in
theorem ggX11_moor_X10_drop : GoodIn wsX11_moor wsX10_drop := goodIn_q _ [(134, 1), (129, 2), (11, 3), (182, 3)] rfl gdwsX10_drop
set_option maxRecDepth 20000 in
theorem gX11_moor_X10_drop : GoodIn wsX11_moor (wsV RX11 189 RX10 yX10_drop wsX10_drop) := goodIn_app (goodIn_q _ [(131, 3), (127, 1)] rfl rfl) ggX11_moor_X10_drop
theorem lk_dX11_moor_0 : th_dr cX11_moor 0 = 42 :: 180 :: 0 :: 10 :: 27 :: 182 :: 0 :: 90 :: 78 :: 42 :: 180 :: 0 :: 10 :: 28 :: 182 :: 0 :: 137 :: 58 :: 4 :: 45 :: 198 :: 0 :: 8 :: 25 :: 4 :: 199 :: 0 :: 9 :: 42 :: 4 :: th_dr cX11_moor 30 := rfl
theorem bl_dX11_moor_0 : decode cX11_moor 0 = .ok (.aload_n 0, 1) ∧ decode cX11_moor 1 = .ok (.getfield 10, 3) ∧ decode cX11_moor 4 = .ok (.iload_n 1, 1) ∧ decode cX11_moor 5 = .ok (.invokevirtual 90, 3) ∧ decode cX11_moor 8 = .ok (.astore_n 3, 1) ∧ decode cX11_moor 9 = .ok (.aload_n 0, 1) ∧ decode cX11_moor 10 = .ok (.getfield 10, 3) ∧ decode cX11_moor 13 = .ok (.iload_n 2, 1) ∧ decode cX11_moor 14 = .ok (.invokevirtual 137, 3) ∧ decode cX11_moor 17 = .ok (.astore 4, 2) ∧ decode cX11_moor 19 = .ok (.aload_n 3, 1) ∧ decode cX11_moor 20 = .ok (.ifnull 8, 3) ∧ decode cX11_moor 23 = .ok (.aload 4, 2) ∧ decode cX11_moor 25 = .ok (.ifnonnull 9, 3) ∧ decode cX11_moor 28 = .ok (.aload_n 0, 1) ∧ decode cX11_moor 29 = .ok (.iconst 1, 1) := op_42 lk_dX11_moor_0 fun e => op_180 e fun e => op_27 e fun e => op_182 e fun e => op_78 e fun e => op_42 e fun e => op_180 e fun e => op_28 e fun e => op_182 e fun e => op_58 e fun e => op_45 e fun e => op_198p e rfl fun e => op_25 e fun e => op_199p e rfl fun e => op_42 e fun e => (op_4 e fun _ => True.intro).1
theorem dX11_moor_0 : decode cX11_moor 0 = .ok (.aload_n 0, 1) := bl_dX11_moor_0.1
theorem dX11_moor_1 : decode cX11_moor 1 = .ok (.getfield 10, 3) := bl_dX11_moor_0.2.1
theorem dX11_moor_4 : decode cX11_moor 4 = .ok (.iload_n 1, 1) := bl_dX11_moor_0.2.2.1
theorem dX11_moor_5 : decode cX11_moor 5 = .ok (.invokevirtual 90, 3) := bl_dX11_moor_0.2.2.2.1
theorem dX11_moor_8 : decode cX11_moor 8 = .ok (.astore_n 3, 1) := bl_dX11_moor_0.2.2.2.2.1
theorem dX11_moor_9 : decode cX11_moor 9 = .ok (.aload_n 0, 1) := bl_dX11_moor_0.2.2.2.2.2.1
theorem dX11_moor_10 : decode cX11_moor 10 = .ok (.getfield 10, 3) := bl_dX11_moor_0.2.2.2.2.2.2.1
theorem dX11_moor_13 : decode cX11_moor 13 = .ok (.iload_n 2, 1) := bl_dX11_moor_0.2.2.2.2.2.2.2.1
theorem dX11_moor_14 : decode cX11_moor 14 = .ok (.invokevirtual 137, 3) := bl_dX11_moor_0.2.2.2.2.2.2.2.2.1
theorem dX11_moor_17 : decode cX11_moor 17 = .ok (.astore 4, 2) := bl_dX11_moor_0.2.2.2.2.2.2.2.2.2.1
theorem dX11_moor_19 : decode cX11_moor 19 = .ok (.aload_n 3, 1) := bl_dX11_moor_0.2.2.2.2.2.2.2.2.2.2.1
theorem dX11_moor_20 : decode cX11_moor 20 = .ok (.ifnull 8, 3) := bl_dX11_moor_0.2.2.2.2.2.2.2.2.2.2.2.1
theorem dX11_moor_23 : decode cX11_moor 23 = .ok (.aload 4, 2) := bl_dX11_moor_0.2.2.2.2.2.2.2.2.2.2.2.2.1
theorem dX11_moor_25 : decode cX11_moor 25 = .ok (.ifnonnull 9, 3) := bl_dX11_moor_0.2.2.2.2.2.2.2.2.2.2.2.2.2.1
theorem dX11_moor_28 : decode cX11_moor 28 = .ok (.aload_n 0, 1) := bl_dX11_moor_0.2.2.2.2.2.2.2.2.2.2.2.2.2.2.1
theorem dX11_moor_29 : decode cX11_moor 29 = .ok (.iconst 1, 1) := bl_dX11_moor_0.2.2.2.2.2.2.2.2.2.2.2.2.2.2.2
set_option maxRecDepth 20000 in
theorem lk_dX11_moor_30 : th_dr cX11_moor 30 = 182 :: 0 :: 68 :: 172 :: 42 :: 180 :: 0 :: 10 :: 180 :: 0 :: 125 :: 27 :: 182 :: 0 :: 129 :: 2 :: 160 :: 0 :: 18 :: 42 :: 180 :: 0 :: 10 :: 180 :: 0 :: 125 :: 28 :: 182 :: 0 :: 155 :: 2 :: 159 :: 0 :: 9 :: th_dr cX11_moor 64 := rfl
theorem bl_dX11_moor_30 : decode cX11_moor 30 = .ok (.invokevirtual 68, 3) ∧ decode cX11_moor 33 = .ok (.ireturn, 1) ∧ decode cX11_moor 34 = .ok (.aload_n 0, 1) ∧ decode cX11_moor 35 = .ok (.getfield 10, 3) ∧ decode cX11_moor 38 = .ok (.getfield 125, 3) ∧ decode cX11_moor 41 = .ok (.iload_n 1, 1) ∧ decode cX11_moor 42 = .ok (.invokevirtual 129, 3) ∧ decode cX11_moor 45 = .ok (.iconst (-1), 1) ∧ decode cX11_moor 46 = .ok (.if_icmp .ne 18, 3) ∧ decode cX11_moor 49 = .ok (.aload_n 0, 1) ∧ decode cX11_moor 50 = .ok (.getfield 10, 3) ∧ decode cX11_moor 53 = .ok (.getfield 125, 3) ∧ decode cX11_moor 56 = .ok (.iload_n 2, 1) ∧ decode cX11_moor 57 = .ok (.invokevirtual 155, 3) ∧ decode cX11_moor 60 = .ok (.iconst (-1), 1) ∧ decode cX11_moor 61 = .ok (.if_icmp .eq 9, 3) := op_182 lk_dX11_moor_30 fun e => op_172 e fun e => op_42 e fun e => op_180 e fun e => op_180 e fun e => op_27 e fun e => op_182 e fun e => op_2 e fun e => op_160p e rfl fun e => op_42 e fun e => op_180 e fun e => op_180 e fun e => op_28 e fun e => op_182 e fun e => op_2 e fun e => (op_159p e rfl fun _ => True.intro).1
theorem dX11_moor_30 : decode cX11_moor 30 = .ok (.invokevirtual 68, 3) := bl_dX11_moor_30.1
theorem dX11_moor_33 : decode cX11_moor 33 = .ok (.ireturn, 1) := bl_dX11_moor_30.2.1
theorem dX11_moor_34 : decode cX11_moor 34 = .ok (.aload_n 0, 1) := bl_dX11_moor_30.2.2.1
theorem dX11_moor_35 : decode cX11_moor 35 = .ok (.getfield 10, 3) := bl_dX11_moor_30.2.2.2.1
theorem dX11_moor_38 : decode cX11_moor 38 = .ok (.getfield 125, 3) := bl_dX11_moor_30.2.2.2.2.1
theorem dX11_moor_41 : decode cX11_moor 41 = .ok (.iload_n 1, 1) := bl_dX11_moor_30.2.2.2.2.2.1
theorem dX11_moor_42 : decode cX11_moor 42 = .ok (.invokevirtual 129, 3) := bl_dX11_moor_30.2.2.2.2.2.2.1
theorem dX11_moor_45 : decode cX11_moor 45 = .ok (.iconst (-1), 1) := bl_dX11_moor_30.2.2.2.2.2.2.2.1
theorem dX11_moor_46 : decode cX11_moor 46 = .ok (.if_icmp .ne 18, 3) := bl_dX11_moor_30.2.2.2.2.2.2.2.2.1
theorem dX11_moor_49 : decode cX11_moor 49 = .ok (.aload_n 0, 1) := bl_dX11_moor_30.2.2.2.2.2.2.2.2.2.1
theorem dX11_moor_50 : decode cX11_moor 50 = .ok (.getfield 10, 3) := bl_dX11_moor_30.2.2.2.2.2.2.2.2.2.2.1
theorem dX11_moor_53 : decode cX11_moor 53 = .ok (.getfield 125, 3) := bl_dX11_moor_30.2.2.2.2.2.2.2.2.2.2.2.1
theorem dX11_moor_56 : decode cX11_moor 56 = .ok (.iload_n 2, 1) := bl_dX11_moor_30.2.2.2.2.2.2.2.2.2.2.2.2.1
theorem dX11_moor_57 : decode cX11_moor 57 = .ok (.invokevirtual 155, 3) := bl_dX11_moor_30.2.2.2.2.2.2.2.2.2.2.2.2.2.1
theorem dX11_moor_60 : decode cX11_moor 60 = .ok (.iconst (-1), 1) := bl_dX11_moor_30.2.2.2.2.2.2.2.2.2.2.2.2.2.2.1
theorem dX11_moor_61 : decode cX11_moor 61 = .ok (.if_icmp .eq 9, 3) := bl_dX11_moor_30.2.2.2.2.2.2.2.2.2.2.2.2.2.2.2
set_option maxRecDepth 20000 in
theorem lk_dX11_moor_64 : th_dr cX11_moor 64 = 42 :: 6 :: 182 :: 0 :: 68 :: 172 :: 42 :: 180 :: 0 :: 10 :: 45 :: 25 :: 4 :: 42 :: 180 :: 0 :: 10 :: 180 :: 0 :: 125 :: 182 :: 0 :: 182 :: 154 :: 0 :: 9 :: 42 :: 5 :: 182 :: 0 :: 68 :: th_dr cX11_moor 95 := rfl
theorem bl_dX11_moor_64 : decode cX11_moor 64 = .ok (.aload_n 0, 1) ∧ decode cX11_moor 65 = .ok (.iconst 3, 1) ∧ decode cX11_moor 66 = .ok (.invokevirtual 68, 3) ∧ decode cX11_moor 69 = .ok (.ireturn, 1) ∧ decode cX11_moor 70 = .ok (.aload_n 0, 1) ∧ decode cX11_moor 71 = .ok (.getfield 10, 3) ∧ decode cX11_moor 74 = .ok (.aload_n 3, 1) ∧ decode cX11_moor 75 = .ok (.aload 4, 2) ∧ decode cX11_moor 77 = .ok (.aload_n 0, 1) ∧ decode cX11_moor 78 = .ok (.getfield 10, 3) ∧ decode cX11_moor 81 = .ok (.getfield 125, 3) ∧ decode cX11_moor 84 = .ok (.invokevirtual 182, 3) ∧ decode cX11_moor 87 = .ok (.ifCond .ne 9, 3) ∧ decode cX11_moor 90 = .ok (.aload_n 0, 1) ∧ decode cX11_moor 91 = .ok (.iconst 2, 1) ∧ decode cX11_moor 92 = .ok (.invokevirtual 68, 3) := op_42 lk_dX11_moor_64 fun e => op_6 e fun e => op_182 e fun e => op_172 e fun e => op_42 e fun e => op_180 e fun e => op_45 e fun e => op_25 e fun e => op_42 e fun e => op_180 e fun e => op_180 e fun e => op_182 e fun e => op_154p e rfl fun e => op_42 e fun e => op_5 e fun e => (op_182 e fun _ => True.intro).1
theorem dX11_moor_64 : decode cX11_moor 64 = .ok (.aload_n 0, 1) := bl_dX11_moor_64.1
theorem dX11_moor_65 : decode cX11_moor 65 = .ok (.iconst 3, 1) := bl_dX11_moor_64.2.1
theorem dX11_moor_66 : decode cX11_moor 66 = .ok (.invokevirtual 68, 3) := bl_dX11_moor_64.2.2.1
theorem dX11_moor_69 : decode cX11_moor 69 = .ok (.ireturn, 1) := bl_dX11_moor_64.2.2.2.1
theorem dX11_moor_70 : decode cX11_moor 70 = .ok (.aload_n 0, 1) := bl_dX11_moor_64.2.2.2.2.1
theorem dX11_moor_71 : decode cX11_moor 71 = .ok (.getfield 10, 3) := bl_dX11_moor_64.2.2.2.2.2.1
theorem dX11_moor_74 : decode cX11_moor 74 = .ok (.aload_n 3, 1) := bl_dX11_moor_64.2.2.2.2.2.2.1
theorem dX11_moor_75 : decode cX11_moor 75 = .ok (.aload 4, 2) := bl_dX11_moor_64.2.2.2.2.2.2.2.1
theorem dX11_moor_77 : decode cX11_moor 77 = .ok (.aload_n 0, 1) := bl_dX11_moor_64.2.2.2.2.2.2.2.2.1
theorem dX11_moor_78 : decode cX11_moor 78 = .ok (.getfield 10, 3) := bl_dX11_moor_64.2.2.2.2.2.2.2.2.2.1
theorem dX11_moor_81 : decode cX11_moor 81 = .ok (.getfield 125, 3) := bl_dX11_moor_64.2.2.2.2.2.2.2.2.2.2.1
theorem dX11_moor_84 : decode cX11_moor 84 = .ok (.invokevirtual 182, 3) := bl_dX11_moor_64.2.2.2.2.2.2.2.2.2.2.2.1
theorem dX11_moor_87 : decode cX11_moor 87 = .ok (.ifCond .ne 9, 3) := bl_dX11_moor_64.2.2.2.2.2.2.2.2.2.2.2.2.1
theorem dX11_moor_90 : decode cX11_moor 90 = .ok (.aload_n 0, 1) := bl_dX11_moor_64.2.2.2.2.2.2.2.2.2.2.2.2.2.1
theorem dX11_moor_91 : decode cX11_moor 91 = .ok (.iconst 2, 1) := bl_dX11_moor_64.2.2.2.2.2.2.2.2.2.2.2.2.2.2.1
theorem dX11_moor_92 : decode cX11_moor 92 = .ok (.invokevirtual 68, 3) := bl_dX11_moor_64.2.2.2.2.2.2.2.2.2.2.2.2.2.2.2
set_option maxRecDepth 20000 in
theorem lk_dX11_moor_95 : th_dr cX11_moor 95 = 172 :: 42 :: 180 :: 0 :: 10 :: 180 :: 0 :: 125 :: 27 :: 28 :: 182 :: 0 :: 186 :: 42 :: 180 :: 0 :: 21 :: 42 :: 180 :: 0 :: 21 :: 27 :: 182 :: 0 :: 134 :: 182 :: 0 :: 189 :: 4 :: 172 :: th_dr cX11_moor 125 := rfl
theorem bl_dX11_moor_95 : decode cX11_moor 95 = .ok (.ireturn, 1) ∧ decode cX11_moor 96 = .ok (.aload_n 0, 1) ∧ decode cX11_moor 97 = .ok (.getfield 10, 3) ∧ decode cX11_moor 100 = .ok (.getfield 125, 3) ∧ decode cX11_moor 103 = .ok (.iload_n 1, 1) ∧ decode cX11_moor 104 = .ok (.iload_n 2, 1) ∧ decode cX11_moor 105 = .ok (.invokevirtual 186, 3) ∧ decode cX11_moor 108 = .ok (.aload_n 0, 1) ∧ decode cX11_moor 109 = .ok (.getfield 21, 3) ∧ decode cX11_moor 112 = .ok (.aload_n 0, 1) ∧ decode cX11_moor 113 = .ok (.getfield 21, 3) ∧ decode cX11_moor 116 = .ok (.iload_n 1, 1) ∧ decode cX11_moor 117 = .ok (.invokevirtual 134, 3) ∧ decode cX11_moor 120 = .ok (.invokevirtual 189, 3) ∧ decode cX11_moor 123 = .ok (.iconst 1, 1) ∧ decode cX11_moor 124 = .ok (.ireturn, 1) := op_172 lk_dX11_moor_95 fun e => op_42 e fun e => op_180 e fun e => op_180 e fun e => op_27 e fun e => op_28 e fun e => op_182 e fun e => op_42 e fun e => op_180 e fun e => op_42 e fun e => op_180 e fun e => op_27 e fun e => op_182 e fun e => op_182 e fun e => op_4 e fun e => (op_172 e fun _ => True.intro).1
theorem dX11_moor_95 : decode cX11_moor 95 = .ok (.ireturn, 1) := bl_dX11_moor_95.1
theorem dX11_moor_96 : decode cX11_moor 96 = .ok (.aload_n 0, 1) := bl_dX11_moor_95.2.1
theorem dX11_moor_97 : decode cX11_moor 97 = .ok (.getfield 10, 3) := bl_dX11_moor_95.2.2.1
theorem dX11_moor_100 : decode cX11_moor 100 = .ok (.getfield 125, 3) := bl_dX11_moor_95.2.2.2.1
theorem dX11_moor_103 : decode cX11_moor 103 = .ok (.iload_n 1, 1) := bl_dX11_moor_95.2.2.2.2.1
theorem dX11_moor_104 : decode cX11_moor 104 = .ok (.iload_n 2, 1) := bl_dX11_moor_95.2.2.2.2.2.1
theorem dX11_moor_105 : decode cX11_moor 105 = .ok (.invokevirtual 186, 3) := bl_dX11_moor_95.2.2.2.2.2.2.1
theorem dX11_moor_108 : decode cX11_moor 108 = .ok (.aload_n 0, 1) := bl_dX11_moor_95.2.2.2.2.2.2.2.1
theorem dX11_moor_109 : decode cX11_moor 109 = .ok (.getfield 21, 3) := bl_dX11_moor_95.2.2.2.2.2.2.2.2.1
theorem dX11_moor_112 : decode cX11_moor 112 = .ok (.aload_n 0, 1) := bl_dX11_moor_95.2.2.2.2.2.2.2.2.2.1
theorem dX11_moor_113 : decode cX11_moor 113 = .ok (.getfield 21, 3) := bl_dX11_moor_95.2.2.2.2.2.2.2.2.2.2.1
theorem dX11_moor_116 : decode cX11_moor 116 = .ok (.iload_n 1, 1) := bl_dX11_moor_95.2.2.2.2.2.2.2.2.2.2.2.1
theorem dX11_moor_117 : decode cX11_moor 117 = .ok (.invokevirtual 134, 3) := bl_dX11_moor_95.2.2.2.2.2.2.2.2.2.2.2.2.1
theorem dX11_moor_120 : decode cX11_moor 120 = .ok (.invokevirtual 189, 3) := bl_dX11_moor_95.2.2.2.2.2.2.2.2.2.2.2.2.2.1
theorem dX11_moor_123 : decode cX11_moor 123 = .ok (.iconst 1, 1) := bl_dX11_moor_95.2.2.2.2.2.2.2.2.2.2.2.2.2.2.1
theorem dX11_moor_124 : decode cX11_moor 124 = .ok (.ireturn, 1) := bl_dX11_moor_95.2.2.2.2.2.2.2.2.2.2.2.2.2.2.2
set_option maxRecDepth 20000 in
theorem ggX11_leave_X0_boatAt : GoodIn wsX11_leave wsX0_boatAt := goodIn_q _ [(7, 6), (42, 9)] rfl gdwsX0_boatAt
set_option maxRecDepth 20000 in
theorem gX11_leave_X0_boatAt : GoodIn wsX11_leave (wsV RX11 90 RX0 yX0_boatAt wsX0_boatAt) := goodIn_app (goodIn_q _ [(3, 4)] rfl rfl) ggX11_leave_X0_boatAt
set_option maxRecDepth 20000 in
theorem ggX11_leave_X11_finding : GoodIn wsX11_leave wsX11_finding := goodIn_q _ [(16, 4), (10, 3), (32, 10)] rfl gdwsX11_finding
set_option maxRecDepth 20000 in
theorem gX11_leave_X11_finding : GoodIn wsX11_leave (wsV RX11 68 RX11 yX11_finding wsX11_finding) := goodIn_app (goodIn_q _ [(13, 3), (11, 1)] rfl rfl) ggX11_leave_X11_finding
set_option maxRecDepth 20000 in
theorem ggX11_leave_X1_buoyOf : GoodIn wsX11_leave wsX1_buoyOf := goodIn_q _ [(24, 2), (10, 3), (51, 2)] rfl gdwsX1_buoyOf
set_option maxRecDepth 20000 in
theorem gX11_leave_X1_buoyOf : GoodIn wsX11_leave (wsV RX11 129 RX1 yX1_buoyOf wsX1_buoyOf) := goodIn_app (goodIn_q _ [(20, 4)] rfl rfl) ggX11_leave_X1_buoyOf
set_option maxRecDepth 20000 in
theorem ggX11_leave_X1_lift : GoodIn wsX11_leave wsX1_lift := goodIn_q _ [(29, 2), (25, 1), (31, 1), (21, 4), (10, 3), (51, 2)] rfl gdwsX1_lift
set_option maxRecDepth 20000 in
theorem gX11_leave_X1_lift : GoodIn wsX11_leave (wsV RX11 193 RX1 yX1_lift wsX1_lift) := goodIn_app (goodIn_q _ [(26, 3), (23, 1)] rfl rfl) ggX11_leave_X1_lift
theorem lk_dX11_leave_0 : th_dr cX11_leave 0 = 42 :: 180 :: 0 :: 10 :: 27 :: 182 :: 0 :: 90 :: 199 :: 0 :: 9 :: 42 :: 4 :: 182 :: 0 :: 68 :: 172 :: 42 :: 180 :: 0 :: 10 :: 180 :: 0 :: 125 :: 27 :: 182 :: 0 :: 129 :: 61 :: 28 :: th_dr cX11_leave 30 := rfl
theorem bl_dX11_leave_0 : decode cX11_leave 0 = .ok (.aload_n 0, 1) ∧ decode cX11_leave 1 = .ok (.getfield 10, 3) ∧ decode cX11_leave 4 = .ok (.iload_n 1, 1) ∧ decode cX11_leave 5 = .ok (.invokevirtual 90, 3) ∧ decode cX11_leave 8 = .ok (.ifnonnull 9, 3) ∧ decode cX11_leave 11 = .ok (.aload_n 0, 1) ∧ decode cX11_leave 12 = .ok (.iconst 1, 1) ∧ decode cX11_leave 13 = .ok (.invokevirtual 68, 3) ∧ decode cX11_leave 16 = .ok (.ireturn, 1) ∧ decode cX11_leave 17 = .ok (.aload_n 0, 1) ∧ decode cX11_leave 18 = .ok (.getfield 10, 3) ∧ decode cX11_leave 21 = .ok (.getfield 125, 3) ∧ decode cX11_leave 24 = .ok (.iload_n 1, 1) ∧ decode cX11_leave 25 = .ok (.invokevirtual 129, 3) ∧ decode cX11_leave 28 = .ok (.istore_n 2, 1) ∧ decode cX11_leave 29 = .ok (.iload_n 2, 1) := op_42 lk_dX11_leave_0 fun e => op_180 e fun e => op_27 e fun e => op_182 e fun e => op_199p e rfl fun e => op_42 e fun e => op_4 e fun e => op_182 e fun e => op_172 e fun e => op_42 e fun e => op_180 e fun e => op_180 e fun e => op_27 e fun e => op_182 e fun e => op_61 e fun e => (op_28 e fun _ => True.intro).1
theorem dX11_leave_0 : decode cX11_leave 0 = .ok (.aload_n 0, 1) := bl_dX11_leave_0.1
theorem dX11_leave_1 : decode cX11_leave 1 = .ok (.getfield 10, 3) := bl_dX11_leave_0.2.1
theorem dX11_leave_4 : decode cX11_leave 4 = .ok (.iload_n 1, 1) := bl_dX11_leave_0.2.2.1
theorem dX11_leave_5 : decode cX11_leave 5 = .ok (.invokevirtual 90, 3) := bl_dX11_leave_0.2.2.2.1
theorem dX11_leave_8 : decode cX11_leave 8 = .ok (.ifnonnull 9, 3) := bl_dX11_leave_0.2.2.2.2.1
theorem dX11_leave_11 : decode cX11_leave 11 = .ok (.aload_n 0, 1) := bl_dX11_leave_0.2.2.2.2.2.1
theorem dX11_leave_12 : decode cX11_leave 12 = .ok (.iconst 1, 1) := bl_dX11_leave_0.2.2.2.2.2.2.1
theorem dX11_leave_13 : decode cX11_leave 13 = .ok (.invokevirtual 68, 3) := bl_dX11_leave_0.2.2.2.2.2.2.2.1
theorem dX11_leave_16 : decode cX11_leave 16 = .ok (.ireturn, 1) := bl_dX11_leave_0.2.2.2.2.2.2.2.2.1
theorem dX11_leave_17 : decode cX11_leave 17 = .ok (.aload_n 0, 1) := bl_dX11_leave_0.2.2.2.2.2.2.2.2.2.1
theorem dX11_leave_18 : decode cX11_leave 18 = .ok (.getfield 10, 3) := bl_dX11_leave_0.2.2.2.2.2.2.2.2.2.2.1
theorem dX11_leave_21 : decode cX11_leave 21 = .ok (.getfield 125, 3) := bl_dX11_leave_0.2.2.2.2.2.2.2.2.2.2.2.1
theorem dX11_leave_24 : decode cX11_leave 24 = .ok (.iload_n 1, 1) := bl_dX11_leave_0.2.2.2.2.2.2.2.2.2.2.2.2.1
theorem dX11_leave_25 : decode cX11_leave 25 = .ok (.invokevirtual 129, 3) := bl_dX11_leave_0.2.2.2.2.2.2.2.2.2.2.2.2.2.1
theorem dX11_leave_28 : decode cX11_leave 28 = .ok (.istore_n 2, 1) := bl_dX11_leave_0.2.2.2.2.2.2.2.2.2.2.2.2.2.2.1
theorem dX11_leave_29 : decode cX11_leave 29 = .ok (.iload_n 2, 1) := bl_dX11_leave_0.2.2.2.2.2.2.2.2.2.2.2.2.2.2.2
theorem lk_dX11_leave_30 : th_dr cX11_leave 30 = 2 :: 160 :: 0 :: 9 :: 42 :: 6 :: 182 :: 0 :: 68 :: 172 :: 42 :: 180 :: 0 :: 10 :: 180 :: 0 :: 125 :: 27 :: 182 :: 0 :: 193 :: 28 :: 172 :: th_dr cX11_leave 53 := rfl
theorem bl_dX11_leave_30 : decode cX11_leave 30 = .ok (.iconst (-1), 1) ∧ decode cX11_leave 31 = .ok (.if_icmp .ne 9, 3) ∧ decode cX11_leave 34 = .ok (.aload_n 0, 1) ∧ decode cX11_leave 35 = .ok (.iconst 3, 1) ∧ decode cX11_leave 36 = .ok (.invokevirtual 68, 3) ∧ decode cX11_leave 39 = .ok (.ireturn, 1) ∧ decode cX11_leave 40 = .ok (.aload_n 0, 1) ∧ decode cX11_leave 41 = .ok (.getfield 10, 3) ∧ decode cX11_leave 44 = .ok (.getfield 125, 3) ∧ decode cX11_leave 47 = .ok (.iload_n 1, 1) ∧ decode cX11_leave 48 = .ok (.invokevirtual 193, 3) ∧ decode cX11_leave 51 = .ok (.iload_n 2, 1) ∧ decode cX11_leave 52 = .ok (.ireturn, 1) := op_2 lk_dX11_leave_30 fun e => op_160p e rfl fun e => op_42 e fun e => op_6 e fun e => op_182 e fun e => op_172 e fun e => op_42 e fun e => op_180 e fun e => op_180 e fun e => op_27 e fun e => op_182 e fun e => op_28 e fun e => (op_172 e fun _ => True.intro).1
theorem dX11_leave_30 : decode cX11_leave 30 = .ok (.iconst (-1), 1) := bl_dX11_leave_30.1
theorem dX11_leave_31 : decode cX11_leave 31 = .ok (.if_icmp .ne 9, 3) := bl_dX11_leave_30.2.1
theorem dX11_leave_34 : decode cX11_leave 34 = .ok (.aload_n 0, 1) := bl_dX11_leave_30.2.2.1
theorem dX11_leave_35 : decode cX11_leave 35 = .ok (.iconst 3, 1) := bl_dX11_leave_30.2.2.2.1
theorem dX11_leave_36 : decode cX11_leave 36 = .ok (.invokevirtual 68, 3) := bl_dX11_leave_30.2.2.2.2.1
theorem dX11_leave_39 : decode cX11_leave 39 = .ok (.ireturn, 1) := bl_dX11_leave_30.2.2.2.2.2.1
theorem dX11_leave_40 : decode cX11_leave 40 = .ok (.aload_n 0, 1) := bl_dX11_leave_30.2.2.2.2.2.2.1
theorem dX11_leave_41 : decode cX11_leave 41 = .ok (.getfield 10, 3) := bl_dX11_leave_30.2.2.2.2.2.2.2.1
theorem dX11_leave_44 : decode cX11_leave 44 = .ok (.getfield 125, 3) := bl_dX11_leave_30.2.2.2.2.2.2.2.2.1
theorem dX11_leave_47 : decode cX11_leave 47 = .ok (.iload_n 1, 1) := bl_dX11_leave_30.2.2.2.2.2.2.2.2.2.1
theorem dX11_leave_48 : decode cX11_leave 48 = .ok (.invokevirtual 193, 3) := bl_dX11_leave_30.2.2.2.2.2.2.2.2.2.2.1
theorem dX11_leave_51 : decode cX11_leave 51 = .ok (.iload_n 2, 1) := bl_dX11_leave_30.2.2.2.2.2.2.2.2.2.2.2.1
theorem dX11_leave_52 : decode cX11_leave 52 = .ok (.ireturn, 1) := bl_dX11_leave_30.2.2.2.2.2.2.2.2.2.2.2.2
set_option maxRecDepth 20000 in
theorem gdwsJ6_bitCount_0f7a4 : wsJ6_bitCount_0f7a4.all goodWord = true := by decide +kernel
set_option maxRecDepth 20000 in
theorem ggX11_most_J6_bitCount_0f7a4 : GoodIn wsX11_most wsJ6_bitCount_0f7a4 := goodIn_q _ [(8, 4)] rfl gdwsJ6_bitCount_0f7a4
set_option maxRecDepth 20000 in
theorem gX11_most_J6_bitCount_0f7a4 : GoodIn wsX11_most (va_wsS RX11 196 yJ6_bitCount_0f7a4 wsJ6_bitCount_0f7a4) := goodIn_app (goodIn_q _ [(5, 3)] rfl rfl) ggX11_most_J6_bitCount_0f7a4
set_option maxRecDepth 20000 in
theorem ggX11_most_X11_within : GoodIn wsX11_most wsX11_within := goodIn_q _ [(15, 1)] rfl gdwsX11_within
set_option maxRecDepth 20000 in
theorem gX11_most_X11_within : GoodIn wsX11_most (va_wsS RX11 64 yX11_within wsX11_within) := goodIn_app (goodIn_q _ [(12, 3)] rfl rfl) ggX11_most_X11_within
set_option maxRecDepth 20000 in
theorem ggX11_most_X11_finding : GoodIn wsX11_most wsX11_finding := goodIn_q _ [(19, 3), (12, 4), (184, 10)] rfl gdwsX11_finding
set_option maxRecDepth 20000 in
theorem gX11_most_X11_finding : GoodIn wsX11_most (wsV RX11 68 RX11 yX11_finding wsX11_finding) := goodIn_app (goodIn_q _ [(16, 3), (14, 1)] rfl rfl) ggX11_most_X11_finding
set_option maxRecDepth 20000 in
theorem gdwsX0_anyLies : wsX0_anyLies.all goodWord = true := by decide +kernel
set_option maxRecDepth 20000 in
theorem ggX11_most_X0_anyLies : GoodIn wsX11_most wsX0_anyLies := goodIn_q _ [(26, 9), (13, 3), (194, 9), (211, 2)] rfl gdwsX0_anyLies
set_option maxRecDepth 20000 in
theorem gX11_most_X0_anyLies : GoodIn wsX11_most (wsV RX11 201 RX0 yX0_anyLies wsX0_anyLies) := goodIn_app (goodIn_q _ [(22, 4)] rfl rfl) ggX11_most_X0_anyLies
set_option maxRecDepth 20000 in
theorem gdwsX7_run : wsX7_run.all goodWord = true := by decide +kernel
set_option maxRecDepth 20000 in
theorem ggX11_most_X7_run : GoodIn wsX11_most wsX7_run := goodIn_q _ [(39, 11), (25, 1), (50, 1), (27, 1), (51, 1), (13, 3), (52, 3), (38, 1), (55, 18), (32, 1), (73, 26), (29, 3), (33, 2), (99, 81), (203, 8), (194, 9), (213, 26), (211, 2)] rfl gdwsX7_run
set_option maxRecDepth 20000 in
theorem gX11_most_X7_run : GoodIn wsX11_most (wsV RX11 204 RX7 yX7_run wsX7_run) := goodIn_app (goodIn_q _ [(35, 4)] rfl rfl) ggX11_most_X7_run
set_option maxRecDepth 20000 in
theorem gdwsX7_buoyFor : wsX7_buoyFor.all goodWord = true := by decide +kernel
set_option maxRecDepth 20000 in
theorem ggX11_most_X7_buoyFor : GoodIn wsX11_most wsX7_buoyFor := goodIn_q _ [(183, 1), (40, 1), (162, 1), (13, 3), (203, 8)] rfl gdwsX7_buoyFor
set_option maxRecDepth 20000 in
theorem gX11_most_X7_buoyFor : GoodIn wsX11_most (wsV RX11 210 RX7 yX7_buoyFor wsX7_buoyFor) := goodIn_app (goodIn_q _ [(180, 3), (38, 1)] rfl rfl) ggX11_most_X7_buoyFor
theorem lk_dX11_most_0 : th_dr cX11_most 0 = 27 :: 184 :: 0 :: 196 :: 62 :: 27 :: 42 :: 180 :: 0 :: 10 :: 180 :: 0 :: 83 :: 124 :: 154 :: 0 :: 7 :: 4 :: 167 :: 0 :: 4 :: 3 :: 54 :: 4 :: 21 :: 4 :: 153 :: 0 :: 17 :: 29 :: th_dr cX11_most 30 := rfl
theorem bl_dX11_most_0 : decode cX11_most 0 = .ok (.iload_n 1, 1) ∧ decode cX11_most 1 = .ok (.invokestatic 196, 3) ∧ decode cX11_most 4 = .ok (.istore_n 3, 1) ∧ decode cX11_most 5 = .ok (.iload_n 1, 1) ∧ decode cX11_most 6 = .ok (.aload_n 0, 1) ∧ decode cX11_most 7 = .ok (.getfield 10, 3) ∧ decode cX11_most 10 = .ok (.getfield 83, 3) ∧ decode cX11_most 13 = .ok (.iushr, 1) ∧ decode cX11_most 14 = .ok (.ifCond .ne 7, 3) ∧ decode cX11_most 17 = .ok (.iconst 1, 1) ∧ decode cX11_most 18 = .ok (.goto 4, 3) ∧ decode cX11_most 21 = .ok (.iconst 0, 1) ∧ decode cX11_most 22 = .ok (.istore 4, 2) ∧ decode cX11_most 24 = .ok (.iload 4, 2) ∧ decode cX11_most 26 = .ok (.ifCond .eq 17, 3) ∧ decode cX11_most 29 = .ok (.iload_n 3, 1) := op_27 lk_dX11_most_0 fun e => op_184 e fun e => op_62 e fun e => op_27 e fun e => op_42 e fun e => op_180 e fun e => op_180 e fun e => op_124 e fun e => op_154p e rfl fun e => op_4 e fun e => op_167p e rfl fun e => op_3 e fun e => op_54 e fun e => op_21 e fun e => op_153p e rfl fun e => (op_29 e fun _ => True.intro).1
theorem dX11_most_0 : decode cX11_most 0 = .ok (.iload_n 1, 1) := bl_dX11_most_0.1
theorem dX11_most_1 : decode cX11_most 1 = .ok (.invokestatic 196, 3) := bl_dX11_most_0.2.1
theorem dX11_most_4 : decode cX11_most 4 = .ok (.istore_n 3, 1) := bl_dX11_most_0.2.2.1
theorem dX11_most_5 : decode cX11_most 5 = .ok (.iload_n 1, 1) := bl_dX11_most_0.2.2.2.1
theorem dX11_most_6 : decode cX11_most 6 = .ok (.aload_n 0, 1) := bl_dX11_most_0.2.2.2.2.1
theorem dX11_most_7 : decode cX11_most 7 = .ok (.getfield 10, 3) := bl_dX11_most_0.2.2.2.2.2.1
theorem dX11_most_10 : decode cX11_most 10 = .ok (.getfield 83, 3) := bl_dX11_most_0.2.2.2.2.2.2.1
theorem dX11_most_13 : decode cX11_most 13 = .ok (.iushr, 1) := bl_dX11_most_0.2.2.2.2.2.2.2.1
theorem dX11_most_14 : decode cX11_most 14 = .ok (.ifCond .ne 7, 3) := bl_dX11_most_0.2.2.2.2.2.2.2.2.1
theorem dX11_most_17 : decode cX11_most 17 = .ok (.iconst 1, 1) := bl_dX11_most_0.2.2.2.2.2.2.2.2.2.1
theorem dX11_most_18 : decode cX11_most 18 = .ok (.goto 4, 3) := bl_dX11_most_0.2.2.2.2.2.2.2.2.2.2.1
theorem dX11_most_21 : decode cX11_most 21 = .ok (.iconst 0, 1) := bl_dX11_most_0.2.2.2.2.2.2.2.2.2.2.2.1
theorem dX11_most_22 : decode cX11_most 22 = .ok (.istore 4, 2) := bl_dX11_most_0.2.2.2.2.2.2.2.2.2.2.2.2.1
theorem dX11_most_24 : decode cX11_most 24 = .ok (.iload 4, 2) := bl_dX11_most_0.2.2.2.2.2.2.2.2.2.2.2.2.2.1
theorem dX11_most_26 : decode cX11_most 26 = .ok (.ifCond .eq 17, 3) := bl_dX11_most_0.2.2.2.2.2.2.2.2.2.2.2.2.2.2.1
theorem dX11_most_29 : decode cX11_most 29 = .ok (.iload_n 3, 1) := bl_dX11_most_0.2.2.2.2.2.2.2.2.2.2.2.2.2.2.2
theorem lk_dX11_most_30 : th_dr cX11_most 30 = 8 :: 163 :: 0 :: 12 :: 28 :: 3 :: 29 :: 184 :: 0 :: 64 :: 154 :: 0 :: 9 :: 42 :: 4 :: 182 :: 0 :: 68 :: 172 :: 42 :: 180 :: 0 :: 10 :: 27 :: 182 :: 0 :: 201 :: 153 :: 0 :: 9 :: th_dr cX11_most 60 := rfl
theorem bl_dX11_most_30 : decode cX11_most 30 = .ok (.iconst 5, 1) ∧ decode cX11_most 31 = .ok (.if_icmp .gt 12, 3) ∧ decode cX11_most 34 = .ok (.iload_n 2, 1) ∧ decode cX11_most 35 = .ok (.iconst 0, 1) ∧ decode cX11_most 36 = .ok (.iload_n 3, 1) ∧ decode cX11_most 37 = .ok (.invokestatic 64, 3) ∧ decode cX11_most 40 = .ok (.ifCond .ne 9, 3) ∧ decode cX11_most 43 = .ok (.aload_n 0, 1) ∧ decode cX11_most 44 = .ok (.iconst 1, 1) ∧ decode cX11_most 45 = .ok (.invokevirtual 68, 3) ∧ decode cX11_most 48 = .ok (.ireturn, 1) ∧ decode cX11_most 49 = .ok (.aload_n 0, 1) ∧ decode cX11_most 50 = .ok (.getfield 10, 3) ∧ decode cX11_most 53 = .ok (.iload_n 1, 1) ∧ decode cX11_most 54 = .ok (.invokevirtual 201, 3) ∧ decode cX11_most 57 = .ok (.ifCond .eq 9, 3) := op_8 lk_dX11_most_30 fun e => op_163p e rfl fun e => op_28 e fun e => op_3 e fun e => op_29 e fun e => op_184 e fun e => op_154p e rfl fun e => op_42 e fun e => op_4 e fun e => op_182 e fun e => op_172 e fun e => op_42 e fun e => op_180 e fun e => op_27 e fun e => op_182 e fun e => (op_153p e rfl fun _ => True.intro).1
theorem dX11_most_30 : decode cX11_most 30 = .ok (.iconst 5, 1) := bl_dX11_most_30.1
theorem dX11_most_31 : decode cX11_most 31 = .ok (.if_icmp .gt 12, 3) := bl_dX11_most_30.2.1
theorem dX11_most_34 : decode cX11_most 34 = .ok (.iload_n 2, 1) := bl_dX11_most_30.2.2.1
theorem dX11_most_35 : decode cX11_most 35 = .ok (.iconst 0, 1) := bl_dX11_most_30.2.2.2.1
theorem dX11_most_36 : decode cX11_most 36 = .ok (.iload_n 3, 1) := bl_dX11_most_30.2.2.2.2.1
theorem dX11_most_37 : decode cX11_most 37 = .ok (.invokestatic 64, 3) := bl_dX11_most_30.2.2.2.2.2.1
theorem dX11_most_40 : decode cX11_most 40 = .ok (.ifCond .ne 9, 3) := bl_dX11_most_30.2.2.2.2.2.2.1
theorem dX11_most_43 : decode cX11_most 43 = .ok (.aload_n 0, 1) := bl_dX11_most_30.2.2.2.2.2.2.2.1
theorem dX11_most_44 : decode cX11_most 44 = .ok (.iconst 1, 1) := bl_dX11_most_30.2.2.2.2.2.2.2.2.1
theorem dX11_most_45 : decode cX11_most 45 = .ok (.invokevirtual 68, 3) := bl_dX11_most_30.2.2.2.2.2.2.2.2.2.1
theorem dX11_most_48 : decode cX11_most 48 = .ok (.ireturn, 1) := bl_dX11_most_30.2.2.2.2.2.2.2.2.2.2.1
theorem dX11_most_49 : decode cX11_most 49 = .ok (.aload_n 0, 1) := bl_dX11_most_30.2.2.2.2.2.2.2.2.2.2.2.1
theorem dX11_most_50 : decode cX11_most 50 = .ok (.getfield 10, 3) := bl_dX11_most_30.2.2.2.2.2.2.2.2.2.2.2.2.1
theorem dX11_most_53 : decode cX11_most 53 = .ok (.iload_n 1, 1) := bl_dX11_most_30.2.2.2.2.2.2.2.2.2.2.2.2.2.1
theorem dX11_most_54 : decode cX11_most 54 = .ok (.invokevirtual 201, 3) := bl_dX11_most_30.2.2.2.2.2.2.2.2.2.2.2.2.2.2.1
theorem dX11_most_57 : decode cX11_most 57 = .ok (.ifCond .eq 9, 3) := bl_dX11_most_30.2.2.2.2.2.2.2.2.2.2.2.2.2.2.2
set_option maxRecDepth 20000 in
theorem lk_dX11_most_60 : th_dr cX11_most 60 = 42 :: 6 :: 182 :: 0 :: 68 :: 172 :: 42 :: 180 :: 0 :: 28 :: 27 :: 182 :: 0 :: 204 :: 28 :: 154 :: 0 :: 13 :: 42 :: 180 :: 0 :: 28 :: 180 :: 0 :: 207 :: 167 :: 0 :: 13 :: 42 :: 180 :: 0 :: 28 :: th_dr cX11_most 92 := rfl
theorem bl_dX11_most_60 : decode cX11_most 60 = .ok (.aload_n 0, 1) ∧ decode cX11_most 61 = .ok (.iconst 3, 1) ∧ decode cX11_most 62 = .ok (.invokevirtual 68, 3) ∧ decode cX11_most 65 = .ok (.ireturn, 1) ∧ decode cX11_most 66 = .ok (.aload_n 0, 1) ∧ decode cX11_most 67 = .ok (.getfield 28, 3) ∧ decode cX11_most 70 = .ok (.iload_n 1, 1) ∧ decode cX11_most 71 = .ok (.invokevirtual 204, 3) ∧ decode cX11_most 74 = .ok (.iload_n 2, 1) ∧ decode cX11_most 75 = .ok (.ifCond .ne 13, 3) ∧ decode cX11_most 78 = .ok (.aload_n 0, 1) ∧ decode cX11_most 79 = .ok (.getfield 28, 3) ∧ decode cX11_most 82 = .ok (.getfield 207, 3) ∧ decode cX11_most 85 = .ok (.goto 13, 3) ∧ decode cX11_most 88 = .ok (.aload_n 0, 1) ∧ decode cX11_most 89 = .ok (.getfield 28, 3) := op_42 lk_dX11_most_60 fun e => op_6 e fun e => op_182 e fun e => op_172 e fun e => op_42 e fun e => op_180 e fun e => op_27 e fun e => op_182 e fun e => op_28 e fun e => op_154p e rfl fun e => op_42 e fun e => op_180 e fun e => op_180 e fun e => op_167p e rfl fun e => op_42 e fun e => (op_180 e fun _ => True.intro).1
theorem dX11_most_60 : decode cX11_most 60 = .ok (.aload_n 0, 1) := bl_dX11_most_60.1
theorem dX11_most_61 : decode cX11_most 61 = .ok (.iconst 3, 1) := bl_dX11_most_60.2.1
theorem dX11_most_62 : decode cX11_most 62 = .ok (.invokevirtual 68, 3) := bl_dX11_most_60.2.2.1
theorem dX11_most_65 : decode cX11_most 65 = .ok (.ireturn, 1) := bl_dX11_most_60.2.2.2.1
theorem dX11_most_66 : decode cX11_most 66 = .ok (.aload_n 0, 1) := bl_dX11_most_60.2.2.2.2.1
theorem dX11_most_67 : decode cX11_most 67 = .ok (.getfield 28, 3) := bl_dX11_most_60.2.2.2.2.2.1
theorem dX11_most_70 : decode cX11_most 70 = .ok (.iload_n 1, 1) := bl_dX11_most_60.2.2.2.2.2.2.1
theorem dX11_most_71 : decode cX11_most 71 = .ok (.invokevirtual 204, 3) := bl_dX11_most_60.2.2.2.2.2.2.2.1
theorem dX11_most_74 : decode cX11_most 74 = .ok (.iload_n 2, 1) := bl_dX11_most_60.2.2.2.2.2.2.2.2.1
theorem dX11_most_75 : decode cX11_most 75 = .ok (.ifCond .ne 13, 3) := bl_dX11_most_60.2.2.2.2.2.2.2.2.2.1
theorem dX11_most_78 : decode cX11_most 78 = .ok (.aload_n 0, 1) := bl_dX11_most_60.2.2.2.2.2.2.2.2.2.2.1
theorem dX11_most_79 : decode cX11_most 79 = .ok (.getfield 28, 3) := bl_dX11_most_60.2.2.2.2.2.2.2.2.2.2.2.1
theorem dX11_most_82 : decode cX11_most 82 = .ok (.getfield 207, 3) := bl_dX11_most_60.2.2.2.2.2.2.2.2.2.2.2.2.1
theorem dX11_most_85 : decode cX11_most 85 = .ok (.goto 13, 3) := bl_dX11_most_60.2.2.2.2.2.2.2.2.2.2.2.2.2.1
theorem dX11_most_88 : decode cX11_most 88 = .ok (.aload_n 0, 1) := bl_dX11_most_60.2.2.2.2.2.2.2.2.2.2.2.2.2.2.1
theorem dX11_most_89 : decode cX11_most 89 = .ok (.getfield 28, 3) := bl_dX11_most_60.2.2.2.2.2.2.2.2.2.2.2.2.2.2.2
set_option maxRecDepth 20000 in
theorem lk_dX11_most_92 : th_dr cX11_most 92 = 28 :: 4 :: 100 :: th_dr cX11_most 95 := rfl
theorem bl_dX11_most_92 : decode cX11_most 92 = .ok (.iload_n 2, 1) ∧ decode cX11_most 93 = .ok (.iconst 1, 1) ∧ decode cX11_most 94 = .ok (.isub, 1) := op_28 lk_dX11_most_92 fun e => op_4 e fun e => (op_100 e fun _ => True.intro).1
theorem dX11_most_92 : decode cX11_most 92 = .ok (.iload_n 2, 1) := bl_dX11_most_92.1
theorem dX11_most_93 : decode cX11_most 93 = .ok (.iconst 1, 1) := bl_dX11_most_92.2.1
theorem dX11_most_94 : decode cX11_most 94 = .ok (.isub, 1) := bl_dX11_most_92.2.2
