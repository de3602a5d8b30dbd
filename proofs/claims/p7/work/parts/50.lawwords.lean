theorem wi_ap {a b : List Cond} {P : Cond → Prop} (ha : ∀ w ∈ a, P w) (hb : ∀ w ∈ b, P w) : ∀ w ∈ a ++ b, P w := fun w h => (List.mem_append.mp h).elim (ha w) (hb w)
def wo_P (w : Cond) : Prop := w ∈ lw_tbl ∧ ((w.onTables && w.keeps) = true ∨ ∃ ty, w = .arrayClass ty)
theorem wi_0 {w : Cond} (i : Nat) (h : (k2_sels lw_privs)[i]? = some w) : w ∈ lw_tbl := List.mem_append_left _ (List.mem_of_getElem? h)
theorem wi_1 {w : Cond} (i : Nat) (h : tables_1_1[i]? = some w) : w ∈ lw_tbl := List.mem_append_right _ (List.mem_append_left _ (List.mem_of_getElem? h))
theorem wi_2 {w : Cond} (i : Nat) (h : tables_1_2[i]? = some w) : w ∈ lw_tbl := List.mem_append_right _ (List.mem_append_right _ (List.mem_append_left _ (List.mem_of_getElem? h)))
theorem wi_3 {w : Cond} (i : Nat) (h : tables_1_3[i]? = some w) : w ∈ lw_tbl := List.mem_append_right _ (List.mem_append_right _ (List.mem_append_right _ (List.mem_append_left _ (List.mem_of_getElem? h))))
theorem wi_4 {w : Cond} (i : Nat) (h : tables_1_4[i]? = some w) : w ∈ lw_tbl := List.mem_append_right _ (List.mem_append_right _ (List.mem_append_right _ (List.mem_append_right _ (List.mem_append_left _ (List.mem_of_getElem? h)))))
theorem wi_5 {w : Cond} (i : Nat) (h : tables_1_5[i]? = some w) : w ∈ lw_tbl := List.mem_append_right _ (List.mem_append_right _ (List.mem_append_right _ (List.mem_append_right _ (List.mem_append_right _ (List.mem_append_left _ (List.mem_of_getElem? h))))))
theorem wi_6 {w : Cond} (i : Nat) (h : tables_1_6[i]? = some w) : w ∈ lw_tbl := List.mem_append_right _ (List.mem_append_right _ (List.mem_append_right _ (List.mem_append_right _ (List.mem_append_right _ (List.mem_append_right _ (List.mem_of_getElem? h))))))
theorem wo_V {own C : String} {i : Nat} {y : MethodName} {ws : List Cond} (h1 : wo_P (.methodLink own i y)) (h2 : wo_P (.instanceMethod y)) (h3 : wo_P (.selects C y y)) (h4 : wo_P (.initialized C)) (h : ∀ w ∈ ws, wo_P w) : GoodIn lw_tbl (wsV own i C y ws) := wi_ap (List.forall_mem_cons.mpr ⟨h1, List.forall_mem_cons.mpr ⟨h2, List.forall_mem_cons.mpr ⟨h3, List.forall_mem_cons.mpr ⟨h4, List.forall_mem_nil _⟩⟩⟩⟩) h
theorem mw_1_22 : wo_P (Cond.code yX11_init cX11_init 1 none) := ⟨wi_1 22 rfl, good_of_word rfl⟩
theorem mw_1_52 : wo_P (Cond.arrayClass .int) := ⟨wi_1 52 rfl, good_of_word rfl⟩
theorem mw_1_189 : wo_P (Cond.fieldLink RX11 42 "BayMoorings" "flight" "LBayMoorings$Flight;") := ⟨wi_1 189 rfl, good_of_word rfl⟩
theorem mw_1_8 : wo_P (Cond.initialized RX5) := ⟨wi_1 8 rfl, good_of_word rfl⟩
theorem mw_1_166 : wo_P (Cond.instantiable RX5 3) := ⟨wi_1 166 rfl, good_of_word rfl⟩
theorem mw_1_165 : wo_P (Cond.classLink RX11 39 RX5) := ⟨wi_1 165 rfl, good_of_word rfl⟩
theorem mw_1_188 : wo_P (Cond.fieldLink RX11 35 "BayMoorings" "rings" "LBayMoorings$Rings;") := ⟨wi_1 188 rfl, good_of_word rfl⟩
theorem mw_1_7 : wo_P (Cond.initialized RX6) := ⟨wi_1 7 rfl, good_of_word rfl⟩
theorem mw_1_147 : wo_P (Cond.instantiable RX6 4) := ⟨wi_1 147 rfl, good_of_word rfl⟩
theorem mw_1_146 : wo_P (Cond.classLink RX11 32 RX6) := ⟨wi_1 146 rfl, good_of_word rfl⟩
theorem mw_1_187 : wo_P (Cond.fieldLink RX11 28 "BayMoorings" "search" "LBayMoorings$Search;") := ⟨wi_1 187 rfl, good_of_word rfl⟩
theorem mw_1_6 : wo_P (Cond.initialized RX7) := ⟨wi_1 6 rfl, good_of_word rfl⟩
theorem mw_1_114 : wo_P (Cond.instantiable RX7 8) := ⟨wi_1 114 rfl, good_of_word rfl⟩
theorem mw_1_113 : wo_P (Cond.classLink RX11 25 RX7) := ⟨wi_1 113 rfl, good_of_word rfl⟩
theorem mw_1_186 : wo_P (Cond.fieldLink RX11 21 "BayMoorings" "waiting" "LBayMoorings$WaitingList;") := ⟨wi_1 186 rfl, good_of_word rfl⟩
theorem mw_1_5 : wo_P (Cond.initialized RX10) := ⟨wi_1 5 rfl, good_of_word rfl⟩
theorem mw_1_97 : wo_P (Cond.instantiable RX10 3) := ⟨wi_1 97 rfl, good_of_word rfl⟩
theorem mw_1_96 : wo_P (Cond.classLink RX11 16 RX10) := ⟨wi_1 96 rfl, good_of_word rfl⟩
theorem mw_1_185 : wo_P (Cond.fieldLink RX11 10 "BayMoorings" "bay" "LBayMoorings$Bay;") := ⟨wi_1 185 rfl, good_of_word rfl⟩
theorem mw_1_2 : wo_P (Cond.initialized RX0) := ⟨wi_1 2 rfl, good_of_word rfl⟩
theorem mw_1_27 : wo_P (Cond.instantiable RX0 9) := ⟨wi_1 27 rfl, good_of_word rfl⟩
theorem mw_1_26 : wo_P (Cond.classLink RX11 7 RX0) := ⟨wi_1 26 rfl, good_of_word rfl⟩
theorem mw_1_25 : wo_P (Cond.code objectInit ⟨#[0xb1]⟩ 1 none) := ⟨wi_1 25 rfl, good_of_word rfl⟩
theorem mw_1_24 : wo_P (Cond.instanceMethod objectInit) := ⟨wi_1 24 rfl, good_of_word rfl⟩
theorem mw_1_23 : wo_P (Cond.methodLink RX11 1 objectInit) := ⟨wi_1 23 rfl, good_of_word rfl⟩
set_option maxRecDepth 20000 in
theorem gwsX11_init_r1 : ∀ w ∈ wsX11_init_r1, wo_P w := (List.forall_mem_cons.mpr ⟨mw_1_23, (List.forall_mem_cons.mpr ⟨mw_1_24, (List.forall_mem_cons.mpr ⟨mw_1_25, (List.forall_mem_cons.mpr ⟨mw_1_26, (List.forall_mem_cons.mpr ⟨mw_1_27, (List.forall_mem_cons.mpr ⟨mw_1_2, (List.forall_mem_cons.mpr ⟨mw_1_185, (List.forall_mem_cons.mpr ⟨mw_1_96, (List.forall_mem_cons.mpr ⟨mw_1_97, (List.forall_mem_cons.mpr ⟨mw_1_5, (List.forall_mem_cons.mpr ⟨mw_1_186, (List.forall_mem_cons.mpr ⟨mw_1_113, (List.forall_mem_cons.mpr ⟨mw_1_114, (List.forall_mem_cons.mpr ⟨mw_1_6, (List.forall_mem_cons.mpr ⟨mw_1_187, (List.forall_mem_cons.mpr ⟨mw_1_146, (List.forall_mem_cons.mpr ⟨mw_1_147, (List.forall_mem_cons.mpr ⟨mw_1_7, (List.forall_mem_cons.mpr ⟨mw_1_188, (List.forall_mem_cons.mpr ⟨mw_1_165, (List.forall_mem_cons.mpr ⟨mw_1_166, (List.forall_mem_cons.mpr ⟨mw_1_8, (List.forall_mem_cons.mpr ⟨mw_1_189, (List.forall_mem_cons.mpr ⟨mw_1_52, (List.forall_mem_nil _)⟩)⟩)⟩)⟩)⟩)⟩)⟩)⟩)⟩)⟩)⟩)⟩)⟩)⟩)⟩)⟩)⟩)⟩)⟩)⟩)⟩)⟩)⟩)⟩)
theorem mw_1_76 : wo_P (Cond.fieldLink RX0 48 "BayMoorings$Bay" "leastTide" "I") := ⟨wi_1 76 rfl, good_of_word rfl⟩
theorem mw_1_74 : wo_P (Cond.fieldLink RX0 45 "BayMoorings$Bay" "windBits" "I") := ⟨wi_1 74 rfl, good_of_word rfl⟩
theorem mw_1_69 : wo_P (Cond.fieldLink RX0 42 "BayMoorings$Bay" "boatCount" "I") := ⟨wi_1 69 rfl, good_of_word rfl⟩
theorem mw_1_65 : wo_P (Cond.fieldLink RX0 38 "BayMoorings$Bay" "buoyCount" "I") := ⟨wi_1 65 rfl, good_of_word rfl⟩
theorem mw_1_59 : wo_P (Cond.fieldLink RX0 34 "BayMoorings$Bay" "berths" "LBayMoorings$Berths;") := ⟨wi_1 59 rfl, good_of_word rfl⟩
theorem mw_1_3 : wo_P (Cond.initialized RX1) := ⟨wi_1 3 rfl, good_of_word rfl⟩
theorem mw_1_37 : wo_P (Cond.instantiable RX1 2) := ⟨wi_1 37 rfl, good_of_word rfl⟩
theorem mw_1_36 : wo_P (Cond.classLink RX0 31 RX1) := ⟨wi_1 36 rfl, good_of_word rfl⟩
theorem mw_1_58 : wo_P (Cond.fieldLink RX0 27 "BayMoorings$Bay" "repeated" "[Z") := ⟨wi_1 58 rfl, good_of_word rfl⟩
theorem mw_1_53 : wo_P (Cond.arrayClass .boolean) := ⟨wi_1 53 rfl, good_of_word rfl⟩
theorem mw_1_56 : wo_P (Cond.fieldLink RX0 23 "BayMoorings$Bay" "tides" "[I") := ⟨wi_1 56 rfl, good_of_word rfl⟩
theorem mw_1_55 : wo_P (Cond.fieldLink RX0 19 "BayMoorings$Bay" "boats" "[LBayMoorings$Boat;") := ⟨wi_1 55 rfl, good_of_word rfl⟩
theorem mw_1_34 : wo_P (Cond.classLink RX0 17 RX2) := ⟨wi_1 34 rfl, good_of_word rfl⟩
theorem mw_1_54 : wo_P (Cond.fieldLink RX0 11 "BayMoorings$Bay" "buoys" "[LBayMoorings$Buoy;") := ⟨wi_1 54 rfl, good_of_word rfl⟩
theorem mw_1_32 : wo_P (Cond.classLink RX0 9 RX3) := ⟨wi_1 32 rfl, good_of_word rfl⟩
theorem mw_1_31 : wo_P (Cond.methodLink RX0 3 objectInit) := ⟨wi_1 31 rfl, good_of_word rfl⟩
theorem mw_1_30 : wo_P (Cond.code yX0_init cX0_init 2 none) := ⟨wi_1 30 rfl, good_of_word rfl⟩
theorem mw_1_29 : wo_P (Cond.instanceMethod yX0_init) := ⟨wi_1 29 rfl, good_of_word rfl⟩
theorem mw_1_28 : wo_P (Cond.methodLink RX11 9 yX0_init) := ⟨wi_1 28 rfl, good_of_word rfl⟩
theorem mw_1_194 : wo_P (Cond.fieldLink RX11 60 "BayMoorings" "refuserStays" "Z") := ⟨wi_1 194 rfl, good_of_word rfl⟩
theorem mw_1_193 : wo_P (Cond.fieldLink RX11 57 "BayMoorings" "rateNow" "I") := ⟨wi_1 193 rfl, good_of_word rfl⟩
theorem mw_1_192 : wo_P (Cond.fieldLink RX11 53 "BayMoorings" "numberCount" "I") := ⟨wi_1 192 rfl, good_of_word rfl⟩
theorem mw_1_191 : wo_P (Cond.fieldLink RX11 50 "BayMoorings" "numbers" "[I") := ⟨wi_1 191 rfl, good_of_word rfl⟩
theorem mw_1_190 : wo_P (Cond.fieldLink RX11 46 "BayMoorings" "findings" "[I") := ⟨wi_1 190 rfl, good_of_word rfl⟩
set_option maxRecDepth 20000 in
theorem gwsX11_init_r2 : ∀ w ∈ wsX11_init_r2, wo_P w := (List.forall_mem_cons.mpr ⟨mw_1_190, (List.forall_mem_cons.mpr ⟨mw_1_191, (List.forall_mem_cons.mpr ⟨mw_1_192, (List.forall_mem_cons.mpr ⟨mw_1_193, (List.forall_mem_cons.mpr ⟨mw_1_194, (List.forall_mem_cons.mpr ⟨mw_1_28, (List.forall_mem_cons.mpr ⟨mw_1_29, (List.forall_mem_cons.mpr ⟨mw_1_30, (List.forall_mem_cons.mpr ⟨mw_1_31, (List.forall_mem_cons.mpr ⟨mw_1_32, (List.forall_mem_cons.mpr ⟨mw_1_54, (List.forall_mem_cons.mpr ⟨mw_1_34, (List.forall_mem_cons.mpr ⟨mw_1_55, (List.forall_mem_cons.mpr ⟨mw_1_56, (List.forall_mem_cons.mpr ⟨mw_1_53, (List.forall_mem_cons.mpr ⟨mw_1_58, (List.forall_mem_cons.mpr ⟨mw_1_36, (List.forall_mem_cons.mpr ⟨mw_1_37, (List.forall_mem_cons.mpr ⟨mw_1_3, (List.forall_mem_cons.mpr ⟨mw_1_59, (List.forall_mem_cons.mpr ⟨mw_1_65, (List.forall_mem_cons.mpr ⟨mw_1_69, (List.forall_mem_cons.mpr ⟨mw_1_74, (List.forall_mem_cons.mpr ⟨mw_1_76, (List.forall_mem_nil _)⟩)⟩)⟩)⟩)⟩)⟩)⟩)⟩)⟩)⟩)⟩)⟩)⟩)⟩)⟩)⟩)⟩)⟩)⟩)⟩)⟩)⟩)⟩)⟩)
theorem mw_1_122 : wo_P (Cond.fieldLink RX7 17 "BayMoorings$Search" "size" "I") := ⟨wi_1 122 rfl, good_of_word rfl⟩
theorem mw_1_121 : wo_P (Cond.fieldLink RX7 11 "BayMoorings$Search" "asked" "[LBayMoorings$Boat;") := ⟨wi_1 121 rfl, good_of_word rfl⟩
theorem mw_1_119 : wo_P (Cond.classLink RX7 9 RX2) := ⟨wi_1 119 rfl, good_of_word rfl⟩
theorem mw_1_118 : wo_P (Cond.methodLink RX7 3 objectInit) := ⟨wi_1 118 rfl, good_of_word rfl⟩
theorem mw_1_117 : wo_P (Cond.code yX7_init cX7_init 2 none) := ⟨wi_1 117 rfl, good_of_word rfl⟩
theorem mw_1_116 : wo_P (Cond.instanceMethod yX7_init) := ⟨wi_1 116 rfl, good_of_word rfl⟩
theorem mw_1_115 : wo_P (Cond.methodLink RX11 27 yX7_init) := ⟨wi_1 115 rfl, good_of_word rfl⟩
theorem mw_1_102 : wo_P (Cond.fieldLink RX10 19 "BayMoorings$WaitingList" "bay" "LBayMoorings$Bay;") := ⟨wi_1 102 rfl, good_of_word rfl⟩
theorem mw_1_104 : wo_P (Cond.fieldLink RX10 15 "BayMoorings$WaitingList" "size" "I") := ⟨wi_1 104 rfl, good_of_word rfl⟩
theorem mw_1_103 : wo_P (Cond.fieldLink RX10 9 "BayMoorings$WaitingList" "queue" "[I") := ⟨wi_1 103 rfl, good_of_word rfl⟩
theorem mw_1_101 : wo_P (Cond.methodLink RX10 3 objectInit) := ⟨wi_1 101 rfl, good_of_word rfl⟩
theorem mw_1_100 : wo_P (Cond.code yX10_init cX10_init 2 none) := ⟨wi_1 100 rfl, good_of_word rfl⟩
theorem mw_1_99 : wo_P (Cond.instanceMethod yX10_init) := ⟨wi_1 99 rfl, good_of_word rfl⟩
theorem mw_1_98 : wo_P (Cond.methodLink RX11 18 yX10_init) := ⟨wi_1 98 rfl, good_of_word rfl⟩
theorem mw_1_44 : wo_P (Cond.code yJ7_fill_53178 cJ7_fill_53178 4 none) := ⟨wi_1 44 rfl, good_of_word rfl⟩
theorem mw_1_4 : wo_P (Cond.initialized RJ7) := ⟨wi_1 4 rfl, good_of_word rfl⟩
theorem mw_1_43 : wo_P (Cond.static yJ7_fill_53178) := ⟨wi_1 43 rfl, good_of_word rfl⟩
theorem mw_1_42 : wo_P (Cond.methodLink RX1 18 yJ7_fill_53178) := ⟨wi_1 42 rfl, good_of_word rfl⟩
theorem mw_1_46 : wo_P (Cond.fieldLink RX1 15 "BayMoorings$Berths" "boatOfBuoy" "[I") := ⟨wi_1 46 rfl, good_of_word rfl⟩
theorem mw_1_45 : wo_P (Cond.fieldLink RX1 9 "BayMoorings$Berths" "buoyOfBoat" "[I") := ⟨wi_1 45 rfl, good_of_word rfl⟩
theorem mw_1_41 : wo_P (Cond.methodLink RX1 3 objectInit) := ⟨wi_1 41 rfl, good_of_word rfl⟩
theorem mw_1_40 : wo_P (Cond.code yX1_init cX1_init 1 none) := ⟨wi_1 40 rfl, good_of_word rfl⟩
theorem mw_1_39 : wo_P (Cond.instanceMethod yX1_init) := ⟨wi_1 39 rfl, good_of_word rfl⟩
theorem mw_1_38 : wo_P (Cond.methodLink RX0 33 yX1_init) := ⟨wi_1 38 rfl, good_of_word rfl⟩
set_option maxRecDepth 20000 in
theorem gwsX11_init_r3 : ∀ w ∈ wsX11_init_r3, wo_P w := (List.forall_mem_cons.mpr ⟨mw_1_38, (List.forall_mem_cons.mpr ⟨mw_1_39, (List.forall_mem_cons.mpr ⟨mw_1_40, (List.forall_mem_cons.mpr ⟨mw_1_41, (List.forall_mem_cons.mpr ⟨mw_1_45, (List.forall_mem_cons.mpr ⟨mw_1_46, (List.forall_mem_cons.mpr ⟨mw_1_42, (List.forall_mem_cons.mpr ⟨mw_1_43, (List.forall_mem_cons.mpr ⟨mw_1_4, (List.forall_mem_cons.mpr ⟨mw_1_44, (List.forall_mem_cons.mpr ⟨mw_1_98, (List.forall_mem_cons.mpr ⟨mw_1_99, (List.forall_mem_cons.mpr ⟨mw_1_100, (List.forall_mem_cons.mpr ⟨mw_1_101, (List.forall_mem_cons.mpr ⟨mw_1_103, (List.forall_mem_cons.mpr ⟨mw_1_104, (List.forall_mem_cons.mpr ⟨mw_1_102, (List.forall_mem_cons.mpr ⟨mw_1_115, (List.forall_mem_cons.mpr ⟨mw_1_116, (List.forall_mem_cons.mpr ⟨mw_1_117, (List.forall_mem_cons.mpr ⟨mw_1_118, (List.forall_mem_cons.mpr ⟨mw_1_119, (List.forall_mem_cons.mpr ⟨mw_1_121, (List.forall_mem_cons.mpr ⟨mw_1_122, (List.forall_mem_nil _)⟩)⟩)⟩)⟩)⟩)⟩)⟩)⟩)⟩)⟩)⟩)⟩)⟩)⟩)⟩)⟩)⟩)⟩)⟩)⟩)⟩)⟩)⟩)⟩)
theorem mw_1_172 : wo_P (Cond.methodLink RX5 11 yX1_init) := ⟨wi_1 172 rfl, good_of_word rfl⟩
theorem mw_1_173 : wo_P (Cond.fieldLink RX5 22 "BayMoorings$Flight" "bay" "LBayMoorings$Bay;") := ⟨wi_1 173 rfl, good_of_word rfl⟩
theorem mw_1_176 : wo_P (Cond.fieldLink RX5 18 "BayMoorings$Flight" "fleeing" "I") := ⟨wi_1 176 rfl, good_of_word rfl⟩
theorem mw_1_174 : wo_P (Cond.fieldLink RX5 12 "BayMoorings$Flight" "berths" "LBayMoorings$Berths;") := ⟨wi_1 174 rfl, good_of_word rfl⟩
theorem mw_1_171 : wo_P (Cond.classLink RX5 9 RX1) := ⟨wi_1 171 rfl, good_of_word rfl⟩
theorem mw_1_170 : wo_P (Cond.methodLink RX5 3 objectInit) := ⟨wi_1 170 rfl, good_of_word rfl⟩
theorem mw_1_169 : wo_P (Cond.code yX5_init cX5_init 2 none) := ⟨wi_1 169 rfl, good_of_word rfl⟩
theorem mw_1_168 : wo_P (Cond.instanceMethod yX5_init) := ⟨wi_1 168 rfl, good_of_word rfl⟩
theorem mw_1_167 : wo_P (Cond.methodLink RX11 41 yX5_init) := ⟨wi_1 167 rfl, good_of_word rfl⟩
theorem mw_1_152 : wo_P (Cond.fieldLink RX6 22 "BayMoorings$Rings" "bay" "LBayMoorings$Bay;") := ⟨wi_1 152 rfl, good_of_word rfl⟩
theorem mw_1_155 : wo_P (Cond.fieldLink RX6 18 "BayMoorings$Rings" "left" "I") := ⟨wi_1 155 rfl, good_of_word rfl⟩
theorem mw_1_154 : wo_P (Cond.fieldLink RX6 15 "BayMoorings$Rings" "pointsAt" "[I") := ⟨wi_1 154 rfl, good_of_word rfl⟩
theorem mw_1_153 : wo_P (Cond.fieldLink RX6 9 "BayMoorings$Rings" "gets" "[I") := ⟨wi_1 153 rfl, good_of_word rfl⟩
theorem mw_1_151 : wo_P (Cond.methodLink RX6 3 objectInit) := ⟨wi_1 151 rfl, good_of_word rfl⟩
theorem mw_1_150 : wo_P (Cond.code yX6_init cX6_init 2 none) := ⟨wi_1 150 rfl, good_of_word rfl⟩
theorem mw_1_149 : wo_P (Cond.instanceMethod yX6_init) := ⟨wi_1 149 rfl, good_of_word rfl⟩
theorem mw_1_148 : wo_P (Cond.methodLink RX11 34 yX6_init) := ⟨wi_1 148 rfl, good_of_word rfl⟩
theorem mw_1_120 : wo_P (Cond.fieldLink RX7 37 "BayMoorings$Search" "bay" "LBayMoorings$Bay;") := ⟨wi_1 120 rfl, good_of_word rfl⟩
theorem mw_1_127 : wo_P (Cond.fieldLink RX7 34 "BayMoorings$Search" "bestCount" "I") := ⟨wi_1 127 rfl, good_of_word rfl⟩
theorem mw_1_126 : wo_P (Cond.fieldLink RX7 31 "BayMoorings$Search" "best" "[I") := ⟨wi_1 126 rfl, good_of_word rfl⟩
theorem mw_1_125 : wo_P (Cond.fieldLink RX7 28 "BayMoorings$Search" "trial" "[I") := ⟨wi_1 125 rfl, good_of_word rfl⟩
theorem mw_1_124 : wo_P (Cond.fieldLink RX7 25 "BayMoorings$Search" "barred" "[I") := ⟨wi_1 124 rfl, good_of_word rfl⟩
theorem mw_1_123 : wo_P (Cond.fieldLink RX7 21 "BayMoorings$Search" "open" "[I") := ⟨wi_1 123 rfl, good_of_word rfl⟩
set_option maxRecDepth 20000 in
theorem gwsX11_init_r4 : ∀ w ∈ wsX11_init_r4, wo_P w := (List.forall_mem_cons.mpr ⟨mw_1_123, (List.forall_mem_cons.mpr ⟨mw_1_124, (List.forall_mem_cons.mpr ⟨mw_1_125, (List.forall_mem_cons.mpr ⟨mw_1_126, (List.forall_mem_cons.mpr ⟨mw_1_127, (List.forall_mem_cons.mpr ⟨mw_1_120, (List.forall_mem_cons.mpr ⟨mw_1_148, (List.forall_mem_cons.mpr ⟨mw_1_149, (List.forall_mem_cons.mpr ⟨mw_1_150, (List.forall_mem_cons.mpr ⟨mw_1_151, (List.forall_mem_cons.mpr ⟨mw_1_153, (List.forall_mem_cons.mpr ⟨mw_1_154, (List.forall_mem_cons.mpr ⟨mw_1_155, (List.forall_mem_cons.mpr ⟨mw_1_152, (List.forall_mem_cons.mpr ⟨mw_1_167, (List.forall_mem_cons.mpr ⟨mw_1_168, (List.forall_mem_cons.mpr ⟨mw_1_169, (List.forall_mem_cons.mpr ⟨mw_1_170, (List.forall_mem_cons.mpr ⟨mw_1_171, (List.forall_mem_cons.mpr ⟨mw_1_174, (List.forall_mem_cons.mpr ⟨mw_1_176, (List.forall_mem_cons.mpr ⟨mw_1_173, (List.forall_mem_cons.mpr ⟨mw_1_172, (List.forall_mem_nil _)⟩)⟩)⟩)⟩)⟩)⟩)⟩)⟩)⟩)⟩)⟩)⟩)⟩)⟩)⟩)⟩)⟩)⟩)⟩)⟩)⟩)⟩)⟩)
theorem mw_1_93 : wo_P (Cond.lays RX0 "BayMoorings$Bay" "leastTide" "I") := ⟨wi_1 93 rfl, good_of_word rfl⟩
theorem mw_1_91 : wo_P (Cond.lays RX0 "BayMoorings$Bay" "windBits" "I") := ⟨wi_1 91 rfl, good_of_word rfl⟩
theorem mw_1_89 : wo_P (Cond.lays RX0 "BayMoorings$Bay" "boatCount" "I") := ⟨wi_1 89 rfl, good_of_word rfl⟩
theorem mw_1_87 : wo_P (Cond.lays RX0 "BayMoorings$Bay" "buoyCount" "I") := ⟨wi_1 87 rfl, good_of_word rfl⟩
theorem mw_1_85 : wo_P (Cond.laysFinal RX0 "BayMoorings$Bay" "berths" "LBayMoorings$Berths;") := ⟨wi_1 85 rfl, good_of_word rfl⟩
theorem mw_1_83 : wo_P (Cond.laysFinal RX0 "BayMoorings$Bay" "repeated" "[Z") := ⟨wi_1 83 rfl, good_of_word rfl⟩
theorem mw_1_81 : wo_P (Cond.laysFinal RX0 "BayMoorings$Bay" "tides" "[I") := ⟨wi_1 81 rfl, good_of_word rfl⟩
theorem mw_1_79 : wo_P (Cond.laysFinal RX0 "BayMoorings$Bay" "boats" "[LBayMoorings$Boat;") := ⟨wi_1 79 rfl, good_of_word rfl⟩
theorem mw_1_77 : wo_P (Cond.laysFinal RX0 "BayMoorings$Bay" "buoys" "[LBayMoorings$Buoy;") := ⟨wi_1 77 rfl, good_of_word rfl⟩
set_option maxRecDepth 20000 in
theorem gwsX00 : ∀ w ∈ wsX00, wo_P w := (List.forall_mem_cons.mpr ⟨mw_1_77, (List.forall_mem_cons.mpr ⟨mw_1_79, (List.forall_mem_cons.mpr ⟨mw_1_81, (List.forall_mem_cons.mpr ⟨mw_1_83, (List.forall_mem_cons.mpr ⟨mw_1_85, (List.forall_mem_cons.mpr ⟨mw_1_87, (List.forall_mem_cons.mpr ⟨mw_1_89, (List.forall_mem_cons.mpr ⟨mw_1_91, (List.forall_mem_cons.mpr ⟨mw_1_93, (List.forall_mem_nil _)⟩)⟩)⟩)⟩)⟩)⟩)⟩)⟩)⟩)
theorem mw_1_213 : wo_P (Cond.lays RX11 "BayMoorings" "refuserStays" "Z") := ⟨wi_1 213 rfl, good_of_word rfl⟩
theorem mw_1_211 : wo_P (Cond.lays RX11 "BayMoorings" "rateNow" "I") := ⟨wi_1 211 rfl, good_of_word rfl⟩
theorem mw_1_209 : wo_P (Cond.lays RX11 "BayMoorings" "numberCount" "I") := ⟨wi_1 209 rfl, good_of_word rfl⟩
theorem mw_1_207 : wo_P (Cond.laysFinal RX11 "BayMoorings" "numbers" "[I") := ⟨wi_1 207 rfl, good_of_word rfl⟩
theorem mw_1_205 : wo_P (Cond.laysFinal RX11 "BayMoorings" "findings" "[I") := ⟨wi_1 205 rfl, good_of_word rfl⟩
theorem mw_1_203 : wo_P (Cond.laysFinal RX11 "BayMoorings" "flight" "LBayMoorings$Flight;") := ⟨wi_1 203 rfl, good_of_word rfl⟩
theorem mw_1_201 : wo_P (Cond.laysFinal RX11 "BayMoorings" "rings" "LBayMoorings$Rings;") := ⟨wi_1 201 rfl, good_of_word rfl⟩
theorem mw_1_199 : wo_P (Cond.laysFinal RX11 "BayMoorings" "search" "LBayMoorings$Search;") := ⟨wi_1 199 rfl, good_of_word rfl⟩
theorem mw_1_197 : wo_P (Cond.laysFinal RX11 "BayMoorings" "waiting" "LBayMoorings$WaitingList;") := ⟨wi_1 197 rfl, good_of_word rfl⟩
theorem mw_1_195 : wo_P (Cond.laysFinal RX11 "BayMoorings" "bay" "LBayMoorings$Bay;") := ⟨wi_1 195 rfl, good_of_word rfl⟩
set_option maxRecDepth 20000 in
theorem gwsX110 : ∀ w ∈ wsX110, wo_P w := (List.forall_mem_cons.mpr ⟨mw_1_195, (List.forall_mem_cons.mpr ⟨mw_1_197, (List.forall_mem_cons.mpr ⟨mw_1_199, (List.forall_mem_cons.mpr ⟨mw_1_201, (List.forall_mem_cons.mpr ⟨mw_1_203, (List.forall_mem_cons.mpr ⟨mw_1_205, (List.forall_mem_cons.mpr ⟨mw_1_207, (List.forall_mem_cons.mpr ⟨mw_1_209, (List.forall_mem_cons.mpr ⟨mw_1_211, (List.forall_mem_cons.mpr ⟨mw_1_213, (List.forall_mem_nil _)⟩)⟩)⟩)⟩)⟩)⟩)⟩)⟩)⟩)⟩)
theorem mw_1_110 : wo_P (Cond.lays RX10 "BayMoorings$WaitingList" "size" "I") := ⟨wi_1 110 rfl, good_of_word rfl⟩
theorem mw_1_108 : wo_P (Cond.laysFinal RX10 "BayMoorings$WaitingList" "queue" "[I") := ⟨wi_1 108 rfl, good_of_word rfl⟩
theorem mw_1_106 : wo_P (Cond.laysFinal RX10 "BayMoorings$WaitingList" "bay" "LBayMoorings$Bay;") := ⟨wi_1 106 rfl, good_of_word rfl⟩
set_option maxRecDepth 20000 in
theorem gwsX100 : ∀ w ∈ wsX100, wo_P w := (List.forall_mem_cons.mpr ⟨mw_1_106, (List.forall_mem_cons.mpr ⟨mw_1_108, (List.forall_mem_cons.mpr ⟨mw_1_110, (List.forall_mem_nil _)⟩)⟩)⟩)
theorem mw_1_143 : wo_P (Cond.lays RX7 "BayMoorings$Search" "bestCount" "I") := ⟨wi_1 143 rfl, good_of_word rfl⟩
theorem mw_1_141 : wo_P (Cond.laysFinal RX7 "BayMoorings$Search" "best" "[I") := ⟨wi_1 141 rfl, good_of_word rfl⟩
theorem mw_1_139 : wo_P (Cond.laysFinal RX7 "BayMoorings$Search" "trial" "[I") := ⟨wi_1 139 rfl, good_of_word rfl⟩
theorem mw_1_137 : wo_P (Cond.laysFinal RX7 "BayMoorings$Search" "barred" "[I") := ⟨wi_1 137 rfl, good_of_word rfl⟩
theorem mw_1_135 : wo_P (Cond.laysFinal RX7 "BayMoorings$Search" "open" "[I") := ⟨wi_1 135 rfl, good_of_word rfl⟩
theorem mw_1_133 : wo_P (Cond.lays RX7 "BayMoorings$Search" "size" "I") := ⟨wi_1 133 rfl, good_of_word rfl⟩
theorem mw_1_131 : wo_P (Cond.laysFinal RX7 "BayMoorings$Search" "asked" "[LBayMoorings$Boat;") := ⟨wi_1 131 rfl, good_of_word rfl⟩
theorem mw_1_129 : wo_P (Cond.laysFinal RX7 "BayMoorings$Search" "bay" "LBayMoorings$Bay;") := ⟨wi_1 129 rfl, good_of_word rfl⟩
set_option maxRecDepth 20000 in
theorem gwsX70 : ∀ w ∈ wsX70, wo_P w := (List.forall_mem_cons.mpr ⟨mw_1_129, (List.forall_mem_cons.mpr ⟨mw_1_131, (List.forall_mem_cons.mpr ⟨mw_1_133, (List.forall_mem_cons.mpr ⟨mw_1_135, (List.forall_mem_cons.mpr ⟨mw_1_137, (List.forall_mem_cons.mpr ⟨mw_1_139, (List.forall_mem_cons.mpr ⟨mw_1_141, (List.forall_mem_cons.mpr ⟨mw_1_143, (List.forall_mem_nil _)⟩)⟩)⟩)⟩)⟩)⟩)⟩)⟩)
theorem mw_1_162 : wo_P (Cond.lays RX6 "BayMoorings$Rings" "left" "I") := ⟨wi_1 162 rfl, good_of_word rfl⟩
theorem mw_1_160 : wo_P (Cond.laysFinal RX6 "BayMoorings$Rings" "pointsAt" "[I") := ⟨wi_1 160 rfl, good_of_word rfl⟩
theorem mw_1_158 : wo_P (Cond.laysFinal RX6 "BayMoorings$Rings" "gets" "[I") := ⟨wi_1 158 rfl, good_of_word rfl⟩
theorem mw_1_156 : wo_P (Cond.laysFinal RX6 "BayMoorings$Rings" "bay" "LBayMoorings$Bay;") := ⟨wi_1 156 rfl, good_of_word rfl⟩
set_option maxRecDepth 20000 in
theorem gwsX60 : ∀ w ∈ wsX60, wo_P w := (List.forall_mem_cons.mpr ⟨mw_1_156, (List.forall_mem_cons.mpr ⟨mw_1_158, (List.forall_mem_cons.mpr ⟨mw_1_160, (List.forall_mem_cons.mpr ⟨mw_1_162, (List.forall_mem_nil _)⟩)⟩)⟩)⟩)
theorem mw_1_182 : wo_P (Cond.lays RX5 "BayMoorings$Flight" "fleeing" "I") := ⟨wi_1 182 rfl, good_of_word rfl⟩
theorem mw_1_180 : wo_P (Cond.laysFinal RX5 "BayMoorings$Flight" "berths" "LBayMoorings$Berths;") := ⟨wi_1 180 rfl, good_of_word rfl⟩
theorem mw_1_178 : wo_P (Cond.laysFinal RX5 "BayMoorings$Flight" "bay" "LBayMoorings$Bay;") := ⟨wi_1 178 rfl, good_of_word rfl⟩
set_option maxRecDepth 20000 in
theorem gwsX50 : ∀ w ∈ wsX50, wo_P w := (List.forall_mem_cons.mpr ⟨mw_1_178, (List.forall_mem_cons.mpr ⟨mw_1_180, (List.forall_mem_cons.mpr ⟨mw_1_182, (List.forall_mem_nil _)⟩)⟩)⟩)
theorem mw_1_49 : wo_P (Cond.laysFinal RX1 "BayMoorings$Berths" "boatOfBuoy" "[I") := ⟨wi_1 49 rfl, good_of_word rfl⟩
theorem mw_1_47 : wo_P (Cond.laysFinal RX1 "BayMoorings$Berths" "buoyOfBoat" "[I") := ⟨wi_1 47 rfl, good_of_word rfl⟩
set_option maxRecDepth 20000 in
theorem gwsX10 : ∀ w ∈ wsX10, wo_P w := (List.forall_mem_cons.mpr ⟨mw_1_47, (List.forall_mem_cons.mpr ⟨mw_1_49, (List.forall_mem_nil _)⟩)⟩)
set_option maxRecDepth 20000 in
theorem gwsX11_init : ∀ w ∈ wsX11_init, wo_P w := (List.forall_mem_cons.mpr ⟨mw_1_22, (wi_ap (wi_ap (wi_ap (wi_ap (wi_ap (wi_ap (wi_ap (wi_ap gwsX11_init_r1 (wi_ap gwsX11_init_r2 (wi_ap gwsX11_init_r3 gwsX11_init_r4))) gwsX00) gwsX110) gwsX100) gwsX70) gwsX60) gwsX50) gwsX10)⟩)
theorem gL_law_X11_init : GoodIn lw_tbl wsX11_init := gwsX11_init
theorem mw_4_134 : wo_P (Cond.code yX12_init cX12_init 1 none) := ⟨wi_4 134 rfl, good_of_word rfl⟩
theorem mw_4_158 : wo_P (Cond.fieldLink RX12 68 "BayMooringsModel" "rather" "[I") := ⟨wi_4 158 rfl, good_of_word rfl⟩
theorem mw_4_157 : wo_P (Cond.fieldLink RX12 65 "BayMooringsModel" "rathers" "[I") := ⟨wi_4 157 rfl, good_of_word rfl⟩
theorem mw_4_156 : wo_P (Cond.fieldLink RX12 62 "BayMooringsModel" "stays" "I") := ⟨wi_4 156 rfl, good_of_word rfl⟩
theorem mw_4_155 : wo_P (Cond.fieldLink RX12 59 "BayMooringsModel" "refused" "[I") := ⟨wi_4 155 rfl, good_of_word rfl⟩
theorem mw_4_154 : wo_P (Cond.fieldLink RX12 56 "BayMooringsModel" "list" "[I") := ⟨wi_4 154 rfl, good_of_word rfl⟩
theorem mw_4_152 : wo_P (Cond.fieldLink RX12 53 "BayMooringsModel" "wayY" "[I") := ⟨wi_4 152 rfl, good_of_word rfl⟩
theorem mw_4_151 : wo_P (Cond.fieldLink RX12 50 "BayMooringsModel" "wayX" "[I") := ⟨wi_4 151 rfl, good_of_word rfl⟩
theorem mw_4_150 : wo_P (Cond.fieldLink RX12 46 "BayMooringsModel" "winds" "I") := ⟨wi_4 150 rfl, good_of_word rfl⟩
theorem mw_4_149 : wo_P (Cond.fieldLink RX12 43 "BayMooringsModel" "tides" "[I") := ⟨wi_4 149 rfl, good_of_word rfl⟩
theorem mw_4_148 : wo_P (Cond.fieldLink RX12 40 "BayMooringsModel" "buoyOf" "[I") := ⟨wi_4 148 rfl, good_of_word rfl⟩
theorem mw_4_147 : wo_P (Cond.fieldLink RX12 37 "BayMooringsModel" "draughtOf" "[I") := ⟨wi_4 147 rfl, good_of_word rfl⟩
theorem mw_4_146 : wo_P (Cond.fieldLink RX12 34 "BayMooringsModel" "lengthOf" "[I") := ⟨wi_4 146 rfl, good_of_word rfl⟩
theorem mw_4_145 : wo_P (Cond.fieldLink RX12 31 "BayMooringsModel" "kindOf" "[I") := ⟨wi_4 145 rfl, good_of_word rfl⟩
theorem mw_4_143 : wo_P (Cond.fieldLink RX12 28 "BayMooringsModel" "boatAt" "[I") := ⟨wi_4 143 rfl, good_of_word rfl⟩
theorem mw_4_142 : wo_P (Cond.fieldLink RX12 25 "BayMooringsModel" "high" "[I") := ⟨wi_4 142 rfl, good_of_word rfl⟩
theorem mw_4_141 : wo_P (Cond.fieldLink RX12 22 "BayMooringsModel" "low" "[I") := ⟨wi_4 141 rfl, good_of_word rfl⟩
theorem mw_4_140 : wo_P (Cond.fieldLink RX12 19 "BayMooringsModel" "chain" "[I") := ⟨wi_4 140 rfl, good_of_word rfl⟩
theorem mw_4_139 : wo_P (Cond.fieldLink RX12 16 "BayMooringsModel" "depth" "[I") := ⟨wi_4 139 rfl, good_of_word rfl⟩
theorem mw_4_138 : wo_P (Cond.fieldLink RX12 13 "BayMooringsModel" "atY" "[I") := ⟨wi_4 138 rfl, good_of_word rfl⟩
theorem mw_4_137 : wo_P (Cond.fieldLink RX12 9 "BayMooringsModel" "atX" "[I") := ⟨wi_4 137 rfl, good_of_word rfl⟩
theorem mw_4_135 : wo_P (Cond.methodLink RX12 3 objectInit) := ⟨wi_4 135 rfl, good_of_word rfl⟩
set_option maxRecDepth 20000 in
theorem gwsX12_init_r1 : ∀ w ∈ wsX12_init_r1, wo_P w := (List.forall_mem_cons.mpr ⟨mw_4_135, (List.forall_mem_cons.mpr ⟨mw_1_24, (List.forall_mem_cons.mpr ⟨mw_1_25, (List.forall_mem_cons.mpr ⟨mw_1_52, (List.forall_mem_cons.mpr ⟨mw_4_137, (List.forall_mem_cons.mpr ⟨mw_4_138, (List.forall_mem_cons.mpr ⟨mw_4_139, (List.forall_mem_cons.mpr ⟨mw_4_140, (List.forall_mem_cons.mpr ⟨mw_4_141, (List.forall_mem_cons.mpr ⟨mw_4_142, (List.forall_mem_cons.mpr ⟨mw_4_143, (List.forall_mem_cons.mpr ⟨mw_4_145, (List.forall_mem_cons.mpr ⟨mw_4_146, (List.forall_mem_cons.mpr ⟨mw_4_147, (List.forall_mem_cons.mpr ⟨mw_4_148, (List.forall_mem_cons.mpr ⟨mw_4_149, (List.forall_mem_cons.mpr ⟨mw_4_150, (List.forall_mem_cons.mpr ⟨mw_4_151, (List.forall_mem_cons.mpr ⟨mw_4_152, (List.forall_mem_cons.mpr ⟨mw_4_154, (List.forall_mem_cons.mpr ⟨mw_4_155, (List.forall_mem_cons.mpr ⟨mw_4_156, (List.forall_mem_cons.mpr ⟨mw_4_157, (List.forall_mem_cons.mpr ⟨mw_4_158, (List.forall_mem_nil _)⟩)⟩)⟩)⟩)⟩)⟩)⟩)⟩)⟩)⟩)⟩)⟩)⟩)⟩)⟩)⟩)⟩)⟩)⟩)⟩)⟩)⟩)⟩)⟩)
theorem mw_4_173 : wo_P (Cond.fieldLink RX12 105 "BayMooringsModel" "then" "[I") := ⟨wi_4 173 rfl, good_of_word rfl⟩
theorem mw_4_172 : wo_P (Cond.fieldLink RX12 102 "BayMooringsModel" "ring" "[I") := ⟨wi_4 172 rfl, good_of_word rfl⟩
theorem mw_4_171 : wo_P (Cond.fieldLink RX12 98 "BayMooringsModel" "inRing" "[Z") := ⟨wi_4 171 rfl, good_of_word rfl⟩
theorem mw_4_170 : wo_P (Cond.fieldLink RX12 95 "BayMooringsModel" "gets" "[I") := ⟨wi_4 170 rfl, good_of_word rfl⟩
theorem mw_4_168 : wo_P (Cond.fieldLink RX12 92 "BayMooringsModel" "touching" "[I") := ⟨wi_4 168 rfl, good_of_word rfl⟩
theorem mw_4_167 : wo_P (Cond.fieldLink RX12 89 "BayMooringsModel" "best" "[I") := ⟨wi_4 167 rfl, good_of_word rfl⟩
theorem mw_4_166 : wo_P (Cond.fieldLink RX12 86 "BayMooringsModel" "tried" "[I") := ⟨wi_4 166 rfl, good_of_word rfl⟩
theorem mw_4_165 : wo_P (Cond.fieldLink RX12 83 "BayMooringsModel" "may" "[I") := ⟨wi_4 165 rfl, good_of_word rfl⟩
theorem mw_4_164 : wo_P (Cond.fieldLink RX12 80 "BayMooringsModel" "someOf" "[I") := ⟨wi_4 164 rfl, good_of_word rfl⟩
theorem mw_4_162 : wo_P (Cond.fieldLink RX12 77 "BayMooringsModel" "findings" "[I") := ⟨wi_4 162 rfl, good_of_word rfl⟩
theorem mw_4_161 : wo_P (Cond.fieldLink RX12 74 "BayMooringsModel" "told" "[I") := ⟨wi_4 161 rfl, good_of_word rfl⟩
theorem mw_4_159 : wo_P (Cond.fieldLink RX12 71 "BayMooringsModel" "rate" "I") := ⟨wi_4 159 rfl, good_of_word rfl⟩
set_option maxRecDepth 20000 in
theorem gwsX12_init_r2 : ∀ w ∈ wsX12_init_r2, wo_P w := (List.forall_mem_cons.mpr ⟨mw_4_159, (List.forall_mem_cons.mpr ⟨mw_4_161, (List.forall_mem_cons.mpr ⟨mw_4_162, (List.forall_mem_cons.mpr ⟨mw_4_164, (List.forall_mem_cons.mpr ⟨mw_4_165, (List.forall_mem_cons.mpr ⟨mw_4_166, (List.forall_mem_cons.mpr ⟨mw_4_167, (List.forall_mem_cons.mpr ⟨mw_4_168, (List.forall_mem_cons.mpr ⟨mw_4_170, (List.forall_mem_cons.mpr ⟨mw_1_53, (List.forall_mem_cons.mpr ⟨mw_4_171, (List.forall_mem_cons.mpr ⟨mw_4_172, (List.forall_mem_cons.mpr ⟨mw_4_173, (List.forall_mem_nil _)⟩)⟩)⟩)⟩)⟩)⟩)⟩)⟩)⟩)⟩)⟩)⟩)⟩)
theorem mw_5_8 : wo_P (Cond.laysFinal RX12 "BayMooringsModel" "then" "[I") := ⟨wi_5 8 rfl, good_of_word rfl⟩
theorem mw_5_6 : wo_P (Cond.laysFinal RX12 "BayMooringsModel" "ring" "[I") := ⟨wi_5 6 rfl, good_of_word rfl⟩
theorem mw_5_4 : wo_P (Cond.laysFinal RX12 "BayMooringsModel" "inRing" "[Z") := ⟨wi_5 4 rfl, good_of_word rfl⟩
theorem mw_5_2 : wo_P (Cond.laysFinal RX12 "BayMooringsModel" "gets" "[I") := ⟨wi_5 2 rfl, good_of_word rfl⟩
theorem mw_5_0 : wo_P (Cond.lays RX12 "BayMooringsModel" "most" "I") := ⟨wi_5 0 rfl, good_of_word rfl⟩
theorem mw_4_238 : wo_P (Cond.laysFinal RX12 "BayMooringsModel" "touching" "[I") := ⟨wi_4 238 rfl, good_of_word rfl⟩
theorem mw_4_236 : wo_P (Cond.laysFinal RX12 "BayMooringsModel" "best" "[I") := ⟨wi_4 236 rfl, good_of_word rfl⟩
theorem mw_4_234 : wo_P (Cond.laysFinal RX12 "BayMooringsModel" "tried" "[I") := ⟨wi_4 234 rfl, good_of_word rfl⟩
theorem mw_4_232 : wo_P (Cond.laysFinal RX12 "BayMooringsModel" "may" "[I") := ⟨wi_4 232 rfl, good_of_word rfl⟩
theorem mw_4_230 : wo_P (Cond.laysFinal RX12 "BayMooringsModel" "someOf" "[I") := ⟨wi_4 230 rfl, good_of_word rfl⟩
theorem mw_4_228 : wo_P (Cond.lays RX12 "BayMooringsModel" "some" "I") := ⟨wi_4 228 rfl, good_of_word rfl⟩
theorem mw_4_226 : wo_P (Cond.laysFinal RX12 "BayMooringsModel" "findings" "[I") := ⟨wi_4 226 rfl, good_of_word rfl⟩
theorem mw_4_224 : wo_P (Cond.laysFinal RX12 "BayMooringsModel" "told" "[I") := ⟨wi_4 224 rfl, good_of_word rfl⟩
theorem mw_4_222 : wo_P (Cond.lays RX12 "BayMooringsModel" "tells" "I") := ⟨wi_4 222 rfl, good_of_word rfl⟩
theorem mw_4_220 : wo_P (Cond.lays RX12 "BayMooringsModel" "rate" "I") := ⟨wi_4 220 rfl, good_of_word rfl⟩
theorem mw_4_218 : wo_P (Cond.laysFinal RX12 "BayMooringsModel" "rather" "[I") := ⟨wi_4 218 rfl, good_of_word rfl⟩
theorem mw_4_216 : wo_P (Cond.laysFinal RX12 "BayMooringsModel" "rathers" "[I") := ⟨wi_4 216 rfl, good_of_word rfl⟩
theorem mw_4_214 : wo_P (Cond.lays RX12 "BayMooringsModel" "stays" "I") := ⟨wi_4 214 rfl, good_of_word rfl⟩
theorem mw_4_212 : wo_P (Cond.laysFinal RX12 "BayMooringsModel" "refused" "[I") := ⟨wi_4 212 rfl, good_of_word rfl⟩
theorem mw_4_210 : wo_P (Cond.laysFinal RX12 "BayMooringsModel" "list" "[I") := ⟨wi_4 210 rfl, good_of_word rfl⟩
theorem mw_4_208 : wo_P (Cond.lays RX12 "BayMooringsModel" "waiting" "I") := ⟨wi_4 208 rfl, good_of_word rfl⟩
theorem mw_4_206 : wo_P (Cond.laysFinal RX12 "BayMooringsModel" "wayY" "[I") := ⟨wi_4 206 rfl, good_of_word rfl⟩
theorem mw_4_204 : wo_P (Cond.laysFinal RX12 "BayMooringsModel" "wayX" "[I") := ⟨wi_4 204 rfl, good_of_word rfl⟩
theorem mw_4_202 : wo_P (Cond.lays RX12 "BayMooringsModel" "winds" "I") := ⟨wi_4 202 rfl, good_of_word rfl⟩
theorem mw_4_200 : wo_P (Cond.laysFinal RX12 "BayMooringsModel" "tides" "[I") := ⟨wi_4 200 rfl, good_of_word rfl⟩
theorem mw_4_198 : wo_P (Cond.laysFinal RX12 "BayMooringsModel" "buoyOf" "[I") := ⟨wi_4 198 rfl, good_of_word rfl⟩
theorem mw_4_196 : wo_P (Cond.laysFinal RX12 "BayMooringsModel" "draughtOf" "[I") := ⟨wi_4 196 rfl, good_of_word rfl⟩
theorem mw_4_194 : wo_P (Cond.laysFinal RX12 "BayMooringsModel" "lengthOf" "[I") := ⟨wi_4 194 rfl, good_of_word rfl⟩
theorem mw_4_192 : wo_P (Cond.laysFinal RX12 "BayMooringsModel" "kindOf" "[I") := ⟨wi_4 192 rfl, good_of_word rfl⟩
theorem mw_4_190 : wo_P (Cond.lays RX12 "BayMooringsModel" "boats" "I") := ⟨wi_4 190 rfl, good_of_word rfl⟩
theorem mw_4_188 : wo_P (Cond.laysFinal RX12 "BayMooringsModel" "boatAt" "[I") := ⟨wi_4 188 rfl, good_of_word rfl⟩
theorem mw_4_186 : wo_P (Cond.laysFinal RX12 "BayMooringsModel" "high" "[I") := ⟨wi_4 186 rfl, good_of_word rfl⟩
theorem mw_4_184 : wo_P (Cond.laysFinal RX12 "BayMooringsModel" "low" "[I") := ⟨wi_4 184 rfl, good_of_word rfl⟩
theorem mw_4_182 : wo_P (Cond.laysFinal RX12 "BayMooringsModel" "chain" "[I") := ⟨wi_4 182 rfl, good_of_word rfl⟩
theorem mw_4_180 : wo_P (Cond.laysFinal RX12 "BayMooringsModel" "depth" "[I") := ⟨wi_4 180 rfl, good_of_word rfl⟩
theorem mw_4_178 : wo_P (Cond.laysFinal RX12 "BayMooringsModel" "atY" "[I") := ⟨wi_4 178 rfl, good_of_word rfl⟩
theorem mw_4_176 : wo_P (Cond.laysFinal RX12 "BayMooringsModel" "atX" "[I") := ⟨wi_4 176 rfl, good_of_word rfl⟩
theorem mw_4_174 : wo_P (Cond.lays RX12 "BayMooringsModel" "buoys" "I") := ⟨wi_4 174 rfl, good_of_word rfl⟩
set_option maxRecDepth 20000 in
theorem gwsX120 : ∀ w ∈ wsX120, wo_P w := (List.forall_mem_cons.mpr ⟨mw_4_174, (List.forall_mem_cons.mpr ⟨mw_4_176, (List.forall_mem_cons.mpr ⟨mw_4_178, (List.forall_mem_cons.mpr ⟨mw_4_180, (List.forall_mem_cons.mpr ⟨mw_4_182, (List.forall_mem_cons.mpr ⟨mw_4_184, (List.forall_mem_cons.mpr ⟨mw_4_186, (List.forall_mem_cons.mpr ⟨mw_4_188, (List.forall_mem_cons.mpr ⟨mw_4_190, (List.forall_mem_cons.mpr ⟨mw_4_192, (List.forall_mem_cons.mpr ⟨mw_4_194, (List.forall_mem_cons.mpr ⟨mw_4_196, (List.forall_mem_cons.mpr ⟨mw_4_198, (List.forall_mem_cons.mpr ⟨mw_4_200, (List.forall_mem_cons.mpr ⟨mw_4_202, (List.forall_mem_cons.mpr ⟨mw_4_204, (List.forall_mem_cons.mpr ⟨mw_4_206, (List.forall_mem_cons.mpr ⟨mw_4_208, (List.forall_mem_cons.mpr ⟨mw_4_210, (List.forall_mem_cons.mpr ⟨mw_4_212, (List.forall_mem_cons.mpr ⟨mw_4_214, (List.forall_mem_cons.mpr ⟨mw_4_216, (List.forall_mem_cons.mpr ⟨mw_4_218, (List.forall_mem_cons.mpr ⟨mw_4_220, (List.forall_mem_cons.mpr ⟨mw_4_222, (List.forall_mem_cons.mpr ⟨mw_4_224, (List.forall_mem_cons.mpr ⟨mw_4_226, (List.forall_mem_cons.mpr ⟨mw_4_228, (List.forall_mem_cons.mpr ⟨mw_4_230, (List.forall_mem_cons.mpr ⟨mw_4_232, (List.forall_mem_cons.mpr ⟨mw_4_234, (List.forall_mem_cons.mpr ⟨mw_4_236, (List.forall_mem_cons.mpr ⟨mw_4_238, (List.forall_mem_cons.mpr ⟨mw_5_0, (List.forall_mem_cons.mpr ⟨mw_5_2, (List.forall_mem_cons.mpr ⟨mw_5_4, (List.forall_mem_cons.mpr ⟨mw_5_6, (List.forall_mem_cons.mpr ⟨mw_5_8, (List.forall_mem_nil _)⟩)⟩)⟩)⟩)⟩)⟩)⟩)⟩)⟩)⟩)⟩)⟩)⟩)⟩)⟩)⟩)⟩)⟩)⟩)⟩)⟩)⟩)⟩)⟩)⟩)⟩)⟩)⟩)⟩)⟩)⟩)⟩)⟩)⟩)⟩)⟩)⟩)⟩)
set_option maxRecDepth 20000 in
theorem gwsX12_init : ∀ w ∈ wsX12_init, wo_P w := (List.forall_mem_cons.mpr ⟨mw_4_134, (wi_ap (wi_ap gwsX12_init_r1 gwsX12_init_r2) gwsX120)⟩)
theorem gL_law_X12_init : GoodIn lw_tbl wsX12_init := gwsX12_init
theorem mw_1_219 : wo_P (Cond.code yX11_buoy cX11_buoy 6 (some .int)) := ⟨wi_1 219 rfl, good_of_word rfl⟩
theorem mw_1_233 : wo_P (Cond.methodLink RX0 55 yX3_init) := ⟨wi_1 233 rfl, good_of_word rfl⟩
theorem mw_1_10 : wo_P (Cond.initialized RX3) := ⟨wi_1 10 rfl, good_of_word rfl⟩
theorem mw_1_232 : wo_P (Cond.instantiable RX3 8) := ⟨wi_1 232 rfl, good_of_word rfl⟩
theorem mw_1_231 : wo_P (Cond.code yX0_addBuoy cX0_addBuoy 8 (some .int)) := ⟨wi_1 231 rfl, good_of_word rfl⟩
theorem mw_1_230 : wo_P (Cond.selects RX0 yX0_addBuoy yX0_addBuoy) := ⟨wi_1 230 rfl, good_of_word rfl⟩
theorem mw_1_229 : wo_P (Cond.instanceMethod yX0_addBuoy) := ⟨wi_1 229 rfl, good_of_word rfl⟩
theorem mw_1_228 : wo_P (Cond.methodLink RX11 75 yX0_addBuoy) := ⟨wi_1 228 rfl, good_of_word rfl⟩
theorem mw_1_227 : wo_P (Cond.constant RX11 278 (-1000000)) := ⟨wi_1 227 rfl, good_of_word rfl⟩
theorem mw_1_226 : wo_P (Cond.code yX11_finding cX11_finding 2 (some .int)) := ⟨wi_1 226 rfl, good_of_word rfl⟩
theorem mw_0_0 : wo_P (Cond.selects RX11 yX11_finding yX11_finding) := ⟨wi_0 0 rfl, good_of_word rfl⟩
theorem mw_1_225 : wo_P (Cond.instanceMethod yX11_finding) := ⟨wi_1 225 rfl, good_of_word rfl⟩
theorem mw_1_223 : wo_P (Cond.methodLink RX11 68 yX11_finding) := ⟨wi_1 223 rfl, good_of_word rfl⟩
theorem mw_1_222 : wo_P (Cond.code yX11_within cX11_within 3 (some .boolean)) := ⟨wi_1 222 rfl, good_of_word rfl⟩
theorem mw_1_1 : wo_P (Cond.initialized RX11) := ⟨wi_1 1 rfl, good_of_word rfl⟩
theorem mw_1_221 : wo_P (Cond.static yX11_within) := ⟨wi_1 221 rfl, good_of_word rfl⟩
theorem mw_1_220 : wo_P (Cond.methodLink RX11 64 yX11_within) := ⟨wi_1 220 rfl, good_of_word rfl⟩
theorem mw_1_66 : wo_P (Cond.fieldLink RX11 72 "BayMoorings$Bay" "buoyCount" "I") := ⟨wi_1 66 rfl, good_of_word rfl⟩
set_option maxRecDepth 20000 in
theorem gwsX11_buoy_r1 : ∀ w ∈ wsX11_buoy_r1, wo_P w := (List.forall_mem_cons.mpr ⟨mw_1_185, (List.forall_mem_cons.mpr ⟨mw_1_66, (List.forall_mem_cons.mpr ⟨mw_1_220, (List.forall_mem_cons.mpr ⟨mw_1_221, (List.forall_mem_cons.mpr ⟨mw_1_1, (List.forall_mem_cons.mpr ⟨mw_1_222, (List.forall_mem_cons.mpr ⟨mw_1_223, (List.forall_mem_cons.mpr ⟨mw_1_225, (List.forall_mem_cons.mpr ⟨mw_0_0, (List.forall_mem_cons.mpr ⟨mw_1_226, (List.forall_mem_cons.mpr ⟨mw_1_190, (List.forall_mem_cons.mpr ⟨mw_1_227, (List.forall_mem_cons.mpr ⟨mw_1_228, (List.forall_mem_cons.mpr ⟨mw_1_229, (List.forall_mem_cons.mpr ⟨mw_1_230, (List.forall_mem_cons.mpr ⟨mw_1_2, (List.forall_mem_cons.mpr ⟨mw_1_231, (List.forall_mem_cons.mpr ⟨mw_1_65, (List.forall_mem_cons.mpr ⟨mw_1_32, (List.forall_mem_cons.mpr ⟨mw_1_232, (List.forall_mem_cons.mpr ⟨mw_1_10, (List.forall_mem_cons.mpr ⟨mw_1_56, (List.forall_mem_cons.mpr ⟨mw_1_54, (List.forall_mem_cons.mpr ⟨mw_1_233, (List.forall_mem_nil _)⟩)⟩)⟩)⟩)⟩)⟩)⟩)⟩)⟩)⟩)⟩)⟩)⟩)⟩)⟩)⟩)⟩)⟩)⟩)⟩)⟩)⟩)⟩)⟩)
theorem mw_2_45 : wo_P (Cond.code yX3_wholeRoot cX3_wholeRoot 4 (some .int)) := ⟨wi_2 45 rfl, good_of_word rfl⟩
theorem mw_2_44 : wo_P (Cond.static yX3_wholeRoot) := ⟨wi_2 44 rfl, good_of_word rfl⟩
theorem mw_2_43 : wo_P (Cond.methodLink RX3 41 yX3_wholeRoot) := ⟨wi_2 43 rfl, good_of_word rfl⟩
theorem mw_2_42 : wo_P (Cond.code yX11_isHour cX11_isHour 1 (some .boolean)) := ⟨wi_2 42 rfl, good_of_word rfl⟩
theorem mw_2_41 : wo_P (Cond.static yX11_isHour) := ⟨wi_2 41 rfl, good_of_word rfl⟩
theorem mw_2_39 : wo_P (Cond.code yX3_flood cX3_flood 4 none) := ⟨wi_2 39 rfl, good_of_word rfl⟩
theorem mw_2_38 : wo_P (Cond.selects RX3 yX3_flood yX3_flood) := ⟨wi_2 38 rfl, good_of_word rfl⟩
theorem mw_2_37 : wo_P (Cond.instanceMethod yX3_flood) := ⟨wi_2 37 rfl, good_of_word rfl⟩
theorem mw_2_36 : wo_P (Cond.methodLink RX0 58 yX3_flood) := ⟨wi_2 36 rfl, good_of_word rfl⟩
theorem mw_2_10 : wo_P (Cond.fieldLink RX3 34 "BayMoorings$Buoy" "chain" "I") := ⟨wi_2 10 rfl, good_of_word rfl⟩
theorem mw_2_7 : wo_P (Cond.fieldLink RX3 31 "BayMoorings$Buoy" "depth" "I") := ⟨wi_2 7 rfl, good_of_word rfl⟩
theorem mw_2_4 : wo_P (Cond.fieldLink RX3 28 "BayMoorings$Buoy" "y" "I") := ⟨wi_2 4 rfl, good_of_word rfl⟩
theorem mw_2_1 : wo_P (Cond.fieldLink RX3 25 "BayMoorings$Buoy" "x" "I") := ⟨wi_2 1 rfl, good_of_word rfl⟩
theorem mw_1_237 : wo_P (Cond.fieldLink RX3 22 "BayMoorings$Buoy" "number" "I") := ⟨wi_1 237 rfl, good_of_word rfl⟩
theorem mw_2_16 : wo_P (Cond.fieldLink RX3 19 "BayMoorings$Buoy" "high" "I") := ⟨wi_2 16 rfl, good_of_word rfl⟩
theorem mw_2_14 : wo_P (Cond.fieldLink RX3 15 "BayMoorings$Buoy" "low" "I") := ⟨wi_2 14 rfl, good_of_word rfl⟩
theorem mw_2_13 : wo_P (Cond.fieldLink RX3 9 "BayMoorings$Buoy" "slack" "[I") := ⟨wi_2 13 rfl, good_of_word rfl⟩
theorem mw_1_236 : wo_P (Cond.methodLink RX3 3 objectInit) := ⟨wi_1 236 rfl, good_of_word rfl⟩
theorem mw_1_235 : wo_P (Cond.code yX3_init cX3_init 6 none) := ⟨wi_1 235 rfl, good_of_word rfl⟩
theorem mw_1_234 : wo_P (Cond.instanceMethod yX3_init) := ⟨wi_1 234 rfl, good_of_word rfl⟩
set_option maxRecDepth 20000 in
theorem gwsX11_buoy_r2 : ∀ w ∈ wsX11_buoy_r2, wo_P w := (List.forall_mem_cons.mpr ⟨mw_1_234, (List.forall_mem_cons.mpr ⟨mw_1_235, (List.forall_mem_cons.mpr ⟨mw_1_236, (List.forall_mem_cons.mpr ⟨mw_1_24, (List.forall_mem_cons.mpr ⟨mw_1_25, (List.forall_mem_cons.mpr ⟨mw_1_52, (List.forall_mem_cons.mpr ⟨mw_2_13, (List.forall_mem_cons.mpr ⟨mw_2_14, (List.forall_mem_cons.mpr ⟨mw_2_16, (List.forall_mem_cons.mpr ⟨mw_1_237, (List.forall_mem_cons.mpr ⟨mw_2_1, (List.forall_mem_cons.mpr ⟨mw_2_4, (List.forall_mem_cons.mpr ⟨mw_2_7, (List.forall_mem_cons.mpr ⟨mw_2_10, (List.forall_mem_cons.mpr ⟨mw_2_36, (List.forall_mem_cons.mpr ⟨mw_2_37, (List.forall_mem_cons.mpr ⟨mw_2_38, (List.forall_mem_cons.mpr ⟨mw_2_39, (List.forall_mem_cons.mpr ⟨mw_2_41, (List.forall_mem_cons.mpr ⟨mw_2_42, (List.forall_mem_cons.mpr ⟨mw_2_43, (List.forall_mem_cons.mpr ⟨mw_2_44, (List.forall_mem_cons.mpr ⟨mw_2_45, (List.forall_mem_nil _)⟩)⟩)⟩)⟩)⟩)⟩)⟩)⟩)⟩)⟩)⟩)⟩)⟩)⟩)⟩)⟩)⟩)⟩)⟩)⟩)⟩)⟩)⟩)
theorem mw_2_33 : wo_P (Cond.lays RX3 "BayMoorings$Buoy" "high" "I") := ⟨wi_2 33 rfl, good_of_word rfl⟩
theorem mw_2_31 : wo_P (Cond.lays RX3 "BayMoorings$Buoy" "low" "I") := ⟨wi_2 31 rfl, good_of_word rfl⟩
theorem mw_2_29 : wo_P (Cond.laysFinal RX3 "BayMoorings$Buoy" "slack" "[I") := ⟨wi_2 29 rfl, good_of_word rfl⟩
theorem mw_2_27 : wo_P (Cond.laysFinal RX3 "BayMoorings$Buoy" "chain" "I") := ⟨wi_2 27 rfl, good_of_word rfl⟩
theorem mw_2_25 : wo_P (Cond.laysFinal RX3 "BayMoorings$Buoy" "depth" "I") := ⟨wi_2 25 rfl, good_of_word rfl⟩
theorem mw_2_23 : wo_P (Cond.laysFinal RX3 "BayMoorings$Buoy" "y" "I") := ⟨wi_2 23 rfl, good_of_word rfl⟩
theorem mw_2_21 : wo_P (Cond.laysFinal RX3 "BayMoorings$Buoy" "x" "I") := ⟨wi_2 21 rfl, good_of_word rfl⟩
theorem mw_2_19 : wo_P (Cond.laysFinal RX3 "BayMoorings$Buoy" "number" "I") := ⟨wi_2 19 rfl, good_of_word rfl⟩
set_option maxRecDepth 20000 in
theorem gwsX30 : ∀ w ∈ wsX30, wo_P w := (List.forall_mem_cons.mpr ⟨mw_2_19, (List.forall_mem_cons.mpr ⟨mw_2_21, (List.forall_mem_cons.mpr ⟨mw_2_23, (List.forall_mem_cons.mpr ⟨mw_2_25, (List.forall_mem_cons.mpr ⟨mw_2_27, (List.forall_mem_cons.mpr ⟨mw_2_29, (List.forall_mem_cons.mpr ⟨mw_2_31, (List.forall_mem_cons.mpr ⟨mw_2_33, (List.forall_mem_nil _)⟩)⟩)⟩)⟩)⟩)⟩)⟩)⟩)
set_option maxRecDepth 20000 in
theorem gwsX11_buoy : ∀ w ∈ wsX11_buoy, wo_P w := (List.forall_mem_cons.mpr ⟨mw_1_219, (wi_ap (wi_ap (wi_ap (wi_ap gwsX11_buoy_r1 gwsX11_buoy_r2) gwsX110) gwsX00) gwsX30)⟩)
theorem mw_1_216 : wo_P (Cond.methodLink RL 13 yX11_buoy) := ⟨wi_1 216 rfl, good_of_word rfl⟩
theorem mw_1_217 : wo_P (Cond.instanceMethod yX11_buoy) := ⟨wi_1 217 rfl, good_of_word rfl⟩
theorem mw_1_218 : wo_P (Cond.selects RX11 yX11_buoy yX11_buoy) := ⟨wi_1 218 rfl, good_of_word rfl⟩
theorem gL_law_X11_buoy : GoodIn lw_tbl (wsV RL 13 RX11 yX11_buoy wsX11_buoy) := wo_V mw_1_216 mw_1_217 mw_1_218 mw_1_1 gwsX11_buoy
theorem mw_5_14 : wo_P (Cond.code yX12_buoy cX12_buoy 5 (some .int)) := ⟨wi_5 14 rfl, good_of_word rfl⟩
theorem mw_5_23 : wo_P (Cond.constant RX12 108 (-1000000)) := ⟨wi_5 23 rfl, good_of_word rfl⟩
theorem mw_5_22 : wo_P (Cond.code yX12_finding cX12_finding 2 (some .int)) := ⟨wi_5 22 rfl, good_of_word rfl⟩
theorem mw_0_19 : wo_P (Cond.selects RX12 yX12_finding yX12_finding) := ⟨wi_0 19 rfl, good_of_word rfl⟩
theorem mw_5_21 : wo_P (Cond.instanceMethod yX12_finding) := ⟨wi_5 21 rfl, good_of_word rfl⟩
theorem mw_5_19 : wo_P (Cond.methodLink RX12 120 yX12_finding) := ⟨wi_5 19 rfl, good_of_word rfl⟩
theorem mw_5_17 : wo_P (Cond.code yX12_within cX12_within 3 (some .boolean)) := ⟨wi_5 17 rfl, good_of_word rfl⟩
theorem mw_1_9 : wo_P (Cond.initialized RX12) := ⟨wi_1 9 rfl, good_of_word rfl⟩
theorem mw_5_16 : wo_P (Cond.static yX12_within) := ⟨wi_5 16 rfl, good_of_word rfl⟩
theorem mw_5_15 : wo_P (Cond.methodLink RX12 112 yX12_within) := ⟨wi_5 15 rfl, good_of_word rfl⟩
theorem mw_5_24 : wo_P (Cond.constant RX12 124 (-1000004)) := ⟨wi_5 24 rfl, good_of_word rfl⟩
theorem mw_4_136 : wo_P (Cond.fieldLink RX12 109 "BayMooringsModel" "buoys" "I") := ⟨wi_4 136 rfl, good_of_word rfl⟩
theorem mw_5_18 : wo_P (Cond.constant RX12 119 (-1000001)) := ⟨wi_5 18 rfl, good_of_word rfl⟩
set_option maxRecDepth 20000 in
theorem gwsX12_buoy : ∀ w ∈ wsX12_buoy, wo_P w := (List.forall_mem_cons.mpr ⟨mw_5_14, (wi_ap (List.forall_mem_cons.mpr ⟨mw_5_18, (List.forall_mem_cons.mpr ⟨mw_4_136, (List.forall_mem_cons.mpr ⟨mw_5_24, (List.forall_mem_cons.mpr ⟨mw_4_137, (List.forall_mem_cons.mpr ⟨mw_4_138, (List.forall_mem_cons.mpr ⟨mw_4_139, (List.forall_mem_cons.mpr ⟨mw_4_140, (List.forall_mem_cons.mpr ⟨mw_4_143, (List.forall_mem_cons.mpr ⟨mw_5_15, (List.forall_mem_cons.mpr ⟨mw_5_16, (List.forall_mem_cons.mpr ⟨mw_1_9, (List.forall_mem_cons.mpr ⟨mw_5_17, (List.forall_mem_cons.mpr ⟨mw_5_19, (List.forall_mem_cons.mpr ⟨mw_5_21, (List.forall_mem_cons.mpr ⟨mw_0_19, (List.forall_mem_cons.mpr ⟨mw_5_22, (List.forall_mem_cons.mpr ⟨mw_4_162, (List.forall_mem_cons.mpr ⟨mw_5_23, (List.forall_mem_nil _)⟩)⟩)⟩)⟩)⟩)⟩)⟩)⟩)⟩)⟩)⟩)⟩)⟩)⟩)⟩)⟩)⟩)⟩) gwsX120)⟩)
theorem mw_5_11 : wo_P (Cond.methodLink RL 17 yX12_buoy) := ⟨wi_5 11 rfl, good_of_word rfl⟩
theorem mw_5_12 : wo_P (Cond.instanceMethod yX12_buoy) := ⟨wi_5 12 rfl, good_of_word rfl⟩
theorem mw_5_13 : wo_P (Cond.selects RX12 yX12_buoy yX12_buoy) := ⟨wi_5 13 rfl, good_of_word rfl⟩
theorem gL_law_X12_buoy : GoodIn lw_tbl (wsV RL 17 RX12 yX12_buoy wsX12_buoy) := wo_V mw_5_11 mw_5_12 mw_5_13 mw_1_9 gwsX12_buoy
theorem mw_2_49 : wo_P (Cond.code yX11_boat cX11_boat 4 (some .int)) := ⟨wi_2 49 rfl, good_of_word rfl⟩
theorem mw_2_58 : wo_P (Cond.static yX0_newBoat) := ⟨wi_2 58 rfl, good_of_word rfl⟩
theorem mw_2_57 : wo_P (Cond.methodLink RX0 62 yX0_newBoat) := ⟨wi_2 57 rfl, good_of_word rfl⟩
theorem mw_2_56 : wo_P (Cond.code yX0_addBoat cX0_addBoat 5 (some .int)) := ⟨wi_2 56 rfl, good_of_word rfl⟩
theorem mw_2_55 : wo_P (Cond.selects RX0 yX0_addBoat yX0_addBoat) := ⟨wi_2 55 rfl, good_of_word rfl⟩
theorem mw_2_54 : wo_P (Cond.instanceMethod yX0_addBoat) := ⟨wi_2 54 rfl, good_of_word rfl⟩
theorem mw_2_53 : wo_P (Cond.methodLink RX11 86 yX0_addBoat) := ⟨wi_2 53 rfl, good_of_word rfl⟩
theorem mw_2_52 : wo_P (Cond.code yX11_isKind cX11_isKind 1 (some .boolean)) := ⟨wi_2 52 rfl, good_of_word rfl⟩
theorem mw_2_51 : wo_P (Cond.static yX11_isKind) := ⟨wi_2 51 rfl, good_of_word rfl⟩
theorem mw_2_50 : wo_P (Cond.methodLink RX11 79 yX11_isKind) := ⟨wi_2 50 rfl, good_of_word rfl⟩
theorem mw_1_73 : wo_P (Cond.fieldLink RX11 83 "BayMoorings$Bay" "boatCount" "I") := ⟨wi_1 73 rfl, good_of_word rfl⟩
set_option maxRecDepth 20000 in
theorem gwsX11_boat_r1 : ∀ w ∈ wsX11_boat_r1, wo_P w := (List.forall_mem_cons.mpr ⟨mw_1_185, (List.forall_mem_cons.mpr ⟨mw_1_73, (List.forall_mem_cons.mpr ⟨mw_2_50, (List.forall_mem_cons.mpr ⟨mw_2_51, (List.forall_mem_cons.mpr ⟨mw_1_1, (List.forall_mem_cons.mpr ⟨mw_2_52, (List.forall_mem_cons.mpr ⟨mw_1_220, (List.forall_mem_cons.mpr ⟨mw_1_221, (List.forall_mem_cons.mpr ⟨mw_1_222, (List.forall_mem_cons.mpr ⟨mw_1_223, (List.forall_mem_cons.mpr ⟨mw_1_225, (List.forall_mem_cons.mpr ⟨mw_0_0, (List.forall_mem_cons.mpr ⟨mw_1_226, (List.forall_mem_cons.mpr ⟨mw_1_190, (List.forall_mem_cons.mpr ⟨mw_1_227, (List.forall_mem_cons.mpr ⟨mw_2_53, (List.forall_mem_cons.mpr ⟨mw_2_54, (List.forall_mem_cons.mpr ⟨mw_2_55, (List.forall_mem_cons.mpr ⟨mw_1_2, (List.forall_mem_cons.mpr ⟨mw_2_56, (List.forall_mem_cons.mpr ⟨mw_1_69, (List.forall_mem_cons.mpr ⟨mw_1_55, (List.forall_mem_cons.mpr ⟨mw_2_57, (List.forall_mem_cons.mpr ⟨mw_2_58, (List.forall_mem_nil _)⟩)⟩)⟩)⟩)⟩)⟩)⟩)⟩)⟩)⟩)⟩)⟩)⟩)⟩)⟩)⟩)⟩)⟩)⟩)⟩)⟩)⟩)⟩)⟩)
theorem mw_2_87 : wo_P (Cond.fieldLink RX2 19 "BayMoorings$Boat" "refused" "I") := ⟨wi_2 87 rfl, good_of_word rfl⟩
theorem mw_2_83 : wo_P (Cond.fieldLink RX2 15 "BayMoorings$Boat" "wishCount" "I") := ⟨wi_2 83 rfl, good_of_word rfl⟩
theorem mw_2_82 : wo_P (Cond.fieldLink RX2 9 "BayMoorings$Boat" "wishes" "[I") := ⟨wi_2 82 rfl, good_of_word rfl⟩
theorem mw_2_68 : wo_P (Cond.methodLink RX2 3 objectInit) := ⟨wi_2 68 rfl, good_of_word rfl⟩
theorem mw_2_67 : wo_P (Cond.code yX2_init cX2_init 4 none) := ⟨wi_2 67 rfl, good_of_word rfl⟩
theorem mw_1_11 : wo_P (Cond.initialized RX2) := ⟨wi_1 11 rfl, good_of_word rfl⟩
theorem mw_2_66 : wo_P (Cond.instanceMethod yX2_init) := ⟨wi_2 66 rfl, good_of_word rfl⟩
theorem mw_2_65 : wo_P (Cond.methodLink RX9 3 yX2_init) := ⟨wi_2 65 rfl, good_of_word rfl⟩
theorem mw_2_64 : wo_P (Cond.code yX9_init cX9_init 4 none) := ⟨wi_2 64 rfl, good_of_word rfl⟩
theorem mw_2_63 : wo_P (Cond.instanceMethod yX9_init) := ⟨wi_2 63 rfl, good_of_word rfl⟩
theorem mw_2_62 : wo_P (Cond.methodLink RX0 68 yX9_init) := ⟨wi_2 62 rfl, good_of_word rfl⟩
theorem mw_1_14 : wo_P (Cond.initialized RX8) := ⟨wi_1 14 rfl, good_of_word rfl⟩
theorem mw_2_116 : wo_P (Cond.instantiable RX8 6) := ⟨wi_2 116 rfl, good_of_word rfl⟩
theorem mw_2_115 : wo_P (Cond.classLink RX0 74 RX8) := ⟨wi_2 115 rfl, good_of_word rfl⟩
theorem mw_1_13 : wo_P (Cond.initialized RX4) := ⟨wi_1 13 rfl, good_of_word rfl⟩
theorem mw_2_103 : wo_P (Cond.instantiable RX4 6) := ⟨wi_2 103 rfl, good_of_word rfl⟩
theorem mw_2_102 : wo_P (Cond.classLink RX0 71 RX4) := ⟨wi_2 102 rfl, good_of_word rfl⟩
theorem mw_1_12 : wo_P (Cond.initialized RX9) := ⟨wi_1 12 rfl, good_of_word rfl⟩
theorem mw_2_61 : wo_P (Cond.instantiable RX9 6) := ⟨wi_2 61 rfl, good_of_word rfl⟩
theorem mw_2_60 : wo_P (Cond.classLink RX0 66 RX9) := ⟨wi_2 60 rfl, good_of_word rfl⟩
theorem mw_2_59 : wo_P (Cond.code yX0_newBoat cX0_newBoat 4 (some (.object "BayMoorings$Boat"))) := ⟨wi_2 59 rfl, good_of_word rfl⟩
set_option maxRecDepth 20000 in
theorem gwsX11_boat_r2 : ∀ w ∈ wsX11_boat_r2, wo_P w := (List.forall_mem_cons.mpr ⟨mw_2_59, (List.forall_mem_cons.mpr ⟨mw_2_60, (List.forall_mem_cons.mpr ⟨mw_2_61, (List.forall_mem_cons.mpr ⟨mw_1_12, (List.forall_mem_cons.mpr ⟨mw_2_102, (List.forall_mem_cons.mpr ⟨mw_2_103, (List.forall_mem_cons.mpr ⟨mw_1_13, (List.forall_mem_cons.mpr ⟨mw_2_115, (List.forall_mem_cons.mpr ⟨mw_2_116, (List.forall_mem_cons.mpr ⟨mw_1_14, (List.forall_mem_cons.mpr ⟨mw_2_62, (List.forall_mem_cons.mpr ⟨mw_2_63, (List.forall_mem_cons.mpr ⟨mw_2_64, (List.forall_mem_cons.mpr ⟨mw_2_65, (List.forall_mem_cons.mpr ⟨mw_2_66, (List.forall_mem_cons.mpr ⟨mw_1_11, (List.forall_mem_cons.mpr ⟨mw_2_67, (List.forall_mem_cons.mpr ⟨mw_2_68, (List.forall_mem_cons.mpr ⟨mw_1_24, (List.forall_mem_cons.mpr ⟨mw_1_25, (List.forall_mem_cons.mpr ⟨mw_1_52, (List.forall_mem_cons.mpr ⟨mw_2_82, (List.forall_mem_cons.mpr ⟨mw_2_83, (List.forall_mem_cons.mpr ⟨mw_2_87, (List.forall_mem_nil _)⟩)⟩)⟩)⟩)⟩)⟩)⟩)⟩)⟩)⟩)⟩)⟩)⟩)⟩)⟩)⟩)⟩)⟩)⟩)⟩)⟩)⟩)⟩)⟩)
theorem mw_2_120 : wo_P (Cond.methodLink RX8 3 yX2_init) := ⟨wi_2 120 rfl, good_of_word rfl⟩
theorem mw_2_119 : wo_P (Cond.code yX8_init cX8_init 4 none) := ⟨wi_2 119 rfl, good_of_word rfl⟩
theorem mw_2_118 : wo_P (Cond.instanceMethod yX8_init) := ⟨wi_2 118 rfl, good_of_word rfl⟩
theorem mw_2_117 : wo_P (Cond.methodLink RX0 76 yX8_init) := ⟨wi_2 117 rfl, good_of_word rfl⟩
theorem mw_2_107 : wo_P (Cond.methodLink RX4 3 yX2_init) := ⟨wi_2 107 rfl, good_of_word rfl⟩
theorem mw_2_106 : wo_P (Cond.code yX4_init cX4_init 4 none) := ⟨wi_2 106 rfl, good_of_word rfl⟩
theorem mw_2_105 : wo_P (Cond.instanceMethod yX4_init) := ⟨wi_2 105 rfl, good_of_word rfl⟩
theorem mw_2_104 : wo_P (Cond.methodLink RX0 73 yX4_init) := ⟨wi_2 104 rfl, good_of_word rfl⟩
theorem mw_2_78 : wo_P (Cond.fieldLink RX2 28 "BayMoorings$Boat" "draught" "I") := ⟨wi_2 78 rfl, good_of_word rfl⟩
theorem mw_2_72 : wo_P (Cond.fieldLink RX2 25 "BayMoorings$Boat" "length" "I") := ⟨wi_2 72 rfl, good_of_word rfl⟩
theorem mw_2_69 : wo_P (Cond.fieldLink RX2 22 "BayMoorings$Boat" "number" "I") := ⟨wi_2 69 rfl, good_of_word rfl⟩
set_option maxRecDepth 20000 in
theorem gwsX11_boat_r3 : ∀ w ∈ wsX11_boat_r3, wo_P w := (List.forall_mem_cons.mpr ⟨mw_2_69, (List.forall_mem_cons.mpr ⟨mw_2_72, (List.forall_mem_cons.mpr ⟨mw_2_78, (List.forall_mem_cons.mpr ⟨mw_2_104, (List.forall_mem_cons.mpr ⟨mw_2_105, (List.forall_mem_cons.mpr ⟨mw_2_106, (List.forall_mem_cons.mpr ⟨mw_2_107, (List.forall_mem_cons.mpr ⟨mw_2_117, (List.forall_mem_cons.mpr ⟨mw_2_118, (List.forall_mem_cons.mpr ⟨mw_2_119, (List.forall_mem_cons.mpr ⟨mw_2_120, (List.forall_mem_nil _)⟩)⟩)⟩)⟩)⟩)⟩)⟩)⟩)⟩)⟩)⟩)
theorem mw_2_99 : wo_P (Cond.lays RX9 "BayMoorings$Boat" "refused" "I") := ⟨wi_2 99 rfl, good_of_word rfl⟩
theorem mw_2_97 : wo_P (Cond.lays RX9 "BayMoorings$Boat" "wishCount" "I") := ⟨wi_2 97 rfl, good_of_word rfl⟩
theorem mw_2_95 : wo_P (Cond.laysFinal RX9 "BayMoorings$Boat" "wishes" "[I") := ⟨wi_2 95 rfl, good_of_word rfl⟩
theorem mw_2_93 : wo_P (Cond.laysFinal RX9 "BayMoorings$Boat" "draught" "I") := ⟨wi_2 93 rfl, good_of_word rfl⟩
theorem mw_2_91 : wo_P (Cond.laysFinal RX9 "BayMoorings$Boat" "length" "I") := ⟨wi_2 91 rfl, good_of_word rfl⟩
theorem mw_2_89 : wo_P (Cond.laysFinal RX9 "BayMoorings$Boat" "number" "I") := ⟨wi_2 89 rfl, good_of_word rfl⟩
set_option maxRecDepth 20000 in
theorem gwsX90 : ∀ w ∈ wsX90, wo_P w := (List.forall_mem_cons.mpr ⟨mw_2_89, (List.forall_mem_cons.mpr ⟨mw_2_91, (List.forall_mem_cons.mpr ⟨mw_2_93, (List.forall_mem_cons.mpr ⟨mw_2_95, (List.forall_mem_cons.mpr ⟨mw_2_97, (List.forall_mem_cons.mpr ⟨mw_2_99, (List.forall_mem_nil _)⟩)⟩)⟩)⟩)⟩)⟩)
theorem mw_2_113 : wo_P (Cond.lays RX4 "BayMoorings$Boat" "refused" "I") := ⟨wi_2 113 rfl, good_of_word rfl⟩
theorem mw_2_112 : wo_P (Cond.lays RX4 "BayMoorings$Boat" "wishCount" "I") := ⟨wi_2 112 rfl, good_of_word rfl⟩
theorem mw_2_111 : wo_P (Cond.laysFinal RX4 "BayMoorings$Boat" "wishes" "[I") := ⟨wi_2 111 rfl, good_of_word rfl⟩
theorem mw_2_110 : wo_P (Cond.laysFinal RX4 "BayMoorings$Boat" "draught" "I") := ⟨wi_2 110 rfl, good_of_word rfl⟩
theorem mw_2_109 : wo_P (Cond.laysFinal RX4 "BayMoorings$Boat" "length" "I") := ⟨wi_2 109 rfl, good_of_word rfl⟩
theorem mw_2_108 : wo_P (Cond.laysFinal RX4 "BayMoorings$Boat" "number" "I") := ⟨wi_2 108 rfl, good_of_word rfl⟩
set_option maxRecDepth 20000 in
theorem gwsX40 : ∀ w ∈ wsX40, wo_P w := (List.forall_mem_cons.mpr ⟨mw_2_108, (List.forall_mem_cons.mpr ⟨mw_2_109, (List.forall_mem_cons.mpr ⟨mw_2_110, (List.forall_mem_cons.mpr ⟨mw_2_111, (List.forall_mem_cons.mpr ⟨mw_2_112, (List.forall_mem_cons.mpr ⟨mw_2_113, (List.forall_mem_nil _)⟩)⟩)⟩)⟩)⟩)⟩)
theorem mw_2_126 : wo_P (Cond.lays RX8 "BayMoorings$Boat" "refused" "I") := ⟨wi_2 126 rfl, good_of_word rfl⟩
theorem mw_2_125 : wo_P (Cond.lays RX8 "BayMoorings$Boat" "wishCount" "I") := ⟨wi_2 125 rfl, good_of_word rfl⟩
theorem mw_2_124 : wo_P (Cond.laysFinal RX8 "BayMoorings$Boat" "wishes" "[I") := ⟨wi_2 124 rfl, good_of_word rfl⟩
theorem mw_2_123 : wo_P (Cond.laysFinal RX8 "BayMoorings$Boat" "draught" "I") := ⟨wi_2 123 rfl, good_of_word rfl⟩
theorem mw_2_122 : wo_P (Cond.laysFinal RX8 "BayMoorings$Boat" "length" "I") := ⟨wi_2 122 rfl, good_of_word rfl⟩
theorem mw_2_121 : wo_P (Cond.laysFinal RX8 "BayMoorings$Boat" "number" "I") := ⟨wi_2 121 rfl, good_of_word rfl⟩
set_option maxRecDepth 20000 in
theorem gwsX80 : ∀ w ∈ wsX80, wo_P w := (List.forall_mem_cons.mpr ⟨mw_2_121, (List.forall_mem_cons.mpr ⟨mw_2_122, (List.forall_mem_cons.mpr ⟨mw_2_123, (List.forall_mem_cons.mpr ⟨mw_2_124, (List.forall_mem_cons.mpr ⟨mw_2_125, (List.forall_mem_cons.mpr ⟨mw_2_126, (List.forall_mem_nil _)⟩)⟩)⟩)⟩)⟩)⟩)
set_option maxRecDepth 20000 in
theorem gwsX11_boat : ∀ w ∈ wsX11_boat, wo_P w := (List.forall_mem_cons.mpr ⟨mw_2_49, (wi_ap (wi_ap (wi_ap (wi_ap (wi_ap (wi_ap gwsX11_boat_r1 (wi_ap gwsX11_boat_r2 gwsX11_boat_r3)) gwsX110) gwsX00) gwsX90) gwsX40) gwsX80)⟩)
theorem mw_2_46 : wo_P (Cond.methodLink RL 18 yX11_boat) := ⟨wi_2 46 rfl, good_of_word rfl⟩
theorem mw_2_47 : wo_P (Cond.instanceMethod yX11_boat) := ⟨wi_2 47 rfl, good_of_word rfl⟩
theorem mw_2_48 : wo_P (Cond.selects RX11 yX11_boat yX11_boat) := ⟨wi_2 48 rfl, good_of_word rfl⟩
theorem gL_law_X11_boat : GoodIn lw_tbl (wsV RL 18 RX11 yX11_boat wsX11_boat) := wo_V mw_2_46 mw_2_47 mw_2_48 mw_1_1 gwsX11_boat
theorem mw_5_28 : wo_P (Cond.code yX12_boat cX12_boat 4 (some .int)) := ⟨wi_5 28 rfl, good_of_word rfl⟩
theorem mw_4_144 : wo_P (Cond.fieldLink RX12 116 "BayMooringsModel" "boats" "I") := ⟨wi_4 144 rfl, good_of_word rfl⟩
set_option maxRecDepth 20000 in
theorem gwsX12_boat : ∀ w ∈ wsX12_boat, wo_P w := (List.forall_mem_cons.mpr ⟨mw_5_28, (wi_ap (List.forall_mem_cons.mpr ⟨mw_5_18, (List.forall_mem_cons.mpr ⟨mw_4_144, (List.forall_mem_cons.mpr ⟨mw_5_24, (List.forall_mem_cons.mpr ⟨mw_4_145, (List.forall_mem_cons.mpr ⟨mw_4_146, (List.forall_mem_cons.mpr ⟨mw_4_147, (List.forall_mem_cons.mpr ⟨mw_4_148, (List.forall_mem_cons.mpr ⟨mw_5_15, (List.forall_mem_cons.mpr ⟨mw_5_16, (List.forall_mem_cons.mpr ⟨mw_1_9, (List.forall_mem_cons.mpr ⟨mw_5_17, (List.forall_mem_cons.mpr ⟨mw_5_19, (List.forall_mem_cons.mpr ⟨mw_5_21, (List.forall_mem_cons.mpr ⟨mw_0_19, (List.forall_mem_cons.mpr ⟨mw_5_22, (List.forall_mem_cons.mpr ⟨mw_4_162, (List.forall_mem_cons.mpr ⟨mw_5_23, (List.forall_mem_nil _)⟩)⟩)⟩)⟩)⟩)⟩)⟩)⟩)⟩)⟩)⟩)⟩)⟩)⟩)⟩)⟩)⟩) gwsX120)⟩)
theorem mw_5_25 : wo_P (Cond.methodLink RL 22 yX12_boat) := ⟨wi_5 25 rfl, good_of_word rfl⟩
theorem mw_5_26 : wo_P (Cond.instanceMethod yX12_boat) := ⟨wi_5 26 rfl, good_of_word rfl⟩
theorem mw_5_27 : wo_P (Cond.selects RX12 yX12_boat yX12_boat) := ⟨wi_5 27 rfl, good_of_word rfl⟩
theorem gL_law_X12_boat : GoodIn lw_tbl (wsV RL 22 RX12 yX12_boat wsX12_boat) := wo_V mw_5_25 mw_5_26 mw_5_27 mw_1_9 gwsX12_boat
theorem mw_2_131 : wo_P (Cond.code yX11_as cX11_as 4 (some .int)) := ⟨wi_2 131 rfl, good_of_word rfl⟩
theorem mw_2_139 : wo_P (Cond.sameMethod "BayMoorings$Boat" "BayMoorings$Boat" "isOf" "(I)Z") := ⟨wi_2 139 rfl, good_of_word rfl⟩
theorem mw_2_137 : wo_P (Cond.methodLink RX11 94 ⟨"BayMoorings$Boat", "isOf", "(I)Z"⟩) := ⟨wi_2 137 rfl, good_of_word rfl⟩
theorem mw_2_135 : wo_P (Cond.code yX0_boatAt cX0_boatAt 2 (some (.object "BayMoorings$Boat"))) := ⟨wi_2 135 rfl, good_of_word rfl⟩
theorem mw_2_134 : wo_P (Cond.selects RX0 yX0_boatAt yX0_boatAt) := ⟨wi_2 134 rfl, good_of_word rfl⟩
theorem mw_2_133 : wo_P (Cond.instanceMethod yX0_boatAt) := ⟨wi_2 133 rfl, good_of_word rfl⟩
theorem mw_2_132 : wo_P (Cond.methodLink RX11 90 yX0_boatAt) := ⟨wi_2 132 rfl, good_of_word rfl⟩
set_option maxRecDepth 20000 in
theorem gwsX11_as_r1 : ∀ w ∈ wsX11_as_r1, wo_P w := (List.forall_mem_cons.mpr ⟨mw_1_185, (List.forall_mem_cons.mpr ⟨mw_1_193, (List.forall_mem_cons.mpr ⟨mw_2_132, (List.forall_mem_cons.mpr ⟨mw_2_133, (List.forall_mem_cons.mpr ⟨mw_2_134, (List.forall_mem_cons.mpr ⟨mw_1_2, (List.forall_mem_cons.mpr ⟨mw_2_135, (List.forall_mem_cons.mpr ⟨mw_1_69, (List.forall_mem_cons.mpr ⟨mw_1_55, (List.forall_mem_cons.mpr ⟨mw_1_221, (List.forall_mem_cons.mpr ⟨mw_1_1, (List.forall_mem_cons.mpr ⟨mw_1_222, (List.forall_mem_cons.mpr ⟨mw_2_50, (List.forall_mem_cons.mpr ⟨mw_2_51, (List.forall_mem_cons.mpr ⟨mw_2_52, (List.forall_mem_cons.mpr ⟨mw_1_220, (List.forall_mem_cons.mpr ⟨mw_1_223, (List.forall_mem_cons.mpr ⟨mw_1_225, (List.forall_mem_cons.mpr ⟨mw_0_0, (List.forall_mem_cons.mpr ⟨mw_1_226, (List.forall_mem_cons.mpr ⟨mw_1_190, (List.forall_mem_cons.mpr ⟨mw_1_227, (List.forall_mem_cons.mpr ⟨mw_2_137, (List.forall_mem_cons.mpr ⟨mw_2_139, (List.forall_mem_nil _)⟩)⟩)⟩)⟩)⟩)⟩)⟩)⟩)⟩)⟩)⟩)⟩)⟩)⟩)⟩)⟩)⟩)⟩)⟩)⟩)⟩)⟩)⟩)⟩)
theorem mw_2_157 : wo_P (Cond.instanceMethod yX2_fee) := ⟨wi_2 157 rfl, good_of_word rfl⟩
theorem mw_2_159 : wo_P (Cond.selects RX4 ⟨"BayMoorings$Boat", "fee", "(I)I"⟩ yX2_fee) := ⟨wi_2 159 rfl, good_of_word rfl⟩
theorem mw_2_158 : wo_P (Cond.sameMethod "BayMoorings$Boat" "BayMoorings$Boat" "fee" "(I)I") := ⟨wi_2 158 rfl, good_of_word rfl⟩
theorem mw_2_156 : wo_P (Cond.methodLink RX11 99 ⟨"BayMoorings$Boat", "fee", "(I)I"⟩) := ⟨wi_2 156 rfl, good_of_word rfl⟩
theorem mw_2_142 : wo_P (Cond.selects RX9 ⟨"BayMoorings$Boat", "isOf", "(I)Z"⟩ yX2_isOf) := ⟨wi_2 142 rfl, good_of_word rfl⟩
theorem mw_2_141 : wo_P (Cond.selects RX8 ⟨"BayMoorings$Boat", "isOf", "(I)Z"⟩ yX2_isOf) := ⟨wi_2 141 rfl, good_of_word rfl⟩
theorem mw_2_155 : wo_P (Cond.code yX9_kindNumber cX9_kindNumber 1 (some .int)) := ⟨wi_2 155 rfl, good_of_word rfl⟩
theorem mw_2_154 : wo_P (Cond.instanceMethod yX9_kindNumber) := ⟨wi_2 154 rfl, good_of_word rfl⟩
theorem mw_2_153 : wo_P (Cond.selects RX9 ⟨"BayMoorings$Boat", "kindNumber", "()I"⟩ yX9_kindNumber) := ⟨wi_2 153 rfl, good_of_word rfl⟩
theorem mw_2_152 : wo_P (Cond.code yX8_kindNumber cX8_kindNumber 1 (some .int)) := ⟨wi_2 152 rfl, good_of_word rfl⟩
theorem mw_2_151 : wo_P (Cond.instanceMethod yX8_kindNumber) := ⟨wi_2 151 rfl, good_of_word rfl⟩
theorem mw_2_150 : wo_P (Cond.selects RX8 ⟨"BayMoorings$Boat", "kindNumber", "()I"⟩ yX8_kindNumber) := ⟨wi_2 150 rfl, good_of_word rfl⟩
theorem mw_2_149 : wo_P (Cond.code yX4_kindNumber cX4_kindNumber 1 (some .int)) := ⟨wi_2 149 rfl, good_of_word rfl⟩
theorem mw_2_148 : wo_P (Cond.instanceMethod yX4_kindNumber) := ⟨wi_2 148 rfl, good_of_word rfl⟩
theorem mw_2_147 : wo_P (Cond.selects RX4 ⟨"BayMoorings$Boat", "kindNumber", "()I"⟩ yX4_kindNumber) := ⟨wi_2 147 rfl, good_of_word rfl⟩
theorem mw_2_146 : wo_P (Cond.sameMethod "BayMoorings$Boat" "BayMoorings$Boat" "kindNumber" "()I") := ⟨wi_2 146 rfl, good_of_word rfl⟩
theorem mw_2_144 : wo_P (Cond.methodLink RX2 35 ⟨"BayMoorings$Boat", "kindNumber", "()I"⟩) := ⟨wi_2 144 rfl, good_of_word rfl⟩
theorem mw_2_143 : wo_P (Cond.code yX2_isOf cX2_isOf 2 (some .boolean)) := ⟨wi_2 143 rfl, good_of_word rfl⟩
theorem mw_2_138 : wo_P (Cond.instanceMethod yX2_isOf) := ⟨wi_2 138 rfl, good_of_word rfl⟩
theorem mw_2_140 : wo_P (Cond.selects RX4 ⟨"BayMoorings$Boat", "isOf", "(I)Z"⟩ yX2_isOf) := ⟨wi_2 140 rfl, good_of_word rfl⟩
set_option maxRecDepth 20000 in
theorem gwsX11_as_r2 : ∀ w ∈ wsX11_as_r2, wo_P w := (List.forall_mem_cons.mpr ⟨mw_2_140, (List.forall_mem_cons.mpr ⟨mw_2_138, (List.forall_mem_cons.mpr ⟨mw_1_11, (List.forall_mem_cons.mpr ⟨mw_2_143, (List.forall_mem_cons.mpr ⟨mw_2_144, (List.forall_mem_cons.mpr ⟨mw_2_146, (List.forall_mem_cons.mpr ⟨mw_2_147, (List.forall_mem_cons.mpr ⟨mw_2_148, (List.forall_mem_cons.mpr ⟨mw_1_13, (List.forall_mem_cons.mpr ⟨mw_2_149, (List.forall_mem_cons.mpr ⟨mw_2_150, (List.forall_mem_cons.mpr ⟨mw_2_151, (List.forall_mem_cons.mpr ⟨mw_1_14, (List.forall_mem_cons.mpr ⟨mw_2_152, (List.forall_mem_cons.mpr ⟨mw_2_153, (List.forall_mem_cons.mpr ⟨mw_2_154, (List.forall_mem_cons.mpr ⟨mw_1_12, (List.forall_mem_cons.mpr ⟨mw_2_155, (List.forall_mem_cons.mpr ⟨mw_2_141, (List.forall_mem_cons.mpr ⟨mw_2_142, (List.forall_mem_cons.mpr ⟨mw_2_156, (List.forall_mem_cons.mpr ⟨mw_2_158, (List.forall_mem_cons.mpr ⟨mw_2_159, (List.forall_mem_cons.mpr ⟨mw_2_157, (List.forall_mem_nil _)⟩)⟩)⟩)⟩)⟩)⟩)⟩)⟩)⟩)⟩)⟩)⟩)⟩)⟩)⟩)⟩)⟩)⟩)⟩)⟩)⟩)⟩)⟩)⟩)
theorem mw_2_167 : wo_P (Cond.selects RX9 ⟨"BayMoorings$Twin", "plainFee", "(I)I"⟩ yX2_plainFee) := ⟨wi_2 167 rfl, good_of_word rfl⟩
theorem mw_2_165 : wo_P (Cond.sameMethod "BayMoorings$Twin" "BayMoorings$Boat" "plainFee" "(I)I") := ⟨wi_2 165 rfl, good_of_word rfl⟩
theorem mw_2_164 : wo_P (Cond.methodLink RX9 15 ⟨"BayMoorings$Twin", "plainFee", "(I)I"⟩) := ⟨wi_2 164 rfl, good_of_word rfl⟩
theorem mw_2_163 : wo_P (Cond.code yX9_fee cX9_fee 3 (some .int)) := ⟨wi_2 163 rfl, good_of_word rfl⟩
theorem mw_2_162 : wo_P (Cond.instanceMethod yX9_fee) := ⟨wi_2 162 rfl, good_of_word rfl⟩
theorem mw_2_161 : wo_P (Cond.selects RX9 ⟨"BayMoorings$Boat", "fee", "(I)I"⟩ yX9_fee) := ⟨wi_2 161 rfl, good_of_word rfl⟩
theorem mw_2_160 : wo_P (Cond.selects RX8 ⟨"BayMoorings$Boat", "fee", "(I)I"⟩ yX2_fee) := ⟨wi_2 160 rfl, good_of_word rfl⟩
theorem mw_6_36 : wo_P (Cond.selects RX9 ⟨"BayMoorings$Boat", "plainFee", "(I)I"⟩ yX2_plainFee) := ⟨wi_6 36 rfl, good_of_word rfl⟩
theorem mw_6_35 : wo_P (Cond.selects RX8 ⟨"BayMoorings$Boat", "plainFee", "(I)I"⟩ yX2_plainFee) := ⟨wi_6 35 rfl, good_of_word rfl⟩
theorem mw_2_169 : wo_P (Cond.code yX2_plainFee cX2_plainFee 2 (some .int)) := ⟨wi_2 169 rfl, good_of_word rfl⟩
theorem mw_2_168 : wo_P (Cond.instanceMethod yX2_plainFee) := ⟨wi_2 168 rfl, good_of_word rfl⟩
theorem mw_6_34 : wo_P (Cond.selects RX4 ⟨"BayMoorings$Boat", "plainFee", "(I)I"⟩ yX2_plainFee) := ⟨wi_6 34 rfl, good_of_word rfl⟩
theorem mw_6_33 : wo_P (Cond.sameMethod "BayMoorings$Boat" "BayMoorings$Boat" "plainFee" "(I)I") := ⟨wi_6 33 rfl, good_of_word rfl⟩
theorem mw_2_171 : wo_P (Cond.methodLink RX2 31 ⟨"BayMoorings$Boat", "plainFee", "(I)I"⟩) := ⟨wi_2 171 rfl, good_of_word rfl⟩
theorem mw_2_170 : wo_P (Cond.code yX2_fee cX2_fee 2 (some .int)) := ⟨wi_2 170 rfl, good_of_word rfl⟩
set_option maxRecDepth 20000 in
theorem gwsX11_as_r3 : ∀ w ∈ wsX11_as_r3, wo_P w := (List.forall_mem_cons.mpr ⟨mw_2_170, (List.forall_mem_cons.mpr ⟨mw_2_171, (List.forall_mem_cons.mpr ⟨mw_6_33, (List.forall_mem_cons.mpr ⟨mw_6_34, (List.forall_mem_cons.mpr ⟨mw_2_168, (List.forall_mem_cons.mpr ⟨mw_2_169, (List.forall_mem_cons.mpr ⟨mw_2_72, (List.forall_mem_cons.mpr ⟨mw_6_35, (List.forall_mem_cons.mpr ⟨mw_6_36, (List.forall_mem_cons.mpr ⟨mw_2_160, (List.forall_mem_cons.mpr ⟨mw_2_157, (List.forall_mem_cons.mpr ⟨mw_2_161, (List.forall_mem_cons.mpr ⟨mw_2_162, (List.forall_mem_cons.mpr ⟨mw_2_163, (List.forall_mem_cons.mpr ⟨mw_2_164, (List.forall_mem_cons.mpr ⟨mw_2_165, (List.forall_mem_cons.mpr ⟨mw_2_167, (List.forall_mem_nil _)⟩)⟩)⟩)⟩)⟩)⟩)⟩)⟩)⟩)⟩)⟩)⟩)⟩)⟩)⟩)⟩)⟩)
set_option maxRecDepth 20000 in
theorem gwsX11_as : ∀ w ∈ wsX11_as, wo_P w := (List.forall_mem_cons.mpr ⟨mw_2_131, (wi_ap (wi_ap (wi_ap (wi_ap (wi_ap (wi_ap gwsX11_as_r1 (wi_ap gwsX11_as_r2 gwsX11_as_r3)) gwsX110) gwsX00) gwsX40) gwsX80) gwsX90)⟩)
theorem mw_2_128 : wo_P (Cond.methodLink RL 23 yX11_as) := ⟨wi_2 128 rfl, good_of_word rfl⟩
theorem mw_2_129 : wo_P (Cond.instanceMethod yX11_as) := ⟨wi_2 129 rfl, good_of_word rfl⟩
theorem mw_2_130 : wo_P (Cond.selects RX11 yX11_as yX11_as) := ⟨wi_2 130 rfl, good_of_word rfl⟩
theorem gL_law_X11_as : GoodIn lw_tbl (wsV RL 23 RX11 yX11_as wsX11_as) := wo_V mw_2_128 mw_2_129 mw_2_130 mw_1_1 gwsX11_as
theorem mw_5_32 : wo_P (Cond.code yX12_as cX12_as 3 (some .int)) := ⟨wi_5 32 rfl, good_of_word rfl⟩
theorem mw_5_40 : wo_P (Cond.code yX12_duesOf cX12_duesOf 3 (some .int)) := ⟨wi_5 40 rfl, good_of_word rfl⟩
theorem mw_0_21 : wo_P (Cond.selects RX12 yX12_duesOf yX12_duesOf) := ⟨wi_0 21 rfl, good_of_word rfl⟩
theorem mw_5_39 : wo_P (Cond.instanceMethod yX12_duesOf) := ⟨wi_5 39 rfl, good_of_word rfl⟩
theorem mw_5_37 : wo_P (Cond.methodLink RX12 129 yX12_duesOf) := ⟨wi_5 37 rfl, good_of_word rfl⟩
theorem mw_5_36 : wo_P (Cond.code yX12_isBoat cX12_isBoat 2 (some .boolean)) := ⟨wi_5 36 rfl, good_of_word rfl⟩
theorem mw_0_20 : wo_P (Cond.selects RX12 yX12_isBoat yX12_isBoat) := ⟨wi_0 20 rfl, good_of_word rfl⟩
theorem mw_5_35 : wo_P (Cond.instanceMethod yX12_isBoat) := ⟨wi_5 35 rfl, good_of_word rfl⟩
theorem mw_5_33 : wo_P (Cond.methodLink RX12 125 yX12_isBoat) := ⟨wi_5 33 rfl, good_of_word rfl⟩
theorem mw_5_41 : wo_P (Cond.constant RX12 132 (-1000005)) := ⟨wi_5 41 rfl, good_of_word rfl⟩
set_option maxRecDepth 20000 in
theorem gwsX12_as : ∀ w ∈ wsX12_as, wo_P w := (List.forall_mem_cons.mpr ⟨mw_5_32, (wi_ap (List.forall_mem_cons.mpr ⟨mw_5_18, (List.forall_mem_cons.mpr ⟨mw_4_145, (List.forall_mem_cons.mpr ⟨mw_5_41, (List.forall_mem_cons.mpr ⟨mw_5_33, (List.forall_mem_cons.mpr ⟨mw_5_35, (List.forall_mem_cons.mpr ⟨mw_0_20, (List.forall_mem_cons.mpr ⟨mw_1_9, (List.forall_mem_cons.mpr ⟨mw_5_36, (List.forall_mem_cons.mpr ⟨mw_4_144, (List.forall_mem_cons.mpr ⟨mw_5_15, (List.forall_mem_cons.mpr ⟨mw_5_16, (List.forall_mem_cons.mpr ⟨mw_5_17, (List.forall_mem_cons.mpr ⟨mw_5_19, (List.forall_mem_cons.mpr ⟨mw_5_21, (List.forall_mem_cons.mpr ⟨mw_0_19, (List.forall_mem_cons.mpr ⟨mw_5_22, (List.forall_mem_cons.mpr ⟨mw_4_162, (List.forall_mem_cons.mpr ⟨mw_5_23, (List.forall_mem_cons.mpr ⟨mw_5_37, (List.forall_mem_cons.mpr ⟨mw_5_39, (List.forall_mem_cons.mpr ⟨mw_0_21, (List.forall_mem_cons.mpr ⟨mw_5_40, (List.forall_mem_cons.mpr ⟨mw_4_146, (List.forall_mem_cons.mpr ⟨mw_4_159, (List.forall_mem_nil _)⟩)⟩)⟩)⟩)⟩)⟩)⟩)⟩)⟩)⟩)⟩)⟩)⟩)⟩)⟩)⟩)⟩)⟩)⟩)⟩)⟩)⟩)⟩)⟩) gwsX120)⟩)
theorem mw_5_29 : wo_P (Cond.methodLink RL 27 yX12_as) := ⟨wi_5 29 rfl, good_of_word rfl⟩
theorem mw_5_30 : wo_P (Cond.instanceMethod yX12_as) := ⟨wi_5 30 rfl, good_of_word rfl⟩
theorem mw_5_31 : wo_P (Cond.selects RX12 yX12_as yX12_as) := ⟨wi_5 31 rfl, good_of_word rfl⟩
theorem gL_law_X12_as : GoodIn lw_tbl (wsV RL 27 RX12 yX12_as wsX12_as) := wo_V mw_5_29 mw_5_30 mw_5_31 mw_1_9 gwsX12_as
theorem mw_2_175 : wo_P (Cond.code yX11_tide cX11_tide 4 (some .int)) := ⟨wi_2 175 rfl, good_of_word rfl⟩
theorem mw_2_186 : wo_P (Cond.methodLink RX0 85 Lib.Math.min.name) := ⟨wi_2 186 rfl, good_of_word rfl⟩
theorem mw_2_180 : wo_P (Cond.code yX0_setTide cX0_setTide 5 none) := ⟨wi_2 180 rfl, good_of_word rfl⟩
theorem mw_2_179 : wo_P (Cond.selects RX0 yX0_setTide yX0_setTide) := ⟨wi_2 179 rfl, good_of_word rfl⟩
theorem mw_2_178 : wo_P (Cond.instanceMethod yX0_setTide) := ⟨wi_2 178 rfl, good_of_word rfl⟩
theorem mw_2_177 : wo_P (Cond.methodLink RX11 108 yX0_setTide) := ⟨wi_2 177 rfl, good_of_word rfl⟩
theorem mw_2_176 : wo_P (Cond.methodLink RX11 102 yX11_isHour) := ⟨wi_2 176 rfl, good_of_word rfl⟩
theorem mw_1_57 : wo_P (Cond.fieldLink RX11 105 "BayMoorings$Bay" "tides" "[I") := ⟨wi_1 57 rfl, good_of_word rfl⟩
set_option maxRecDepth 20000 in
theorem gwsX11_tide_r1 : ∀ w ∈ wsX11_tide_r1, wo_P w := (List.forall_mem_cons.mpr ⟨mw_1_185, (List.forall_mem_cons.mpr ⟨mw_1_57, (List.forall_mem_cons.mpr ⟨mw_2_176, (List.forall_mem_cons.mpr ⟨mw_2_41, (List.forall_mem_cons.mpr ⟨mw_1_1, (List.forall_mem_cons.mpr ⟨mw_2_42, (List.forall_mem_cons.mpr ⟨mw_1_220, (List.forall_mem_cons.mpr ⟨mw_1_221, (List.forall_mem_cons.mpr ⟨mw_1_222, (List.forall_mem_cons.mpr ⟨mw_1_223, (List.forall_mem_cons.mpr ⟨mw_1_225, (List.forall_mem_cons.mpr ⟨mw_0_0, (List.forall_mem_cons.mpr ⟨mw_1_226, (List.forall_mem_cons.mpr ⟨mw_1_190, (List.forall_mem_cons.mpr ⟨mw_1_227, (List.forall_mem_cons.mpr ⟨mw_2_177, (List.forall_mem_cons.mpr ⟨mw_2_178, (List.forall_mem_cons.mpr ⟨mw_2_179, (List.forall_mem_cons.mpr ⟨mw_1_2, (List.forall_mem_cons.mpr ⟨mw_2_180, (List.forall_mem_cons.mpr ⟨mw_1_56, (List.forall_mem_cons.mpr ⟨mw_1_65, (List.forall_mem_cons.mpr ⟨mw_1_76, (List.forall_mem_cons.mpr ⟨mw_2_186, (List.forall_mem_nil _)⟩)⟩)⟩)⟩)⟩)⟩)⟩)⟩)⟩)⟩)⟩)⟩)⟩)⟩)⟩)⟩)⟩)⟩)⟩)⟩)⟩)⟩)⟩)⟩)
theorem mw_2_192 : wo_P (Cond.code yX0_isEarlierTide cX0_isEarlierTide 3 (some .boolean)) := ⟨wi_2 192 rfl, good_of_word rfl⟩
theorem mw_0_1 : wo_P (Cond.selects RX0 yX0_isEarlierTide yX0_isEarlierTide) := ⟨wi_0 1 rfl, good_of_word rfl⟩
theorem mw_2_191 : wo_P (Cond.instanceMethod yX0_isEarlierTide) := ⟨wi_2 191 rfl, good_of_word rfl⟩
theorem mw_2_189 : wo_P (Cond.methodLink RX0 91 yX0_isEarlierTide) := ⟨wi_2 189 rfl, good_of_word rfl⟩
theorem mw_2_185 : wo_P (Cond.code yX0_buoyAt cX0_buoyAt 2 (some (.object "BayMoorings$Buoy"))) := ⟨wi_2 185 rfl, good_of_word rfl⟩
theorem mw_2_184 : wo_P (Cond.selects RX0 yX0_buoyAt yX0_buoyAt) := ⟨wi_2 184 rfl, good_of_word rfl⟩
theorem mw_2_183 : wo_P (Cond.instanceMethod yX0_buoyAt) := ⟨wi_2 183 rfl, good_of_word rfl⟩
theorem mw_2_182 : wo_P (Cond.methodLink RX0 81 yX0_buoyAt) := ⟨wi_2 182 rfl, good_of_word rfl⟩
theorem mw_2_188 : wo_P (Cond.code Lib.Math.min.name Lib.Math.min.code 2 (some .int)) := ⟨wi_2 188 rfl, good_of_word rfl⟩
theorem mw_1_15 : wo_P (Cond.initialized "java/lang/Math") := ⟨wi_1 15 rfl, good_of_word rfl⟩
theorem mw_2_187 : wo_P (Cond.static Lib.Math.min.name) := ⟨wi_2 187 rfl, good_of_word rfl⟩
set_option maxRecDepth 20000 in
theorem gwsX11_tide_r2 : ∀ w ∈ wsX11_tide_r2, wo_P w := (List.forall_mem_cons.mpr ⟨mw_2_187, (List.forall_mem_cons.mpr ⟨mw_1_15, (List.forall_mem_cons.mpr ⟨mw_2_188, (List.forall_mem_cons.mpr ⟨mw_1_58, (List.forall_mem_cons.mpr ⟨mw_2_182, (List.forall_mem_cons.mpr ⟨mw_2_183, (List.forall_mem_cons.mpr ⟨mw_2_184, (List.forall_mem_cons.mpr ⟨mw_2_185, (List.forall_mem_cons.mpr ⟨mw_1_54, (List.forall_mem_cons.mpr ⟨mw_2_36, (List.forall_mem_cons.mpr ⟨mw_2_37, (List.forall_mem_cons.mpr ⟨mw_2_38, (List.forall_mem_cons.mpr ⟨mw_1_10, (List.forall_mem_cons.mpr ⟨mw_2_39, (List.forall_mem_cons.mpr ⟨mw_2_7, (List.forall_mem_cons.mpr ⟨mw_2_13, (List.forall_mem_cons.mpr ⟨mw_2_10, (List.forall_mem_cons.mpr ⟨mw_2_43, (List.forall_mem_cons.mpr ⟨mw_2_44, (List.forall_mem_cons.mpr ⟨mw_2_45, (List.forall_mem_cons.mpr ⟨mw_2_189, (List.forall_mem_cons.mpr ⟨mw_2_191, (List.forall_mem_cons.mpr ⟨mw_0_1, (List.forall_mem_cons.mpr ⟨mw_2_192, (List.forall_mem_nil _)⟩)⟩)⟩)⟩)⟩)⟩)⟩)⟩)⟩)⟩)⟩)⟩)⟩)⟩)⟩)⟩)⟩)⟩)⟩)⟩)⟩)⟩)⟩)⟩)
set_option maxRecDepth 20000 in
theorem gwsX11_tide : ∀ w ∈ wsX11_tide, wo_P w := (List.forall_mem_cons.mpr ⟨mw_2_175, (wi_ap (wi_ap (wi_ap (wi_ap gwsX11_tide_r1 gwsX11_tide_r2) gwsX110) gwsX00) gwsX30)⟩)
theorem mw_2_172 : wo_P (Cond.methodLink RL 28 yX11_tide) := ⟨wi_2 172 rfl, good_of_word rfl⟩
theorem mw_2_173 : wo_P (Cond.instanceMethod yX11_tide) := ⟨wi_2 173 rfl, good_of_word rfl⟩
theorem mw_2_174 : wo_P (Cond.selects RX11 yX11_tide yX11_tide) := ⟨wi_2 174 rfl, good_of_word rfl⟩
theorem gL_law_X11_tide : GoodIn lw_tbl (wsV RL 28 RX11 yX11_tide wsX11_tide) := wo_V mw_2_172 mw_2_173 mw_2_174 mw_1_1 gwsX11_tide
theorem mw_5_45 : wo_P (Cond.code yX12_tide cX12_tide 4 (some .int)) := ⟨wi_5 45 rfl, good_of_word rfl⟩
set_option maxRecDepth 20000 in
theorem gwsX12_tide : ∀ w ∈ wsX12_tide, wo_P w := (List.forall_mem_cons.mpr ⟨mw_5_45, (wi_ap (List.forall_mem_cons.mpr ⟨mw_5_18, (List.forall_mem_cons.mpr ⟨mw_4_149, (List.forall_mem_cons.mpr ⟨mw_5_15, (List.forall_mem_cons.mpr ⟨mw_5_16, (List.forall_mem_cons.mpr ⟨mw_1_9, (List.forall_mem_cons.mpr ⟨mw_5_17, (List.forall_mem_cons.mpr ⟨mw_5_19, (List.forall_mem_cons.mpr ⟨mw_5_21, (List.forall_mem_cons.mpr ⟨mw_0_19, (List.forall_mem_cons.mpr ⟨mw_5_22, (List.forall_mem_cons.mpr ⟨mw_4_162, (List.forall_mem_cons.mpr ⟨mw_5_23, (List.forall_mem_nil _)⟩)⟩)⟩)⟩)⟩)⟩)⟩)⟩)⟩)⟩)⟩)⟩) gwsX120)⟩)
theorem mw_5_42 : wo_P (Cond.methodLink RL 31 yX12_tide) := ⟨wi_5 42 rfl, good_of_word rfl⟩
theorem mw_5_43 : wo_P (Cond.instanceMethod yX12_tide) := ⟨wi_5 43 rfl, good_of_word rfl⟩
theorem mw_5_44 : wo_P (Cond.selects RX12 yX12_tide yX12_tide) := ⟨wi_5 44 rfl, good_of_word rfl⟩
theorem gL_law_X12_tide : GoodIn lw_tbl (wsV RL 31 RX12 yX12_tide wsX12_tide) := wo_V mw_5_42 mw_5_43 mw_5_44 mw_1_9 gwsX12_tide
theorem mw_2_196 : wo_P (Cond.code yX11_winds cX11_winds 3 (some .int)) := ⟨wi_2 196 rfl, good_of_word rfl⟩
theorem mw_1_75 : wo_P (Cond.fieldLink RX11 112 "BayMoorings$Bay" "windBits" "I") := ⟨wi_1 75 rfl, good_of_word rfl⟩
set_option maxRecDepth 20000 in
theorem gwsX11_winds : ∀ w ∈ wsX11_winds, wo_P w := (List.forall_mem_cons.mpr ⟨mw_2_196, (wi_ap (wi_ap (List.forall_mem_cons.mpr ⟨mw_1_185, (List.forall_mem_cons.mpr ⟨mw_1_75, (List.forall_mem_cons.mpr ⟨mw_1_220, (List.forall_mem_cons.mpr ⟨mw_1_221, (List.forall_mem_cons.mpr ⟨mw_1_1, (List.forall_mem_cons.mpr ⟨mw_1_222, (List.forall_mem_cons.mpr ⟨mw_1_223, (List.forall_mem_cons.mpr ⟨mw_1_225, (List.forall_mem_cons.mpr ⟨mw_0_0, (List.forall_mem_cons.mpr ⟨mw_1_226, (List.forall_mem_cons.mpr ⟨mw_1_190, (List.forall_mem_cons.mpr ⟨mw_1_227, (List.forall_mem_nil _)⟩)⟩)⟩)⟩)⟩)⟩)⟩)⟩)⟩)⟩)⟩)⟩) gwsX110) gwsX00)⟩)
theorem mw_2_193 : wo_P (Cond.methodLink RL 32 yX11_winds) := ⟨wi_2 193 rfl, good_of_word rfl⟩
theorem mw_2_194 : wo_P (Cond.instanceMethod yX11_winds) := ⟨wi_2 194 rfl, good_of_word rfl⟩
theorem mw_2_195 : wo_P (Cond.selects RX11 yX11_winds yX11_winds) := ⟨wi_2 195 rfl, good_of_word rfl⟩
theorem gL_law_X11_winds : GoodIn lw_tbl (wsV RL 32 RX11 yX11_winds wsX11_winds) := wo_V mw_2_193 mw_2_194 mw_2_195 mw_1_1 gwsX11_winds
theorem mw_5_49 : wo_P (Cond.code yX12_winds cX12_winds 3 (some .int)) := ⟨wi_5 49 rfl, good_of_word rfl⟩
set_option maxRecDepth 20000 in
theorem gwsX12_winds : ∀ w ∈ wsX12_winds, wo_P w := (List.forall_mem_cons.mpr ⟨mw_5_49, (wi_ap (List.forall_mem_cons.mpr ⟨mw_5_18, (List.forall_mem_cons.mpr ⟨mw_4_150, (List.forall_mem_cons.mpr ⟨mw_5_15, (List.forall_mem_cons.mpr ⟨mw_5_16, (List.forall_mem_cons.mpr ⟨mw_1_9, (List.forall_mem_cons.mpr ⟨mw_5_17, (List.forall_mem_cons.mpr ⟨mw_5_19, (List.forall_mem_cons.mpr ⟨mw_5_21, (List.forall_mem_cons.mpr ⟨mw_0_19, (List.forall_mem_cons.mpr ⟨mw_5_22, (List.forall_mem_cons.mpr ⟨mw_4_162, (List.forall_mem_cons.mpr ⟨mw_5_23, (List.forall_mem_nil _)⟩)⟩)⟩)⟩)⟩)⟩)⟩)⟩)⟩)⟩)⟩)⟩) gwsX120)⟩)
theorem mw_5_46 : wo_P (Cond.methodLink RL 36 yX12_winds) := ⟨wi_5 46 rfl, good_of_word rfl⟩
theorem mw_5_47 : wo_P (Cond.instanceMethod yX12_winds) := ⟨wi_5 47 rfl, good_of_word rfl⟩
theorem mw_5_48 : wo_P (Cond.selects RX12 yX12_winds yX12_winds) := ⟨wi_5 48 rfl, good_of_word rfl⟩
theorem gL_law_X12_winds : GoodIn lw_tbl (wsV RL 36 RX12 yX12_winds wsX12_winds) := wo_V mw_5_46 mw_5_47 mw_5_48 mw_1_9 gwsX12_winds
theorem mw_2_200 : wo_P (Cond.code yX11_about cX11_about 4 (some .int)) := ⟨wi_2 200 rfl, good_of_word rfl⟩
theorem mw_2_201 : wo_P (Cond.methodLink RX11 115 ⟨"BayMoorings$Boat", "kindNumber", "()I"⟩) := ⟨wi_2 201 rfl, good_of_word rfl⟩
theorem mw_1_64 : wo_P (Cond.fieldLink RX11 125 "BayMoorings$Bay" "berths" "LBayMoorings$Berths;") := ⟨wi_1 64 rfl, good_of_word rfl⟩
theorem mw_2_81 : wo_P (Cond.fieldLink RX11 122 "BayMoorings$Boat" "draught" "I") := ⟨wi_2 81 rfl, good_of_word rfl⟩
theorem mw_2_76 : wo_P (Cond.fieldLink RX11 119 "BayMoorings$Boat" "length" "I") := ⟨wi_2 76 rfl, good_of_word rfl⟩
set_option maxRecDepth 20000 in
theorem gwsX11_about_r1 : ∀ w ∈ wsX11_about_r1, wo_P w := (List.forall_mem_cons.mpr ⟨mw_1_185, (List.forall_mem_cons.mpr ⟨mw_2_76, (List.forall_mem_cons.mpr ⟨mw_2_81, (List.forall_mem_cons.mpr ⟨mw_1_64, (List.forall_mem_cons.mpr ⟨mw_1_186, (List.forall_mem_cons.mpr ⟨mw_1_193, (List.forall_mem_cons.mpr ⟨mw_2_132, (List.forall_mem_cons.mpr ⟨mw_2_133, (List.forall_mem_cons.mpr ⟨mw_2_134, (List.forall_mem_cons.mpr ⟨mw_1_2, (List.forall_mem_cons.mpr ⟨mw_2_135, (List.forall_mem_cons.mpr ⟨mw_1_69, (List.forall_mem_cons.mpr ⟨mw_1_55, (List.forall_mem_cons.mpr ⟨mw_1_221, (List.forall_mem_cons.mpr ⟨mw_1_1, (List.forall_mem_cons.mpr ⟨mw_1_222, (List.forall_mem_cons.mpr ⟨mw_1_223, (List.forall_mem_cons.mpr ⟨mw_1_225, (List.forall_mem_cons.mpr ⟨mw_0_0, (List.forall_mem_cons.mpr ⟨mw_1_226, (List.forall_mem_cons.mpr ⟨mw_1_190, (List.forall_mem_cons.mpr ⟨mw_1_227, (List.forall_mem_cons.mpr ⟨mw_1_220, (List.forall_mem_cons.mpr ⟨mw_2_201, (List.forall_mem_nil _)⟩)⟩)⟩)⟩)⟩)⟩)⟩)⟩)⟩)⟩)⟩)⟩)⟩)⟩)⟩)⟩)⟩)⟩)⟩)⟩)⟩)⟩)⟩)⟩)
theorem mw_2_210 : wo_P (Cond.code yX10_placeOf cX10_placeOf 3 (some .int)) := ⟨wi_2 210 rfl, good_of_word rfl⟩
theorem mw_2_209 : wo_P (Cond.selects RX10 yX10_placeOf yX10_placeOf) := ⟨wi_2 209 rfl, good_of_word rfl⟩
theorem mw_2_208 : wo_P (Cond.instanceMethod yX10_placeOf) := ⟨wi_2 208 rfl, good_of_word rfl⟩
theorem mw_2_207 : wo_P (Cond.methodLink RX11 134 yX10_placeOf) := ⟨wi_2 207 rfl, good_of_word rfl⟩
theorem mw_2_205 : wo_P (Cond.code yX1_buoyOf cX1_buoyOf 2 (some .int)) := ⟨wi_2 205 rfl, good_of_word rfl⟩
theorem mw_2_204 : wo_P (Cond.selects RX1 yX1_buoyOf yX1_buoyOf) := ⟨wi_2 204 rfl, good_of_word rfl⟩
theorem mw_2_203 : wo_P (Cond.instanceMethod yX1_buoyOf) := ⟨wi_2 203 rfl, good_of_word rfl⟩
theorem mw_2_202 : wo_P (Cond.methodLink RX11 129 yX1_buoyOf) := ⟨wi_2 202 rfl, good_of_word rfl⟩
set_option maxRecDepth 20000 in
theorem gwsX11_about_r2 : ∀ w ∈ wsX11_about_r2, wo_P w := (List.forall_mem_cons.mpr ⟨mw_2_146, (List.forall_mem_cons.mpr ⟨mw_2_147, (List.forall_mem_cons.mpr ⟨mw_2_148, (List.forall_mem_cons.mpr ⟨mw_1_13, (List.forall_mem_cons.mpr ⟨mw_2_149, (List.forall_mem_cons.mpr ⟨mw_2_150, (List.forall_mem_cons.mpr ⟨mw_2_151, (List.forall_mem_cons.mpr ⟨mw_1_14, (List.forall_mem_cons.mpr ⟨mw_2_152, (List.forall_mem_cons.mpr ⟨mw_2_153, (List.forall_mem_cons.mpr ⟨mw_2_154, (List.forall_mem_cons.mpr ⟨mw_1_12, (List.forall_mem_cons.mpr ⟨mw_2_155, (List.forall_mem_cons.mpr ⟨mw_2_202, (List.forall_mem_cons.mpr ⟨mw_2_203, (List.forall_mem_cons.mpr ⟨mw_2_204, (List.forall_mem_cons.mpr ⟨mw_1_3, (List.forall_mem_cons.mpr ⟨mw_2_205, (List.forall_mem_cons.mpr ⟨mw_1_45, (List.forall_mem_cons.mpr ⟨mw_2_207, (List.forall_mem_cons.mpr ⟨mw_2_208, (List.forall_mem_cons.mpr ⟨mw_2_209, (List.forall_mem_cons.mpr ⟨mw_1_5, (List.forall_mem_cons.mpr ⟨mw_2_210, (List.forall_mem_nil _)⟩)⟩)⟩)⟩)⟩)⟩)⟩)⟩)⟩)⟩)⟩)⟩)⟩)⟩)⟩)⟩)⟩)⟩)⟩)⟩)⟩)⟩)⟩)⟩)
set_option maxRecDepth 20000 in
theorem gwsX11_about_r3 : ∀ w ∈ wsX11_about_r3, wo_P w := (List.forall_mem_cons.mpr ⟨mw_1_104, (List.forall_mem_cons.mpr ⟨mw_1_103, (List.forall_mem_cons.mpr ⟨mw_2_156, (List.forall_mem_cons.mpr ⟨mw_2_158, (List.forall_mem_cons.mpr ⟨mw_2_159, (List.forall_mem_cons.mpr ⟨mw_2_157, (List.forall_mem_cons.mpr ⟨mw_1_11, (List.forall_mem_cons.mpr ⟨mw_2_170, (List.forall_mem_cons.mpr ⟨mw_2_171, (List.forall_mem_cons.mpr ⟨mw_6_33, (List.forall_mem_cons.mpr ⟨mw_6_34, (List.forall_mem_cons.mpr ⟨mw_2_168, (List.forall_mem_cons.mpr ⟨mw_2_169, (List.forall_mem_cons.mpr ⟨mw_2_72, (List.forall_mem_cons.mpr ⟨mw_6_35, (List.forall_mem_cons.mpr ⟨mw_6_36, (List.forall_mem_cons.mpr ⟨mw_2_160, (List.forall_mem_cons.mpr ⟨mw_2_157, (List.forall_mem_cons.mpr ⟨mw_2_161, (List.forall_mem_cons.mpr ⟨mw_2_162, (List.forall_mem_cons.mpr ⟨mw_2_163, (List.forall_mem_cons.mpr ⟨mw_2_164, (List.forall_mem_cons.mpr ⟨mw_2_165, (List.forall_mem_cons.mpr ⟨mw_2_167, (List.forall_mem_nil _)⟩)⟩)⟩)⟩)⟩)⟩)⟩)⟩)⟩)⟩)⟩)⟩)⟩)⟩)⟩)⟩)⟩)⟩)⟩)⟩)⟩)⟩)⟩)⟩)
set_option maxRecDepth 20000 in
theorem gwsX11_about : ∀ w ∈ wsX11_about, wo_P w := (List.forall_mem_cons.mpr ⟨mw_2_200, (wi_ap (wi_ap (wi_ap (wi_ap (wi_ap (wi_ap (wi_ap (wi_ap gwsX11_about_r1 (wi_ap gwsX11_about_r2 gwsX11_about_r3)) gwsX110) gwsX40) gwsX80) gwsX90) gwsX00) gwsX10) gwsX100)⟩)
theorem mw_2_197 : wo_P (Cond.methodLink RL 37 yX11_about) := ⟨wi_2 197 rfl, good_of_word rfl⟩
theorem mw_2_198 : wo_P (Cond.instanceMethod yX11_about) := ⟨wi_2 198 rfl, good_of_word rfl⟩
theorem mw_2_199 : wo_P (Cond.selects RX11 yX11_about yX11_about) := ⟨wi_2 199 rfl, good_of_word rfl⟩
theorem gL_law_X11_about : GoodIn lw_tbl (wsV RL 37 RX11 yX11_about wsX11_about) := wo_V mw_2_197 mw_2_198 mw_2_199 mw_1_1 gwsX11_about
theorem mw_5_53 : wo_P (Cond.code yX12_about cX12_about 3 (some .int)) := ⟨wi_5 53 rfl, good_of_word rfl⟩
theorem mw_5_57 : wo_P (Cond.code yX12_placeOnList cX12_placeOnList 3 (some .int)) := ⟨wi_5 57 rfl, good_of_word rfl⟩
theorem mw_0_22 : wo_P (Cond.selects RX12 yX12_placeOnList yX12_placeOnList) := ⟨wi_0 22 rfl, good_of_word rfl⟩
theorem mw_5_56 : wo_P (Cond.instanceMethod yX12_placeOnList) := ⟨wi_5 56 rfl, good_of_word rfl⟩
theorem mw_5_54 : wo_P (Cond.methodLink RX12 136 yX12_placeOnList) := ⟨wi_5 54 rfl, good_of_word rfl⟩
set_option maxRecDepth 20000 in
theorem gwsX12_about_r1 : ∀ w ∈ wsX12_about_r1, wo_P w := (List.forall_mem_cons.mpr ⟨mw_5_18, (List.forall_mem_cons.mpr ⟨mw_4_145, (List.forall_mem_cons.mpr ⟨mw_4_146, (List.forall_mem_cons.mpr ⟨mw_4_147, (List.forall_mem_cons.mpr ⟨mw_4_148, (List.forall_mem_cons.mpr ⟨mw_5_33, (List.forall_mem_cons.mpr ⟨mw_5_35, (List.forall_mem_cons.mpr ⟨mw_0_20, (List.forall_mem_cons.mpr ⟨mw_1_9, (List.forall_mem_cons.mpr ⟨mw_5_36, (List.forall_mem_cons.mpr ⟨mw_4_144, (List.forall_mem_cons.mpr ⟨mw_5_15, (List.forall_mem_cons.mpr ⟨mw_5_16, (List.forall_mem_cons.mpr ⟨mw_5_17, (List.forall_mem_cons.mpr ⟨mw_5_19, (List.forall_mem_cons.mpr ⟨mw_5_21, (List.forall_mem_cons.mpr ⟨mw_0_19, (List.forall_mem_cons.mpr ⟨mw_5_22, (List.forall_mem_cons.mpr ⟨mw_4_162, (List.forall_mem_cons.mpr ⟨mw_5_23, (List.forall_mem_cons.mpr ⟨mw_5_54, (List.forall_mem_cons.mpr ⟨mw_5_56, (List.forall_mem_cons.mpr ⟨mw_0_22, (List.forall_mem_cons.mpr ⟨mw_5_57, (List.forall_mem_nil _)⟩)⟩)⟩)⟩)⟩)⟩)⟩)⟩)⟩)⟩)⟩)⟩)⟩)⟩)⟩)⟩)⟩)⟩)⟩)⟩)⟩)⟩)⟩)⟩)
theorem mw_4_153 : wo_P (Cond.fieldLink RX12 133 "BayMooringsModel" "waiting" "I") := ⟨wi_4 153 rfl, good_of_word rfl⟩
set_option maxRecDepth 20000 in
theorem gwsX12_about_r2 : ∀ w ∈ wsX12_about_r2, wo_P w := (List.forall_mem_cons.mpr ⟨mw_4_153, (List.forall_mem_cons.mpr ⟨mw_4_154, (List.forall_mem_cons.mpr ⟨mw_5_37, (List.forall_mem_cons.mpr ⟨mw_5_39, (List.forall_mem_cons.mpr ⟨mw_0_21, (List.forall_mem_cons.mpr ⟨mw_5_40, (List.forall_mem_cons.mpr ⟨mw_4_159, (List.forall_mem_nil _)⟩)⟩)⟩)⟩)⟩)⟩)⟩)
set_option maxRecDepth 20000 in
theorem gwsX12_about : ∀ w ∈ wsX12_about, wo_P w := (List.forall_mem_cons.mpr ⟨mw_5_53, (wi_ap (wi_ap gwsX12_about_r1 gwsX12_about_r2) gwsX120)⟩)
theorem mw_5_50 : wo_P (Cond.methodLink RL 40 yX12_about) := ⟨wi_5 50 rfl, good_of_word rfl⟩
theorem mw_5_51 : wo_P (Cond.instanceMethod yX12_about) := ⟨wi_5 51 rfl, good_of_word rfl⟩
theorem mw_5_52 : wo_P (Cond.selects RX12 yX12_about yX12_about) := ⟨wi_5 52 rfl, good_of_word rfl⟩
theorem gL_law_X12_about : GoodIn lw_tbl (wsV RL 40 RX12 yX12_about wsX12_about) := wo_V mw_5_50 mw_5_51 mw_5_52 mw_1_9 gwsX12_about
theorem mw_2_214 : wo_P (Cond.code yX11_of cX11_of 4 (some .int)) := ⟨wi_2 214 rfl, good_of_word rfl⟩
theorem mw_2_215 : wo_P (Cond.methodLink RX11 137 yX0_buoyAt) := ⟨wi_2 215 rfl, good_of_word rfl⟩
theorem mw_2_17 : wo_P (Cond.fieldLink RX11 161 "BayMoorings$Buoy" "high" "I") := ⟨wi_2 17 rfl, good_of_word rfl⟩
theorem mw_2_15 : wo_P (Cond.fieldLink RX11 158 "BayMoorings$Buoy" "low" "I") := ⟨wi_2 15 rfl, good_of_word rfl⟩
theorem mw_2_11 : wo_P (Cond.fieldLink RX11 152 "BayMoorings$Buoy" "chain" "I") := ⟨wi_2 11 rfl, good_of_word rfl⟩
theorem mw_2_8 : wo_P (Cond.fieldLink RX11 149 "BayMoorings$Buoy" "depth" "I") := ⟨wi_2 8 rfl, good_of_word rfl⟩
theorem mw_2_5 : wo_P (Cond.fieldLink RX11 146 "BayMoorings$Buoy" "y" "I") := ⟨wi_2 5 rfl, good_of_word rfl⟩
theorem mw_2_2 : wo_P (Cond.fieldLink RX11 141 "BayMoorings$Buoy" "x" "I") := ⟨wi_2 2 rfl, good_of_word rfl⟩
set_option maxRecDepth 20000 in
theorem gwsX11_of_r1 : ∀ w ∈ wsX11_of_r1, wo_P w := (List.forall_mem_cons.mpr ⟨mw_1_185, (List.forall_mem_cons.mpr ⟨mw_2_2, (List.forall_mem_cons.mpr ⟨mw_2_5, (List.forall_mem_cons.mpr ⟨mw_2_8, (List.forall_mem_cons.mpr ⟨mw_2_11, (List.forall_mem_cons.mpr ⟨mw_1_64, (List.forall_mem_cons.mpr ⟨mw_2_15, (List.forall_mem_cons.mpr ⟨mw_2_17, (List.forall_mem_cons.mpr ⟨mw_2_215, (List.forall_mem_cons.mpr ⟨mw_2_183, (List.forall_mem_cons.mpr ⟨mw_2_184, (List.forall_mem_cons.mpr ⟨mw_1_2, (List.forall_mem_cons.mpr ⟨mw_2_185, (List.forall_mem_cons.mpr ⟨mw_1_65, (List.forall_mem_cons.mpr ⟨mw_1_54, (List.forall_mem_cons.mpr ⟨mw_1_221, (List.forall_mem_cons.mpr ⟨mw_1_1, (List.forall_mem_cons.mpr ⟨mw_1_222, (List.forall_mem_cons.mpr ⟨mw_1_223, (List.forall_mem_cons.mpr ⟨mw_1_225, (List.forall_mem_cons.mpr ⟨mw_0_0, (List.forall_mem_cons.mpr ⟨mw_1_226, (List.forall_mem_cons.mpr ⟨mw_1_190, (List.forall_mem_cons.mpr ⟨mw_1_227, (List.forall_mem_nil _)⟩)⟩)⟩)⟩)⟩)⟩)⟩)⟩)⟩)⟩)⟩)⟩)⟩)⟩)⟩)⟩)⟩)⟩)⟩)⟩)⟩)⟩)⟩)⟩)
theorem mw_2_223 : wo_P (Cond.code yX3_isParted cX3_isParted 1 (some .boolean)) := ⟨wi_2 223 rfl, good_of_word rfl⟩
theorem mw_2_222 : wo_P (Cond.selects RX3 yX3_isParted yX3_isParted) := ⟨wi_2 222 rfl, good_of_word rfl⟩
theorem mw_2_221 : wo_P (Cond.instanceMethod yX3_isParted) := ⟨wi_2 221 rfl, good_of_word rfl⟩
theorem mw_2_220 : wo_P (Cond.methodLink RX11 164 yX3_isParted) := ⟨wi_2 220 rfl, good_of_word rfl⟩
theorem mw_2_219 : wo_P (Cond.code yX1_boatOf cX1_boatOf 2 (some .int)) := ⟨wi_2 219 rfl, good_of_word rfl⟩
theorem mw_2_218 : wo_P (Cond.selects RX1 yX1_boatOf yX1_boatOf) := ⟨wi_2 218 rfl, good_of_word rfl⟩
theorem mw_2_217 : wo_P (Cond.instanceMethod yX1_boatOf) := ⟨wi_2 217 rfl, good_of_word rfl⟩
theorem mw_2_216 : wo_P (Cond.methodLink RX11 155 yX1_boatOf) := ⟨wi_2 216 rfl, good_of_word rfl⟩
set_option maxRecDepth 20000 in
theorem gwsX11_of_r2 : ∀ w ∈ wsX11_of_r2, wo_P w := (List.forall_mem_cons.mpr ⟨mw_1_220, (List.forall_mem_cons.mpr ⟨mw_2_216, (List.forall_mem_cons.mpr ⟨mw_2_217, (List.forall_mem_cons.mpr ⟨mw_2_218, (List.forall_mem_cons.mpr ⟨mw_1_3, (List.forall_mem_cons.mpr ⟨mw_2_219, (List.forall_mem_cons.mpr ⟨mw_1_46, (List.forall_mem_cons.mpr ⟨mw_2_220, (List.forall_mem_cons.mpr ⟨mw_2_221, (List.forall_mem_cons.mpr ⟨mw_2_222, (List.forall_mem_cons.mpr ⟨mw_1_10, (List.forall_mem_cons.mpr ⟨mw_2_223, (List.forall_mem_cons.mpr ⟨mw_2_14, (List.forall_mem_nil _)⟩)⟩)⟩)⟩)⟩)⟩)⟩)⟩)⟩)⟩)⟩)⟩)⟩)
set_option maxRecDepth 20000 in
theorem gwsX11_of : ∀ w ∈ wsX11_of, wo_P w := (List.forall_mem_cons.mpr ⟨mw_2_214, (wi_ap (wi_ap (wi_ap (wi_ap (wi_ap gwsX11_of_r1 gwsX11_of_r2) gwsX110) gwsX30) gwsX00) gwsX10)⟩)
theorem mw_2_211 : wo_P (Cond.methodLink RL 41 yX11_of) := ⟨wi_2 211 rfl, good_of_word rfl⟩
theorem mw_2_212 : wo_P (Cond.instanceMethod yX11_of) := ⟨wi_2 212 rfl, good_of_word rfl⟩
theorem mw_2_213 : wo_P (Cond.selects RX11 yX11_of yX11_of) := ⟨wi_2 213 rfl, good_of_word rfl⟩
theorem gL_law_X11_of : GoodIn lw_tbl (wsV RL 41 RX11 yX11_of wsX11_of) := wo_V mw_2_211 mw_2_212 mw_2_213 mw_1_1 gwsX11_of
theorem mw_5_61 : wo_P (Cond.code yX12_of cX12_of 3 (some .int)) := ⟨wi_5 61 rfl, good_of_word rfl⟩
theorem mw_5_66 : wo_P (Cond.methodLink RX12 142 yX12_isParted) := ⟨wi_5 66 rfl, good_of_word rfl⟩
theorem mw_5_65 : wo_P (Cond.code yX12_isBuoy cX12_isBuoy 2 (some .boolean)) := ⟨wi_5 65 rfl, good_of_word rfl⟩
theorem mw_0_23 : wo_P (Cond.selects RX12 yX12_isBuoy yX12_isBuoy) := ⟨wi_0 23 rfl, good_of_word rfl⟩
theorem mw_5_64 : wo_P (Cond.instanceMethod yX12_isBuoy) := ⟨wi_5 64 rfl, good_of_word rfl⟩
theorem mw_5_62 : wo_P (Cond.methodLink RX12 139 yX12_isBuoy) := ⟨wi_5 62 rfl, good_of_word rfl⟩
set_option maxRecDepth 20000 in
theorem gwsX12_of_r1 : ∀ w ∈ wsX12_of_r1, wo_P w := (List.forall_mem_cons.mpr ⟨mw_5_18, (List.forall_mem_cons.mpr ⟨mw_4_137, (List.forall_mem_cons.mpr ⟨mw_4_138, (List.forall_mem_cons.mpr ⟨mw_4_139, (List.forall_mem_cons.mpr ⟨mw_4_140, (List.forall_mem_cons.mpr ⟨mw_4_143, (List.forall_mem_cons.mpr ⟨mw_4_141, (List.forall_mem_cons.mpr ⟨mw_4_142, (List.forall_mem_cons.mpr ⟨mw_5_62, (List.forall_mem_cons.mpr ⟨mw_5_64, (List.forall_mem_cons.mpr ⟨mw_0_23, (List.forall_mem_cons.mpr ⟨mw_1_9, (List.forall_mem_cons.mpr ⟨mw_5_65, (List.forall_mem_cons.mpr ⟨mw_4_136, (List.forall_mem_cons.mpr ⟨mw_5_15, (List.forall_mem_cons.mpr ⟨mw_5_16, (List.forall_mem_cons.mpr ⟨mw_5_17, (List.forall_mem_cons.mpr ⟨mw_5_19, (List.forall_mem_cons.mpr ⟨mw_5_21, (List.forall_mem_cons.mpr ⟨mw_0_19, (List.forall_mem_cons.mpr ⟨mw_5_22, (List.forall_mem_cons.mpr ⟨mw_4_162, (List.forall_mem_cons.mpr ⟨mw_5_23, (List.forall_mem_cons.mpr ⟨mw_5_66, (List.forall_mem_nil _)⟩)⟩)⟩)⟩)⟩)⟩)⟩)⟩)⟩)⟩)⟩)⟩)⟩)⟩)⟩)⟩)⟩)⟩)⟩)⟩)⟩)⟩)⟩)⟩)
theorem mw_5_69 : wo_P (Cond.code yX12_isParted cX12_isParted 2 (some .boolean)) := ⟨wi_5 69 rfl, good_of_word rfl⟩
theorem mw_0_24 : wo_P (Cond.selects RX12 yX12_isParted yX12_isParted) := ⟨wi_0 24 rfl, good_of_word rfl⟩
theorem mw_5_68 : wo_P (Cond.instanceMethod yX12_isParted) := ⟨wi_5 68 rfl, good_of_word rfl⟩
set_option maxRecDepth 20000 in
theorem gwsX12_of_r2 : ∀ w ∈ wsX12_of_r2, wo_P w := (List.forall_mem_cons.mpr ⟨mw_5_68, (List.forall_mem_cons.mpr ⟨mw_0_24, (List.forall_mem_cons.mpr ⟨mw_5_69, (List.forall_mem_nil _)⟩)⟩)⟩)
set_option maxRecDepth 20000 in
theorem gwsX12_of : ∀ w ∈ wsX12_of, wo_P w := (List.forall_mem_cons.mpr ⟨mw_5_61, (wi_ap (wi_ap gwsX12_of_r1 gwsX12_of_r2) gwsX120)⟩)
theorem mw_5_58 : wo_P (Cond.methodLink RL 44 yX12_of) := ⟨wi_5 58 rfl, good_of_word rfl⟩
theorem mw_5_59 : wo_P (Cond.instanceMethod yX12_of) := ⟨wi_5 59 rfl, good_of_word rfl⟩
theorem mw_5_60 : wo_P (Cond.selects RX12 yX12_of yX12_of) := ⟨wi_5 60 rfl, good_of_word rfl⟩
theorem gL_law_X12_of : GoodIn lw_tbl (wsV RL 44 RX12 yX12_of wsX12_of) := wo_V mw_5_58 mw_5_59 mw_5_60 mw_1_9 gwsX12_of
theorem mw_2_227 : wo_P (Cond.code yX11_out cX11_out 6 (some .int)) := ⟨wi_2 227 rfl, good_of_word rfl⟩
set_option maxRecDepth 20000 in
theorem gwsX11_out_r1 : ∀ w ∈ wsX11_out_r1, wo_P w := (List.forall_mem_cons.mpr ⟨mw_1_185, (List.forall_mem_cons.mpr ⟨mw_2_132, (List.forall_mem_cons.mpr ⟨mw_2_133, (List.forall_mem_cons.mpr ⟨mw_2_134, (List.forall_mem_cons.mpr ⟨mw_1_2, (List.forall_mem_cons.mpr ⟨mw_2_135, (List.forall_mem_cons.mpr ⟨mw_1_69, (List.forall_mem_cons.mpr ⟨mw_1_55, (List.forall_mem_cons.mpr ⟨mw_1_221, (List.forall_mem_cons.mpr ⟨mw_1_1, (List.forall_mem_cons.mpr ⟨mw_1_222, (List.forall_mem_cons.mpr ⟨mw_2_215, (List.forall_mem_cons.mpr ⟨mw_2_183, (List.forall_mem_cons.mpr ⟨mw_2_184, (List.forall_mem_cons.mpr ⟨mw_2_185, (List.forall_mem_cons.mpr ⟨mw_1_65, (List.forall_mem_cons.mpr ⟨mw_1_54, (List.forall_mem_cons.mpr ⟨mw_2_176, (List.forall_mem_cons.mpr ⟨mw_2_41, (List.forall_mem_cons.mpr ⟨mw_2_42, (List.forall_mem_cons.mpr ⟨mw_1_220, (List.forall_mem_cons.mpr ⟨mw_1_223, (List.forall_mem_cons.mpr ⟨mw_1_225, (List.forall_mem_cons.mpr ⟨mw_0_0, (List.forall_mem_nil _)⟩)⟩)⟩)⟩)⟩)⟩)⟩)⟩)⟩)⟩)⟩)⟩)⟩)⟩)⟩)⟩)⟩)⟩)⟩)⟩)⟩)⟩)⟩)⟩)
theorem mw_2_74 : wo_P (Cond.sameField "BayMoorings$Twin" "BayMoorings$Boat" "length" "I") := ⟨wi_2 74 rfl, good_of_word rfl⟩
theorem mw_2_73 : wo_P (Cond.fieldLink RX9 9 "BayMoorings$Twin" "length" "I") := ⟨wi_2 73 rfl, good_of_word rfl⟩
theorem mw_2_239 : wo_P (Cond.code yX9_reach cX9_reach 1 (some .int)) := ⟨wi_2 239 rfl, good_of_word rfl⟩
theorem mw_2_238 : wo_P (Cond.instanceMethod yX9_reach) := ⟨wi_2 238 rfl, good_of_word rfl⟩
theorem mw_2_237 : wo_P (Cond.selects RX9 ⟨"BayMoorings$Boat", "reach", "()I"⟩ yX9_reach) := ⟨wi_2 237 rfl, good_of_word rfl⟩
theorem mw_2_233 : wo_P (Cond.instanceMethod ⟨"BayMoorings$Boat", "reach", "()I"⟩) := ⟨wi_2 233 rfl, good_of_word rfl⟩
theorem mw_2_236 : wo_P (Cond.selects RX8 ⟨"BayMoorings$Boat", "reach", "()I"⟩ yX2_reach) := ⟨wi_2 236 rfl, good_of_word rfl⟩
theorem mw_3_0 : wo_P (Cond.code yX2_reach cX2_reach 1 (some .int)) := ⟨wi_3 0 rfl, good_of_word rfl⟩
theorem mw_2_235 : wo_P (Cond.selects RX4 ⟨"BayMoorings$Boat", "reach", "()I"⟩ yX2_reach) := ⟨wi_2 235 rfl, good_of_word rfl⟩
theorem mw_2_234 : wo_P (Cond.sameMethod "BayMoorings$Boat" "BayMoorings$Boat" "reach" "()I") := ⟨wi_2 234 rfl, good_of_word rfl⟩
theorem mw_2_232 : wo_P (Cond.methodLink RX11 171 ⟨"BayMoorings$Boat", "reach", "()I"⟩) := ⟨wi_2 232 rfl, good_of_word rfl⟩
theorem mw_2_231 : wo_P (Cond.code yX3_slackAt cX3_slackAt 2 (some .int)) := ⟨wi_2 231 rfl, good_of_word rfl⟩
theorem mw_2_230 : wo_P (Cond.selects RX3 yX3_slackAt yX3_slackAt) := ⟨wi_2 230 rfl, good_of_word rfl⟩
theorem mw_2_229 : wo_P (Cond.instanceMethod yX3_slackAt) := ⟨wi_2 229 rfl, good_of_word rfl⟩
theorem mw_2_228 : wo_P (Cond.methodLink RX11 168 yX3_slackAt) := ⟨wi_2 228 rfl, good_of_word rfl⟩
set_option maxRecDepth 20000 in
theorem gwsX11_out_r2 : ∀ w ∈ wsX11_out_r2, wo_P w := (List.forall_mem_cons.mpr ⟨mw_1_226, (List.forall_mem_cons.mpr ⟨mw_1_190, (List.forall_mem_cons.mpr ⟨mw_1_227, (List.forall_mem_cons.mpr ⟨mw_2_228, (List.forall_mem_cons.mpr ⟨mw_2_229, (List.forall_mem_cons.mpr ⟨mw_2_230, (List.forall_mem_cons.mpr ⟨mw_1_10, (List.forall_mem_cons.mpr ⟨mw_2_231, (List.forall_mem_cons.mpr ⟨mw_2_13, (List.forall_mem_cons.mpr ⟨mw_2_232, (List.forall_mem_cons.mpr ⟨mw_2_234, (List.forall_mem_cons.mpr ⟨mw_2_235, (List.forall_mem_cons.mpr ⟨mw_2_233, (List.forall_mem_cons.mpr ⟨mw_1_11, (List.forall_mem_cons.mpr ⟨mw_3_0, (List.forall_mem_cons.mpr ⟨mw_2_72, (List.forall_mem_cons.mpr ⟨mw_2_236, (List.forall_mem_cons.mpr ⟨mw_2_233, (List.forall_mem_cons.mpr ⟨mw_2_237, (List.forall_mem_cons.mpr ⟨mw_2_238, (List.forall_mem_cons.mpr ⟨mw_1_12, (List.forall_mem_cons.mpr ⟨mw_2_239, (List.forall_mem_cons.mpr ⟨mw_2_73, (List.forall_mem_cons.mpr ⟨mw_2_74, (List.forall_mem_nil _)⟩)⟩)⟩)⟩)⟩)⟩)⟩)⟩)⟩)⟩)⟩)⟩)⟩)⟩)⟩)⟩)⟩)⟩)⟩)⟩)⟩)⟩)⟩)⟩)
set_option maxRecDepth 20000 in
theorem gwsX11_out : ∀ w ∈ wsX11_out, wo_P w := (List.forall_mem_cons.mpr ⟨mw_2_227, (wi_ap (wi_ap (wi_ap (wi_ap (wi_ap (wi_ap (wi_ap gwsX11_out_r1 gwsX11_out_r2) gwsX110) gwsX00) gwsX30) gwsX40) gwsX80) gwsX90)⟩)
theorem mw_2_224 : wo_P (Cond.methodLink RL 45 yX11_out) := ⟨wi_2 224 rfl, good_of_word rfl⟩
theorem mw_2_225 : wo_P (Cond.instanceMethod yX11_out) := ⟨wi_2 225 rfl, good_of_word rfl⟩
theorem mw_2_226 : wo_P (Cond.selects RX11 yX11_out yX11_out) := ⟨wi_2 226 rfl, good_of_word rfl⟩
theorem gL_law_X11_out : GoodIn lw_tbl (wsV RL 45 RX11 yX11_out wsX11_out) := wo_V mw_2_224 mw_2_225 mw_2_226 mw_1_1 gwsX11_out
theorem mw_5_73 : wo_P (Cond.code yX12_out cX12_out 4 (some .int)) := ⟨wi_5 73 rfl, good_of_word rfl⟩
theorem mw_0_25 : wo_P (Cond.selects RX12 yX12_slackOf yX12_slackOf) := ⟨wi_0 25 rfl, good_of_word rfl⟩
theorem mw_5_76 : wo_P (Cond.instanceMethod yX12_slackOf) := ⟨wi_5 76 rfl, good_of_word rfl⟩
theorem mw_5_74 : wo_P (Cond.methodLink RX12 148 yX12_slackOf) := ⟨wi_5 74 rfl, good_of_word rfl⟩
set_option maxRecDepth 20000 in
theorem gwsX12_out_r1 : ∀ w ∈ wsX12_out_r1, wo_P w := (List.forall_mem_cons.mpr ⟨mw_5_18, (List.forall_mem_cons.mpr ⟨mw_5_33, (List.forall_mem_cons.mpr ⟨mw_5_35, (List.forall_mem_cons.mpr ⟨mw_0_20, (List.forall_mem_cons.mpr ⟨mw_1_9, (List.forall_mem_cons.mpr ⟨mw_5_36, (List.forall_mem_cons.mpr ⟨mw_4_144, (List.forall_mem_cons.mpr ⟨mw_5_15, (List.forall_mem_cons.mpr ⟨mw_5_16, (List.forall_mem_cons.mpr ⟨mw_5_17, (List.forall_mem_cons.mpr ⟨mw_5_62, (List.forall_mem_cons.mpr ⟨mw_5_64, (List.forall_mem_cons.mpr ⟨mw_0_23, (List.forall_mem_cons.mpr ⟨mw_5_65, (List.forall_mem_cons.mpr ⟨mw_4_136, (List.forall_mem_cons.mpr ⟨mw_5_19, (List.forall_mem_cons.mpr ⟨mw_5_21, (List.forall_mem_cons.mpr ⟨mw_0_19, (List.forall_mem_cons.mpr ⟨mw_5_22, (List.forall_mem_cons.mpr ⟨mw_4_162, (List.forall_mem_cons.mpr ⟨mw_5_23, (List.forall_mem_cons.mpr ⟨mw_5_74, (List.forall_mem_cons.mpr ⟨mw_5_76, (List.forall_mem_cons.mpr ⟨mw_0_25, (List.forall_mem_nil _)⟩)⟩)⟩)⟩)⟩)⟩)⟩)⟩)⟩)⟩)⟩)⟩)⟩)⟩)⟩)⟩)⟩)⟩)⟩)⟩)⟩)⟩)⟩)⟩)
theorem mw_5_84 : wo_P (Cond.code yX12_reachOf cX12_reachOf 2 (some .int)) := ⟨wi_5 84 rfl, good_of_word rfl⟩
theorem mw_0_26 : wo_P (Cond.selects RX12 yX12_reachOf yX12_reachOf) := ⟨wi_0 26 rfl, good_of_word rfl⟩
theorem mw_5_83 : wo_P (Cond.instanceMethod yX12_reachOf) := ⟨wi_5 83 rfl, good_of_word rfl⟩
theorem mw_5_81 : wo_P (Cond.methodLink RX12 152 yX12_reachOf) := ⟨wi_5 81 rfl, good_of_word rfl⟩
theorem mw_5_80 : wo_P (Cond.code yX12_root cX12_root 2 (some .int)) := ⟨wi_5 80 rfl, good_of_word rfl⟩
theorem mw_5_79 : wo_P (Cond.static yX12_root) := ⟨wi_5 79 rfl, good_of_word rfl⟩
theorem mw_5_78 : wo_P (Cond.methodLink RX12 145 yX12_root) := ⟨wi_5 78 rfl, good_of_word rfl⟩
theorem mw_5_77 : wo_P (Cond.code yX12_slackOf cX12_slackOf 4 (some .int)) := ⟨wi_5 77 rfl, good_of_word rfl⟩
set_option maxRecDepth 20000 in
theorem gwsX12_out_r2 : ∀ w ∈ wsX12_out_r2, wo_P w := (List.forall_mem_cons.mpr ⟨mw_5_77, (List.forall_mem_cons.mpr ⟨mw_4_139, (List.forall_mem_cons.mpr ⟨mw_4_149, (List.forall_mem_cons.mpr ⟨mw_4_140, (List.forall_mem_cons.mpr ⟨mw_5_78, (List.forall_mem_cons.mpr ⟨mw_5_79, (List.forall_mem_cons.mpr ⟨mw_5_80, (List.forall_mem_cons.mpr ⟨mw_5_81, (List.forall_mem_cons.mpr ⟨mw_5_83, (List.forall_mem_cons.mpr ⟨mw_0_26, (List.forall_mem_cons.mpr ⟨mw_5_84, (List.forall_mem_cons.mpr ⟨mw_4_145, (List.forall_mem_cons.mpr ⟨mw_4_146, (List.forall_mem_nil _)⟩)⟩)⟩)⟩)⟩)⟩)⟩)⟩)⟩)⟩)⟩)⟩)⟩)
set_option maxRecDepth 20000 in
theorem gwsX12_out : ∀ w ∈ wsX12_out, wo_P w := (List.forall_mem_cons.mpr ⟨mw_5_73, (wi_ap (wi_ap gwsX12_out_r1 gwsX12_out_r2) gwsX120)⟩)
theorem mw_5_70 : wo_P (Cond.methodLink RL 48 yX12_out) := ⟨wi_5 70 rfl, good_of_word rfl⟩
theorem mw_5_71 : wo_P (Cond.instanceMethod yX12_out) := ⟨wi_5 71 rfl, good_of_word rfl⟩
theorem mw_5_72 : wo_P (Cond.selects RX12 yX12_out yX12_out) := ⟨wi_5 72 rfl, good_of_word rfl⟩
theorem gL_law_X12_out : GoodIn lw_tbl (wsV RL 48 RX12 yX12_out wsX12_out) := wo_V mw_5_70 mw_5_71 mw_5_72 mw_1_9 gwsX12_out
theorem mw_3_4 : wo_P (Cond.code yX11_fits cX11_fits 5 (some .int)) := ⟨wi_3 4 rfl, good_of_word rfl⟩
set_option maxRecDepth 20000 in
theorem gwsX11_fits_r1 : ∀ w ∈ wsX11_fits_r1, wo_P w := (List.forall_mem_cons.mpr ⟨mw_1_185, (List.forall_mem_cons.mpr ⟨mw_2_132, (List.forall_mem_cons.mpr ⟨mw_2_133, (List.forall_mem_cons.mpr ⟨mw_2_134, (List.forall_mem_cons.mpr ⟨mw_1_2, (List.forall_mem_cons.mpr ⟨mw_2_135, (List.forall_mem_cons.mpr ⟨mw_1_69, (List.forall_mem_cons.mpr ⟨mw_1_55, (List.forall_mem_cons.mpr ⟨mw_1_221, (List.forall_mem_cons.mpr ⟨mw_1_1, (List.forall_mem_cons.mpr ⟨mw_1_222, (List.forall_mem_cons.mpr ⟨mw_2_215, (List.forall_mem_cons.mpr ⟨mw_2_183, (List.forall_mem_cons.mpr ⟨mw_2_184, (List.forall_mem_cons.mpr ⟨mw_2_185, (List.forall_mem_cons.mpr ⟨mw_1_65, (List.forall_mem_cons.mpr ⟨mw_1_54, (List.forall_mem_cons.mpr ⟨mw_1_223, (List.forall_mem_cons.mpr ⟨mw_1_225, (List.forall_mem_cons.mpr ⟨mw_0_0, (List.forall_mem_cons.mpr ⟨mw_1_226, (List.forall_mem_cons.mpr ⟨mw_1_190, (List.forall_mem_cons.mpr ⟨mw_1_227, (List.forall_mem_cons.mpr ⟨mw_1_220, (List.forall_mem_nil _)⟩)⟩)⟩)⟩)⟩)⟩)⟩)⟩)⟩)⟩)⟩)⟩)⟩)⟩)⟩)⟩)⟩)⟩)⟩)⟩)⟩)⟩)⟩)⟩)
theorem mw_3_16 : wo_P (Cond.selects RX9 ⟨"BayMoorings$Boat", "need", "()I"⟩ yX2_need) := ⟨wi_3 16 rfl, good_of_word rfl⟩
theorem mw_3_10 : wo_P (Cond.instanceMethod yX2_need) := ⟨wi_3 10 rfl, good_of_word rfl⟩
theorem mw_3_15 : wo_P (Cond.selects RX8 ⟨"BayMoorings$Boat", "need", "()I"⟩ yX2_need) := ⟨wi_3 15 rfl, good_of_word rfl⟩
theorem mw_3_17 : wo_P (Cond.code yX2_need cX2_need 1 (some .int)) := ⟨wi_3 17 rfl, good_of_word rfl⟩
theorem mw_2_80 : wo_P (Cond.sameField "BayMoorings$Dry" "BayMoorings$Boat" "draught" "I") := ⟨wi_2 80 rfl, good_of_word rfl⟩
theorem mw_2_79 : wo_P (Cond.fieldLink RX4 9 "BayMoorings$Dry" "draught" "I") := ⟨wi_2 79 rfl, good_of_word rfl⟩
theorem mw_3_14 : wo_P (Cond.code yX4_need cX4_need 1 (some .int)) := ⟨wi_3 14 rfl, good_of_word rfl⟩
theorem mw_3_13 : wo_P (Cond.instanceMethod yX4_need) := ⟨wi_3 13 rfl, good_of_word rfl⟩
theorem mw_3_12 : wo_P (Cond.selects RX4 ⟨"BayMoorings$Boat", "need", "()I"⟩ yX4_need) := ⟨wi_3 12 rfl, good_of_word rfl⟩
theorem mw_3_11 : wo_P (Cond.sameMethod "BayMoorings$Boat" "BayMoorings$Boat" "need" "()I") := ⟨wi_3 11 rfl, good_of_word rfl⟩
theorem mw_3_9 : wo_P (Cond.methodLink RX0 103 ⟨"BayMoorings$Boat", "need", "()I"⟩) := ⟨wi_3 9 rfl, good_of_word rfl⟩
theorem mw_2_9 : wo_P (Cond.fieldLink RX0 100 "BayMoorings$Buoy" "depth" "I") := ⟨wi_2 9 rfl, good_of_word rfl⟩
theorem mw_2_12 : wo_P (Cond.fieldLink RX0 97 "BayMoorings$Buoy" "chain" "I") := ⟨wi_2 12 rfl, good_of_word rfl⟩
theorem mw_2_77 : wo_P (Cond.fieldLink RX0 94 "BayMoorings$Boat" "length" "I") := ⟨wi_2 77 rfl, good_of_word rfl⟩
theorem mw_3_8 : wo_P (Cond.code yX0_suits cX0_suits 3 (some .boolean)) := ⟨wi_3 8 rfl, good_of_word rfl⟩
theorem mw_3_7 : wo_P (Cond.selects RX0 yX0_suits yX0_suits) := ⟨wi_3 7 rfl, good_of_word rfl⟩
theorem mw_3_6 : wo_P (Cond.instanceMethod yX0_suits) := ⟨wi_3 6 rfl, good_of_word rfl⟩
theorem mw_3_5 : wo_P (Cond.methodLink RX11 174 yX0_suits) := ⟨wi_3 5 rfl, good_of_word rfl⟩
set_option maxRecDepth 20000 in
theorem gwsX11_fits_r2 : ∀ w ∈ wsX11_fits_r2, wo_P w := (List.forall_mem_cons.mpr ⟨mw_3_5, (List.forall_mem_cons.mpr ⟨mw_3_6, (List.forall_mem_cons.mpr ⟨mw_3_7, (List.forall_mem_cons.mpr ⟨mw_3_8, (List.forall_mem_cons.mpr ⟨mw_2_77, (List.forall_mem_cons.mpr ⟨mw_2_12, (List.forall_mem_cons.mpr ⟨mw_2_9, (List.forall_mem_cons.mpr ⟨mw_1_76, (List.forall_mem_cons.mpr ⟨mw_3_9, (List.forall_mem_cons.mpr ⟨mw_3_11, (List.forall_mem_cons.mpr ⟨mw_3_10, (List.forall_mem_cons.mpr ⟨mw_3_12, (List.forall_mem_cons.mpr ⟨mw_3_13, (List.forall_mem_cons.mpr ⟨mw_1_13, (List.forall_mem_cons.mpr ⟨mw_3_14, (List.forall_mem_cons.mpr ⟨mw_2_79, (List.forall_mem_cons.mpr ⟨mw_2_80, (List.forall_mem_cons.mpr ⟨mw_3_17, (List.forall_mem_cons.mpr ⟨mw_3_15, (List.forall_mem_cons.mpr ⟨mw_3_10, (List.forall_mem_cons.mpr ⟨mw_1_11, (List.forall_mem_cons.mpr ⟨mw_2_78, (List.forall_mem_cons.mpr ⟨mw_3_16, (List.forall_mem_nil _)⟩)⟩)⟩)⟩)⟩)⟩)⟩)⟩)⟩)⟩)⟩)⟩)⟩)⟩)⟩)⟩)⟩)⟩)⟩)⟩)⟩)⟩)⟩)
set_option maxRecDepth 20000 in
theorem gwsX11_fits : ∀ w ∈ wsX11_fits, wo_P w := (List.forall_mem_cons.mpr ⟨mw_3_4, (wi_ap (wi_ap (wi_ap (wi_ap (wi_ap (wi_ap (wi_ap gwsX11_fits_r1 gwsX11_fits_r2) gwsX110) gwsX00) gwsX40) gwsX80) gwsX90) gwsX30)⟩)
theorem mw_3_1 : wo_P (Cond.methodLink RL 49 yX11_fits) := ⟨wi_3 1 rfl, good_of_word rfl⟩
theorem mw_3_2 : wo_P (Cond.instanceMethod yX11_fits) := ⟨wi_3 2 rfl, good_of_word rfl⟩
theorem mw_3_3 : wo_P (Cond.selects RX11 yX11_fits yX11_fits) := ⟨wi_3 3 rfl, good_of_word rfl⟩
theorem gL_law_X11_fits : GoodIn lw_tbl (wsV RL 49 RX11 yX11_fits wsX11_fits) := wo_V mw_3_1 mw_3_2 mw_3_3 mw_1_1 gwsX11_fits
theorem mw_5_88 : wo_P (Cond.code yX12_fits cX12_fits 3 (some .int)) := ⟨wi_5 88 rfl, good_of_word rfl⟩
theorem mw_0_27 : wo_P (Cond.selects RX12 yX12_canFit yX12_canFit) := ⟨wi_0 27 rfl, good_of_word rfl⟩
theorem mw_5_91 : wo_P (Cond.instanceMethod yX12_canFit) := ⟨wi_5 91 rfl, good_of_word rfl⟩
theorem mw_5_89 : wo_P (Cond.methodLink RX12 155 yX12_canFit) := ⟨wi_5 89 rfl, good_of_word rfl⟩
set_option maxRecDepth 20000 in
theorem gwsX12_fits_r1 : ∀ w ∈ wsX12_fits_r1, wo_P w := (List.forall_mem_cons.mpr ⟨mw_5_18, (List.forall_mem_cons.mpr ⟨mw_5_33, (List.forall_mem_cons.mpr ⟨mw_5_35, (List.forall_mem_cons.mpr ⟨mw_0_20, (List.forall_mem_cons.mpr ⟨mw_1_9, (List.forall_mem_cons.mpr ⟨mw_5_36, (List.forall_mem_cons.mpr ⟨mw_4_144, (List.forall_mem_cons.mpr ⟨mw_5_15, (List.forall_mem_cons.mpr ⟨mw_5_16, (List.forall_mem_cons.mpr ⟨mw_5_17, (List.forall_mem_cons.mpr ⟨mw_5_62, (List.forall_mem_cons.mpr ⟨mw_5_64, (List.forall_mem_cons.mpr ⟨mw_0_23, (List.forall_mem_cons.mpr ⟨mw_5_65, (List.forall_mem_cons.mpr ⟨mw_4_136, (List.forall_mem_cons.mpr ⟨mw_5_19, (List.forall_mem_cons.mpr ⟨mw_5_21, (List.forall_mem_cons.mpr ⟨mw_0_19, (List.forall_mem_cons.mpr ⟨mw_5_22, (List.forall_mem_cons.mpr ⟨mw_4_162, (List.forall_mem_cons.mpr ⟨mw_5_23, (List.forall_mem_cons.mpr ⟨mw_5_89, (List.forall_mem_cons.mpr ⟨mw_5_91, (List.forall_mem_cons.mpr ⟨mw_0_27, (List.forall_mem_nil _)⟩)⟩)⟩)⟩)⟩)⟩)⟩)⟩)⟩)⟩)⟩)⟩)⟩)⟩)⟩)⟩)⟩)⟩)⟩)⟩)⟩)⟩)⟩)⟩)
theorem mw_5_92 : wo_P (Cond.code yX12_canFit cX12_canFit 6 (some .boolean)) := ⟨wi_5 92 rfl, good_of_word rfl⟩
set_option maxRecDepth 20000 in
theorem gwsX12_fits_r2 : ∀ w ∈ wsX12_fits_r2, wo_P w := (List.forall_mem_cons.mpr ⟨mw_5_92, (List.forall_mem_cons.mpr ⟨mw_4_145, (List.forall_mem_cons.mpr ⟨mw_4_147, (List.forall_mem_cons.mpr ⟨mw_4_146, (List.forall_mem_cons.mpr ⟨mw_4_140, (List.forall_mem_cons.mpr ⟨mw_4_139, (List.forall_mem_cons.mpr ⟨mw_4_149, (List.forall_mem_nil _)⟩)⟩)⟩)⟩)⟩)⟩)⟩)
set_option maxRecDepth 20000 in
theorem gwsX12_fits : ∀ w ∈ wsX12_fits, wo_P w := (List.forall_mem_cons.mpr ⟨mw_5_88, (wi_ap (wi_ap gwsX12_fits_r1 gwsX12_fits_r2) gwsX120)⟩)
theorem mw_5_85 : wo_P (Cond.methodLink RL 52 yX12_fits) := ⟨wi_5 85 rfl, good_of_word rfl⟩
theorem mw_5_86 : wo_P (Cond.instanceMethod yX12_fits) := ⟨wi_5 86 rfl, good_of_word rfl⟩
theorem mw_5_87 : wo_P (Cond.selects RX12 yX12_fits yX12_fits) := ⟨wi_5 87 rfl, good_of_word rfl⟩
theorem gL_law_X12_fits : GoodIn lw_tbl (wsV RL 52 RX12 yX12_fits wsX12_fits) := wo_V mw_5_85 mw_5_86 mw_5_87 mw_1_9 gwsX12_fits
theorem mw_3_21 : wo_P (Cond.code yX11_touch cX11_touch 9 (some .int)) := ⟨wi_3 21 rfl, good_of_word rfl⟩
set_option maxRecDepth 20000 in
theorem gwsX11_touch_r1 : ∀ w ∈ wsX11_touch_r1, wo_P w := (List.forall_mem_cons.mpr ⟨mw_1_185, (List.forall_mem_cons.mpr ⟨mw_2_132, (List.forall_mem_cons.mpr ⟨mw_2_133, (List.forall_mem_cons.mpr ⟨mw_2_134, (List.forall_mem_cons.mpr ⟨mw_1_2, (List.forall_mem_cons.mpr ⟨mw_2_135, (List.forall_mem_cons.mpr ⟨mw_1_69, (List.forall_mem_cons.mpr ⟨mw_1_55, (List.forall_mem_cons.mpr ⟨mw_1_221, (List.forall_mem_cons.mpr ⟨mw_1_1, (List.forall_mem_cons.mpr ⟨mw_1_222, (List.forall_mem_cons.mpr ⟨mw_2_215, (List.forall_mem_cons.mpr ⟨mw_2_183, (List.forall_mem_cons.mpr ⟨mw_2_184, (List.forall_mem_cons.mpr ⟨mw_2_185, (List.forall_mem_cons.mpr ⟨mw_1_65, (List.forall_mem_cons.mpr ⟨mw_1_54, (List.forall_mem_cons.mpr ⟨mw_1_223, (List.forall_mem_cons.mpr ⟨mw_1_225, (List.forall_mem_cons.mpr ⟨mw_0_0, (List.forall_mem_cons.mpr ⟨mw_1_226, (List.forall_mem_cons.mpr ⟨mw_1_190, (List.forall_mem_cons.mpr ⟨mw_1_227, (List.forall_mem_cons.mpr ⟨mw_1_220, (List.forall_mem_nil _)⟩)⟩)⟩)⟩)⟩)⟩)⟩)⟩)⟩)⟩)⟩)⟩)⟩)⟩)⟩)⟩)⟩)⟩)⟩)⟩)⟩)⟩)⟩)⟩)
theorem mw_3_27 : wo_P (Cond.methodLink RX0 139 yX3_slackAt) := ⟨wi_3 27 rfl, good_of_word rfl⟩
theorem mw_3_26 : wo_P (Cond.methodLink RX0 136 ⟨"BayMoorings$Boat", "reach", "()I"⟩) := ⟨wi_3 26 rfl, good_of_word rfl⟩
theorem mw_2_6 : wo_P (Cond.fieldLink RX0 133 "BayMoorings$Buoy" "y" "I") := ⟨wi_2 6 rfl, good_of_word rfl⟩
theorem mw_2_3 : wo_P (Cond.fieldLink RX0 130 "BayMoorings$Buoy" "x" "I") := ⟨wi_2 3 rfl, good_of_word rfl⟩
theorem mw_3_25 : wo_P (Cond.code yX0_firstTouch cX0_firstTouch 10 (some .int)) := ⟨wi_3 25 rfl, good_of_word rfl⟩
theorem mw_3_24 : wo_P (Cond.selects RX0 yX0_firstTouch yX0_firstTouch) := ⟨wi_3 24 rfl, good_of_word rfl⟩
theorem mw_3_23 : wo_P (Cond.instanceMethod yX0_firstTouch) := ⟨wi_3 23 rfl, good_of_word rfl⟩
theorem mw_3_22 : wo_P (Cond.methodLink RX11 178 yX0_firstTouch) := ⟨wi_3 22 rfl, good_of_word rfl⟩
set_option maxRecDepth 20000 in
theorem gwsX11_touch_r2 : ∀ w ∈ wsX11_touch_r2, wo_P w := (List.forall_mem_cons.mpr ⟨mw_3_22, (List.forall_mem_cons.mpr ⟨mw_3_23, (List.forall_mem_cons.mpr ⟨mw_3_24, (List.forall_mem_cons.mpr ⟨mw_3_25, (List.forall_mem_cons.mpr ⟨mw_2_3, (List.forall_mem_cons.mpr ⟨mw_2_6, (List.forall_mem_cons.mpr ⟨mw_1_58, (List.forall_mem_cons.mpr ⟨mw_3_26, (List.forall_mem_cons.mpr ⟨mw_2_234, (List.forall_mem_cons.mpr ⟨mw_2_235, (List.forall_mem_cons.mpr ⟨mw_2_233, (List.forall_mem_cons.mpr ⟨mw_1_11, (List.forall_mem_cons.mpr ⟨mw_3_0, (List.forall_mem_cons.mpr ⟨mw_2_72, (List.forall_mem_cons.mpr ⟨mw_2_236, (List.forall_mem_cons.mpr ⟨mw_2_233, (List.forall_mem_cons.mpr ⟨mw_2_237, (List.forall_mem_cons.mpr ⟨mw_2_238, (List.forall_mem_cons.mpr ⟨mw_1_12, (List.forall_mem_cons.mpr ⟨mw_2_239, (List.forall_mem_cons.mpr ⟨mw_2_73, (List.forall_mem_cons.mpr ⟨mw_2_74, (List.forall_mem_cons.mpr ⟨mw_3_27, (List.forall_mem_cons.mpr ⟨mw_2_229, (List.forall_mem_nil _)⟩)⟩)⟩)⟩)⟩)⟩)⟩)⟩)⟩)⟩)⟩)⟩)⟩)⟩)⟩)⟩)⟩)⟩)⟩)⟩)⟩)⟩)⟩)⟩)
theorem mw_3_42 : wo_P (Cond.methodLink RX0 155 yX0_endsMeet) := ⟨wi_3 42 rfl, good_of_word rfl⟩
theorem mw_3_41 : wo_P (Cond.code yX0_blows cX0_blows 2 (some .boolean)) := ⟨wi_3 41 rfl, good_of_word rfl⟩
theorem mw_0_3 : wo_P (Cond.selects RX0 yX0_blows yX0_blows) := ⟨wi_0 3 rfl, good_of_word rfl⟩
theorem mw_3_40 : wo_P (Cond.instanceMethod yX0_blows) := ⟨wi_3 40 rfl, good_of_word rfl⟩
theorem mw_3_38 : wo_P (Cond.methodLink RX0 152 yX0_blows) := ⟨wi_3 38 rfl, good_of_word rfl⟩
theorem mw_3_37 : wo_P (Cond.code Lib.Math.max.name Lib.Math.max.code 2 (some .int)) := ⟨wi_3 37 rfl, good_of_word rfl⟩
theorem mw_3_36 : wo_P (Cond.static Lib.Math.max.name) := ⟨wi_3 36 rfl, good_of_word rfl⟩
theorem mw_3_35 : wo_P (Cond.methodLink RX0 149 Lib.Math.max.name) := ⟨wi_3 35 rfl, good_of_word rfl⟩
theorem mw_3_34 : wo_P (Cond.code Lib.Math.abs.name Lib.Math.abs.code 1 (some .int)) := ⟨wi_3 34 rfl, good_of_word rfl⟩
theorem mw_3_33 : wo_P (Cond.static Lib.Math.abs.name) := ⟨wi_3 33 rfl, good_of_word rfl⟩
theorem mw_3_32 : wo_P (Cond.methodLink RX0 146 Lib.Math.abs.name) := ⟨wi_3 32 rfl, good_of_word rfl⟩
theorem mw_3_31 : wo_P (Cond.code yX0_mayMeet cX0_mayMeet 9 (some .boolean)) := ⟨wi_3 31 rfl, good_of_word rfl⟩
theorem mw_0_2 : wo_P (Cond.selects RX0 yX0_mayMeet yX0_mayMeet) := ⟨wi_0 2 rfl, good_of_word rfl⟩
theorem mw_3_30 : wo_P (Cond.instanceMethod yX0_mayMeet) := ⟨wi_3 30 rfl, good_of_word rfl⟩
theorem mw_3_28 : wo_P (Cond.methodLink RX0 142 yX0_mayMeet) := ⟨wi_3 28 rfl, good_of_word rfl⟩
set_option maxRecDepth 20000 in
theorem gwsX11_touch_r3 : ∀ w ∈ wsX11_touch_r3, wo_P w := (List.forall_mem_cons.mpr ⟨mw_2_230, (List.forall_mem_cons.mpr ⟨mw_1_10, (List.forall_mem_cons.mpr ⟨mw_2_231, (List.forall_mem_cons.mpr ⟨mw_2_13, (List.forall_mem_cons.mpr ⟨mw_3_28, (List.forall_mem_cons.mpr ⟨mw_3_30, (List.forall_mem_cons.mpr ⟨mw_0_2, (List.forall_mem_cons.mpr ⟨mw_3_31, (List.forall_mem_cons.mpr ⟨mw_3_32, (List.forall_mem_cons.mpr ⟨mw_3_33, (List.forall_mem_cons.mpr ⟨mw_1_15, (List.forall_mem_cons.mpr ⟨mw_3_34, (List.forall_mem_cons.mpr ⟨mw_3_35, (List.forall_mem_cons.mpr ⟨mw_3_36, (List.forall_mem_cons.mpr ⟨mw_3_37, (List.forall_mem_cons.mpr ⟨mw_2_186, (List.forall_mem_cons.mpr ⟨mw_2_187, (List.forall_mem_cons.mpr ⟨mw_2_188, (List.forall_mem_cons.mpr ⟨mw_3_38, (List.forall_mem_cons.mpr ⟨mw_3_40, (List.forall_mem_cons.mpr ⟨mw_0_3, (List.forall_mem_cons.mpr ⟨mw_3_41, (List.forall_mem_cons.mpr ⟨mw_1_74, (List.forall_mem_cons.mpr ⟨mw_3_42, (List.forall_mem_nil _)⟩)⟩)⟩)⟩)⟩)⟩)⟩)⟩)⟩)⟩)⟩)⟩)⟩)⟩)⟩)⟩)⟩)⟩)⟩)⟩)⟩)⟩)⟩)⟩)
theorem mw_3_44 : wo_P (Cond.code yX0_endsMeet cX0_endsMeet 12 (some .boolean)) := ⟨wi_3 44 rfl, good_of_word rfl⟩
theorem mw_3_43 : wo_P (Cond.static yX0_endsMeet) := ⟨wi_3 43 rfl, good_of_word rfl⟩
set_option maxRecDepth 20000 in
theorem gwsX11_touch_r4 : ∀ w ∈ wsX11_touch_r4, wo_P w := (List.forall_mem_cons.mpr ⟨mw_3_43, (List.forall_mem_cons.mpr ⟨mw_3_44, (List.forall_mem_nil _)⟩)⟩)
set_option maxRecDepth 20000 in
theorem gwsX11_touch : ∀ w ∈ wsX11_touch, wo_P w := (List.forall_mem_cons.mpr ⟨mw_3_21, (wi_ap (wi_ap (wi_ap (wi_ap (wi_ap (wi_ap (wi_ap gwsX11_touch_r1 (wi_ap gwsX11_touch_r2 (wi_ap gwsX11_touch_r3 gwsX11_touch_r4))) gwsX110) gwsX00) gwsX30) gwsX40) gwsX80) gwsX90)⟩)
theorem mw_3_18 : wo_P (Cond.methodLink RL 53 yX11_touch) := ⟨wi_3 18 rfl, good_of_word rfl⟩
theorem mw_3_19 : wo_P (Cond.instanceMethod yX11_touch) := ⟨wi_3 19 rfl, good_of_word rfl⟩
theorem mw_3_20 : wo_P (Cond.selects RX11 yX11_touch yX11_touch) := ⟨wi_3 20 rfl, good_of_word rfl⟩
theorem gL_law_X11_touch : GoodIn lw_tbl (wsV RL 53 RX11 yX11_touch wsX11_touch) := wo_V mw_3_18 mw_3_19 mw_3_20 mw_1_1 gwsX11_touch
theorem mw_5_96 : wo_P (Cond.code yX12_touch cX12_touch 5 (some .int)) := ⟨wi_5 96 rfl, good_of_word rfl⟩
theorem mw_0_28 : wo_P (Cond.selects RX12 yX12_firstTouch yX12_firstTouch) := ⟨wi_0 28 rfl, good_of_word rfl⟩
theorem mw_5_99 : wo_P (Cond.instanceMethod yX12_firstTouch) := ⟨wi_5 99 rfl, good_of_word rfl⟩
theorem mw_5_97 : wo_P (Cond.methodLink RX12 182 yX12_firstTouch) := ⟨wi_5 97 rfl, good_of_word rfl⟩
set_option maxRecDepth 20000 in
theorem gwsX12_touch_r1 : ∀ w ∈ wsX12_touch_r1, wo_P w := (List.forall_mem_cons.mpr ⟨mw_5_18, (List.forall_mem_cons.mpr ⟨mw_5_33, (List.forall_mem_cons.mpr ⟨mw_5_35, (List.forall_mem_cons.mpr ⟨mw_0_20, (List.forall_mem_cons.mpr ⟨mw_1_9, (List.forall_mem_cons.mpr ⟨mw_5_36, (List.forall_mem_cons.mpr ⟨mw_4_144, (List.forall_mem_cons.mpr ⟨mw_5_15, (List.forall_mem_cons.mpr ⟨mw_5_16, (List.forall_mem_cons.mpr ⟨mw_5_17, (List.forall_mem_cons.mpr ⟨mw_5_62, (List.forall_mem_cons.mpr ⟨mw_5_64, (List.forall_mem_cons.mpr ⟨mw_0_23, (List.forall_mem_cons.mpr ⟨mw_5_65, (List.forall_mem_cons.mpr ⟨mw_4_136, (List.forall_mem_cons.mpr ⟨mw_5_19, (List.forall_mem_cons.mpr ⟨mw_5_21, (List.forall_mem_cons.mpr ⟨mw_0_19, (List.forall_mem_cons.mpr ⟨mw_5_22, (List.forall_mem_cons.mpr ⟨mw_4_162, (List.forall_mem_cons.mpr ⟨mw_5_23, (List.forall_mem_cons.mpr ⟨mw_5_97, (List.forall_mem_cons.mpr ⟨mw_5_99, (List.forall_mem_cons.mpr ⟨mw_0_28, (List.forall_mem_nil _)⟩)⟩)⟩)⟩)⟩)⟩)⟩)⟩)⟩)⟩)⟩)⟩)⟩)⟩)⟩)⟩)⟩)⟩)⟩)⟩)⟩)⟩)⟩)⟩)
theorem mw_5_106 : wo_P (Cond.methodLink RX12 163 Lib.Math.abs.name) := ⟨wi_5 106 rfl, good_of_word rfl⟩
theorem mw_5_105 : wo_P (Cond.methodLink RX12 168 Lib.Math.min.name) := ⟨wi_5 105 rfl, good_of_word rfl⟩
theorem mw_5_104 : wo_P (Cond.code yX12_touchAt cX12_touchAt 12 (some .boolean)) := ⟨wi_5 104 rfl, good_of_word rfl⟩
theorem mw_0_29 : wo_P (Cond.selects RX12 yX12_touchAt yX12_touchAt) := ⟨wi_0 29 rfl, good_of_word rfl⟩
theorem mw_5_103 : wo_P (Cond.instanceMethod yX12_touchAt) := ⟨wi_5 103 rfl, good_of_word rfl⟩
theorem mw_5_101 : wo_P (Cond.methodLink RX12 178 yX12_touchAt) := ⟨wi_5 101 rfl, good_of_word rfl⟩
theorem mw_5_100 : wo_P (Cond.code yX12_firstTouch cX12_firstTouch 8 (some .int)) := ⟨wi_5 100 rfl, good_of_word rfl⟩
set_option maxRecDepth 20000 in
theorem gwsX12_touch_r2 : ∀ w ∈ wsX12_touch_r2, wo_P w := (List.forall_mem_cons.mpr ⟨mw_5_100, (List.forall_mem_cons.mpr ⟨mw_4_149, (List.forall_mem_cons.mpr ⟨mw_5_101, (List.forall_mem_cons.mpr ⟨mw_5_103, (List.forall_mem_cons.mpr ⟨mw_0_29, (List.forall_mem_cons.mpr ⟨mw_5_104, (List.forall_mem_cons.mpr ⟨mw_5_105, (List.forall_mem_cons.mpr ⟨mw_2_187, (List.forall_mem_cons.mpr ⟨mw_1_15, (List.forall_mem_cons.mpr ⟨mw_2_188, (List.forall_mem_cons.mpr ⟨mw_4_137, (List.forall_mem_cons.mpr ⟨mw_5_106, (List.forall_mem_cons.mpr ⟨mw_3_33, (List.forall_mem_cons.mpr ⟨mw_3_34, (List.forall_mem_cons.mpr ⟨mw_4_138, (List.forall_mem_cons.mpr ⟨mw_5_74, (List.forall_mem_cons.mpr ⟨mw_5_76, (List.forall_mem_cons.mpr ⟨mw_0_25, (List.forall_mem_cons.mpr ⟨mw_5_77, (List.forall_mem_cons.mpr ⟨mw_4_139, (List.forall_mem_cons.mpr ⟨mw_4_140, (List.forall_mem_cons.mpr ⟨mw_5_78, (List.forall_mem_cons.mpr ⟨mw_5_79, (List.forall_mem_cons.mpr ⟨mw_5_80, (List.forall_mem_nil _)⟩)⟩)⟩)⟩)⟩)⟩)⟩)⟩)⟩)⟩)⟩)⟩)⟩)⟩)⟩)⟩)⟩)⟩)⟩)⟩)⟩)⟩)⟩)⟩)
theorem mw_5_117 : wo_P (Cond.code yX12_steps cX12_steps 3 (some .int)) := ⟨wi_5 117 rfl, good_of_word rfl⟩
theorem mw_5_116 : wo_P (Cond.static yX12_steps) := ⟨wi_5 116 rfl, good_of_word rfl⟩
theorem mw_5_115 : wo_P (Cond.methodLink RX12 159 yX12_steps) := ⟨wi_5 115 rfl, good_of_word rfl⟩
theorem mw_5_114 : wo_P (Cond.code yX12_meet cX12_meet 9 (some .boolean)) := ⟨wi_5 114 rfl, good_of_word rfl⟩
theorem mw_0_31 : wo_P (Cond.selects RX12 yX12_meet yX12_meet) := ⟨wi_0 31 rfl, good_of_word rfl⟩
theorem mw_5_113 : wo_P (Cond.instanceMethod yX12_meet) := ⟨wi_5 113 rfl, good_of_word rfl⟩
theorem mw_5_111 : wo_P (Cond.methodLink RX12 174 yX12_meet) := ⟨wi_5 111 rfl, good_of_word rfl⟩
theorem mw_5_110 : wo_P (Cond.code yX12_isThere cX12_isThere 2 (some .boolean)) := ⟨wi_5 110 rfl, good_of_word rfl⟩
theorem mw_0_30 : wo_P (Cond.selects RX12 yX12_isThere yX12_isThere) := ⟨wi_0 30 rfl, good_of_word rfl⟩
theorem mw_5_109 : wo_P (Cond.instanceMethod yX12_isThere) := ⟨wi_5 109 rfl, good_of_word rfl⟩
theorem mw_5_107 : wo_P (Cond.methodLink RX12 171 yX12_isThere) := ⟨wi_5 107 rfl, good_of_word rfl⟩
set_option maxRecDepth 20000 in
theorem gwsX12_touch_r3 : ∀ w ∈ wsX12_touch_r3, wo_P w := (List.forall_mem_cons.mpr ⟨mw_5_81, (List.forall_mem_cons.mpr ⟨mw_5_83, (List.forall_mem_cons.mpr ⟨mw_0_26, (List.forall_mem_cons.mpr ⟨mw_5_84, (List.forall_mem_cons.mpr ⟨mw_4_145, (List.forall_mem_cons.mpr ⟨mw_4_146, (List.forall_mem_cons.mpr ⟨mw_5_107, (List.forall_mem_cons.mpr ⟨mw_5_109, (List.forall_mem_cons.mpr ⟨mw_0_30, (List.forall_mem_cons.mpr ⟨mw_5_110, (List.forall_mem_cons.mpr ⟨mw_4_150, (List.forall_mem_cons.mpr ⟨mw_5_111, (List.forall_mem_cons.mpr ⟨mw_5_113, (List.forall_mem_cons.mpr ⟨mw_0_31, (List.forall_mem_cons.mpr ⟨mw_5_114, (List.forall_mem_cons.mpr ⟨mw_4_151, (List.forall_mem_cons.mpr ⟨mw_4_152, (List.forall_mem_cons.mpr ⟨mw_5_115, (List.forall_mem_cons.mpr ⟨mw_5_116, (List.forall_mem_cons.mpr ⟨mw_5_117, (List.forall_mem_nil _)⟩)⟩)⟩)⟩)⟩)⟩)⟩)⟩)⟩)⟩)⟩)⟩)⟩)⟩)⟩)⟩)⟩)⟩)⟩)⟩)
set_option maxRecDepth 20000 in
theorem gwsX12_touch : ∀ w ∈ wsX12_touch, wo_P w := (List.forall_mem_cons.mpr ⟨mw_5_96, (wi_ap (wi_ap gwsX12_touch_r1 (wi_ap gwsX12_touch_r2 gwsX12_touch_r3)) gwsX120)⟩)
theorem mw_5_93 : wo_P (Cond.methodLink RL 56 yX12_touch) := ⟨wi_5 93 rfl, good_of_word rfl⟩
theorem mw_5_94 : wo_P (Cond.instanceMethod yX12_touch) := ⟨wi_5 94 rfl, good_of_word rfl⟩
theorem mw_5_95 : wo_P (Cond.selects RX12 yX12_touch yX12_touch) := ⟨wi_5 95 rfl, good_of_word rfl⟩
theorem gL_law_X12_touch : GoodIn lw_tbl (wsV RL 56 RX12 yX12_touch wsX12_touch) := wo_V mw_5_93 mw_5_94 mw_5_95 mw_1_9 gwsX12_touch
theorem mw_3_52 : wo_P (Cond.code yX11_moor cX11_moor 5 (some .int)) := ⟨wi_3 52 rfl, good_of_word rfl⟩
set_option maxRecDepth 20000 in
theorem gwsX11_moor_r1 : ∀ w ∈ wsX11_moor_r1, wo_P w := (List.forall_mem_cons.mpr ⟨mw_1_185, (List.forall_mem_cons.mpr ⟨mw_1_64, (List.forall_mem_cons.mpr ⟨mw_1_186, (List.forall_mem_cons.mpr ⟨mw_2_132, (List.forall_mem_cons.mpr ⟨mw_2_133, (List.forall_mem_cons.mpr ⟨mw_2_134, (List.forall_mem_cons.mpr ⟨mw_1_2, (List.forall_mem_cons.mpr ⟨mw_2_135, (List.forall_mem_cons.mpr ⟨mw_1_69, (List.forall_mem_cons.mpr ⟨mw_1_55, (List.forall_mem_cons.mpr ⟨mw_1_221, (List.forall_mem_cons.mpr ⟨mw_1_1, (List.forall_mem_cons.mpr ⟨mw_1_222, (List.forall_mem_cons.mpr ⟨mw_2_215, (List.forall_mem_cons.mpr ⟨mw_2_183, (List.forall_mem_cons.mpr ⟨mw_2_184, (List.forall_mem_cons.mpr ⟨mw_2_185, (List.forall_mem_cons.mpr ⟨mw_1_65, (List.forall_mem_cons.mpr ⟨mw_1_54, (List.forall_mem_cons.mpr ⟨mw_1_223, (List.forall_mem_cons.mpr ⟨mw_1_225, (List.forall_mem_cons.mpr ⟨mw_0_0, (List.forall_mem_cons.mpr ⟨mw_1_226, (List.forall_mem_cons.mpr ⟨mw_1_190, (List.forall_mem_nil _)⟩)⟩)⟩)⟩)⟩)⟩)⟩)⟩)⟩)⟩)⟩)⟩)⟩)⟩)⟩)⟩)⟩)⟩)⟩)⟩)⟩)⟩)⟩)⟩)
theorem mw_3_58 : wo_P (Cond.methodLink RX0 114 yX0_suits) := ⟨wi_3 58 rfl, good_of_word rfl⟩
theorem mw_3_57 : wo_P (Cond.methodLink RX0 110 yX1_boatOf) := ⟨wi_3 57 rfl, good_of_word rfl⟩
theorem mw_2_71 : wo_P (Cond.fieldLink RX0 118 "BayMoorings$Boat" "number" "I") := ⟨wi_2 71 rfl, good_of_word rfl⟩
theorem mw_2_0 : wo_P (Cond.fieldLink RX0 107 "BayMoorings$Buoy" "number" "I") := ⟨wi_2 0 rfl, good_of_word rfl⟩
theorem mw_3_56 : wo_P (Cond.code yX0_mayLie cX0_mayLie 7 (some .boolean)) := ⟨wi_3 56 rfl, good_of_word rfl⟩
theorem mw_3_55 : wo_P (Cond.selects RX0 yX0_mayLie yX0_mayLie) := ⟨wi_3 55 rfl, good_of_word rfl⟩
theorem mw_3_54 : wo_P (Cond.instanceMethod yX0_mayLie) := ⟨wi_3 54 rfl, good_of_word rfl⟩
theorem mw_3_53 : wo_P (Cond.methodLink RX11 182 yX0_mayLie) := ⟨wi_3 53 rfl, good_of_word rfl⟩
set_option maxRecDepth 20000 in
theorem gwsX11_moor_r2 : ∀ w ∈ wsX11_moor_r2, wo_P w := (List.forall_mem_cons.mpr ⟨mw_1_227, (List.forall_mem_cons.mpr ⟨mw_1_220, (List.forall_mem_cons.mpr ⟨mw_2_202, (List.forall_mem_cons.mpr ⟨mw_2_203, (List.forall_mem_cons.mpr ⟨mw_2_204, (List.forall_mem_cons.mpr ⟨mw_1_3, (List.forall_mem_cons.mpr ⟨mw_2_205, (List.forall_mem_cons.mpr ⟨mw_1_45, (List.forall_mem_cons.mpr ⟨mw_2_216, (List.forall_mem_cons.mpr ⟨mw_2_217, (List.forall_mem_cons.mpr ⟨mw_2_218, (List.forall_mem_cons.mpr ⟨mw_2_219, (List.forall_mem_cons.mpr ⟨mw_1_46, (List.forall_mem_cons.mpr ⟨mw_3_53, (List.forall_mem_cons.mpr ⟨mw_3_54, (List.forall_mem_cons.mpr ⟨mw_3_55, (List.forall_mem_cons.mpr ⟨mw_3_56, (List.forall_mem_cons.mpr ⟨mw_2_0, (List.forall_mem_cons.mpr ⟨mw_2_71, (List.forall_mem_cons.mpr ⟨mw_3_57, (List.forall_mem_cons.mpr ⟨mw_3_58, (List.forall_mem_cons.mpr ⟨mw_3_6, (List.forall_mem_cons.mpr ⟨mw_3_7, (List.forall_mem_cons.mpr ⟨mw_3_8, (List.forall_mem_nil _)⟩)⟩)⟩)⟩)⟩)⟩)⟩)⟩)⟩)⟩)⟩)⟩)⟩)⟩)⟩)⟩)⟩)⟩)⟩)⟩)⟩)⟩)⟩)⟩)
theorem mw_3_61 : wo_P (Cond.methodLink RX0 126 yX0_firstTouch) := ⟨wi_3 61 rfl, good_of_word rfl⟩
theorem mw_3_60 : wo_P (Cond.methodLink RX0 123 yX1_buoyOf) := ⟨wi_3 60 rfl, good_of_word rfl⟩
theorem mw_3_59 : wo_P (Cond.methodLink RX0 119 yX0_boatAt) := ⟨wi_3 59 rfl, good_of_word rfl⟩
set_option maxRecDepth 20000 in
theorem gwsX11_moor_r3 : ∀ w ∈ wsX11_moor_r3, wo_P w := (List.forall_mem_cons.mpr ⟨mw_2_77, (List.forall_mem_cons.mpr ⟨mw_2_12, (List.forall_mem_cons.mpr ⟨mw_2_9, (List.forall_mem_cons.mpr ⟨mw_1_76, (List.forall_mem_cons.mpr ⟨mw_3_9, (List.forall_mem_cons.mpr ⟨mw_3_11, (List.forall_mem_cons.mpr ⟨mw_3_10, (List.forall_mem_cons.mpr ⟨mw_3_12, (List.forall_mem_cons.mpr ⟨mw_3_13, (List.forall_mem_cons.mpr ⟨mw_1_13, (List.forall_mem_cons.mpr ⟨mw_3_14, (List.forall_mem_cons.mpr ⟨mw_2_79, (List.forall_mem_cons.mpr ⟨mw_2_80, (List.forall_mem_cons.mpr ⟨mw_3_17, (List.forall_mem_cons.mpr ⟨mw_3_15, (List.forall_mem_cons.mpr ⟨mw_3_10, (List.forall_mem_cons.mpr ⟨mw_1_11, (List.forall_mem_cons.mpr ⟨mw_2_78, (List.forall_mem_cons.mpr ⟨mw_3_16, (List.forall_mem_cons.mpr ⟨mw_3_59, (List.forall_mem_cons.mpr ⟨mw_3_60, (List.forall_mem_cons.mpr ⟨mw_2_182, (List.forall_mem_cons.mpr ⟨mw_3_61, (List.forall_mem_cons.mpr ⟨mw_3_23, (List.forall_mem_nil _)⟩)⟩)⟩)⟩)⟩)⟩)⟩)⟩)⟩)⟩)⟩)⟩)⟩)⟩)⟩)⟩)⟩)⟩)⟩)⟩)⟩)⟩)⟩)⟩)
set_option maxRecDepth 20000 in
theorem gwsX11_moor_r4 : ∀ w ∈ wsX11_moor_r4, wo_P w := (List.forall_mem_cons.mpr ⟨mw_3_24, (List.forall_mem_cons.mpr ⟨mw_3_25, (List.forall_mem_cons.mpr ⟨mw_2_3, (List.forall_mem_cons.mpr ⟨mw_2_6, (List.forall_mem_cons.mpr ⟨mw_1_58, (List.forall_mem_cons.mpr ⟨mw_3_26, (List.forall_mem_cons.mpr ⟨mw_2_234, (List.forall_mem_cons.mpr ⟨mw_2_235, (List.forall_mem_cons.mpr ⟨mw_2_233, (List.forall_mem_cons.mpr ⟨mw_3_0, (List.forall_mem_cons.mpr ⟨mw_2_72, (List.forall_mem_cons.mpr ⟨mw_2_236, (List.forall_mem_cons.mpr ⟨mw_2_233, (List.forall_mem_cons.mpr ⟨mw_2_237, (List.forall_mem_cons.mpr ⟨mw_2_238, (List.forall_mem_cons.mpr ⟨mw_1_12, (List.forall_mem_cons.mpr ⟨mw_2_239, (List.forall_mem_cons.mpr ⟨mw_2_73, (List.forall_mem_cons.mpr ⟨mw_2_74, (List.forall_mem_cons.mpr ⟨mw_3_27, (List.forall_mem_cons.mpr ⟨mw_2_229, (List.forall_mem_cons.mpr ⟨mw_2_230, (List.forall_mem_cons.mpr ⟨mw_1_10, (List.forall_mem_cons.mpr ⟨mw_2_231, (List.forall_mem_nil _)⟩)⟩)⟩)⟩)⟩)⟩)⟩)⟩)⟩)⟩)⟩)⟩)⟩)⟩)⟩)⟩)⟩)⟩)⟩)⟩)⟩)⟩)⟩)⟩)
theorem mw_3_62 : wo_P (Cond.methodLink RX11 186 yX1_put) := ⟨wi_3 62 rfl, good_of_word rfl⟩
set_option maxRecDepth 20000 in
theorem gwsX11_moor_r5 : ∀ w ∈ wsX11_moor_r5, wo_P w := (List.forall_mem_cons.mpr ⟨mw_2_13, (List.forall_mem_cons.mpr ⟨mw_3_28, (List.forall_mem_cons.mpr ⟨mw_3_30, (List.forall_mem_cons.mpr ⟨mw_0_2, (List.forall_mem_cons.mpr ⟨mw_3_31, (List.forall_mem_cons.mpr ⟨mw_3_32, (List.forall_mem_cons.mpr ⟨mw_3_33, (List.forall_mem_cons.mpr ⟨mw_1_15, (List.forall_mem_cons.mpr ⟨mw_3_34, (List.forall_mem_cons.mpr ⟨mw_3_35, (List.forall_mem_cons.mpr ⟨mw_3_36, (List.forall_mem_cons.mpr ⟨mw_3_37, (List.forall_mem_cons.mpr ⟨mw_2_186, (List.forall_mem_cons.mpr ⟨mw_2_187, (List.forall_mem_cons.mpr ⟨mw_2_188, (List.forall_mem_cons.mpr ⟨mw_3_38, (List.forall_mem_cons.mpr ⟨mw_3_40, (List.forall_mem_cons.mpr ⟨mw_0_3, (List.forall_mem_cons.mpr ⟨mw_3_41, (List.forall_mem_cons.mpr ⟨mw_1_74, (List.forall_mem_cons.mpr ⟨mw_3_42, (List.forall_mem_cons.mpr ⟨mw_3_43, (List.forall_mem_cons.mpr ⟨mw_3_44, (List.forall_mem_cons.mpr ⟨mw_3_62, (List.forall_mem_nil _)⟩)⟩)⟩)⟩)⟩)⟩)⟩)⟩)⟩)⟩)⟩)⟩)⟩)⟩)⟩)⟩)⟩)⟩)⟩)⟩)⟩)⟩)⟩)⟩)
theorem mw_3_69 : wo_P (Cond.code yX10_drop cX10_drop 3 none) := ⟨wi_3 69 rfl, good_of_word rfl⟩
theorem mw_3_68 : wo_P (Cond.selects RX10 yX10_drop yX10_drop) := ⟨wi_3 68 rfl, good_of_word rfl⟩
theorem mw_3_67 : wo_P (Cond.instanceMethod yX10_drop) := ⟨wi_3 67 rfl, good_of_word rfl⟩
theorem mw_3_66 : wo_P (Cond.methodLink RX11 189 yX10_drop) := ⟨wi_3 66 rfl, good_of_word rfl⟩
theorem mw_3_65 : wo_P (Cond.code yX1_put cX1_put 3 none) := ⟨wi_3 65 rfl, good_of_word rfl⟩
theorem mw_3_64 : wo_P (Cond.selects RX1 yX1_put yX1_put) := ⟨wi_3 64 rfl, good_of_word rfl⟩
theorem mw_3_63 : wo_P (Cond.instanceMethod yX1_put) := ⟨wi_3 63 rfl, good_of_word rfl⟩
set_option maxRecDepth 20000 in
theorem gwsX11_moor_r6 : ∀ w ∈ wsX11_moor_r6, wo_P w := (List.forall_mem_cons.mpr ⟨mw_3_63, (List.forall_mem_cons.mpr ⟨mw_3_64, (List.forall_mem_cons.mpr ⟨mw_3_65, (List.forall_mem_cons.mpr ⟨mw_2_207, (List.forall_mem_cons.mpr ⟨mw_2_208, (List.forall_mem_cons.mpr ⟨mw_2_209, (List.forall_mem_cons.mpr ⟨mw_1_5, (List.forall_mem_cons.mpr ⟨mw_2_210, (List.forall_mem_cons.mpr ⟨mw_1_104, (List.forall_mem_cons.mpr ⟨mw_1_103, (List.forall_mem_cons.mpr ⟨mw_3_66, (List.forall_mem_cons.mpr ⟨mw_3_67, (List.forall_mem_cons.mpr ⟨mw_3_68, (List.forall_mem_cons.mpr ⟨mw_3_69, (List.forall_mem_nil _)⟩)⟩)⟩)⟩)⟩)⟩)⟩)⟩)⟩)⟩)⟩)⟩)⟩)⟩)
set_option maxRecDepth 20000 in
theorem gwsX11_moor : ∀ w ∈ wsX11_moor, wo_P w := (List.forall_mem_cons.mpr ⟨mw_3_52, (wi_ap (wi_ap (wi_ap (wi_ap (wi_ap (wi_ap (wi_ap (wi_ap (wi_ap gwsX11_moor_r1 (wi_ap gwsX11_moor_r2 (wi_ap gwsX11_moor_r3 (wi_ap gwsX11_moor_r4 (wi_ap gwsX11_moor_r5 gwsX11_moor_r6))))) gwsX110) gwsX00) gwsX10) gwsX30) gwsX40) gwsX80) gwsX90) gwsX100)⟩)
theorem mw_3_49 : wo_P (Cond.methodLink RL 57 yX11_moor) := ⟨wi_3 49 rfl, good_of_word rfl⟩
theorem mw_3_50 : wo_P (Cond.instanceMethod yX11_moor) := ⟨wi_3 50 rfl, good_of_word rfl⟩
theorem mw_3_51 : wo_P (Cond.selects RX11 yX11_moor yX11_moor) := ⟨wi_3 51 rfl, good_of_word rfl⟩
theorem gL_law_X11_moor : GoodIn lw_tbl (wsV RL 57 RX11 yX11_moor wsX11_moor) := wo_V mw_3_49 mw_3_50 mw_3_51 mw_1_1 gwsX11_moor
theorem mw_5_121 : wo_P (Cond.code yX12_moor cX12_moor 3 (some .int)) := ⟨wi_5 121 rfl, good_of_word rfl⟩
theorem mw_5_127 : wo_P (Cond.constant RX12 191 (-1000002)) := ⟨wi_5 127 rfl, good_of_word rfl⟩
theorem mw_5_122 : wo_P (Cond.constant RX12 186 (-1000003)) := ⟨wi_5 122 rfl, good_of_word rfl⟩
set_option maxRecDepth 20000 in
theorem gwsX12_moor_r1 : ∀ w ∈ wsX12_moor_r1, wo_P w := (List.forall_mem_cons.mpr ⟨mw_5_18, (List.forall_mem_cons.mpr ⟨mw_4_148, (List.forall_mem_cons.mpr ⟨mw_4_143, (List.forall_mem_cons.mpr ⟨mw_5_122, (List.forall_mem_cons.mpr ⟨mw_5_127, (List.forall_mem_cons.mpr ⟨mw_5_33, (List.forall_mem_cons.mpr ⟨mw_5_35, (List.forall_mem_cons.mpr ⟨mw_0_20, (List.forall_mem_cons.mpr ⟨mw_1_9, (List.forall_mem_cons.mpr ⟨mw_5_36, (List.forall_mem_cons.mpr ⟨mw_4_144, (List.forall_mem_cons.mpr ⟨mw_5_15, (List.forall_mem_cons.mpr ⟨mw_5_16, (List.forall_mem_cons.mpr ⟨mw_5_17, (List.forall_mem_cons.mpr ⟨mw_5_62, (List.forall_mem_cons.mpr ⟨mw_5_64, (List.forall_mem_cons.mpr ⟨mw_0_23, (List.forall_mem_cons.mpr ⟨mw_5_65, (List.forall_mem_cons.mpr ⟨mw_4_136, (List.forall_mem_cons.mpr ⟨mw_5_19, (List.forall_mem_cons.mpr ⟨mw_5_21, (List.forall_mem_cons.mpr ⟨mw_0_19, (List.forall_mem_cons.mpr ⟨mw_5_22, (List.forall_mem_cons.mpr ⟨mw_4_162, (List.forall_mem_nil _)⟩)⟩)⟩)⟩)⟩)⟩)⟩)⟩)⟩)⟩)⟩)⟩)⟩)⟩)⟩)⟩)⟩)⟩)⟩)⟩)⟩)⟩)⟩)⟩)
theorem mw_5_126 : wo_P (Cond.code yX12_mayLie cX12_mayLie 5 (some .boolean)) := ⟨wi_5 126 rfl, good_of_word rfl⟩
theorem mw_0_32 : wo_P (Cond.selects RX12 yX12_mayLie yX12_mayLie) := ⟨wi_0 32 rfl, good_of_word rfl⟩
theorem mw_5_125 : wo_P (Cond.instanceMethod yX12_mayLie) := ⟨wi_5 125 rfl, good_of_word rfl⟩
theorem mw_5_123 : wo_P (Cond.methodLink RX12 187 yX12_mayLie) := ⟨wi_5 123 rfl, good_of_word rfl⟩
set_option maxRecDepth 20000 in
theorem gwsX12_moor_r2 : ∀ w ∈ wsX12_moor_r2, wo_P w := (List.forall_mem_cons.mpr ⟨mw_5_23, (List.forall_mem_cons.mpr ⟨mw_5_123, (List.forall_mem_cons.mpr ⟨mw_5_125, (List.forall_mem_cons.mpr ⟨mw_0_32, (List.forall_mem_cons.mpr ⟨mw_5_126, (List.forall_mem_cons.mpr ⟨mw_5_89, (List.forall_mem_cons.mpr ⟨mw_5_91, (List.forall_mem_cons.mpr ⟨mw_0_27, (List.forall_mem_cons.mpr ⟨mw_5_92, (List.forall_mem_cons.mpr ⟨mw_4_145, (List.forall_mem_cons.mpr ⟨mw_4_147, (List.forall_mem_cons.mpr ⟨mw_4_146, (List.forall_mem_cons.mpr ⟨mw_4_140, (List.forall_mem_cons.mpr ⟨mw_4_139, (List.forall_mem_cons.mpr ⟨mw_4_149, (List.forall_mem_cons.mpr ⟨mw_5_97, (List.forall_mem_cons.mpr ⟨mw_5_99, (List.forall_mem_cons.mpr ⟨mw_0_28, (List.forall_mem_cons.mpr ⟨mw_5_100, (List.forall_mem_cons.mpr ⟨mw_5_101, (List.forall_mem_cons.mpr ⟨mw_5_103, (List.forall_mem_cons.mpr ⟨mw_0_29, (List.forall_mem_cons.mpr ⟨mw_5_104, (List.forall_mem_cons.mpr ⟨mw_5_105, (List.forall_mem_nil _)⟩)⟩)⟩)⟩)⟩)⟩)⟩)⟩)⟩)⟩)⟩)⟩)⟩)⟩)⟩)⟩)⟩)⟩)⟩)⟩)⟩)⟩)⟩)⟩)
set_option maxRecDepth 20000 in
theorem gwsX12_moor_r3 : ∀ w ∈ wsX12_moor_r3, wo_P w := (List.forall_mem_cons.mpr ⟨mw_2_187, (List.forall_mem_cons.mpr ⟨mw_1_15, (List.forall_mem_cons.mpr ⟨mw_2_188, (List.forall_mem_cons.mpr ⟨mw_4_137, (List.forall_mem_cons.mpr ⟨mw_5_106, (List.forall_mem_cons.mpr ⟨mw_3_33, (List.forall_mem_cons.mpr ⟨mw_3_34, (List.forall_mem_cons.mpr ⟨mw_4_138, (List.forall_mem_cons.mpr ⟨mw_5_74, (List.forall_mem_cons.mpr ⟨mw_5_76, (List.forall_mem_cons.mpr ⟨mw_0_25, (List.forall_mem_cons.mpr ⟨mw_5_77, (List.forall_mem_cons.mpr ⟨mw_5_78, (List.forall_mem_cons.mpr ⟨mw_5_79, (List.forall_mem_cons.mpr ⟨mw_5_80, (List.forall_mem_cons.mpr ⟨mw_5_81, (List.forall_mem_cons.mpr ⟨mw_5_83, (List.forall_mem_cons.mpr ⟨mw_0_26, (List.forall_mem_cons.mpr ⟨mw_5_84, (List.forall_mem_cons.mpr ⟨mw_5_107, (List.forall_mem_cons.mpr ⟨mw_5_109, (List.forall_mem_cons.mpr ⟨mw_0_30, (List.forall_mem_cons.mpr ⟨mw_5_110, (List.forall_mem_cons.mpr ⟨mw_4_150, (List.forall_mem_nil _)⟩)⟩)⟩)⟩)⟩)⟩)⟩)⟩)⟩)⟩)⟩)⟩)⟩)⟩)⟩)⟩)⟩)⟩)⟩)⟩)⟩)⟩)⟩)⟩)
theorem mw_5_135 : wo_P (Cond.code yX12_goesOff cX12_goesOff 3 none) := ⟨wi_5 135 rfl, good_of_word rfl⟩
theorem mw_0_34 : wo_P (Cond.selects RX12 yX12_goesOff yX12_goesOff) := ⟨wi_0 34 rfl, good_of_word rfl⟩
theorem mw_5_134 : wo_P (Cond.instanceMethod yX12_goesOff) := ⟨wi_5 134 rfl, good_of_word rfl⟩
theorem mw_5_132 : wo_P (Cond.methodLink RX12 196 yX12_goesOff) := ⟨wi_5 132 rfl, good_of_word rfl⟩
theorem mw_5_131 : wo_P (Cond.code yX12_lies cX12_lies 3 none) := ⟨wi_5 131 rfl, good_of_word rfl⟩
theorem mw_0_33 : wo_P (Cond.selects RX12 yX12_lies yX12_lies) := ⟨wi_0 33 rfl, good_of_word rfl⟩
theorem mw_5_130 : wo_P (Cond.instanceMethod yX12_lies) := ⟨wi_5 130 rfl, good_of_word rfl⟩
theorem mw_5_128 : wo_P (Cond.methodLink RX12 192 yX12_lies) := ⟨wi_5 128 rfl, good_of_word rfl⟩
set_option maxRecDepth 20000 in
theorem gwsX12_moor_r4 : ∀ w ∈ wsX12_moor_r4, wo_P w := (List.forall_mem_cons.mpr ⟨mw_5_111, (List.forall_mem_cons.mpr ⟨mw_5_113, (List.forall_mem_cons.mpr ⟨mw_0_31, (List.forall_mem_cons.mpr ⟨mw_5_114, (List.forall_mem_cons.mpr ⟨mw_4_151, (List.forall_mem_cons.mpr ⟨mw_4_152, (List.forall_mem_cons.mpr ⟨mw_5_115, (List.forall_mem_cons.mpr ⟨mw_5_116, (List.forall_mem_cons.mpr ⟨mw_5_117, (List.forall_mem_cons.mpr ⟨mw_5_128, (List.forall_mem_cons.mpr ⟨mw_5_130, (List.forall_mem_cons.mpr ⟨mw_0_33, (List.forall_mem_cons.mpr ⟨mw_5_131, (List.forall_mem_cons.mpr ⟨mw_5_54, (List.forall_mem_cons.mpr ⟨mw_5_56, (List.forall_mem_cons.mpr ⟨mw_0_22, (List.forall_mem_cons.mpr ⟨mw_5_57, (List.forall_mem_cons.mpr ⟨mw_4_153, (List.forall_mem_cons.mpr ⟨mw_4_154, (List.forall_mem_cons.mpr ⟨mw_5_132, (List.forall_mem_cons.mpr ⟨mw_5_134, (List.forall_mem_cons.mpr ⟨mw_0_34, (List.forall_mem_cons.mpr ⟨mw_5_135, (List.forall_mem_nil _)⟩)⟩)⟩)⟩)⟩)⟩)⟩)⟩)⟩)⟩)⟩)⟩)⟩)⟩)⟩)⟩)⟩)⟩)⟩)⟩)⟩)⟩)⟩)
set_option maxRecDepth 20000 in
theorem gwsX12_moor : ∀ w ∈ wsX12_moor, wo_P w := (List.forall_mem_cons.mpr ⟨mw_5_121, (wi_ap (wi_ap gwsX12_moor_r1 (wi_ap gwsX12_moor_r2 (wi_ap gwsX12_moor_r3 gwsX12_moor_r4))) gwsX120)⟩)
theorem mw_5_118 : wo_P (Cond.methodLink RL 60 yX12_moor) := ⟨wi_5 118 rfl, good_of_word rfl⟩
theorem mw_5_119 : wo_P (Cond.instanceMethod yX12_moor) := ⟨wi_5 119 rfl, good_of_word rfl⟩
theorem mw_5_120 : wo_P (Cond.selects RX12 yX12_moor yX12_moor) := ⟨wi_5 120 rfl, good_of_word rfl⟩
theorem gL_law_X12_moor : GoodIn lw_tbl (wsV RL 60 RX12 yX12_moor wsX12_moor) := wo_V mw_5_118 mw_5_119 mw_5_120 mw_1_9 gwsX12_moor
theorem mw_3_74 : wo_P (Cond.code yX11_leave cX11_leave 3 (some .int)) := ⟨wi_3 74 rfl, good_of_word rfl⟩
set_option maxRecDepth 20000 in
theorem gwsX11_leave_r1 : ∀ w ∈ wsX11_leave_r1, wo_P w := (List.forall_mem_cons.mpr ⟨mw_1_185, (List.forall_mem_cons.mpr ⟨mw_1_64, (List.forall_mem_cons.mpr ⟨mw_2_132, (List.forall_mem_cons.mpr ⟨mw_2_133, (List.forall_mem_cons.mpr ⟨mw_2_134, (List.forall_mem_cons.mpr ⟨mw_1_2, (List.forall_mem_cons.mpr ⟨mw_2_135, (List.forall_mem_cons.mpr ⟨mw_1_69, (List.forall_mem_cons.mpr ⟨mw_1_55, (List.forall_mem_cons.mpr ⟨mw_1_221, (List.forall_mem_cons.mpr ⟨mw_1_1, (List.forall_mem_cons.mpr ⟨mw_1_222, (List.forall_mem_cons.mpr ⟨mw_1_223, (List.forall_mem_cons.mpr ⟨mw_1_225, (List.forall_mem_cons.mpr ⟨mw_0_0, (List.forall_mem_cons.mpr ⟨mw_1_226, (List.forall_mem_cons.mpr ⟨mw_1_190, (List.forall_mem_cons.mpr ⟨mw_1_227, (List.forall_mem_cons.mpr ⟨mw_1_220, (List.forall_mem_cons.mpr ⟨mw_2_202, (List.forall_mem_cons.mpr ⟨mw_2_203, (List.forall_mem_cons.mpr ⟨mw_2_204, (List.forall_mem_cons.mpr ⟨mw_1_3, (List.forall_mem_cons.mpr ⟨mw_2_205, (List.forall_mem_nil _)⟩)⟩)⟩)⟩)⟩)⟩)⟩)⟩)⟩)⟩)⟩)⟩)⟩)⟩)⟩)⟩)⟩)⟩)⟩)⟩)⟩)⟩)⟩)⟩)
theorem mw_3_79 : wo_P (Cond.methodLink RX1 28 yX1_buoyOf) := ⟨wi_3 79 rfl, good_of_word rfl⟩
theorem mw_3_78 : wo_P (Cond.code yX1_lift cX1_lift 3 none) := ⟨wi_3 78 rfl, good_of_word rfl⟩
theorem mw_3_77 : wo_P (Cond.selects RX1 yX1_lift yX1_lift) := ⟨wi_3 77 rfl, good_of_word rfl⟩
theorem mw_3_76 : wo_P (Cond.instanceMethod yX1_lift) := ⟨wi_3 76 rfl, good_of_word rfl⟩
theorem mw_3_75 : wo_P (Cond.methodLink RX11 193 yX1_lift) := ⟨wi_3 75 rfl, good_of_word rfl⟩
set_option maxRecDepth 20000 in
theorem gwsX11_leave_r2 : ∀ w ∈ wsX11_leave_r2, wo_P w := (List.forall_mem_cons.mpr ⟨mw_1_45, (List.forall_mem_cons.mpr ⟨mw_3_75, (List.forall_mem_cons.mpr ⟨mw_3_76, (List.forall_mem_cons.mpr ⟨mw_3_77, (List.forall_mem_cons.mpr ⟨mw_3_78, (List.forall_mem_cons.mpr ⟨mw_1_46, (List.forall_mem_cons.mpr ⟨mw_3_79, (List.forall_mem_nil _)⟩)⟩)⟩)⟩)⟩)⟩)⟩)
set_option maxRecDepth 20000 in
theorem gwsX11_leave : ∀ w ∈ wsX11_leave, wo_P w := (List.forall_mem_cons.mpr ⟨mw_3_74, (wi_ap (wi_ap (wi_ap (wi_ap gwsX11_leave_r1 gwsX11_leave_r2) gwsX110) gwsX00) gwsX10)⟩)
theorem mw_3_71 : wo_P (Cond.methodLink RL 61 yX11_leave) := ⟨wi_3 71 rfl, good_of_word rfl⟩
theorem mw_3_72 : wo_P (Cond.instanceMethod yX11_leave) := ⟨wi_3 72 rfl, good_of_word rfl⟩
theorem mw_3_73 : wo_P (Cond.selects RX11 yX11_leave yX11_leave) := ⟨wi_3 73 rfl, good_of_word rfl⟩
theorem gL_law_X11_leave : GoodIn lw_tbl (wsV RL 61 RX11 yX11_leave wsX11_leave) := wo_V mw_3_71 mw_3_72 mw_3_73 mw_1_1 gwsX11_leave
theorem mw_5_139 : wo_P (Cond.code yX12_leave cX12_leave 3 (some .int)) := ⟨wi_5 139 rfl, good_of_word rfl⟩
set_option maxRecDepth 20000 in
theorem gwsX12_leave : ∀ w ∈ wsX12_leave, wo_P w := (List.forall_mem_cons.mpr ⟨mw_5_139, (wi_ap (List.forall_mem_cons.mpr ⟨mw_5_18, (List.forall_mem_cons.mpr ⟨mw_4_148, (List.forall_mem_cons.mpr ⟨mw_5_122, (List.forall_mem_cons.mpr ⟨mw_4_143, (List.forall_mem_cons.mpr ⟨mw_5_33, (List.forall_mem_cons.mpr ⟨mw_5_35, (List.forall_mem_cons.mpr ⟨mw_0_20, (List.forall_mem_cons.mpr ⟨mw_1_9, (List.forall_mem_cons.mpr ⟨mw_5_36, (List.forall_mem_cons.mpr ⟨mw_4_144, (List.forall_mem_cons.mpr ⟨mw_5_15, (List.forall_mem_cons.mpr ⟨mw_5_16, (List.forall_mem_cons.mpr ⟨mw_5_17, (List.forall_mem_cons.mpr ⟨mw_5_19, (List.forall_mem_cons.mpr ⟨mw_5_21, (List.forall_mem_cons.mpr ⟨mw_0_19, (List.forall_mem_cons.mpr ⟨mw_5_22, (List.forall_mem_cons.mpr ⟨mw_4_162, (List.forall_mem_cons.mpr ⟨mw_5_23, (List.forall_mem_nil _)⟩)⟩)⟩)⟩)⟩)⟩)⟩)⟩)⟩)⟩)⟩)⟩)⟩)⟩)⟩)⟩)⟩)⟩)⟩) gwsX120)⟩)
theorem mw_5_136 : wo_P (Cond.methodLink RL 64 yX12_leave) := ⟨wi_5 136 rfl, good_of_word rfl⟩
theorem mw_5_137 : wo_P (Cond.instanceMethod yX12_leave) := ⟨wi_5 137 rfl, good_of_word rfl⟩
theorem mw_5_138 : wo_P (Cond.selects RX12 yX12_leave yX12_leave) := ⟨wi_5 138 rfl, good_of_word rfl⟩
theorem gL_law_X12_leave : GoodIn lw_tbl (wsV RL 64 RX12 yX12_leave wsX12_leave) := wo_V mw_5_136 mw_5_137 mw_5_138 mw_1_9 gwsX12_leave
theorem mw_3_83 : wo_P (Cond.code yX11_most cX11_most 5 (some .int)) := ⟨wi_3 83 rfl, good_of_word rfl⟩
theorem mw_3_92 : wo_P (Cond.selects RX0 yX0_anyLies yX0_anyLies) := ⟨wi_3 92 rfl, good_of_word rfl⟩
theorem mw_3_91 : wo_P (Cond.instanceMethod yX0_anyLies) := ⟨wi_3 91 rfl, good_of_word rfl⟩
theorem mw_3_90 : wo_P (Cond.methodLink RX11 201 yX0_anyLies) := ⟨wi_3 90 rfl, good_of_word rfl⟩
theorem mw_3_89 : wo_P (Cond.constant RJ6 267 (252645135)) := ⟨wi_3 89 rfl, good_of_word rfl⟩
theorem mw_3_88 : wo_P (Cond.constant RJ6 266 (858993459)) := ⟨wi_3 88 rfl, good_of_word rfl⟩
theorem mw_3_87 : wo_P (Cond.constant RJ6 265 (1431655765)) := ⟨wi_3 87 rfl, good_of_word rfl⟩
theorem mw_3_86 : wo_P (Cond.code yJ6_bitCount_0f7a4 cJ6_bitCount_0f7a4 1 (some .int)) := ⟨wi_3 86 rfl, good_of_word rfl⟩
theorem mw_1_16 : wo_P (Cond.initialized RJ6) := ⟨wi_1 16 rfl, good_of_word rfl⟩
theorem mw_3_85 : wo_P (Cond.static yJ6_bitCount_0f7a4) := ⟨wi_3 85 rfl, good_of_word rfl⟩
theorem mw_3_84 : wo_P (Cond.methodLink RX11 196 yJ6_bitCount_0f7a4) := ⟨wi_3 84 rfl, good_of_word rfl⟩
theorem mw_1_128 : wo_P (Cond.fieldLink RX11 207 "BayMoorings$Search" "bestCount" "I") := ⟨wi_1 128 rfl, good_of_word rfl⟩
set_option maxRecDepth 20000 in
theorem gwsX11_most_r1 : ∀ w ∈ wsX11_most_r1, wo_P w := (List.forall_mem_cons.mpr ⟨mw_1_185, (List.forall_mem_cons.mpr ⟨mw_1_73, (List.forall_mem_cons.mpr ⟨mw_1_187, (List.forall_mem_cons.mpr ⟨mw_1_128, (List.forall_mem_cons.mpr ⟨mw_3_84, (List.forall_mem_cons.mpr ⟨mw_3_85, (List.forall_mem_cons.mpr ⟨mw_1_16, (List.forall_mem_cons.mpr ⟨mw_3_86, (List.forall_mem_cons.mpr ⟨mw_3_87, (List.forall_mem_cons.mpr ⟨mw_3_88, (List.forall_mem_cons.mpr ⟨mw_3_89, (List.forall_mem_cons.mpr ⟨mw_1_220, (List.forall_mem_cons.mpr ⟨mw_1_221, (List.forall_mem_cons.mpr ⟨mw_1_1, (List.forall_mem_cons.mpr ⟨mw_1_222, (List.forall_mem_cons.mpr ⟨mw_1_223, (List.forall_mem_cons.mpr ⟨mw_1_225, (List.forall_mem_cons.mpr ⟨mw_0_0, (List.forall_mem_cons.mpr ⟨mw_1_226, (List.forall_mem_cons.mpr ⟨mw_1_190, (List.forall_mem_cons.mpr ⟨mw_1_227, (List.forall_mem_cons.mpr ⟨mw_3_90, (List.forall_mem_cons.mpr ⟨mw_3_91, (List.forall_mem_cons.mpr ⟨mw_3_92, (List.forall_mem_nil _)⟩)⟩)⟩)⟩)⟩)⟩)⟩)⟩)⟩)⟩)⟩)⟩)⟩)⟩)⟩)⟩)⟩)⟩)⟩)⟩)⟩)⟩)⟩)⟩)
theorem mw_3_98 : wo_P (Cond.methodLink RX7 46 yX0_boatAt) := ⟨wi_3 98 rfl, good_of_word rfl⟩
theorem mw_1_70 : wo_P (Cond.fieldLink RX7 41 "BayMoorings$Bay" "boatCount" "I") := ⟨wi_1 70 rfl, good_of_word rfl⟩
theorem mw_3_97 : wo_P (Cond.code yX7_run cX7_run 4 none) := ⟨wi_3 97 rfl, good_of_word rfl⟩
theorem mw_3_96 : wo_P (Cond.selects RX7 yX7_run yX7_run) := ⟨wi_3 96 rfl, good_of_word rfl⟩
theorem mw_3_95 : wo_P (Cond.instanceMethod yX7_run) := ⟨wi_3 95 rfl, good_of_word rfl⟩
theorem mw_3_94 : wo_P (Cond.methodLink RX11 204 yX7_run) := ⟨wi_3 94 rfl, good_of_word rfl⟩
theorem mw_3_93 : wo_P (Cond.code yX0_anyLies cX0_anyLies 3 (some .boolean)) := ⟨wi_3 93 rfl, good_of_word rfl⟩
set_option maxRecDepth 20000 in
theorem gwsX11_most_r2 : ∀ w ∈ wsX11_most_r2, wo_P w := (List.forall_mem_cons.mpr ⟨mw_1_2, (List.forall_mem_cons.mpr ⟨mw_3_93, (List.forall_mem_cons.mpr ⟨mw_1_69, (List.forall_mem_cons.mpr ⟨mw_1_59, (List.forall_mem_cons.mpr ⟨mw_3_60, (List.forall_mem_cons.mpr ⟨mw_2_203, (List.forall_mem_cons.mpr ⟨mw_2_204, (List.forall_mem_cons.mpr ⟨mw_1_3, (List.forall_mem_cons.mpr ⟨mw_2_205, (List.forall_mem_cons.mpr ⟨mw_1_45, (List.forall_mem_cons.mpr ⟨mw_3_94, (List.forall_mem_cons.mpr ⟨mw_3_95, (List.forall_mem_cons.mpr ⟨mw_3_96, (List.forall_mem_cons.mpr ⟨mw_1_6, (List.forall_mem_cons.mpr ⟨mw_3_97, (List.forall_mem_cons.mpr ⟨mw_1_122, (List.forall_mem_cons.mpr ⟨mw_1_120, (List.forall_mem_cons.mpr ⟨mw_1_70, (List.forall_mem_cons.mpr ⟨mw_1_121, (List.forall_mem_cons.mpr ⟨mw_1_123, (List.forall_mem_cons.mpr ⟨mw_1_124, (List.forall_mem_cons.mpr ⟨mw_1_127, (List.forall_mem_cons.mpr ⟨mw_3_98, (List.forall_mem_cons.mpr ⟨mw_2_133, (List.forall_mem_nil _)⟩)⟩)⟩)⟩)⟩)⟩)⟩)⟩)⟩)⟩)⟩)⟩)⟩)⟩)⟩)⟩)⟩)⟩)⟩)⟩)⟩)⟩)⟩)⟩)
theorem mw_3_104 : wo_P (Cond.methodLink RX7 79 yX0_mayLie) := ⟨wi_3 104 rfl, good_of_word rfl⟩
theorem mw_3_103 : wo_P (Cond.methodLink RX7 71 yX0_buoyAt) := ⟨wi_3 103 rfl, good_of_word rfl⟩
theorem mw_1_62 : wo_P (Cond.fieldLink RX7 75 "BayMoorings$Bay" "berths" "LBayMoorings$Berths;") := ⟨wi_1 62 rfl, good_of_word rfl⟩
theorem mw_1_68 : wo_P (Cond.fieldLink RX7 68 "BayMoorings$Bay" "buoyCount" "I") := ⟨wi_1 68 rfl, good_of_word rfl⟩
theorem mw_3_102 : wo_P (Cond.code yX7_openAtFirst cX7_openAtFirst 5 (some .int)) := ⟨wi_3 102 rfl, good_of_word rfl⟩
theorem mw_0_4 : wo_P (Cond.selects RX7 yX7_openAtFirst yX7_openAtFirst) := ⟨wi_0 4 rfl, good_of_word rfl⟩
theorem mw_3_101 : wo_P (Cond.instanceMethod yX7_openAtFirst) := ⟨wi_3 101 rfl, good_of_word rfl⟩
theorem mw_3_99 : wo_P (Cond.methodLink RX7 50 yX7_openAtFirst) := ⟨wi_3 99 rfl, good_of_word rfl⟩
set_option maxRecDepth 20000 in
theorem gwsX11_most_r3 : ∀ w ∈ wsX11_most_r3, wo_P w := (List.forall_mem_cons.mpr ⟨mw_2_134, (List.forall_mem_cons.mpr ⟨mw_2_135, (List.forall_mem_cons.mpr ⟨mw_1_55, (List.forall_mem_cons.mpr ⟨mw_3_99, (List.forall_mem_cons.mpr ⟨mw_3_101, (List.forall_mem_cons.mpr ⟨mw_0_4, (List.forall_mem_cons.mpr ⟨mw_3_102, (List.forall_mem_cons.mpr ⟨mw_1_68, (List.forall_mem_cons.mpr ⟨mw_1_62, (List.forall_mem_cons.mpr ⟨mw_3_103, (List.forall_mem_cons.mpr ⟨mw_2_183, (List.forall_mem_cons.mpr ⟨mw_2_184, (List.forall_mem_cons.mpr ⟨mw_2_185, (List.forall_mem_cons.mpr ⟨mw_1_65, (List.forall_mem_cons.mpr ⟨mw_1_54, (List.forall_mem_cons.mpr ⟨mw_3_104, (List.forall_mem_cons.mpr ⟨mw_3_54, (List.forall_mem_cons.mpr ⟨mw_3_55, (List.forall_mem_cons.mpr ⟨mw_3_56, (List.forall_mem_cons.mpr ⟨mw_2_0, (List.forall_mem_cons.mpr ⟨mw_2_71, (List.forall_mem_cons.mpr ⟨mw_3_57, (List.forall_mem_cons.mpr ⟨mw_2_217, (List.forall_mem_cons.mpr ⟨mw_2_218, (List.forall_mem_nil _)⟩)⟩)⟩)⟩)⟩)⟩)⟩)⟩)⟩)⟩)⟩)⟩)⟩)⟩)⟩)⟩)⟩)⟩)⟩)⟩)⟩)⟩)⟩)⟩)
set_option maxRecDepth 20000 in
theorem gwsX11_most_r4 : ∀ w ∈ wsX11_most_r4, wo_P w := (List.forall_mem_cons.mpr ⟨mw_2_219, (List.forall_mem_cons.mpr ⟨mw_1_46, (List.forall_mem_cons.mpr ⟨mw_3_58, (List.forall_mem_cons.mpr ⟨mw_3_6, (List.forall_mem_cons.mpr ⟨mw_3_7, (List.forall_mem_cons.mpr ⟨mw_3_8, (List.forall_mem_cons.mpr ⟨mw_2_77, (List.forall_mem_cons.mpr ⟨mw_2_12, (List.forall_mem_cons.mpr ⟨mw_2_9, (List.forall_mem_cons.mpr ⟨mw_1_76, (List.forall_mem_cons.mpr ⟨mw_3_9, (List.forall_mem_cons.mpr ⟨mw_3_11, (List.forall_mem_cons.mpr ⟨mw_3_10, (List.forall_mem_cons.mpr ⟨mw_3_12, (List.forall_mem_cons.mpr ⟨mw_3_13, (List.forall_mem_cons.mpr ⟨mw_1_13, (List.forall_mem_cons.mpr ⟨mw_3_14, (List.forall_mem_cons.mpr ⟨mw_2_79, (List.forall_mem_cons.mpr ⟨mw_2_80, (List.forall_mem_cons.mpr ⟨mw_3_17, (List.forall_mem_cons.mpr ⟨mw_3_15, (List.forall_mem_cons.mpr ⟨mw_3_10, (List.forall_mem_cons.mpr ⟨mw_1_11, (List.forall_mem_cons.mpr ⟨mw_2_78, (List.forall_mem_nil _)⟩)⟩)⟩)⟩)⟩)⟩)⟩)⟩)⟩)⟩)⟩)⟩)⟩)⟩)⟩)⟩)⟩)⟩)⟩)⟩)⟩)⟩)⟩)⟩)
set_option maxRecDepth 20000 in
theorem gwsX11_most_r5 : ∀ w ∈ wsX11_most_r5, wo_P w := (List.forall_mem_cons.mpr ⟨mw_3_16, (List.forall_mem_cons.mpr ⟨mw_3_59, (List.forall_mem_cons.mpr ⟨mw_2_182, (List.forall_mem_cons.mpr ⟨mw_3_61, (List.forall_mem_cons.mpr ⟨mw_3_23, (List.forall_mem_cons.mpr ⟨mw_3_24, (List.forall_mem_cons.mpr ⟨mw_3_25, (List.forall_mem_cons.mpr ⟨mw_2_3, (List.forall_mem_cons.mpr ⟨mw_2_6, (List.forall_mem_cons.mpr ⟨mw_1_58, (List.forall_mem_cons.mpr ⟨mw_3_26, (List.forall_mem_cons.mpr ⟨mw_2_234, (List.forall_mem_cons.mpr ⟨mw_2_235, (List.forall_mem_cons.mpr ⟨mw_2_233, (List.forall_mem_cons.mpr ⟨mw_3_0, (List.forall_mem_cons.mpr ⟨mw_2_72, (List.forall_mem_cons.mpr ⟨mw_2_236, (List.forall_mem_cons.mpr ⟨mw_2_233, (List.forall_mem_cons.mpr ⟨mw_2_237, (List.forall_mem_cons.mpr ⟨mw_2_238, (List.forall_mem_cons.mpr ⟨mw_1_12, (List.forall_mem_cons.mpr ⟨mw_2_239, (List.forall_mem_cons.mpr ⟨mw_2_73, (List.forall_mem_cons.mpr ⟨mw_2_74, (List.forall_mem_nil _)⟩)⟩)⟩)⟩)⟩)⟩)⟩)⟩)⟩)⟩)⟩)⟩)⟩)⟩)⟩)⟩)⟩)⟩)⟩)⟩)⟩)⟩)⟩)⟩)
set_option maxRecDepth 20000 in
theorem gwsX11_most_r6 : ∀ w ∈ wsX11_most_r6, wo_P w := (List.forall_mem_cons.mpr ⟨mw_3_27, (List.forall_mem_cons.mpr ⟨mw_2_229, (List.forall_mem_cons.mpr ⟨mw_2_230, (List.forall_mem_cons.mpr ⟨mw_1_10, (List.forall_mem_cons.mpr ⟨mw_2_231, (List.forall_mem_cons.mpr ⟨mw_2_13, (List.forall_mem_cons.mpr ⟨mw_3_28, (List.forall_mem_cons.mpr ⟨mw_3_30, (List.forall_mem_cons.mpr ⟨mw_0_2, (List.forall_mem_cons.mpr ⟨mw_3_31, (List.forall_mem_cons.mpr ⟨mw_3_32, (List.forall_mem_cons.mpr ⟨mw_3_33, (List.forall_mem_cons.mpr ⟨mw_1_15, (List.forall_mem_cons.mpr ⟨mw_3_34, (List.forall_mem_cons.mpr ⟨mw_3_35, (List.forall_mem_cons.mpr ⟨mw_3_36, (List.forall_mem_cons.mpr ⟨mw_3_37, (List.forall_mem_cons.mpr ⟨mw_2_186, (List.forall_mem_cons.mpr ⟨mw_2_187, (List.forall_mem_cons.mpr ⟨mw_2_188, (List.forall_mem_cons.mpr ⟨mw_3_38, (List.forall_mem_cons.mpr ⟨mw_3_40, (List.forall_mem_cons.mpr ⟨mw_0_3, (List.forall_mem_cons.mpr ⟨mw_3_41, (List.forall_mem_nil _)⟩)⟩)⟩)⟩)⟩)⟩)⟩)⟩)⟩)⟩)⟩)⟩)⟩)⟩)⟩)⟩)⟩)⟩)⟩)⟩)⟩)⟩)⟩)⟩)
theorem mw_3_119 : wo_P (Cond.instanceMethod yX7_hopefulFrom) := ⟨wi_3 119 rfl, good_of_word rfl⟩
theorem mw_3_117 : wo_P (Cond.methodLink RX7 87 yX7_hopefulFrom) := ⟨wi_3 117 rfl, good_of_word rfl⟩
theorem mw_1_17 : wo_P (Cond.initialized "java/lang/System") := ⟨wi_1 17 rfl, good_of_word rfl⟩
theorem mw_3_115 : wo_P (Cond.static arraycopyName) := ⟨wi_3 115 rfl, good_of_word rfl⟩
theorem mw_3_116 : wo_P (Cond.native arraycopyName) := ⟨wi_3 116 rfl, good_of_word rfl⟩
theorem mw_3_114 : wo_P (Cond.methodLink RX7 94 arraycopyName) := ⟨wi_3 114 rfl, good_of_word rfl⟩
theorem mw_3_113 : wo_P (Cond.code yX7_keepIfBetter cX7_keepIfBetter 2 none) := ⟨wi_3 113 rfl, good_of_word rfl⟩
theorem mw_0_6 : wo_P (Cond.selects RX7 yX7_keepIfBetter yX7_keepIfBetter) := ⟨wi_0 6 rfl, good_of_word rfl⟩
theorem mw_3_112 : wo_P (Cond.instanceMethod yX7_keepIfBetter) := ⟨wi_3 112 rfl, good_of_word rfl⟩
theorem mw_3_110 : wo_P (Cond.methodLink RX7 83 yX7_keepIfBetter) := ⟨wi_3 110 rfl, good_of_word rfl⟩
theorem mw_3_109 : wo_P (Cond.code yX7_settle cX7_settle 5 none) := ⟨wi_3 109 rfl, good_of_word rfl⟩
theorem mw_0_5 : wo_P (Cond.selects RX7 yX7_settle yX7_settle) := ⟨wi_0 5 rfl, good_of_word rfl⟩
theorem mw_3_108 : wo_P (Cond.instanceMethod yX7_settle) := ⟨wi_3 108 rfl, good_of_word rfl⟩
theorem mw_3_106 : wo_P (Cond.methodLink RX7 60 yX7_settle) := ⟨wi_3 106 rfl, good_of_word rfl⟩
theorem mw_3_105 : wo_P (Cond.methodLink RX7 54 yJ7_fill_53178) := ⟨wi_3 105 rfl, good_of_word rfl⟩
set_option maxRecDepth 20000 in
theorem gwsX11_most_r7 : ∀ w ∈ wsX11_most_r7, wo_P w := (List.forall_mem_cons.mpr ⟨mw_1_74, (List.forall_mem_cons.mpr ⟨mw_3_42, (List.forall_mem_cons.mpr ⟨mw_3_43, (List.forall_mem_cons.mpr ⟨mw_3_44, (List.forall_mem_cons.mpr ⟨mw_3_105, (List.forall_mem_cons.mpr ⟨mw_1_43, (List.forall_mem_cons.mpr ⟨mw_1_4, (List.forall_mem_cons.mpr ⟨mw_1_44, (List.forall_mem_cons.mpr ⟨mw_3_106, (List.forall_mem_cons.mpr ⟨mw_3_108, (List.forall_mem_cons.mpr ⟨mw_0_5, (List.forall_mem_cons.mpr ⟨mw_3_109, (List.forall_mem_cons.mpr ⟨mw_1_125, (List.forall_mem_cons.mpr ⟨mw_3_110, (List.forall_mem_cons.mpr ⟨mw_3_112, (List.forall_mem_cons.mpr ⟨mw_0_6, (List.forall_mem_cons.mpr ⟨mw_3_113, (List.forall_mem_cons.mpr ⟨mw_1_126, (List.forall_mem_cons.mpr ⟨mw_3_114, (List.forall_mem_cons.mpr ⟨mw_3_116, (List.forall_mem_cons.mpr ⟨mw_3_115, (List.forall_mem_cons.mpr ⟨mw_1_17, (List.forall_mem_cons.mpr ⟨mw_3_117, (List.forall_mem_cons.mpr ⟨mw_3_119, (List.forall_mem_nil _)⟩)⟩)⟩)⟩)⟩)⟩)⟩)⟩)⟩)⟩)⟩)⟩)⟩)⟩)⟩)⟩)⟩)⟩)⟩)⟩)⟩)⟩)⟩)⟩)
theorem mw_3_133 : wo_P (Cond.code yX7_buoyFor cX7_buoyFor 2 (some .int)) := ⟨wi_3 133 rfl, good_of_word rfl⟩
theorem mw_3_132 : wo_P (Cond.selects RX7 yX7_buoyFor yX7_buoyFor) := ⟨wi_3 132 rfl, good_of_word rfl⟩
theorem mw_3_131 : wo_P (Cond.instanceMethod yX7_buoyFor) := ⟨wi_3 131 rfl, good_of_word rfl⟩
theorem mw_3_130 : wo_P (Cond.methodLink RX11 210 yX7_buoyFor) := ⟨wi_3 130 rfl, good_of_word rfl⟩
theorem mw_3_129 : wo_P (Cond.methodLink RX7 104 yX0_firstTouch) := ⟨wi_3 129 rfl, good_of_word rfl⟩
theorem mw_3_128 : wo_P (Cond.code yX7_barredBy cX7_barredBy 12 (some .int)) := ⟨wi_3 128 rfl, good_of_word rfl⟩
theorem mw_0_9 : wo_P (Cond.selects RX7 yX7_barredBy yX7_barredBy) := ⟨wi_0 9 rfl, good_of_word rfl⟩
theorem mw_3_127 : wo_P (Cond.instanceMethod yX7_barredBy) := ⟨wi_3 127 rfl, good_of_word rfl⟩
theorem mw_3_125 : wo_P (Cond.methodLink RX7 100 yX7_barredBy) := ⟨wi_3 125 rfl, good_of_word rfl⟩
theorem mw_3_124 : wo_P (Cond.code yX7_narrow cX7_narrow 5 none) := ⟨wi_3 124 rfl, good_of_word rfl⟩
theorem mw_0_8 : wo_P (Cond.selects RX7 yX7_narrow yX7_narrow) := ⟨wi_0 8 rfl, good_of_word rfl⟩
theorem mw_3_123 : wo_P (Cond.instanceMethod yX7_narrow) := ⟨wi_3 123 rfl, good_of_word rfl⟩
theorem mw_3_121 : wo_P (Cond.methodLink RX7 91 yX7_narrow) := ⟨wi_3 121 rfl, good_of_word rfl⟩
theorem mw_3_120 : wo_P (Cond.code yX7_hopefulFrom cX7_hopefulFrom 4 (some .int)) := ⟨wi_3 120 rfl, good_of_word rfl⟩
theorem mw_0_7 : wo_P (Cond.selects RX7 yX7_hopefulFrom yX7_hopefulFrom) := ⟨wi_0 7 rfl, good_of_word rfl⟩
set_option maxRecDepth 20000 in
theorem gwsX11_most_r8 : ∀ w ∈ wsX11_most_r8, wo_P w := (List.forall_mem_cons.mpr ⟨mw_0_7, (List.forall_mem_cons.mpr ⟨mw_3_120, (List.forall_mem_cons.mpr ⟨mw_3_121, (List.forall_mem_cons.mpr ⟨mw_3_123, (List.forall_mem_cons.mpr ⟨mw_0_8, (List.forall_mem_cons.mpr ⟨mw_3_124, (List.forall_mem_cons.mpr ⟨mw_3_125, (List.forall_mem_cons.mpr ⟨mw_3_127, (List.forall_mem_cons.mpr ⟨mw_0_9, (List.forall_mem_cons.mpr ⟨mw_3_128, (List.forall_mem_cons.mpr ⟨mw_3_129, (List.forall_mem_cons.mpr ⟨mw_3_130, (List.forall_mem_cons.mpr ⟨mw_3_131, (List.forall_mem_cons.mpr ⟨mw_3_132, (List.forall_mem_cons.mpr ⟨mw_3_133, (List.forall_mem_nil _)⟩)⟩)⟩)⟩)⟩)⟩)⟩)⟩)⟩)⟩)⟩)⟩)⟩)⟩)⟩)
set_option maxRecDepth 20000 in
theorem gwsX11_most : ∀ w ∈ wsX11_most, wo_P w := (List.forall_mem_cons.mpr ⟨mw_3_83, (wi_ap (wi_ap (wi_ap (wi_ap (wi_ap (wi_ap (wi_ap (wi_ap (wi_ap gwsX11_most_r1 (wi_ap gwsX11_most_r2 (wi_ap gwsX11_most_r3 (wi_ap gwsX11_most_r4 (wi_ap gwsX11_most_r5 (wi_ap gwsX11_most_r6 (wi_ap gwsX11_most_r7 gwsX11_most_r8))))))) gwsX110) gwsX00) gwsX70) gwsX10) gwsX30) gwsX40) gwsX80) gwsX90)⟩)
theorem mw_3_80 : wo_P (Cond.methodLink RL 65 yX11_most) := ⟨wi_3 80 rfl, good_of_word rfl⟩
theorem mw_3_81 : wo_P (Cond.instanceMethod yX11_most) := ⟨wi_3 81 rfl, good_of_word rfl⟩
theorem mw_3_82 : wo_P (Cond.selects RX11 yX11_most yX11_most) := ⟨wi_3 82 rfl, good_of_word rfl⟩
theorem gL_law_X11_most : GoodIn lw_tbl (wsV RL 65 RX11 yX11_most wsX11_most) := wo_V mw_3_80 mw_3_81 mw_3_82 mw_1_1 gwsX11_most
theorem mw_5_143 : wo_P (Cond.code yX12_most cX12_most 6 (some .int)) := ⟨wi_5 143 rfl, good_of_word rfl⟩
theorem mw_5_147 : wo_P (Cond.code yX12_findMay cX12_findMay 4 none) := ⟨wi_5 147 rfl, good_of_word rfl⟩
theorem mw_0_35 : wo_P (Cond.selects RX12 yX12_findMay yX12_findMay) := ⟨wi_0 35 rfl, good_of_word rfl⟩
theorem mw_5_146 : wo_P (Cond.instanceMethod yX12_findMay) := ⟨wi_5 146 rfl, good_of_word rfl⟩
theorem mw_5_144 : wo_P (Cond.methodLink RX12 212 yX12_findMay) := ⟨wi_5 144 rfl, good_of_word rfl⟩
theorem mw_4_169 : wo_P (Cond.fieldLink RX12 206 "BayMooringsModel" "most" "I") := ⟨wi_4 169 rfl, good_of_word rfl⟩
theorem mw_4_163 : wo_P (Cond.fieldLink RX12 200 "BayMooringsModel" "some" "I") := ⟨wi_4 163 rfl, good_of_word rfl⟩
set_option maxRecDepth 20000 in
theorem gwsX12_most_r1 : ∀ w ∈ wsX12_most_r1, wo_P w := (List.forall_mem_cons.mpr ⟨mw_4_144, (List.forall_mem_cons.mpr ⟨mw_5_18, (List.forall_mem_cons.mpr ⟨mw_4_164, (List.forall_mem_cons.mpr ⟨mw_4_148, (List.forall_mem_cons.mpr ⟨mw_5_122, (List.forall_mem_cons.mpr ⟨mw_4_163, (List.forall_mem_cons.mpr ⟨mw_4_169, (List.forall_mem_cons.mpr ⟨mw_4_167, (List.forall_mem_cons.mpr ⟨mw_5_19, (List.forall_mem_cons.mpr ⟨mw_5_21, (List.forall_mem_cons.mpr ⟨mw_0_19, (List.forall_mem_cons.mpr ⟨mw_1_9, (List.forall_mem_cons.mpr ⟨mw_5_22, (List.forall_mem_cons.mpr ⟨mw_4_162, (List.forall_mem_cons.mpr ⟨mw_5_23, (List.forall_mem_cons.mpr ⟨mw_5_15, (List.forall_mem_cons.mpr ⟨mw_5_16, (List.forall_mem_cons.mpr ⟨mw_5_17, (List.forall_mem_cons.mpr ⟨mw_5_144, (List.forall_mem_cons.mpr ⟨mw_5_146, (List.forall_mem_cons.mpr ⟨mw_0_35, (List.forall_mem_cons.mpr ⟨mw_5_147, (List.forall_mem_cons.mpr ⟨mw_4_165, (List.forall_mem_cons.mpr ⟨mw_4_136, (List.forall_mem_nil _)⟩)⟩)⟩)⟩)⟩)⟩)⟩)⟩)⟩)⟩)⟩)⟩)⟩)⟩)⟩)⟩)⟩)⟩)⟩)⟩)⟩)⟩)⟩)⟩)
set_option maxRecDepth 20000 in
theorem gwsX12_most_r2 : ∀ w ∈ wsX12_most_r2, wo_P w := (List.forall_mem_cons.mpr ⟨mw_4_143, (List.forall_mem_cons.mpr ⟨mw_4_168, (List.forall_mem_cons.mpr ⟨mw_5_123, (List.forall_mem_cons.mpr ⟨mw_5_125, (List.forall_mem_cons.mpr ⟨mw_0_32, (List.forall_mem_cons.mpr ⟨mw_5_126, (List.forall_mem_cons.mpr ⟨mw_5_89, (List.forall_mem_cons.mpr ⟨mw_5_91, (List.forall_mem_cons.mpr ⟨mw_0_27, (List.forall_mem_cons.mpr ⟨mw_5_92, (List.forall_mem_cons.mpr ⟨mw_4_145, (List.forall_mem_cons.mpr ⟨mw_4_147, (List.forall_mem_cons.mpr ⟨mw_4_146, (List.forall_mem_cons.mpr ⟨mw_4_140, (List.forall_mem_cons.mpr ⟨mw_4_139, (List.forall_mem_cons.mpr ⟨mw_4_149, (List.forall_mem_cons.mpr ⟨mw_5_97, (List.forall_mem_cons.mpr ⟨mw_5_99, (List.forall_mem_cons.mpr ⟨mw_0_28, (List.forall_mem_cons.mpr ⟨mw_5_100, (List.forall_mem_cons.mpr ⟨mw_5_101, (List.forall_mem_cons.mpr ⟨mw_5_103, (List.forall_mem_cons.mpr ⟨mw_0_29, (List.forall_mem_cons.mpr ⟨mw_5_104, (List.forall_mem_nil _)⟩)⟩)⟩)⟩)⟩)⟩)⟩)⟩)⟩)⟩)⟩)⟩)⟩)⟩)⟩)⟩)⟩)⟩)⟩)⟩)⟩)⟩)⟩)⟩)
set_option maxRecDepth 20000 in
theorem gwsX12_most_r3 : ∀ w ∈ wsX12_most_r3, wo_P w := (List.forall_mem_cons.mpr ⟨mw_5_105, (List.forall_mem_cons.mpr ⟨mw_2_187, (List.forall_mem_cons.mpr ⟨mw_1_15, (List.forall_mem_cons.mpr ⟨mw_2_188, (List.forall_mem_cons.mpr ⟨mw_4_137, (List.forall_mem_cons.mpr ⟨mw_5_106, (List.forall_mem_cons.mpr ⟨mw_3_33, (List.forall_mem_cons.mpr ⟨mw_3_34, (List.forall_mem_cons.mpr ⟨mw_4_138, (List.forall_mem_cons.mpr ⟨mw_5_74, (List.forall_mem_cons.mpr ⟨mw_5_76, (List.forall_mem_cons.mpr ⟨mw_0_25, (List.forall_mem_cons.mpr ⟨mw_5_77, (List.forall_mem_cons.mpr ⟨mw_5_78, (List.forall_mem_cons.mpr ⟨mw_5_79, (List.forall_mem_cons.mpr ⟨mw_5_80, (List.forall_mem_cons.mpr ⟨mw_5_81, (List.forall_mem_cons.mpr ⟨mw_5_83, (List.forall_mem_cons.mpr ⟨mw_0_26, (List.forall_mem_cons.mpr ⟨mw_5_84, (List.forall_mem_cons.mpr ⟨mw_5_107, (List.forall_mem_cons.mpr ⟨mw_5_109, (List.forall_mem_cons.mpr ⟨mw_0_30, (List.forall_mem_cons.mpr ⟨mw_5_110, (List.forall_mem_nil _)⟩)⟩)⟩)⟩)⟩)⟩)⟩)⟩)⟩)⟩)⟩)⟩)⟩)⟩)⟩)⟩)⟩)⟩)⟩)⟩)⟩)⟩)⟩)⟩)
theorem mw_5_159 : wo_P (Cond.code yX12_canHave cX12_canHave 5 (some .boolean)) := ⟨wi_5 159 rfl, good_of_word rfl⟩
theorem mw_0_38 : wo_P (Cond.selects RX12 yX12_canHave yX12_canHave) := ⟨wi_0 38 rfl, good_of_word rfl⟩
theorem mw_5_158 : wo_P (Cond.instanceMethod yX12_canHave) := ⟨wi_5 158 rfl, good_of_word rfl⟩
theorem mw_5_156 : wo_P (Cond.methodLink RX12 209 yX12_canHave) := ⟨wi_5 156 rfl, good_of_word rfl⟩
theorem mw_5_155 : wo_P (Cond.code yX12_findMost cX12_findMost 4 none) := ⟨wi_5 155 rfl, good_of_word rfl⟩
theorem mw_0_37 : wo_P (Cond.selects RX12 yX12_findMost yX12_findMost) := ⟨wi_0 37 rfl, good_of_word rfl⟩
theorem mw_5_154 : wo_P (Cond.instanceMethod yX12_findMost) := ⟨wi_5 154 rfl, good_of_word rfl⟩
theorem mw_5_152 : wo_P (Cond.methodLink RX12 215 yX12_findMost) := ⟨wi_5 152 rfl, good_of_word rfl⟩
theorem mw_5_151 : wo_P (Cond.code yX12_touchingOf cX12_touchingOf 7 (some .int)) := ⟨wi_5 151 rfl, good_of_word rfl⟩
theorem mw_0_36 : wo_P (Cond.selects RX12 yX12_touchingOf yX12_touchingOf) := ⟨wi_0 36 rfl, good_of_word rfl⟩
theorem mw_5_150 : wo_P (Cond.instanceMethod yX12_touchingOf) := ⟨wi_5 150 rfl, good_of_word rfl⟩
theorem mw_5_148 : wo_P (Cond.methodLink RX12 203 yX12_touchingOf) := ⟨wi_5 148 rfl, good_of_word rfl⟩
set_option maxRecDepth 20000 in
theorem gwsX12_most_r4 : ∀ w ∈ wsX12_most_r4, wo_P w := (List.forall_mem_cons.mpr ⟨mw_4_150, (List.forall_mem_cons.mpr ⟨mw_5_111, (List.forall_mem_cons.mpr ⟨mw_5_113, (List.forall_mem_cons.mpr ⟨mw_0_31, (List.forall_mem_cons.mpr ⟨mw_5_114, (List.forall_mem_cons.mpr ⟨mw_4_151, (List.forall_mem_cons.mpr ⟨mw_4_152, (List.forall_mem_cons.mpr ⟨mw_5_115, (List.forall_mem_cons.mpr ⟨mw_5_116, (List.forall_mem_cons.mpr ⟨mw_5_117, (List.forall_mem_cons.mpr ⟨mw_5_148, (List.forall_mem_cons.mpr ⟨mw_5_150, (List.forall_mem_cons.mpr ⟨mw_0_36, (List.forall_mem_cons.mpr ⟨mw_5_151, (List.forall_mem_cons.mpr ⟨mw_5_152, (List.forall_mem_cons.mpr ⟨mw_5_154, (List.forall_mem_cons.mpr ⟨mw_0_37, (List.forall_mem_cons.mpr ⟨mw_5_155, (List.forall_mem_cons.mpr ⟨mw_4_166, (List.forall_mem_cons.mpr ⟨mw_5_156, (List.forall_mem_cons.mpr ⟨mw_5_158, (List.forall_mem_cons.mpr ⟨mw_0_38, (List.forall_mem_cons.mpr ⟨mw_5_159, (List.forall_mem_nil _)⟩)⟩)⟩)⟩)⟩)⟩)⟩)⟩)⟩)⟩)⟩)⟩)⟩)⟩)⟩)⟩)⟩)⟩)⟩)⟩)⟩)⟩)⟩)
set_option maxRecDepth 20000 in
theorem gwsX12_most : ∀ w ∈ wsX12_most, wo_P w := (List.forall_mem_cons.mpr ⟨mw_5_143, (wi_ap (wi_ap gwsX12_most_r1 (wi_ap gwsX12_most_r2 (wi_ap gwsX12_most_r3 gwsX12_most_r4))) gwsX120)⟩)
theorem mw_5_140 : wo_P (Cond.methodLink RL 68 yX12_most) := ⟨wi_5 140 rfl, good_of_word rfl⟩
theorem mw_5_141 : wo_P (Cond.instanceMethod yX12_most) := ⟨wi_5 141 rfl, good_of_word rfl⟩
theorem mw_5_142 : wo_P (Cond.selects RX12 yX12_most yX12_most) := ⟨wi_5 142 rfl, good_of_word rfl⟩
theorem gL_law_X12_most : GoodIn lw_tbl (wsV RL 68 RX12 yX12_most wsX12_most) := wo_V mw_5_140 mw_5_141 mw_5_142 mw_1_9 gwsX12_most
theorem mw_3_138 : wo_P (Cond.code yX11_wait cX11_wait 3 (some .int)) := ⟨wi_3 138 rfl, good_of_word rfl⟩
theorem mw_2_88 : wo_P (Cond.fieldLink RX11 216 "BayMoorings$Boat" "refused" "I") := ⟨wi_2 88 rfl, good_of_word rfl⟩
theorem mw_1_105 : wo_P (Cond.fieldLink RX11 213 "BayMoorings$WaitingList" "size" "I") := ⟨wi_1 105 rfl, good_of_word rfl⟩
set_option maxRecDepth 20000 in
theorem gwsX11_wait_r1 : ∀ w ∈ wsX11_wait_r1, wo_P w := (List.forall_mem_cons.mpr ⟨mw_1_185, (List.forall_mem_cons.mpr ⟨mw_1_64, (List.forall_mem_cons.mpr ⟨mw_1_186, (List.forall_mem_cons.mpr ⟨mw_1_105, (List.forall_mem_cons.mpr ⟨mw_2_88, (List.forall_mem_cons.mpr ⟨mw_2_132, (List.forall_mem_cons.mpr ⟨mw_2_133, (List.forall_mem_cons.mpr ⟨mw_2_134, (List.forall_mem_cons.mpr ⟨mw_1_2, (List.forall_mem_cons.mpr ⟨mw_2_135, (List.forall_mem_cons.mpr ⟨mw_1_69, (List.forall_mem_cons.mpr ⟨mw_1_55, (List.forall_mem_cons.mpr ⟨mw_1_221, (List.forall_mem_cons.mpr ⟨mw_1_1, (List.forall_mem_cons.mpr ⟨mw_1_222, (List.forall_mem_cons.mpr ⟨mw_1_223, (List.forall_mem_cons.mpr ⟨mw_1_225, (List.forall_mem_cons.mpr ⟨mw_0_0, (List.forall_mem_cons.mpr ⟨mw_1_226, (List.forall_mem_cons.mpr ⟨mw_1_190, (List.forall_mem_cons.mpr ⟨mw_1_227, (List.forall_mem_cons.mpr ⟨mw_1_220, (List.forall_mem_cons.mpr ⟨mw_2_202, (List.forall_mem_cons.mpr ⟨mw_2_203, (List.forall_mem_nil _)⟩)⟩)⟩)⟩)⟩)⟩)⟩)⟩)⟩)⟩)⟩)⟩)⟩)⟩)⟩)⟩)⟩)⟩)⟩)⟩)⟩)⟩)⟩)⟩)
theorem mw_3_142 : wo_P (Cond.code yX10_append cX10_append 2 none) := ⟨wi_3 142 rfl, good_of_word rfl⟩
theorem mw_3_141 : wo_P (Cond.selects RX10 yX10_append yX10_append) := ⟨wi_3 141 rfl, good_of_word rfl⟩
theorem mw_3_140 : wo_P (Cond.instanceMethod yX10_append) := ⟨wi_3 140 rfl, good_of_word rfl⟩
theorem mw_3_139 : wo_P (Cond.methodLink RX11 219 yX10_append) := ⟨wi_3 139 rfl, good_of_word rfl⟩
set_option maxRecDepth 20000 in
theorem gwsX11_wait_r2 : ∀ w ∈ wsX11_wait_r2, wo_P w := (List.forall_mem_cons.mpr ⟨mw_2_204, (List.forall_mem_cons.mpr ⟨mw_1_3, (List.forall_mem_cons.mpr ⟨mw_2_205, (List.forall_mem_cons.mpr ⟨mw_1_45, (List.forall_mem_cons.mpr ⟨mw_2_207, (List.forall_mem_cons.mpr ⟨mw_2_208, (List.forall_mem_cons.mpr ⟨mw_2_209, (List.forall_mem_cons.mpr ⟨mw_1_5, (List.forall_mem_cons.mpr ⟨mw_2_210, (List.forall_mem_cons.mpr ⟨mw_1_104, (List.forall_mem_cons.mpr ⟨mw_1_103, (List.forall_mem_cons.mpr ⟨mw_3_139, (List.forall_mem_cons.mpr ⟨mw_3_140, (List.forall_mem_cons.mpr ⟨mw_3_141, (List.forall_mem_cons.mpr ⟨mw_3_142, (List.forall_mem_nil _)⟩)⟩)⟩)⟩)⟩)⟩)⟩)⟩)⟩)⟩)⟩)⟩)⟩)⟩)⟩)
set_option maxRecDepth 20000 in
theorem gwsX11_wait : ∀ w ∈ wsX11_wait, wo_P w := (List.forall_mem_cons.mpr ⟨mw_3_138, (wi_ap (wi_ap (wi_ap (wi_ap (wi_ap (wi_ap (wi_ap (wi_ap gwsX11_wait_r1 gwsX11_wait_r2) gwsX110) gwsX00) gwsX100) gwsX40) gwsX80) gwsX90) gwsX10)⟩)
theorem mw_3_135 : wo_P (Cond.methodLink RL 69 yX11_wait) := ⟨wi_3 135 rfl, good_of_word rfl⟩
theorem mw_3_136 : wo_P (Cond.instanceMethod yX11_wait) := ⟨wi_3 136 rfl, good_of_word rfl⟩
theorem mw_3_137 : wo_P (Cond.selects RX11 yX11_wait yX11_wait) := ⟨wi_3 137 rfl, good_of_word rfl⟩
theorem gL_law_X11_wait : GoodIn lw_tbl (wsV RL 69 RX11 yX11_wait wsX11_wait) := wo_V mw_3_135 mw_3_136 mw_3_137 mw_1_1 gwsX11_wait
theorem mw_5_163 : wo_P (Cond.code yX12_wait cX12_wait 2 (some .int)) := ⟨wi_5 163 rfl, good_of_word rfl⟩
set_option maxRecDepth 20000 in
theorem gwsX12_wait_r1 : ∀ w ∈ wsX12_wait_r1, wo_P w := (List.forall_mem_cons.mpr ⟨mw_5_18, (List.forall_mem_cons.mpr ⟨mw_4_148, (List.forall_mem_cons.mpr ⟨mw_5_122, (List.forall_mem_cons.mpr ⟨mw_4_153, (List.forall_mem_cons.mpr ⟨mw_5_24, (List.forall_mem_cons.mpr ⟨mw_4_154, (List.forall_mem_cons.mpr ⟨mw_4_155, (List.forall_mem_cons.mpr ⟨mw_5_33, (List.forall_mem_cons.mpr ⟨mw_5_35, (List.forall_mem_cons.mpr ⟨mw_0_20, (List.forall_mem_cons.mpr ⟨mw_1_9, (List.forall_mem_cons.mpr ⟨mw_5_36, (List.forall_mem_cons.mpr ⟨mw_4_144, (List.forall_mem_cons.mpr ⟨mw_5_15, (List.forall_mem_cons.mpr ⟨mw_5_16, (List.forall_mem_cons.mpr ⟨mw_5_17, (List.forall_mem_cons.mpr ⟨mw_5_19, (List.forall_mem_cons.mpr ⟨mw_5_21, (List.forall_mem_cons.mpr ⟨mw_0_19, (List.forall_mem_cons.mpr ⟨mw_5_22, (List.forall_mem_cons.mpr ⟨mw_4_162, (List.forall_mem_cons.mpr ⟨mw_5_23, (List.forall_mem_cons.mpr ⟨mw_5_54, (List.forall_mem_cons.mpr ⟨mw_5_56, (List.forall_mem_nil _)⟩)⟩)⟩)⟩)⟩)⟩)⟩)⟩)⟩)⟩)⟩)⟩)⟩)⟩)⟩)⟩)⟩)⟩)⟩)⟩)⟩)⟩)⟩)⟩)
set_option maxRecDepth 20000 in
theorem gwsX12_wait_r2 : ∀ w ∈ wsX12_wait_r2, wo_P w := (List.forall_mem_cons.mpr ⟨mw_0_22, (List.forall_mem_cons.mpr ⟨mw_5_57, (List.forall_mem_nil _)⟩)⟩)
set_option maxRecDepth 20000 in
theorem gwsX12_wait : ∀ w ∈ wsX12_wait, wo_P w := (List.forall_mem_cons.mpr ⟨mw_5_163, (wi_ap (wi_ap gwsX12_wait_r1 gwsX12_wait_r2) gwsX120)⟩)
theorem mw_5_160 : wo_P (Cond.methodLink RL 72 yX12_wait) := ⟨wi_5 160 rfl, good_of_word rfl⟩
theorem mw_5_161 : wo_P (Cond.instanceMethod yX12_wait) := ⟨wi_5 161 rfl, good_of_word rfl⟩
theorem mw_5_162 : wo_P (Cond.selects RX12 yX12_wait yX12_wait) := ⟨wi_5 162 rfl, good_of_word rfl⟩
theorem gL_law_X12_wait : GoodIn lw_tbl (wsV RL 72 RX12 yX12_wait wsX12_wait) := wo_V mw_5_160 mw_5_161 mw_5_162 mw_1_9 gwsX12_wait
theorem mw_3_146 : wo_P (Cond.code yX11_away cX11_away 3 (some .int)) := ⟨wi_3 146 rfl, good_of_word rfl⟩
set_option maxRecDepth 20000 in
theorem gwsX11_away_r1 : ∀ w ∈ wsX11_away_r1, wo_P w := (List.forall_mem_cons.mpr ⟨mw_1_185, (List.forall_mem_cons.mpr ⟨mw_1_186, (List.forall_mem_cons.mpr ⟨mw_2_132, (List.forall_mem_cons.mpr ⟨mw_2_133, (List.forall_mem_cons.mpr ⟨mw_2_134, (List.forall_mem_cons.mpr ⟨mw_1_2, (List.forall_mem_cons.mpr ⟨mw_2_135, (List.forall_mem_cons.mpr ⟨mw_1_69, (List.forall_mem_cons.mpr ⟨mw_1_55, (List.forall_mem_cons.mpr ⟨mw_1_221, (List.forall_mem_cons.mpr ⟨mw_1_1, (List.forall_mem_cons.mpr ⟨mw_1_222, (List.forall_mem_cons.mpr ⟨mw_1_223, (List.forall_mem_cons.mpr ⟨mw_1_225, (List.forall_mem_cons.mpr ⟨mw_0_0, (List.forall_mem_cons.mpr ⟨mw_1_226, (List.forall_mem_cons.mpr ⟨mw_1_190, (List.forall_mem_cons.mpr ⟨mw_1_227, (List.forall_mem_cons.mpr ⟨mw_1_220, (List.forall_mem_cons.mpr ⟨mw_2_207, (List.forall_mem_cons.mpr ⟨mw_2_208, (List.forall_mem_cons.mpr ⟨mw_2_209, (List.forall_mem_cons.mpr ⟨mw_1_5, (List.forall_mem_cons.mpr ⟨mw_2_210, (List.forall_mem_nil _)⟩)⟩)⟩)⟩)⟩)⟩)⟩)⟩)⟩)⟩)⟩)⟩)⟩)⟩)⟩)⟩)⟩)⟩)⟩)⟩)⟩)⟩)⟩)⟩)
set_option maxRecDepth 20000 in
theorem gwsX11_away_r2 : ∀ w ∈ wsX11_away_r2, wo_P w := (List.forall_mem_cons.mpr ⟨mw_1_104, (List.forall_mem_cons.mpr ⟨mw_1_103, (List.forall_mem_cons.mpr ⟨mw_3_66, (List.forall_mem_cons.mpr ⟨mw_3_67, (List.forall_mem_cons.mpr ⟨mw_3_68, (List.forall_mem_cons.mpr ⟨mw_3_69, (List.forall_mem_nil _)⟩)⟩)⟩)⟩)⟩)⟩)
set_option maxRecDepth 20000 in
theorem gwsX11_away : ∀ w ∈ wsX11_away, wo_P w := (List.forall_mem_cons.mpr ⟨mw_3_146, (wi_ap (wi_ap (wi_ap (wi_ap gwsX11_away_r1 gwsX11_away_r2) gwsX110) gwsX00) gwsX100)⟩)
theorem mw_3_143 : wo_P (Cond.methodLink RL 73 yX11_away) := ⟨wi_3 143 rfl, good_of_word rfl⟩
theorem mw_3_144 : wo_P (Cond.instanceMethod yX11_away) := ⟨wi_3 144 rfl, good_of_word rfl⟩
theorem mw_3_145 : wo_P (Cond.selects RX11 yX11_away yX11_away) := ⟨wi_3 145 rfl, good_of_word rfl⟩
theorem gL_law_X11_away : GoodIn lw_tbl (wsV RL 73 RX11 yX11_away wsX11_away) := wo_V mw_3_143 mw_3_144 mw_3_145 mw_1_1 gwsX11_away
theorem mw_5_167 : wo_P (Cond.code yX12_away cX12_away 3 (some .int)) := ⟨wi_5 167 rfl, good_of_word rfl⟩
set_option maxRecDepth 20000 in
theorem gwsX12_away_r1 : ∀ w ∈ wsX12_away_r1, wo_P w := (List.forall_mem_cons.mpr ⟨mw_5_18, (List.forall_mem_cons.mpr ⟨mw_5_122, (List.forall_mem_cons.mpr ⟨mw_5_33, (List.forall_mem_cons.mpr ⟨mw_5_35, (List.forall_mem_cons.mpr ⟨mw_0_20, (List.forall_mem_cons.mpr ⟨mw_1_9, (List.forall_mem_cons.mpr ⟨mw_5_36, (List.forall_mem_cons.mpr ⟨mw_4_144, (List.forall_mem_cons.mpr ⟨mw_5_15, (List.forall_mem_cons.mpr ⟨mw_5_16, (List.forall_mem_cons.mpr ⟨mw_5_17, (List.forall_mem_cons.mpr ⟨mw_5_19, (List.forall_mem_cons.mpr ⟨mw_5_21, (List.forall_mem_cons.mpr ⟨mw_0_19, (List.forall_mem_cons.mpr ⟨mw_5_22, (List.forall_mem_cons.mpr ⟨mw_4_162, (List.forall_mem_cons.mpr ⟨mw_5_23, (List.forall_mem_cons.mpr ⟨mw_5_54, (List.forall_mem_cons.mpr ⟨mw_5_56, (List.forall_mem_cons.mpr ⟨mw_0_22, (List.forall_mem_cons.mpr ⟨mw_5_57, (List.forall_mem_cons.mpr ⟨mw_4_153, (List.forall_mem_cons.mpr ⟨mw_4_154, (List.forall_mem_cons.mpr ⟨mw_5_132, (List.forall_mem_nil _)⟩)⟩)⟩)⟩)⟩)⟩)⟩)⟩)⟩)⟩)⟩)⟩)⟩)⟩)⟩)⟩)⟩)⟩)⟩)⟩)⟩)⟩)⟩)⟩)
set_option maxRecDepth 20000 in
theorem gwsX12_away_r2 : ∀ w ∈ wsX12_away_r2, wo_P w := (List.forall_mem_cons.mpr ⟨mw_5_134, (List.forall_mem_cons.mpr ⟨mw_0_34, (List.forall_mem_cons.mpr ⟨mw_5_135, (List.forall_mem_nil _)⟩)⟩)⟩)
set_option maxRecDepth 20000 in
theorem gwsX12_away : ∀ w ∈ wsX12_away, wo_P w := (List.forall_mem_cons.mpr ⟨mw_5_167, (wi_ap (wi_ap gwsX12_away_r1 gwsX12_away_r2) gwsX120)⟩)
theorem mw_5_164 : wo_P (Cond.methodLink RL 76 yX12_away) := ⟨wi_5 164 rfl, good_of_word rfl⟩
theorem mw_5_165 : wo_P (Cond.instanceMethod yX12_away) := ⟨wi_5 165 rfl, good_of_word rfl⟩
theorem mw_5_166 : wo_P (Cond.selects RX12 yX12_away yX12_away) := ⟨wi_5 166 rfl, good_of_word rfl⟩
theorem gL_law_X12_away : GoodIn lw_tbl (wsV RL 76 RX12 yX12_away wsX12_away) := wo_V mw_5_164 mw_5_165 mw_5_166 mw_1_9 gwsX12_away
theorem mw_3_150 : wo_P (Cond.code yX11_offer cX11_offer 2 (some .int)) := ⟨wi_3 150 rfl, good_of_word rfl⟩
theorem mw_3_154 : wo_P (Cond.code yX11_offeredBoat cX11_offeredBoat 4 (some .int)) := ⟨wi_3 154 rfl, good_of_word rfl⟩
theorem mw_0_10 : wo_P (Cond.selects RX11 yX11_offeredBoat yX11_offeredBoat) := ⟨wi_0 10 rfl, good_of_word rfl⟩
theorem mw_3_153 : wo_P (Cond.instanceMethod yX11_offeredBoat) := ⟨wi_3 153 rfl, good_of_word rfl⟩
theorem mw_3_151 : wo_P (Cond.methodLink RX11 222 yX11_offeredBoat) := ⟨wi_3 151 rfl, good_of_word rfl⟩
set_option maxRecDepth 20000 in
theorem gwsX11_offer_r1 : ∀ w ∈ wsX11_offer_r1, wo_P w := (List.forall_mem_cons.mpr ⟨mw_3_151, (List.forall_mem_cons.mpr ⟨mw_3_153, (List.forall_mem_cons.mpr ⟨mw_0_10, (List.forall_mem_cons.mpr ⟨mw_1_1, (List.forall_mem_cons.mpr ⟨mw_3_154, (List.forall_mem_cons.mpr ⟨mw_1_185, (List.forall_mem_cons.mpr ⟨mw_1_64, (List.forall_mem_cons.mpr ⟨mw_1_186, (List.forall_mem_cons.mpr ⟨mw_2_215, (List.forall_mem_cons.mpr ⟨mw_2_183, (List.forall_mem_cons.mpr ⟨mw_2_184, (List.forall_mem_cons.mpr ⟨mw_1_2, (List.forall_mem_cons.mpr ⟨mw_2_185, (List.forall_mem_cons.mpr ⟨mw_1_65, (List.forall_mem_cons.mpr ⟨mw_1_54, (List.forall_mem_cons.mpr ⟨mw_1_221, (List.forall_mem_cons.mpr ⟨mw_1_222, (List.forall_mem_cons.mpr ⟨mw_1_223, (List.forall_mem_cons.mpr ⟨mw_1_225, (List.forall_mem_cons.mpr ⟨mw_0_0, (List.forall_mem_cons.mpr ⟨mw_1_226, (List.forall_mem_cons.mpr ⟨mw_1_190, (List.forall_mem_cons.mpr ⟨mw_1_227, (List.forall_mem_cons.mpr ⟨mw_1_220, (List.forall_mem_nil _)⟩)⟩)⟩)⟩)⟩)⟩)⟩)⟩)⟩)⟩)⟩)⟩)⟩)⟩)⟩)⟩)⟩)⟩)⟩)⟩)⟩)⟩)⟩)⟩)
theorem mw_3_162 : wo_P (Cond.sameMethod "BayMoorings$Boat" "BayMoorings$Boat" "hasRefused" "(I)Z") := ⟨wi_3 162 rfl, good_of_word rfl⟩
theorem mw_3_160 : wo_P (Cond.methodLink RX10 38 ⟨"BayMoorings$Boat", "hasRefused", "(I)Z"⟩) := ⟨wi_3 160 rfl, good_of_word rfl⟩
theorem mw_3_159 : wo_P (Cond.methodLink RX10 27 yX0_boatAt) := ⟨wi_3 159 rfl, good_of_word rfl⟩
theorem mw_1_63 : wo_P (Cond.fieldLink RX10 44 "BayMoorings$Bay" "berths" "LBayMoorings$Berths;") := ⟨wi_1 63 rfl, good_of_word rfl⟩
theorem mw_1_238 : wo_P (Cond.fieldLink RX10 33 "BayMoorings$Buoy" "number" "I") := ⟨wi_1 238 rfl, good_of_word rfl⟩
theorem mw_3_158 : wo_P (Cond.code yX10_firstFor cX10_firstFor 4 (some .int)) := ⟨wi_3 158 rfl, good_of_word rfl⟩
theorem mw_3_157 : wo_P (Cond.selects RX10 yX10_firstFor yX10_firstFor) := ⟨wi_3 157 rfl, good_of_word rfl⟩
theorem mw_3_156 : wo_P (Cond.instanceMethod yX10_firstFor) := ⟨wi_3 156 rfl, good_of_word rfl⟩
theorem mw_3_155 : wo_P (Cond.methodLink RX11 279 yX10_firstFor) := ⟨wi_3 155 rfl, good_of_word rfl⟩
set_option maxRecDepth 20000 in
theorem gwsX11_offer_r2 : ∀ w ∈ wsX11_offer_r2, wo_P w := (List.forall_mem_cons.mpr ⟨mw_2_216, (List.forall_mem_cons.mpr ⟨mw_2_217, (List.forall_mem_cons.mpr ⟨mw_2_218, (List.forall_mem_cons.mpr ⟨mw_1_3, (List.forall_mem_cons.mpr ⟨mw_2_219, (List.forall_mem_cons.mpr ⟨mw_1_46, (List.forall_mem_cons.mpr ⟨mw_3_155, (List.forall_mem_cons.mpr ⟨mw_3_156, (List.forall_mem_cons.mpr ⟨mw_3_157, (List.forall_mem_cons.mpr ⟨mw_1_5, (List.forall_mem_cons.mpr ⟨mw_3_158, (List.forall_mem_cons.mpr ⟨mw_1_104, (List.forall_mem_cons.mpr ⟨mw_1_102, (List.forall_mem_cons.mpr ⟨mw_1_103, (List.forall_mem_cons.mpr ⟨mw_1_238, (List.forall_mem_cons.mpr ⟨mw_1_63, (List.forall_mem_cons.mpr ⟨mw_3_159, (List.forall_mem_cons.mpr ⟨mw_2_133, (List.forall_mem_cons.mpr ⟨mw_2_134, (List.forall_mem_cons.mpr ⟨mw_2_135, (List.forall_mem_cons.mpr ⟨mw_1_69, (List.forall_mem_cons.mpr ⟨mw_1_55, (List.forall_mem_cons.mpr ⟨mw_3_160, (List.forall_mem_cons.mpr ⟨mw_3_162, (List.forall_mem_nil _)⟩)⟩)⟩)⟩)⟩)⟩)⟩)⟩)⟩)⟩)⟩)⟩)⟩)⟩)⟩)⟩)⟩)⟩)⟩)⟩)⟩)⟩)⟩)⟩)
theorem mw_3_167 : wo_P (Cond.methodLink RX10 48 yX0_mayLie) := ⟨wi_3 167 rfl, good_of_word rfl⟩
theorem mw_3_165 : wo_P (Cond.selects RX9 ⟨"BayMoorings$Boat", "hasRefused", "(I)Z"⟩ yX2_hasRefused) := ⟨wi_3 165 rfl, good_of_word rfl⟩
theorem mw_3_164 : wo_P (Cond.selects RX8 ⟨"BayMoorings$Boat", "hasRefused", "(I)Z"⟩ yX2_hasRefused) := ⟨wi_3 164 rfl, good_of_word rfl⟩
theorem mw_3_166 : wo_P (Cond.code yX2_hasRefused cX2_hasRefused 2 (some .boolean)) := ⟨wi_3 166 rfl, good_of_word rfl⟩
theorem mw_3_161 : wo_P (Cond.instanceMethod yX2_hasRefused) := ⟨wi_3 161 rfl, good_of_word rfl⟩
theorem mw_3_163 : wo_P (Cond.selects RX4 ⟨"BayMoorings$Boat", "hasRefused", "(I)Z"⟩ yX2_hasRefused) := ⟨wi_3 163 rfl, good_of_word rfl⟩
set_option maxRecDepth 20000 in
theorem gwsX11_offer_r3 : ∀ w ∈ wsX11_offer_r3, wo_P w := (List.forall_mem_cons.mpr ⟨mw_3_163, (List.forall_mem_cons.mpr ⟨mw_3_161, (List.forall_mem_cons.mpr ⟨mw_1_11, (List.forall_mem_cons.mpr ⟨mw_3_166, (List.forall_mem_cons.mpr ⟨mw_2_87, (List.forall_mem_cons.mpr ⟨mw_3_164, (List.forall_mem_cons.mpr ⟨mw_3_165, (List.forall_mem_cons.mpr ⟨mw_3_167, (List.forall_mem_cons.mpr ⟨mw_3_54, (List.forall_mem_cons.mpr ⟨mw_3_55, (List.forall_mem_cons.mpr ⟨mw_3_56, (List.forall_mem_cons.mpr ⟨mw_2_0, (List.forall_mem_cons.mpr ⟨mw_2_71, (List.forall_mem_cons.mpr ⟨mw_3_57, (List.forall_mem_cons.mpr ⟨mw_3_58, (List.forall_mem_cons.mpr ⟨mw_3_6, (List.forall_mem_cons.mpr ⟨mw_3_7, (List.forall_mem_cons.mpr ⟨mw_3_8, (List.forall_mem_cons.mpr ⟨mw_2_77, (List.forall_mem_cons.mpr ⟨mw_2_12, (List.forall_mem_cons.mpr ⟨mw_2_9, (List.forall_mem_cons.mpr ⟨mw_1_76, (List.forall_mem_cons.mpr ⟨mw_3_9, (List.forall_mem_cons.mpr ⟨mw_3_11, (List.forall_mem_nil _)⟩)⟩)⟩)⟩)⟩)⟩)⟩)⟩)⟩)⟩)⟩)⟩)⟩)⟩)⟩)⟩)⟩)⟩)⟩)⟩)⟩)⟩)⟩)⟩)
set_option maxRecDepth 20000 in
theorem gwsX11_offer_r4 : ∀ w ∈ wsX11_offer_r4, wo_P w := (List.forall_mem_cons.mpr ⟨mw_3_10, (List.forall_mem_cons.mpr ⟨mw_3_12, (List.forall_mem_cons.mpr ⟨mw_3_13, (List.forall_mem_cons.mpr ⟨mw_1_13, (List.forall_mem_cons.mpr ⟨mw_3_14, (List.forall_mem_cons.mpr ⟨mw_2_79, (List.forall_mem_cons.mpr ⟨mw_2_80, (List.forall_mem_cons.mpr ⟨mw_3_17, (List.forall_mem_cons.mpr ⟨mw_3_15, (List.forall_mem_cons.mpr ⟨mw_3_10, (List.forall_mem_cons.mpr ⟨mw_2_78, (List.forall_mem_cons.mpr ⟨mw_3_16, (List.forall_mem_cons.mpr ⟨mw_3_59, (List.forall_mem_cons.mpr ⟨mw_3_60, (List.forall_mem_cons.mpr ⟨mw_2_203, (List.forall_mem_cons.mpr ⟨mw_2_204, (List.forall_mem_cons.mpr ⟨mw_2_205, (List.forall_mem_cons.mpr ⟨mw_1_45, (List.forall_mem_cons.mpr ⟨mw_2_182, (List.forall_mem_cons.mpr ⟨mw_3_61, (List.forall_mem_cons.mpr ⟨mw_3_23, (List.forall_mem_cons.mpr ⟨mw_3_24, (List.forall_mem_cons.mpr ⟨mw_3_25, (List.forall_mem_cons.mpr ⟨mw_2_3, (List.forall_mem_nil _)⟩)⟩)⟩)⟩)⟩)⟩)⟩)⟩)⟩)⟩)⟩)⟩)⟩)⟩)⟩)⟩)⟩)⟩)⟩)⟩)⟩)⟩)⟩)⟩)
set_option maxRecDepth 20000 in
theorem gwsX11_offer_r5 : ∀ w ∈ wsX11_offer_r5, wo_P w := (List.forall_mem_cons.mpr ⟨mw_2_6, (List.forall_mem_cons.mpr ⟨mw_1_58, (List.forall_mem_cons.mpr ⟨mw_3_26, (List.forall_mem_cons.mpr ⟨mw_2_234, (List.forall_mem_cons.mpr ⟨mw_2_235, (List.forall_mem_cons.mpr ⟨mw_2_233, (List.forall_mem_cons.mpr ⟨mw_3_0, (List.forall_mem_cons.mpr ⟨mw_2_72, (List.forall_mem_cons.mpr ⟨mw_2_236, (List.forall_mem_cons.mpr ⟨mw_2_233, (List.forall_mem_cons.mpr ⟨mw_2_237, (List.forall_mem_cons.mpr ⟨mw_2_238, (List.forall_mem_cons.mpr ⟨mw_1_12, (List.forall_mem_cons.mpr ⟨mw_2_239, (List.forall_mem_cons.mpr ⟨mw_2_73, (List.forall_mem_cons.mpr ⟨mw_2_74, (List.forall_mem_cons.mpr ⟨mw_3_27, (List.forall_mem_cons.mpr ⟨mw_2_229, (List.forall_mem_cons.mpr ⟨mw_2_230, (List.forall_mem_cons.mpr ⟨mw_1_10, (List.forall_mem_cons.mpr ⟨mw_2_231, (List.forall_mem_cons.mpr ⟨mw_2_13, (List.forall_mem_cons.mpr ⟨mw_3_28, (List.forall_mem_cons.mpr ⟨mw_3_30, (List.forall_mem_nil _)⟩)⟩)⟩)⟩)⟩)⟩)⟩)⟩)⟩)⟩)⟩)⟩)⟩)⟩)⟩)⟩)⟩)⟩)⟩)⟩)⟩)⟩)⟩)⟩)
set_option maxRecDepth 20000 in
theorem gwsX11_offer_r6 : ∀ w ∈ wsX11_offer_r6, wo_P w := (List.forall_mem_cons.mpr ⟨mw_0_2, (List.forall_mem_cons.mpr ⟨mw_3_31, (List.forall_mem_cons.mpr ⟨mw_3_32, (List.forall_mem_cons.mpr ⟨mw_3_33, (List.forall_mem_cons.mpr ⟨mw_1_15, (List.forall_mem_cons.mpr ⟨mw_3_34, (List.forall_mem_cons.mpr ⟨mw_3_35, (List.forall_mem_cons.mpr ⟨mw_3_36, (List.forall_mem_cons.mpr ⟨mw_3_37, (List.forall_mem_cons.mpr ⟨mw_2_186, (List.forall_mem_cons.mpr ⟨mw_2_187, (List.forall_mem_cons.mpr ⟨mw_2_188, (List.forall_mem_cons.mpr ⟨mw_3_38, (List.forall_mem_cons.mpr ⟨mw_3_40, (List.forall_mem_cons.mpr ⟨mw_0_3, (List.forall_mem_cons.mpr ⟨mw_3_41, (List.forall_mem_cons.mpr ⟨mw_1_74, (List.forall_mem_cons.mpr ⟨mw_3_42, (List.forall_mem_cons.mpr ⟨mw_3_43, (List.forall_mem_cons.mpr ⟨mw_3_44, (List.forall_mem_nil _)⟩)⟩)⟩)⟩)⟩)⟩)⟩)⟩)⟩)⟩)⟩)⟩)⟩)⟩)⟩)⟩)⟩)⟩)⟩)⟩)
set_option maxRecDepth 20000 in
theorem gwsX11_offer : ∀ w ∈ wsX11_offer, wo_P w := (List.forall_mem_cons.mpr ⟨mw_3_150, (wi_ap (wi_ap (wi_ap (wi_ap (wi_ap (wi_ap (wi_ap (wi_ap (wi_ap gwsX11_offer_r1 (wi_ap gwsX11_offer_r2 (wi_ap gwsX11_offer_r3 (wi_ap gwsX11_offer_r4 (wi_ap gwsX11_offer_r5 gwsX11_offer_r6))))) gwsX110) gwsX00) gwsX10) gwsX100) gwsX30) gwsX40) gwsX80) gwsX90)⟩)
theorem mw_3_147 : wo_P (Cond.methodLink RL 77 yX11_offer) := ⟨wi_3 147 rfl, good_of_word rfl⟩
theorem mw_3_148 : wo_P (Cond.instanceMethod yX11_offer) := ⟨wi_3 148 rfl, good_of_word rfl⟩
theorem mw_3_149 : wo_P (Cond.selects RX11 yX11_offer yX11_offer) := ⟨wi_3 149 rfl, good_of_word rfl⟩
theorem gL_law_X11_offer : GoodIn lw_tbl (wsV RL 77 RX11 yX11_offer wsX11_offer) := wo_V mw_3_147 mw_3_148 mw_3_149 mw_1_1 gwsX11_offer
theorem mw_5_171 : wo_P (Cond.code yX12_offer cX12_offer 3 (some .int)) := ⟨wi_5 171 rfl, good_of_word rfl⟩
theorem mw_5_175 : wo_P (Cond.code yX12_offeredTo cX12_offeredTo 3 (some .int)) := ⟨wi_5 175 rfl, good_of_word rfl⟩
theorem mw_0_39 : wo_P (Cond.selects RX12 yX12_offeredTo yX12_offeredTo) := ⟨wi_0 39 rfl, good_of_word rfl⟩
theorem mw_5_174 : wo_P (Cond.instanceMethod yX12_offeredTo) := ⟨wi_5 174 rfl, good_of_word rfl⟩
theorem mw_5_172 : wo_P (Cond.methodLink RX12 218 yX12_offeredTo) := ⟨wi_5 172 rfl, good_of_word rfl⟩
set_option maxRecDepth 20000 in
theorem gwsX12_offer_r1 : ∀ w ∈ wsX12_offer_r1, wo_P w := (List.forall_mem_cons.mpr ⟨mw_5_18, (List.forall_mem_cons.mpr ⟨mw_4_143, (List.forall_mem_cons.mpr ⟨mw_5_122, (List.forall_mem_cons.mpr ⟨mw_5_127, (List.forall_mem_cons.mpr ⟨mw_4_154, (List.forall_mem_cons.mpr ⟨mw_5_62, (List.forall_mem_cons.mpr ⟨mw_5_64, (List.forall_mem_cons.mpr ⟨mw_0_23, (List.forall_mem_cons.mpr ⟨mw_1_9, (List.forall_mem_cons.mpr ⟨mw_5_65, (List.forall_mem_cons.mpr ⟨mw_4_136, (List.forall_mem_cons.mpr ⟨mw_5_15, (List.forall_mem_cons.mpr ⟨mw_5_16, (List.forall_mem_cons.mpr ⟨mw_5_17, (List.forall_mem_cons.mpr ⟨mw_5_19, (List.forall_mem_cons.mpr ⟨mw_5_21, (List.forall_mem_cons.mpr ⟨mw_0_19, (List.forall_mem_cons.mpr ⟨mw_5_22, (List.forall_mem_cons.mpr ⟨mw_4_162, (List.forall_mem_cons.mpr ⟨mw_5_23, (List.forall_mem_cons.mpr ⟨mw_5_172, (List.forall_mem_cons.mpr ⟨mw_5_174, (List.forall_mem_cons.mpr ⟨mw_0_39, (List.forall_mem_cons.mpr ⟨mw_5_175, (List.forall_mem_nil _)⟩)⟩)⟩)⟩)⟩)⟩)⟩)⟩)⟩)⟩)⟩)⟩)⟩)⟩)⟩)⟩)⟩)⟩)⟩)⟩)⟩)⟩)⟩)⟩)
set_option maxRecDepth 20000 in
theorem gwsX12_offer_r2 : ∀ w ∈ wsX12_offer_r2, wo_P w := (List.forall_mem_cons.mpr ⟨mw_4_153, (List.forall_mem_cons.mpr ⟨mw_4_155, (List.forall_mem_cons.mpr ⟨mw_4_148, (List.forall_mem_cons.mpr ⟨mw_5_123, (List.forall_mem_cons.mpr ⟨mw_5_125, (List.forall_mem_cons.mpr ⟨mw_0_32, (List.forall_mem_cons.mpr ⟨mw_5_126, (List.forall_mem_cons.mpr ⟨mw_4_144, (List.forall_mem_cons.mpr ⟨mw_5_89, (List.forall_mem_cons.mpr ⟨mw_5_91, (List.forall_mem_cons.mpr ⟨mw_0_27, (List.forall_mem_cons.mpr ⟨mw_5_92, (List.forall_mem_cons.mpr ⟨mw_4_145, (List.forall_mem_cons.mpr ⟨mw_4_147, (List.forall_mem_cons.mpr ⟨mw_4_146, (List.forall_mem_cons.mpr ⟨mw_4_140, (List.forall_mem_cons.mpr ⟨mw_4_139, (List.forall_mem_cons.mpr ⟨mw_4_149, (List.forall_mem_cons.mpr ⟨mw_5_97, (List.forall_mem_cons.mpr ⟨mw_5_99, (List.forall_mem_cons.mpr ⟨mw_0_28, (List.forall_mem_cons.mpr ⟨mw_5_100, (List.forall_mem_cons.mpr ⟨mw_5_101, (List.forall_mem_cons.mpr ⟨mw_5_103, (List.forall_mem_nil _)⟩)⟩)⟩)⟩)⟩)⟩)⟩)⟩)⟩)⟩)⟩)⟩)⟩)⟩)⟩)⟩)⟩)⟩)⟩)⟩)⟩)⟩)⟩)⟩)
set_option maxRecDepth 20000 in
theorem gwsX12_offer_r3 : ∀ w ∈ wsX12_offer_r3, wo_P w := (List.forall_mem_cons.mpr ⟨mw_0_29, (List.forall_mem_cons.mpr ⟨mw_5_104, (List.forall_mem_cons.mpr ⟨mw_5_105, (List.forall_mem_cons.mpr ⟨mw_2_187, (List.forall_mem_cons.mpr ⟨mw_1_15, (List.forall_mem_cons.mpr ⟨mw_2_188, (List.forall_mem_cons.mpr ⟨mw_4_137, (List.forall_mem_cons.mpr ⟨mw_5_106, (List.forall_mem_cons.mpr ⟨mw_3_33, (List.forall_mem_cons.mpr ⟨mw_3_34, (List.forall_mem_cons.mpr ⟨mw_4_138, (List.forall_mem_cons.mpr ⟨mw_5_74, (List.forall_mem_cons.mpr ⟨mw_5_76, (List.forall_mem_cons.mpr ⟨mw_0_25, (List.forall_mem_cons.mpr ⟨mw_5_77, (List.forall_mem_cons.mpr ⟨mw_5_78, (List.forall_mem_cons.mpr ⟨mw_5_79, (List.forall_mem_cons.mpr ⟨mw_5_80, (List.forall_mem_cons.mpr ⟨mw_5_81, (List.forall_mem_cons.mpr ⟨mw_5_83, (List.forall_mem_cons.mpr ⟨mw_0_26, (List.forall_mem_cons.mpr ⟨mw_5_84, (List.forall_mem_cons.mpr ⟨mw_5_107, (List.forall_mem_cons.mpr ⟨mw_5_109, (List.forall_mem_nil _)⟩)⟩)⟩)⟩)⟩)⟩)⟩)⟩)⟩)⟩)⟩)⟩)⟩)⟩)⟩)⟩)⟩)⟩)⟩)⟩)⟩)⟩)⟩)⟩)
set_option maxRecDepth 20000 in
theorem gwsX12_offer_r4 : ∀ w ∈ wsX12_offer_r4, wo_P w := (List.forall_mem_cons.mpr ⟨mw_0_30, (List.forall_mem_cons.mpr ⟨mw_5_110, (List.forall_mem_cons.mpr ⟨mw_4_150, (List.forall_mem_cons.mpr ⟨mw_5_111, (List.forall_mem_cons.mpr ⟨mw_5_113, (List.forall_mem_cons.mpr ⟨mw_0_31, (List.forall_mem_cons.mpr ⟨mw_5_114, (List.forall_mem_cons.mpr ⟨mw_4_151, (List.forall_mem_cons.mpr ⟨mw_4_152, (List.forall_mem_cons.mpr ⟨mw_5_115, (List.forall_mem_cons.mpr ⟨mw_5_116, (List.forall_mem_cons.mpr ⟨mw_5_117, (List.forall_mem_nil _)⟩)⟩)⟩)⟩)⟩)⟩)⟩)⟩)⟩)⟩)⟩)⟩)
set_option maxRecDepth 20000 in
theorem gwsX12_offer : ∀ w ∈ wsX12_offer, wo_P w := (List.forall_mem_cons.mpr ⟨mw_5_171, (wi_ap (wi_ap gwsX12_offer_r1 (wi_ap gwsX12_offer_r2 (wi_ap gwsX12_offer_r3 gwsX12_offer_r4))) gwsX120)⟩)
theorem mw_5_168 : wo_P (Cond.methodLink RL 80 yX12_offer) := ⟨wi_5 168 rfl, good_of_word rfl⟩
theorem mw_5_169 : wo_P (Cond.instanceMethod yX12_offer) := ⟨wi_5 169 rfl, good_of_word rfl⟩
theorem mw_5_170 : wo_P (Cond.selects RX12 yX12_offer yX12_offer) := ⟨wi_5 170 rfl, good_of_word rfl⟩
theorem gL_law_X12_offer : GoodIn lw_tbl (wsV RL 80 RX12 yX12_offer wsX12_offer) := wo_V mw_5_168 mw_5_169 mw_5_170 mw_1_9 gwsX12_offer
theorem mw_3_171 : wo_P (Cond.code yX11_answer cX11_answer 5 (some .int)) := ⟨wi_3 171 rfl, good_of_word rfl⟩
theorem mw_3_174 : wo_P (Cond.code yX11_isFlag cX11_isFlag 1 (some .boolean)) := ⟨wi_3 174 rfl, good_of_word rfl⟩
theorem mw_3_173 : wo_P (Cond.static yX11_isFlag) := ⟨wi_3 173 rfl, good_of_word rfl⟩
theorem mw_3_172 : wo_P (Cond.methodLink RX11 225 yX11_isFlag) := ⟨wi_3 172 rfl, good_of_word rfl⟩
set_option maxRecDepth 20000 in
theorem gwsX11_answer_r1 : ∀ w ∈ wsX11_answer_r1, wo_P w := (List.forall_mem_cons.mpr ⟨mw_1_185, (List.forall_mem_cons.mpr ⟨mw_1_186, (List.forall_mem_cons.mpr ⟨mw_1_64, (List.forall_mem_cons.mpr ⟨mw_2_88, (List.forall_mem_cons.mpr ⟨mw_1_194, (List.forall_mem_cons.mpr ⟨mw_3_172, (List.forall_mem_cons.mpr ⟨mw_3_173, (List.forall_mem_cons.mpr ⟨mw_1_1, (List.forall_mem_cons.mpr ⟨mw_3_174, (List.forall_mem_cons.mpr ⟨mw_1_220, (List.forall_mem_cons.mpr ⟨mw_1_221, (List.forall_mem_cons.mpr ⟨mw_1_222, (List.forall_mem_cons.mpr ⟨mw_1_223, (List.forall_mem_cons.mpr ⟨mw_1_225, (List.forall_mem_cons.mpr ⟨mw_0_0, (List.forall_mem_cons.mpr ⟨mw_1_226, (List.forall_mem_cons.mpr ⟨mw_1_190, (List.forall_mem_cons.mpr ⟨mw_1_227, (List.forall_mem_cons.mpr ⟨mw_3_151, (List.forall_mem_cons.mpr ⟨mw_3_153, (List.forall_mem_cons.mpr ⟨mw_0_10, (List.forall_mem_cons.mpr ⟨mw_3_154, (List.forall_mem_cons.mpr ⟨mw_2_215, (List.forall_mem_cons.mpr ⟨mw_2_183, (List.forall_mem_nil _)⟩)⟩)⟩)⟩)⟩)⟩)⟩)⟩)⟩)⟩)⟩)⟩)⟩)⟩)⟩)⟩)⟩)⟩)⟩)⟩)⟩)⟩)⟩)⟩)
set_option maxRecDepth 20000 in
theorem gwsX11_answer_r2 : ∀ w ∈ wsX11_answer_r2, wo_P w := (List.forall_mem_cons.mpr ⟨mw_2_184, (List.forall_mem_cons.mpr ⟨mw_1_2, (List.forall_mem_cons.mpr ⟨mw_2_185, (List.forall_mem_cons.mpr ⟨mw_1_65, (List.forall_mem_cons.mpr ⟨mw_1_54, (List.forall_mem_cons.mpr ⟨mw_2_216, (List.forall_mem_cons.mpr ⟨mw_2_217, (List.forall_mem_cons.mpr ⟨mw_2_218, (List.forall_mem_cons.mpr ⟨mw_1_3, (List.forall_mem_cons.mpr ⟨mw_2_219, (List.forall_mem_cons.mpr ⟨mw_1_46, (List.forall_mem_cons.mpr ⟨mw_3_155, (List.forall_mem_cons.mpr ⟨mw_3_156, (List.forall_mem_cons.mpr ⟨mw_3_157, (List.forall_mem_cons.mpr ⟨mw_1_5, (List.forall_mem_cons.mpr ⟨mw_3_158, (List.forall_mem_cons.mpr ⟨mw_1_104, (List.forall_mem_cons.mpr ⟨mw_1_102, (List.forall_mem_cons.mpr ⟨mw_1_103, (List.forall_mem_cons.mpr ⟨mw_1_238, (List.forall_mem_cons.mpr ⟨mw_1_63, (List.forall_mem_cons.mpr ⟨mw_3_159, (List.forall_mem_cons.mpr ⟨mw_2_133, (List.forall_mem_cons.mpr ⟨mw_2_134, (List.forall_mem_nil _)⟩)⟩)⟩)⟩)⟩)⟩)⟩)⟩)⟩)⟩)⟩)⟩)⟩)⟩)⟩)⟩)⟩)⟩)⟩)⟩)⟩)⟩)⟩)⟩)
set_option maxRecDepth 20000 in
theorem gwsX11_answer_r3 : ∀ w ∈ wsX11_answer_r3, wo_P w := (List.forall_mem_cons.mpr ⟨mw_2_135, (List.forall_mem_cons.mpr ⟨mw_1_69, (List.forall_mem_cons.mpr ⟨mw_1_55, (List.forall_mem_cons.mpr ⟨mw_3_160, (List.forall_mem_cons.mpr ⟨mw_3_162, (List.forall_mem_cons.mpr ⟨mw_3_163, (List.forall_mem_cons.mpr ⟨mw_3_161, (List.forall_mem_cons.mpr ⟨mw_1_11, (List.forall_mem_cons.mpr ⟨mw_3_166, (List.forall_mem_cons.mpr ⟨mw_2_87, (List.forall_mem_cons.mpr ⟨mw_3_164, (List.forall_mem_cons.mpr ⟨mw_3_165, (List.forall_mem_cons.mpr ⟨mw_3_167, (List.forall_mem_cons.mpr ⟨mw_3_54, (List.forall_mem_cons.mpr ⟨mw_3_55, (List.forall_mem_cons.mpr ⟨mw_3_56, (List.forall_mem_cons.mpr ⟨mw_2_0, (List.forall_mem_cons.mpr ⟨mw_2_71, (List.forall_mem_cons.mpr ⟨mw_3_57, (List.forall_mem_cons.mpr ⟨mw_3_58, (List.forall_mem_cons.mpr ⟨mw_3_6, (List.forall_mem_cons.mpr ⟨mw_3_7, (List.forall_mem_cons.mpr ⟨mw_3_8, (List.forall_mem_cons.mpr ⟨mw_2_77, (List.forall_mem_nil _)⟩)⟩)⟩)⟩)⟩)⟩)⟩)⟩)⟩)⟩)⟩)⟩)⟩)⟩)⟩)⟩)⟩)⟩)⟩)⟩)⟩)⟩)⟩)⟩)
set_option maxRecDepth 20000 in
theorem gwsX11_answer_r4 : ∀ w ∈ wsX11_answer_r4, wo_P w := (List.forall_mem_cons.mpr ⟨mw_2_12, (List.forall_mem_cons.mpr ⟨mw_2_9, (List.forall_mem_cons.mpr ⟨mw_1_76, (List.forall_mem_cons.mpr ⟨mw_3_9, (List.forall_mem_cons.mpr ⟨mw_3_11, (List.forall_mem_cons.mpr ⟨mw_3_10, (List.forall_mem_cons.mpr ⟨mw_3_12, (List.forall_mem_cons.mpr ⟨mw_3_13, (List.forall_mem_cons.mpr ⟨mw_1_13, (List.forall_mem_cons.mpr ⟨mw_3_14, (List.forall_mem_cons.mpr ⟨mw_2_79, (List.forall_mem_cons.mpr ⟨mw_2_80, (List.forall_mem_cons.mpr ⟨mw_3_17, (List.forall_mem_cons.mpr ⟨mw_3_15, (List.forall_mem_cons.mpr ⟨mw_3_10, (List.forall_mem_cons.mpr ⟨mw_2_78, (List.forall_mem_cons.mpr ⟨mw_3_16, (List.forall_mem_cons.mpr ⟨mw_3_59, (List.forall_mem_cons.mpr ⟨mw_3_60, (List.forall_mem_cons.mpr ⟨mw_2_203, (List.forall_mem_cons.mpr ⟨mw_2_204, (List.forall_mem_cons.mpr ⟨mw_2_205, (List.forall_mem_cons.mpr ⟨mw_1_45, (List.forall_mem_cons.mpr ⟨mw_2_182, (List.forall_mem_nil _)⟩)⟩)⟩)⟩)⟩)⟩)⟩)⟩)⟩)⟩)⟩)⟩)⟩)⟩)⟩)⟩)⟩)⟩)⟩)⟩)⟩)⟩)⟩)⟩)
set_option maxRecDepth 20000 in
theorem gwsX11_answer_r5 : ∀ w ∈ wsX11_answer_r5, wo_P w := (List.forall_mem_cons.mpr ⟨mw_3_61, (List.forall_mem_cons.mpr ⟨mw_3_23, (List.forall_mem_cons.mpr ⟨mw_3_24, (List.forall_mem_cons.mpr ⟨mw_3_25, (List.forall_mem_cons.mpr ⟨mw_2_3, (List.forall_mem_cons.mpr ⟨mw_2_6, (List.forall_mem_cons.mpr ⟨mw_1_58, (List.forall_mem_cons.mpr ⟨mw_3_26, (List.forall_mem_cons.mpr ⟨mw_2_234, (List.forall_mem_cons.mpr ⟨mw_2_235, (List.forall_mem_cons.mpr ⟨mw_2_233, (List.forall_mem_cons.mpr ⟨mw_3_0, (List.forall_mem_cons.mpr ⟨mw_2_72, (List.forall_mem_cons.mpr ⟨mw_2_236, (List.forall_mem_cons.mpr ⟨mw_2_233, (List.forall_mem_cons.mpr ⟨mw_2_237, (List.forall_mem_cons.mpr ⟨mw_2_238, (List.forall_mem_cons.mpr ⟨mw_1_12, (List.forall_mem_cons.mpr ⟨mw_2_239, (List.forall_mem_cons.mpr ⟨mw_2_73, (List.forall_mem_cons.mpr ⟨mw_2_74, (List.forall_mem_cons.mpr ⟨mw_3_27, (List.forall_mem_cons.mpr ⟨mw_2_229, (List.forall_mem_cons.mpr ⟨mw_2_230, (List.forall_mem_nil _)⟩)⟩)⟩)⟩)⟩)⟩)⟩)⟩)⟩)⟩)⟩)⟩)⟩)⟩)⟩)⟩)⟩)⟩)⟩)⟩)⟩)⟩)⟩)⟩)
set_option maxRecDepth 20000 in
theorem gwsX11_answer_r6 : ∀ w ∈ wsX11_answer_r6, wo_P w := (List.forall_mem_cons.mpr ⟨mw_1_10, (List.forall_mem_cons.mpr ⟨mw_2_231, (List.forall_mem_cons.mpr ⟨mw_2_13, (List.forall_mem_cons.mpr ⟨mw_3_28, (List.forall_mem_cons.mpr ⟨mw_3_30, (List.forall_mem_cons.mpr ⟨mw_0_2, (List.forall_mem_cons.mpr ⟨mw_3_31, (List.forall_mem_cons.mpr ⟨mw_3_32, (List.forall_mem_cons.mpr ⟨mw_3_33, (List.forall_mem_cons.mpr ⟨mw_1_15, (List.forall_mem_cons.mpr ⟨mw_3_34, (List.forall_mem_cons.mpr ⟨mw_3_35, (List.forall_mem_cons.mpr ⟨mw_3_36, (List.forall_mem_cons.mpr ⟨mw_3_37, (List.forall_mem_cons.mpr ⟨mw_2_186, (List.forall_mem_cons.mpr ⟨mw_2_187, (List.forall_mem_cons.mpr ⟨mw_2_188, (List.forall_mem_cons.mpr ⟨mw_3_38, (List.forall_mem_cons.mpr ⟨mw_3_40, (List.forall_mem_cons.mpr ⟨mw_0_3, (List.forall_mem_cons.mpr ⟨mw_3_41, (List.forall_mem_cons.mpr ⟨mw_1_74, (List.forall_mem_cons.mpr ⟨mw_3_42, (List.forall_mem_cons.mpr ⟨mw_3_43, (List.forall_mem_nil _)⟩)⟩)⟩)⟩)⟩)⟩)⟩)⟩)⟩)⟩)⟩)⟩)⟩)⟩)⟩)⟩)⟩)⟩)⟩)⟩)⟩)⟩)⟩)⟩)
set_option maxRecDepth 20000 in
theorem gwsX11_answer_r7 : ∀ w ∈ wsX11_answer_r7, wo_P w := (List.forall_mem_cons.mpr ⟨mw_3_44, (List.forall_mem_cons.mpr ⟨mw_2_132, (List.forall_mem_cons.mpr ⟨mw_2_207, (List.forall_mem_cons.mpr ⟨mw_2_208, (List.forall_mem_cons.mpr ⟨mw_2_209, (List.forall_mem_cons.mpr ⟨mw_2_210, (List.forall_mem_cons.mpr ⟨mw_3_66, (List.forall_mem_cons.mpr ⟨mw_3_67, (List.forall_mem_cons.mpr ⟨mw_3_68, (List.forall_mem_cons.mpr ⟨mw_3_69, (List.forall_mem_cons.mpr ⟨mw_3_62, (List.forall_mem_cons.mpr ⟨mw_3_63, (List.forall_mem_cons.mpr ⟨mw_3_64, (List.forall_mem_cons.mpr ⟨mw_3_65, (List.forall_mem_cons.mpr ⟨mw_3_139, (List.forall_mem_cons.mpr ⟨mw_3_140, (List.forall_mem_cons.mpr ⟨mw_3_141, (List.forall_mem_cons.mpr ⟨mw_3_142, (List.forall_mem_nil _)⟩)⟩)⟩)⟩)⟩)⟩)⟩)⟩)⟩)⟩)⟩)⟩)⟩)⟩)⟩)⟩)⟩)⟩)
set_option maxRecDepth 20000 in
theorem gwsX11_answer : ∀ w ∈ wsX11_answer, wo_P w := (List.forall_mem_cons.mpr ⟨mw_3_171, (wi_ap (wi_ap (wi_ap (wi_ap (wi_ap (wi_ap (wi_ap (wi_ap (wi_ap gwsX11_answer_r1 (wi_ap gwsX11_answer_r2 (wi_ap gwsX11_answer_r3 (wi_ap gwsX11_answer_r4 (wi_ap gwsX11_answer_r5 (wi_ap gwsX11_answer_r6 gwsX11_answer_r7)))))) gwsX110) gwsX00) gwsX40) gwsX80) gwsX90) gwsX10) gwsX100) gwsX30)⟩)
theorem mw_3_168 : wo_P (Cond.methodLink RL 81 yX11_answer) := ⟨wi_3 168 rfl, good_of_word rfl⟩
theorem mw_3_169 : wo_P (Cond.instanceMethod yX11_answer) := ⟨wi_3 169 rfl, good_of_word rfl⟩
theorem mw_3_170 : wo_P (Cond.selects RX11 yX11_answer yX11_answer) := ⟨wi_3 170 rfl, good_of_word rfl⟩
theorem gL_law_X11_answer : GoodIn lw_tbl (wsV RL 81 RX11 yX11_answer wsX11_answer) := wo_V mw_3_168 mw_3_169 mw_3_170 mw_1_1 gwsX11_answer
theorem mw_5_179 : wo_P (Cond.code yX12_answer cX12_answer 5 (some .int)) := ⟨wi_5 179 rfl, good_of_word rfl⟩
set_option maxRecDepth 20000 in
theorem gwsX12_answer_r1 : ∀ w ∈ wsX12_answer_r1, wo_P w := (List.forall_mem_cons.mpr ⟨mw_5_18, (List.forall_mem_cons.mpr ⟨mw_4_143, (List.forall_mem_cons.mpr ⟨mw_5_122, (List.forall_mem_cons.mpr ⟨mw_5_127, (List.forall_mem_cons.mpr ⟨mw_4_154, (List.forall_mem_cons.mpr ⟨mw_4_155, (List.forall_mem_cons.mpr ⟨mw_4_156, (List.forall_mem_cons.mpr ⟨mw_4_153, (List.forall_mem_cons.mpr ⟨mw_5_62, (List.forall_mem_cons.mpr ⟨mw_5_64, (List.forall_mem_cons.mpr ⟨mw_0_23, (List.forall_mem_cons.mpr ⟨mw_1_9, (List.forall_mem_cons.mpr ⟨mw_5_65, (List.forall_mem_cons.mpr ⟨mw_4_136, (List.forall_mem_cons.mpr ⟨mw_5_15, (List.forall_mem_cons.mpr ⟨mw_5_16, (List.forall_mem_cons.mpr ⟨mw_5_17, (List.forall_mem_cons.mpr ⟨mw_5_19, (List.forall_mem_cons.mpr ⟨mw_5_21, (List.forall_mem_cons.mpr ⟨mw_0_19, (List.forall_mem_cons.mpr ⟨mw_5_22, (List.forall_mem_cons.mpr ⟨mw_4_162, (List.forall_mem_cons.mpr ⟨mw_5_23, (List.forall_mem_cons.mpr ⟨mw_5_172, (List.forall_mem_nil _)⟩)⟩)⟩)⟩)⟩)⟩)⟩)⟩)⟩)⟩)⟩)⟩)⟩)⟩)⟩)⟩)⟩)⟩)⟩)⟩)⟩)⟩)⟩)⟩)
set_option maxRecDepth 20000 in
theorem gwsX12_answer_r2 : ∀ w ∈ wsX12_answer_r2, wo_P w := (List.forall_mem_cons.mpr ⟨mw_5_174, (List.forall_mem_cons.mpr ⟨mw_0_39, (List.forall_mem_cons.mpr ⟨mw_5_175, (List.forall_mem_cons.mpr ⟨mw_4_148, (List.forall_mem_cons.mpr ⟨mw_5_123, (List.forall_mem_cons.mpr ⟨mw_5_125, (List.forall_mem_cons.mpr ⟨mw_0_32, (List.forall_mem_cons.mpr ⟨mw_5_126, (List.forall_mem_cons.mpr ⟨mw_4_144, (List.forall_mem_cons.mpr ⟨mw_5_89, (List.forall_mem_cons.mpr ⟨mw_5_91, (List.forall_mem_cons.mpr ⟨mw_0_27, (List.forall_mem_cons.mpr ⟨mw_5_92, (List.forall_mem_cons.mpr ⟨mw_4_145, (List.forall_mem_cons.mpr ⟨mw_4_147, (List.forall_mem_cons.mpr ⟨mw_4_146, (List.forall_mem_cons.mpr ⟨mw_4_140, (List.forall_mem_cons.mpr ⟨mw_4_139, (List.forall_mem_cons.mpr ⟨mw_4_149, (List.forall_mem_cons.mpr ⟨mw_5_97, (List.forall_mem_cons.mpr ⟨mw_5_99, (List.forall_mem_cons.mpr ⟨mw_0_28, (List.forall_mem_cons.mpr ⟨mw_5_100, (List.forall_mem_cons.mpr ⟨mw_5_101, (List.forall_mem_nil _)⟩)⟩)⟩)⟩)⟩)⟩)⟩)⟩)⟩)⟩)⟩)⟩)⟩)⟩)⟩)⟩)⟩)⟩)⟩)⟩)⟩)⟩)⟩)⟩)
set_option maxRecDepth 20000 in
theorem gwsX12_answer_r3 : ∀ w ∈ wsX12_answer_r3, wo_P w := (List.forall_mem_cons.mpr ⟨mw_5_103, (List.forall_mem_cons.mpr ⟨mw_0_29, (List.forall_mem_cons.mpr ⟨mw_5_104, (List.forall_mem_cons.mpr ⟨mw_5_105, (List.forall_mem_cons.mpr ⟨mw_2_187, (List.forall_mem_cons.mpr ⟨mw_1_15, (List.forall_mem_cons.mpr ⟨mw_2_188, (List.forall_mem_cons.mpr ⟨mw_4_137, (List.forall_mem_cons.mpr ⟨mw_5_106, (List.forall_mem_cons.mpr ⟨mw_3_33, (List.forall_mem_cons.mpr ⟨mw_3_34, (List.forall_mem_cons.mpr ⟨mw_4_138, (List.forall_mem_cons.mpr ⟨mw_5_74, (List.forall_mem_cons.mpr ⟨mw_5_76, (List.forall_mem_cons.mpr ⟨mw_0_25, (List.forall_mem_cons.mpr ⟨mw_5_77, (List.forall_mem_cons.mpr ⟨mw_5_78, (List.forall_mem_cons.mpr ⟨mw_5_79, (List.forall_mem_cons.mpr ⟨mw_5_80, (List.forall_mem_cons.mpr ⟨mw_5_81, (List.forall_mem_cons.mpr ⟨mw_5_83, (List.forall_mem_cons.mpr ⟨mw_0_26, (List.forall_mem_cons.mpr ⟨mw_5_84, (List.forall_mem_cons.mpr ⟨mw_5_107, (List.forall_mem_nil _)⟩)⟩)⟩)⟩)⟩)⟩)⟩)⟩)⟩)⟩)⟩)⟩)⟩)⟩)⟩)⟩)⟩)⟩)⟩)⟩)⟩)⟩)⟩)⟩)
set_option maxRecDepth 20000 in
theorem gwsX12_answer_r4 : ∀ w ∈ wsX12_answer_r4, wo_P w := (List.forall_mem_cons.mpr ⟨mw_5_109, (List.forall_mem_cons.mpr ⟨mw_0_30, (List.forall_mem_cons.mpr ⟨mw_5_110, (List.forall_mem_cons.mpr ⟨mw_4_150, (List.forall_mem_cons.mpr ⟨mw_5_111, (List.forall_mem_cons.mpr ⟨mw_5_113, (List.forall_mem_cons.mpr ⟨mw_0_31, (List.forall_mem_cons.mpr ⟨mw_5_114, (List.forall_mem_cons.mpr ⟨mw_4_151, (List.forall_mem_cons.mpr ⟨mw_4_152, (List.forall_mem_cons.mpr ⟨mw_5_115, (List.forall_mem_cons.mpr ⟨mw_5_116, (List.forall_mem_cons.mpr ⟨mw_5_117, (List.forall_mem_cons.mpr ⟨mw_5_132, (List.forall_mem_cons.mpr ⟨mw_5_134, (List.forall_mem_cons.mpr ⟨mw_0_34, (List.forall_mem_cons.mpr ⟨mw_5_135, (List.forall_mem_cons.mpr ⟨mw_5_128, (List.forall_mem_cons.mpr ⟨mw_5_130, (List.forall_mem_cons.mpr ⟨mw_0_33, (List.forall_mem_cons.mpr ⟨mw_5_131, (List.forall_mem_nil _)⟩)⟩)⟩)⟩)⟩)⟩)⟩)⟩)⟩)⟩)⟩)⟩)⟩)⟩)⟩)⟩)⟩)⟩)⟩)⟩)⟩)
set_option maxRecDepth 20000 in
theorem gwsX12_answer : ∀ w ∈ wsX12_answer, wo_P w := (List.forall_mem_cons.mpr ⟨mw_5_179, (wi_ap (wi_ap gwsX12_answer_r1 (wi_ap gwsX12_answer_r2 (wi_ap gwsX12_answer_r3 gwsX12_answer_r4))) gwsX120)⟩)
theorem mw_5_176 : wo_P (Cond.methodLink RL 84 yX12_answer) := ⟨wi_5 176 rfl, good_of_word rfl⟩
theorem mw_5_177 : wo_P (Cond.instanceMethod yX12_answer) := ⟨wi_5 177 rfl, good_of_word rfl⟩
theorem mw_5_178 : wo_P (Cond.selects RX12 yX12_answer yX12_answer) := ⟨wi_5 178 rfl, good_of_word rfl⟩
theorem gL_law_X12_answer : GoodIn lw_tbl (wsV RL 84 RX12 yX12_answer wsX12_answer) := wo_V mw_5_176 mw_5_177 mw_5_178 mw_1_9 gwsX12_answer
theorem mw_3_178 : wo_P (Cond.code yX11_stays cX11_stays 3 (some .int)) := ⟨wi_3 178 rfl, good_of_word rfl⟩
set_option maxRecDepth 20000 in
theorem gwsX11_stays : ∀ w ∈ wsX11_stays, wo_P w := (List.forall_mem_cons.mpr ⟨mw_3_178, (wi_ap (List.forall_mem_cons.mpr ⟨mw_1_194, (List.forall_mem_cons.mpr ⟨mw_3_172, (List.forall_mem_cons.mpr ⟨mw_3_173, (List.forall_mem_cons.mpr ⟨mw_1_1, (List.forall_mem_cons.mpr ⟨mw_3_174, (List.forall_mem_cons.mpr ⟨mw_1_220, (List.forall_mem_cons.mpr ⟨mw_1_221, (List.forall_mem_cons.mpr ⟨mw_1_222, (List.forall_mem_cons.mpr ⟨mw_1_223, (List.forall_mem_cons.mpr ⟨mw_1_225, (List.forall_mem_cons.mpr ⟨mw_0_0, (List.forall_mem_cons.mpr ⟨mw_1_226, (List.forall_mem_cons.mpr ⟨mw_1_190, (List.forall_mem_cons.mpr ⟨mw_1_227, (List.forall_mem_nil _)⟩)⟩)⟩)⟩)⟩)⟩)⟩)⟩)⟩)⟩)⟩)⟩)⟩)⟩) gwsX110)⟩)
theorem mw_3_175 : wo_P (Cond.methodLink RL 85 yX11_stays) := ⟨wi_3 175 rfl, good_of_word rfl⟩
theorem mw_3_176 : wo_P (Cond.instanceMethod yX11_stays) := ⟨wi_3 176 rfl, good_of_word rfl⟩
theorem mw_3_177 : wo_P (Cond.selects RX11 yX11_stays yX11_stays) := ⟨wi_3 177 rfl, good_of_word rfl⟩
theorem gL_law_X11_stays : GoodIn lw_tbl (wsV RL 85 RX11 yX11_stays wsX11_stays) := wo_V mw_3_175 mw_3_176 mw_3_177 mw_1_1 gwsX11_stays
theorem mw_5_183 : wo_P (Cond.code yX12_stays cX12_stays 3 (some .int)) := ⟨wi_5 183 rfl, good_of_word rfl⟩
set_option maxRecDepth 20000 in
theorem gwsX12_stays : ∀ w ∈ wsX12_stays, wo_P w := (List.forall_mem_cons.mpr ⟨mw_5_183, (wi_ap (List.forall_mem_cons.mpr ⟨mw_5_18, (List.forall_mem_cons.mpr ⟨mw_4_156, (List.forall_mem_cons.mpr ⟨mw_5_15, (List.forall_mem_cons.mpr ⟨mw_5_16, (List.forall_mem_cons.mpr ⟨mw_1_9, (List.forall_mem_cons.mpr ⟨mw_5_17, (List.forall_mem_cons.mpr ⟨mw_5_19, (List.forall_mem_cons.mpr ⟨mw_5_21, (List.forall_mem_cons.mpr ⟨mw_0_19, (List.forall_mem_cons.mpr ⟨mw_5_22, (List.forall_mem_cons.mpr ⟨mw_4_162, (List.forall_mem_cons.mpr ⟨mw_5_23, (List.forall_mem_nil _)⟩)⟩)⟩)⟩)⟩)⟩)⟩)⟩)⟩)⟩)⟩)⟩) gwsX120)⟩)
theorem mw_5_180 : wo_P (Cond.methodLink RL 88 yX12_stays) := ⟨wi_5 180 rfl, good_of_word rfl⟩
theorem mw_5_181 : wo_P (Cond.instanceMethod yX12_stays) := ⟨wi_5 181 rfl, good_of_word rfl⟩
theorem mw_5_182 : wo_P (Cond.selects RX12 yX12_stays yX12_stays) := ⟨wi_5 182 rfl, good_of_word rfl⟩
theorem gL_law_X12_stays : GoodIn lw_tbl (wsV RL 88 RX12 yX12_stays wsX12_stays) := wo_V mw_5_180 mw_5_181 mw_5_182 mw_1_9 gwsX12_stays
theorem mw_3_182 : wo_P (Cond.code yX11_rather cX11_rather 4 (some .int)) := ⟨wi_3 182 rfl, good_of_word rfl⟩
theorem mw_2_86 : wo_P (Cond.fieldLink RX11 231 "BayMoorings$Boat" "wishCount" "I") := ⟨wi_2 86 rfl, good_of_word rfl⟩
set_option maxRecDepth 20000 in
theorem gwsX11_rather_r1 : ∀ w ∈ wsX11_rather_r1, wo_P w := (List.forall_mem_cons.mpr ⟨mw_1_185, (List.forall_mem_cons.mpr ⟨mw_2_86, (List.forall_mem_cons.mpr ⟨mw_2_132, (List.forall_mem_cons.mpr ⟨mw_2_133, (List.forall_mem_cons.mpr ⟨mw_2_134, (List.forall_mem_cons.mpr ⟨mw_1_2, (List.forall_mem_cons.mpr ⟨mw_2_135, (List.forall_mem_cons.mpr ⟨mw_1_69, (List.forall_mem_cons.mpr ⟨mw_1_55, (List.forall_mem_cons.mpr ⟨mw_1_221, (List.forall_mem_cons.mpr ⟨mw_1_1, (List.forall_mem_cons.mpr ⟨mw_1_222, (List.forall_mem_cons.mpr ⟨mw_2_215, (List.forall_mem_cons.mpr ⟨mw_2_183, (List.forall_mem_cons.mpr ⟨mw_2_184, (List.forall_mem_cons.mpr ⟨mw_2_185, (List.forall_mem_cons.mpr ⟨mw_1_65, (List.forall_mem_cons.mpr ⟨mw_1_54, (List.forall_mem_cons.mpr ⟨mw_1_223, (List.forall_mem_cons.mpr ⟨mw_1_225, (List.forall_mem_cons.mpr ⟨mw_0_0, (List.forall_mem_cons.mpr ⟨mw_1_226, (List.forall_mem_cons.mpr ⟨mw_1_190, (List.forall_mem_cons.mpr ⟨mw_1_227, (List.forall_mem_nil _)⟩)⟩)⟩)⟩)⟩)⟩)⟩)⟩)⟩)⟩)⟩)⟩)⟩)⟩)⟩)⟩)⟩)⟩)⟩)⟩)⟩)⟩)⟩)⟩)
theorem mw_3_202 : wo_P (Cond.selects RX8 ⟨"BayMoorings$Boat", "addWish", "(I)V"⟩ yX2_addWish) := ⟨wi_3 202 rfl, good_of_word rfl⟩
theorem mw_3_204 : wo_P (Cond.code yX2_addWish cX2_addWish 2 none) := ⟨wi_3 204 rfl, good_of_word rfl⟩
theorem mw_3_199 : wo_P (Cond.instanceMethod yX2_addWish) := ⟨wi_3 199 rfl, good_of_word rfl⟩
theorem mw_3_201 : wo_P (Cond.selects RX4 ⟨"BayMoorings$Boat", "addWish", "(I)V"⟩ yX2_addWish) := ⟨wi_3 201 rfl, good_of_word rfl⟩
theorem mw_3_200 : wo_P (Cond.sameMethod "BayMoorings$Boat" "BayMoorings$Boat" "addWish" "(I)V") := ⟨wi_3 200 rfl, good_of_word rfl⟩
theorem mw_3_198 : wo_P (Cond.methodLink RX11 234 ⟨"BayMoorings$Boat", "addWish", "(I)V"⟩) := ⟨wi_3 198 rfl, good_of_word rfl⟩
theorem mw_3_188 : wo_P (Cond.selects RX9 ⟨"BayMoorings$Boat", "wishesFor", "(I)Z"⟩ yX2_wishesFor) := ⟨wi_3 188 rfl, good_of_word rfl⟩
theorem mw_3_187 : wo_P (Cond.selects RX8 ⟨"BayMoorings$Boat", "wishesFor", "(I)Z"⟩ yX2_wishesFor) := ⟨wi_3 187 rfl, good_of_word rfl⟩
theorem mw_3_195 : wo_P (Cond.selects RX9 ⟨"BayMoorings$Boat", "wishAt", "(I)I"⟩ yX2_wishAt) := ⟨wi_3 195 rfl, good_of_word rfl⟩
theorem mw_3_194 : wo_P (Cond.selects RX8 ⟨"BayMoorings$Boat", "wishAt", "(I)I"⟩ yX2_wishAt) := ⟨wi_3 194 rfl, good_of_word rfl⟩
theorem mw_3_196 : wo_P (Cond.code yX2_wishAt cX2_wishAt 2 (some .int)) := ⟨wi_3 196 rfl, good_of_word rfl⟩
theorem mw_3_191 : wo_P (Cond.instanceMethod yX2_wishAt) := ⟨wi_3 191 rfl, good_of_word rfl⟩
theorem mw_3_193 : wo_P (Cond.selects RX4 ⟨"BayMoorings$Boat", "wishAt", "(I)I"⟩ yX2_wishAt) := ⟨wi_3 193 rfl, good_of_word rfl⟩
theorem mw_3_192 : wo_P (Cond.sameMethod "BayMoorings$Boat" "BayMoorings$Boat" "wishAt" "(I)I") := ⟨wi_3 192 rfl, good_of_word rfl⟩
theorem mw_3_190 : wo_P (Cond.methodLink RX2 43 ⟨"BayMoorings$Boat", "wishAt", "(I)I"⟩) := ⟨wi_3 190 rfl, good_of_word rfl⟩
theorem mw_3_189 : wo_P (Cond.code yX2_wishesFor cX2_wishesFor 3 (some .boolean)) := ⟨wi_3 189 rfl, good_of_word rfl⟩
theorem mw_3_184 : wo_P (Cond.instanceMethod yX2_wishesFor) := ⟨wi_3 184 rfl, good_of_word rfl⟩
theorem mw_3_186 : wo_P (Cond.selects RX4 ⟨"BayMoorings$Boat", "wishesFor", "(I)Z"⟩ yX2_wishesFor) := ⟨wi_3 186 rfl, good_of_word rfl⟩
theorem mw_3_185 : wo_P (Cond.sameMethod "BayMoorings$Boat" "BayMoorings$Boat" "wishesFor" "(I)Z") := ⟨wi_3 185 rfl, good_of_word rfl⟩
theorem mw_3_183 : wo_P (Cond.methodLink RX11 228 ⟨"BayMoorings$Boat", "wishesFor", "(I)Z"⟩) := ⟨wi_3 183 rfl, good_of_word rfl⟩
set_option maxRecDepth 20000 in
theorem gwsX11_rather_r2 : ∀ w ∈ wsX11_rather_r2, wo_P w := (List.forall_mem_cons.mpr ⟨mw_1_220, (List.forall_mem_cons.mpr ⟨mw_3_183, (List.forall_mem_cons.mpr ⟨mw_3_185, (List.forall_mem_cons.mpr ⟨mw_3_186, (List.forall_mem_cons.mpr ⟨mw_3_184, (List.forall_mem_cons.mpr ⟨mw_1_11, (List.forall_mem_cons.mpr ⟨mw_3_189, (List.forall_mem_cons.mpr ⟨mw_2_83, (List.forall_mem_cons.mpr ⟨mw_3_190, (List.forall_mem_cons.mpr ⟨mw_3_192, (List.forall_mem_cons.mpr ⟨mw_3_193, (List.forall_mem_cons.mpr ⟨mw_3_191, (List.forall_mem_cons.mpr ⟨mw_3_196, (List.forall_mem_cons.mpr ⟨mw_2_82, (List.forall_mem_cons.mpr ⟨mw_3_194, (List.forall_mem_cons.mpr ⟨mw_3_195, (List.forall_mem_cons.mpr ⟨mw_3_187, (List.forall_mem_cons.mpr ⟨mw_3_188, (List.forall_mem_cons.mpr ⟨mw_3_198, (List.forall_mem_cons.mpr ⟨mw_3_200, (List.forall_mem_cons.mpr ⟨mw_3_201, (List.forall_mem_cons.mpr ⟨mw_3_199, (List.forall_mem_cons.mpr ⟨mw_3_204, (List.forall_mem_cons.mpr ⟨mw_3_202, (List.forall_mem_nil _)⟩)⟩)⟩)⟩)⟩)⟩)⟩)⟩)⟩)⟩)⟩)⟩)⟩)⟩)⟩)⟩)⟩)⟩)⟩)⟩)⟩)⟩)⟩)⟩)
theorem mw_3_203 : wo_P (Cond.selects RX9 ⟨"BayMoorings$Boat", "addWish", "(I)V"⟩ yX2_addWish) := ⟨wi_3 203 rfl, good_of_word rfl⟩
set_option maxRecDepth 20000 in
theorem gwsX11_rather_r3 : ∀ w ∈ wsX11_rather_r3, wo_P w := (List.forall_mem_cons.mpr ⟨mw_3_203, (List.forall_mem_nil _)⟩)
set_option maxRecDepth 20000 in
theorem gwsX11_rather : ∀ w ∈ wsX11_rather, wo_P w := (List.forall_mem_cons.mpr ⟨mw_3_182, (wi_ap (wi_ap (wi_ap (wi_ap (wi_ap (wi_ap gwsX11_rather_r1 (wi_ap gwsX11_rather_r2 gwsX11_rather_r3)) gwsX110) gwsX40) gwsX80) gwsX90) gwsX00)⟩)
theorem mw_3_179 : wo_P (Cond.methodLink RL 89 yX11_rather) := ⟨wi_3 179 rfl, good_of_word rfl⟩
theorem mw_3_180 : wo_P (Cond.instanceMethod yX11_rather) := ⟨wi_3 180 rfl, good_of_word rfl⟩
theorem mw_3_181 : wo_P (Cond.selects RX11 yX11_rather yX11_rather) := ⟨wi_3 181 rfl, good_of_word rfl⟩
theorem gL_law_X11_rather : GoodIn lw_tbl (wsV RL 89 RX11 yX11_rather wsX11_rather) := wo_V mw_3_179 mw_3_180 mw_3_181 mw_1_1 gwsX11_rather
theorem mw_5_187 : wo_P (Cond.code yX12_rather cX12_rather 4 (some .int)) := ⟨wi_5 187 rfl, good_of_word rfl⟩
set_option maxRecDepth 20000 in
theorem gwsX12_rather_r1 : ∀ w ∈ wsX12_rather_r1, wo_P w := (List.forall_mem_cons.mpr ⟨mw_5_18, (List.forall_mem_cons.mpr ⟨mw_4_157, (List.forall_mem_cons.mpr ⟨mw_4_158, (List.forall_mem_cons.mpr ⟨mw_5_122, (List.forall_mem_cons.mpr ⟨mw_5_24, (List.forall_mem_cons.mpr ⟨mw_5_33, (List.forall_mem_cons.mpr ⟨mw_5_35, (List.forall_mem_cons.mpr ⟨mw_0_20, (List.forall_mem_cons.mpr ⟨mw_1_9, (List.forall_mem_cons.mpr ⟨mw_5_36, (List.forall_mem_cons.mpr ⟨mw_4_144, (List.forall_mem_cons.mpr ⟨mw_5_15, (List.forall_mem_cons.mpr ⟨mw_5_16, (List.forall_mem_cons.mpr ⟨mw_5_17, (List.forall_mem_cons.mpr ⟨mw_5_62, (List.forall_mem_cons.mpr ⟨mw_5_64, (List.forall_mem_cons.mpr ⟨mw_0_23, (List.forall_mem_cons.mpr ⟨mw_5_65, (List.forall_mem_cons.mpr ⟨mw_4_136, (List.forall_mem_cons.mpr ⟨mw_5_19, (List.forall_mem_cons.mpr ⟨mw_5_21, (List.forall_mem_cons.mpr ⟨mw_0_19, (List.forall_mem_cons.mpr ⟨mw_5_22, (List.forall_mem_cons.mpr ⟨mw_4_162, (List.forall_mem_nil _)⟩)⟩)⟩)⟩)⟩)⟩)⟩)⟩)⟩)⟩)⟩)⟩)⟩)⟩)⟩)⟩)⟩)⟩)⟩)⟩)⟩)⟩)⟩)⟩)
set_option maxRecDepth 20000 in
theorem gwsX12_rather_r2 : ∀ w ∈ wsX12_rather_r2, wo_P w := (List.forall_mem_cons.mpr ⟨mw_5_23, (List.forall_mem_nil _)⟩)
set_option maxRecDepth 20000 in
theorem gwsX12_rather : ∀ w ∈ wsX12_rather, wo_P w := (List.forall_mem_cons.mpr ⟨mw_5_187, (wi_ap (wi_ap gwsX12_rather_r1 gwsX12_rather_r2) gwsX120)⟩)
theorem mw_5_184 : wo_P (Cond.methodLink RL 92 yX12_rather) := ⟨wi_5 184 rfl, good_of_word rfl⟩
theorem mw_5_185 : wo_P (Cond.instanceMethod yX12_rather) := ⟨wi_5 185 rfl, good_of_word rfl⟩
theorem mw_5_186 : wo_P (Cond.selects RX12 yX12_rather yX12_rather) := ⟨wi_5 186 rfl, good_of_word rfl⟩
theorem gL_law_X12_rather : GoodIn lw_tbl (wsV RL 92 RX12 yX12_rather wsX12_rather) := wo_V mw_5_184 mw_5_185 mw_5_186 mw_1_9 gwsX12_rather
theorem mw_3_208 : wo_P (Cond.code yX11_content cX11_content 4 (some .int)) := ⟨wi_3 208 rfl, good_of_word rfl⟩
set_option maxRecDepth 20000 in
theorem gwsX11_content : ∀ w ∈ wsX11_content, wo_P w := (List.forall_mem_cons.mpr ⟨mw_3_208, (wi_ap (wi_ap (wi_ap (wi_ap (wi_ap (List.forall_mem_cons.mpr ⟨mw_1_185, (List.forall_mem_cons.mpr ⟨mw_2_86, (List.forall_mem_cons.mpr ⟨mw_2_132, (List.forall_mem_cons.mpr ⟨mw_2_133, (List.forall_mem_cons.mpr ⟨mw_2_134, (List.forall_mem_cons.mpr ⟨mw_1_2, (List.forall_mem_cons.mpr ⟨mw_2_135, (List.forall_mem_cons.mpr ⟨mw_1_69, (List.forall_mem_cons.mpr ⟨mw_1_55, (List.forall_mem_cons.mpr ⟨mw_1_221, (List.forall_mem_cons.mpr ⟨mw_1_1, (List.forall_mem_cons.mpr ⟨mw_1_222, (List.forall_mem_cons.mpr ⟨mw_1_223, (List.forall_mem_cons.mpr ⟨mw_1_225, (List.forall_mem_cons.mpr ⟨mw_0_0, (List.forall_mem_cons.mpr ⟨mw_1_226, (List.forall_mem_cons.mpr ⟨mw_1_190, (List.forall_mem_cons.mpr ⟨mw_1_227, (List.forall_mem_cons.mpr ⟨mw_1_220, (List.forall_mem_nil _)⟩)⟩)⟩)⟩)⟩)⟩)⟩)⟩)⟩)⟩)⟩)⟩)⟩)⟩)⟩)⟩)⟩)⟩)⟩) gwsX110) gwsX40) gwsX80) gwsX90) gwsX00)⟩)
theorem mw_3_205 : wo_P (Cond.methodLink RL 93 yX11_content) := ⟨wi_3 205 rfl, good_of_word rfl⟩
theorem mw_3_206 : wo_P (Cond.instanceMethod yX11_content) := ⟨wi_3 206 rfl, good_of_word rfl⟩
theorem mw_3_207 : wo_P (Cond.selects RX11 yX11_content yX11_content) := ⟨wi_3 207 rfl, good_of_word rfl⟩
theorem gL_law_X11_content : GoodIn lw_tbl (wsV RL 93 RX11 yX11_content wsX11_content) := wo_V mw_3_205 mw_3_206 mw_3_207 mw_1_1 gwsX11_content
theorem mw_5_191 : wo_P (Cond.code yX12_content cX12_content 3 (some .int)) := ⟨wi_5 191 rfl, good_of_word rfl⟩
set_option maxRecDepth 20000 in
theorem gwsX12_content : ∀ w ∈ wsX12_content, wo_P w := (List.forall_mem_cons.mpr ⟨mw_5_191, (wi_ap (List.forall_mem_cons.mpr ⟨mw_5_18, (List.forall_mem_cons.mpr ⟨mw_4_157, (List.forall_mem_cons.mpr ⟨mw_5_33, (List.forall_mem_cons.mpr ⟨mw_5_35, (List.forall_mem_cons.mpr ⟨mw_0_20, (List.forall_mem_cons.mpr ⟨mw_1_9, (List.forall_mem_cons.mpr ⟨mw_5_36, (List.forall_mem_cons.mpr ⟨mw_4_144, (List.forall_mem_cons.mpr ⟨mw_5_15, (List.forall_mem_cons.mpr ⟨mw_5_16, (List.forall_mem_cons.mpr ⟨mw_5_17, (List.forall_mem_cons.mpr ⟨mw_5_19, (List.forall_mem_cons.mpr ⟨mw_5_21, (List.forall_mem_cons.mpr ⟨mw_0_19, (List.forall_mem_cons.mpr ⟨mw_5_22, (List.forall_mem_cons.mpr ⟨mw_4_162, (List.forall_mem_cons.mpr ⟨mw_5_23, (List.forall_mem_nil _)⟩)⟩)⟩)⟩)⟩)⟩)⟩)⟩)⟩)⟩)⟩)⟩)⟩)⟩)⟩)⟩)⟩) gwsX120)⟩)
theorem mw_5_188 : wo_P (Cond.methodLink RL 96 yX12_content) := ⟨wi_5 188 rfl, good_of_word rfl⟩
theorem mw_5_189 : wo_P (Cond.instanceMethod yX12_content) := ⟨wi_5 189 rfl, good_of_word rfl⟩
theorem mw_5_190 : wo_P (Cond.selects RX12 yX12_content yX12_content) := ⟨wi_5 190 rfl, good_of_word rfl⟩
theorem gL_law_X12_content : GoodIn lw_tbl (wsV RL 96 RX12 yX12_content wsX12_content) := wo_V mw_5_188 mw_5_189 mw_5_190 mw_1_9 gwsX12_content
theorem mw_3_212 : wo_P (Cond.code yX11_ring cX11_ring 2 (some .int)) := ⟨wi_3 212 rfl, good_of_word rfl⟩
set_option maxRecDepth 20000 in
theorem gwsX11_ring_r1 : ∀ w ∈ wsX11_ring_r1, wo_P w := (List.forall_mem_cons.mpr ⟨mw_1_185, (List.forall_mem_cons.mpr ⟨mw_1_64, (List.forall_mem_cons.mpr ⟨mw_1_188, (List.forall_mem_cons.mpr ⟨mw_2_132, (List.forall_mem_cons.mpr ⟨mw_2_133, (List.forall_mem_cons.mpr ⟨mw_2_134, (List.forall_mem_cons.mpr ⟨mw_1_2, (List.forall_mem_cons.mpr ⟨mw_2_135, (List.forall_mem_cons.mpr ⟨mw_1_69, (List.forall_mem_cons.mpr ⟨mw_1_55, (List.forall_mem_cons.mpr ⟨mw_1_221, (List.forall_mem_cons.mpr ⟨mw_1_1, (List.forall_mem_cons.mpr ⟨mw_1_222, (List.forall_mem_cons.mpr ⟨mw_1_223, (List.forall_mem_cons.mpr ⟨mw_1_225, (List.forall_mem_cons.mpr ⟨mw_0_0, (List.forall_mem_cons.mpr ⟨mw_1_226, (List.forall_mem_cons.mpr ⟨mw_1_190, (List.forall_mem_cons.mpr ⟨mw_1_227, (List.forall_mem_cons.mpr ⟨mw_1_220, (List.forall_mem_cons.mpr ⟨mw_2_202, (List.forall_mem_cons.mpr ⟨mw_2_203, (List.forall_mem_cons.mpr ⟨mw_2_204, (List.forall_mem_cons.mpr ⟨mw_1_3, (List.forall_mem_nil _)⟩)⟩)⟩)⟩)⟩)⟩)⟩)⟩)⟩)⟩)⟩)⟩)⟩)⟩)⟩)⟩)⟩)⟩)⟩)⟩)⟩)⟩)⟩)⟩)
theorem mw_3_228 : wo_P (Cond.methodLink RX6 64 yX6_holderOfWish) := ⟨wi_3 228 rfl, good_of_word rfl⟩
theorem mw_3_227 : wo_P (Cond.methodLink RX6 60 yX0_boatAt) := ⟨wi_3 227 rfl, good_of_word rfl⟩
theorem mw_3_225 : wo_P (Cond.code yX6_isLeft cX6_isLeft 2 (some .boolean)) := ⟨wi_3 225 rfl, good_of_word rfl⟩
theorem mw_0_12 : wo_P (Cond.selects RX6 yX6_isLeft yX6_isLeft) := ⟨wi_0 12 rfl, good_of_word rfl⟩
theorem mw_3_224 : wo_P (Cond.instanceMethod yX6_isLeft) := ⟨wi_3 224 rfl, good_of_word rfl⟩
theorem mw_3_222 : wo_P (Cond.methodLink RX6 56 yX6_isLeft) := ⟨wi_3 222 rfl, good_of_word rfl⟩
theorem mw_3_221 : wo_P (Cond.code yX6_pointAll cX6_pointAll 3 none) := ⟨wi_3 221 rfl, good_of_word rfl⟩
theorem mw_0_11 : wo_P (Cond.selects RX6 yX6_pointAll yX6_pointAll) := ⟨wi_0 11 rfl, good_of_word rfl⟩
theorem mw_3_220 : wo_P (Cond.instanceMethod yX6_pointAll) := ⟨wi_3 220 rfl, good_of_word rfl⟩
theorem mw_3_218 : wo_P (Cond.methodLink RX6 45 yX6_pointAll) := ⟨wi_3 218 rfl, good_of_word rfl⟩
theorem mw_3_217 : wo_P (Cond.methodLink RX6 39 yX1_buoyOf) := ⟨wi_3 217 rfl, good_of_word rfl⟩
theorem mw_1_61 : wo_P (Cond.fieldLink RX6 35 "BayMoorings$Bay" "berths" "LBayMoorings$Berths;") := ⟨wi_1 61 rfl, good_of_word rfl⟩
theorem mw_1_72 : wo_P (Cond.fieldLink RX6 30 "BayMoorings$Bay" "boatCount" "I") := ⟨wi_1 72 rfl, good_of_word rfl⟩
theorem mw_3_216 : wo_P (Cond.code yX6_draw cX6_draw 2 none) := ⟨wi_3 216 rfl, good_of_word rfl⟩
theorem mw_3_215 : wo_P (Cond.selects RX6 yX6_draw yX6_draw) := ⟨wi_3 215 rfl, good_of_word rfl⟩
theorem mw_3_214 : wo_P (Cond.instanceMethod yX6_draw) := ⟨wi_3 214 rfl, good_of_word rfl⟩
theorem mw_3_213 : wo_P (Cond.methodLink RX11 237 yX6_draw) := ⟨wi_3 213 rfl, good_of_word rfl⟩
set_option maxRecDepth 20000 in
theorem gwsX11_ring_r2 : ∀ w ∈ wsX11_ring_r2, wo_P w := (List.forall_mem_cons.mpr ⟨mw_2_205, (List.forall_mem_cons.mpr ⟨mw_1_45, (List.forall_mem_cons.mpr ⟨mw_3_213, (List.forall_mem_cons.mpr ⟨mw_3_214, (List.forall_mem_cons.mpr ⟨mw_3_215, (List.forall_mem_cons.mpr ⟨mw_1_7, (List.forall_mem_cons.mpr ⟨mw_3_216, (List.forall_mem_cons.mpr ⟨mw_1_155, (List.forall_mem_cons.mpr ⟨mw_1_152, (List.forall_mem_cons.mpr ⟨mw_1_72, (List.forall_mem_cons.mpr ⟨mw_1_153, (List.forall_mem_cons.mpr ⟨mw_1_61, (List.forall_mem_cons.mpr ⟨mw_3_217, (List.forall_mem_cons.mpr ⟨mw_3_218, (List.forall_mem_cons.mpr ⟨mw_3_220, (List.forall_mem_cons.mpr ⟨mw_0_11, (List.forall_mem_cons.mpr ⟨mw_3_221, (List.forall_mem_cons.mpr ⟨mw_1_154, (List.forall_mem_cons.mpr ⟨mw_3_222, (List.forall_mem_cons.mpr ⟨mw_3_224, (List.forall_mem_cons.mpr ⟨mw_0_12, (List.forall_mem_cons.mpr ⟨mw_3_225, (List.forall_mem_cons.mpr ⟨mw_3_227, (List.forall_mem_cons.mpr ⟨mw_3_228, (List.forall_mem_nil _)⟩)⟩)⟩)⟩)⟩)⟩)⟩)⟩)⟩)⟩)⟩)⟩)⟩)⟩)⟩)⟩)⟩)⟩)⟩)⟩)⟩)⟩)⟩)⟩)
theorem mw_3_234 : wo_P (Cond.methodLink RX6 85 yX1_boatOf) := ⟨wi_3 234 rfl, good_of_word rfl⟩
theorem mw_3_233 : wo_P (Cond.methodLink RX6 76 yX0_buoyAt) := ⟨wi_3 233 rfl, good_of_word rfl⟩
theorem mw_3_232 : wo_P (Cond.methodLink RX6 73 ⟨"BayMoorings$Boat", "wishAt", "(I)I"⟩) := ⟨wi_3 232 rfl, good_of_word rfl⟩
theorem mw_2_70 : wo_P (Cond.fieldLink RX6 92 "BayMoorings$Boat" "number" "I") := ⟨wi_2 70 rfl, good_of_word rfl⟩
theorem mw_1_239 : wo_P (Cond.fieldLink RX6 80 "BayMoorings$Buoy" "number" "I") := ⟨wi_1 239 rfl, good_of_word rfl⟩
theorem mw_2_84 : wo_P (Cond.fieldLink RX6 68 "BayMoorings$Boat" "wishCount" "I") := ⟨wi_2 84 rfl, good_of_word rfl⟩
theorem mw_3_231 : wo_P (Cond.code yX6_holderOfWish cX6_holderOfWish 4 (some .int)) := ⟨wi_3 231 rfl, good_of_word rfl⟩
theorem mw_0_13 : wo_P (Cond.selects RX6 yX6_holderOfWish yX6_holderOfWish) := ⟨wi_0 13 rfl, good_of_word rfl⟩
theorem mw_3_230 : wo_P (Cond.instanceMethod yX6_holderOfWish) := ⟨wi_3 230 rfl, good_of_word rfl⟩
set_option maxRecDepth 20000 in
theorem gwsX11_ring_r3 : ∀ w ∈ wsX11_ring_r3, wo_P w := (List.forall_mem_cons.mpr ⟨mw_3_230, (List.forall_mem_cons.mpr ⟨mw_0_13, (List.forall_mem_cons.mpr ⟨mw_3_231, (List.forall_mem_cons.mpr ⟨mw_2_84, (List.forall_mem_cons.mpr ⟨mw_1_239, (List.forall_mem_cons.mpr ⟨mw_2_70, (List.forall_mem_cons.mpr ⟨mw_3_232, (List.forall_mem_cons.mpr ⟨mw_3_192, (List.forall_mem_cons.mpr ⟨mw_3_193, (List.forall_mem_cons.mpr ⟨mw_3_191, (List.forall_mem_cons.mpr ⟨mw_1_11, (List.forall_mem_cons.mpr ⟨mw_3_196, (List.forall_mem_cons.mpr ⟨mw_2_83, (List.forall_mem_cons.mpr ⟨mw_2_82, (List.forall_mem_cons.mpr ⟨mw_3_194, (List.forall_mem_cons.mpr ⟨mw_3_195, (List.forall_mem_cons.mpr ⟨mw_3_233, (List.forall_mem_cons.mpr ⟨mw_2_183, (List.forall_mem_cons.mpr ⟨mw_2_184, (List.forall_mem_cons.mpr ⟨mw_2_185, (List.forall_mem_cons.mpr ⟨mw_1_65, (List.forall_mem_cons.mpr ⟨mw_1_54, (List.forall_mem_cons.mpr ⟨mw_3_234, (List.forall_mem_cons.mpr ⟨mw_2_217, (List.forall_mem_nil _)⟩)⟩)⟩)⟩)⟩)⟩)⟩)⟩)⟩)⟩)⟩)⟩)⟩)⟩)⟩)⟩)⟩)⟩)⟩)⟩)⟩)⟩)⟩)⟩)
theorem mw_3_235 : wo_P (Cond.methodLink RX6 88 yX0_suits) := ⟨wi_3 235 rfl, good_of_word rfl⟩
set_option maxRecDepth 20000 in
theorem gwsX11_ring_r4 : ∀ w ∈ wsX11_ring_r4, wo_P w := (List.forall_mem_cons.mpr ⟨mw_2_218, (List.forall_mem_cons.mpr ⟨mw_2_219, (List.forall_mem_cons.mpr ⟨mw_1_46, (List.forall_mem_cons.mpr ⟨mw_3_235, (List.forall_mem_cons.mpr ⟨mw_3_6, (List.forall_mem_cons.mpr ⟨mw_3_7, (List.forall_mem_cons.mpr ⟨mw_3_8, (List.forall_mem_cons.mpr ⟨mw_2_77, (List.forall_mem_cons.mpr ⟨mw_2_12, (List.forall_mem_cons.mpr ⟨mw_2_9, (List.forall_mem_cons.mpr ⟨mw_1_76, (List.forall_mem_cons.mpr ⟨mw_3_9, (List.forall_mem_cons.mpr ⟨mw_3_11, (List.forall_mem_cons.mpr ⟨mw_3_10, (List.forall_mem_cons.mpr ⟨mw_3_12, (List.forall_mem_cons.mpr ⟨mw_3_13, (List.forall_mem_cons.mpr ⟨mw_1_13, (List.forall_mem_cons.mpr ⟨mw_3_14, (List.forall_mem_cons.mpr ⟨mw_2_79, (List.forall_mem_cons.mpr ⟨mw_2_80, (List.forall_mem_cons.mpr ⟨mw_3_17, (List.forall_mem_cons.mpr ⟨mw_3_15, (List.forall_mem_cons.mpr ⟨mw_3_10, (List.forall_mem_cons.mpr ⟨mw_2_78, (List.forall_mem_nil _)⟩)⟩)⟩)⟩)⟩)⟩)⟩)⟩)⟩)⟩)⟩)⟩)⟩)⟩)⟩)⟩)⟩)⟩)⟩)⟩)⟩)⟩)⟩)⟩)
theorem mw_4_15 : wo_P (Cond.code yX6_buoyFor cX6_buoyFor 2 (some .int)) := ⟨wi_4 15 rfl, good_of_word rfl⟩
theorem mw_4_14 : wo_P (Cond.selects RX6 yX6_buoyFor yX6_buoyFor) := ⟨wi_4 14 rfl, good_of_word rfl⟩
theorem mw_4_13 : wo_P (Cond.instanceMethod yX6_buoyFor) := ⟨wi_4 13 rfl, good_of_word rfl⟩
theorem mw_4_12 : wo_P (Cond.methodLink RX11 240 yX6_buoyFor) := ⟨wi_4 12 rfl, good_of_word rfl⟩
theorem mw_4_11 : wo_P (Cond.code yX6_takeRing cX6_takeRing 4 none) := ⟨wi_4 11 rfl, good_of_word rfl⟩
theorem mw_0_17 : wo_P (Cond.selects RX6 yX6_takeRing yX6_takeRing) := ⟨wi_0 17 rfl, good_of_word rfl⟩
theorem mw_4_10 : wo_P (Cond.instanceMethod yX6_takeRing) := ⟨wi_4 10 rfl, good_of_word rfl⟩
theorem mw_4_8 : wo_P (Cond.methodLink RX6 52 yX6_takeRing) := ⟨wi_4 8 rfl, good_of_word rfl⟩
theorem mw_4_7 : wo_P (Cond.code yX6_pointedAtBy cX6_pointedAtBy 2 (some .int)) := ⟨wi_4 7 rfl, good_of_word rfl⟩
theorem mw_0_16 : wo_P (Cond.selects RX6 yX6_pointedAtBy yX6_pointedAtBy) := ⟨wi_0 16 rfl, good_of_word rfl⟩
theorem mw_4_6 : wo_P (Cond.instanceMethod yX6_pointedAtBy) := ⟨wi_4 6 rfl, good_of_word rfl⟩
theorem mw_4_4 : wo_P (Cond.methodLink RX6 96 yX6_pointedAtBy) := ⟨wi_4 4 rfl, good_of_word rfl⟩
theorem mw_4_3 : wo_P (Cond.code yX6_comesRound cX6_comesRound 4 (some .boolean)) := ⟨wi_4 3 rfl, good_of_word rfl⟩
theorem mw_0_15 : wo_P (Cond.selects RX6 yX6_comesRound yX6_comesRound) := ⟨wi_0 15 rfl, good_of_word rfl⟩
theorem mw_4_2 : wo_P (Cond.instanceMethod yX6_comesRound) := ⟨wi_4 2 rfl, good_of_word rfl⟩
theorem mw_4_0 : wo_P (Cond.methodLink RX6 93 yX6_comesRound) := ⟨wi_4 0 rfl, good_of_word rfl⟩
theorem mw_3_239 : wo_P (Cond.code yX6_leastInRing cX6_leastInRing 2 (some .int)) := ⟨wi_3 239 rfl, good_of_word rfl⟩
theorem mw_0_14 : wo_P (Cond.selects RX6 yX6_leastInRing yX6_leastInRing) := ⟨wi_0 14 rfl, good_of_word rfl⟩
theorem mw_3_238 : wo_P (Cond.instanceMethod yX6_leastInRing) := ⟨wi_3 238 rfl, good_of_word rfl⟩
theorem mw_3_236 : wo_P (Cond.methodLink RX6 48 yX6_leastInRing) := ⟨wi_3 236 rfl, good_of_word rfl⟩
set_option maxRecDepth 20000 in
theorem gwsX11_ring_r5 : ∀ w ∈ wsX11_ring_r5, wo_P w := (List.forall_mem_cons.mpr ⟨mw_3_16, (List.forall_mem_cons.mpr ⟨mw_3_236, (List.forall_mem_cons.mpr ⟨mw_3_238, (List.forall_mem_cons.mpr ⟨mw_0_14, (List.forall_mem_cons.mpr ⟨mw_3_239, (List.forall_mem_cons.mpr ⟨mw_4_0, (List.forall_mem_cons.mpr ⟨mw_4_2, (List.forall_mem_cons.mpr ⟨mw_0_15, (List.forall_mem_cons.mpr ⟨mw_4_3, (List.forall_mem_cons.mpr ⟨mw_4_4, (List.forall_mem_cons.mpr ⟨mw_4_6, (List.forall_mem_cons.mpr ⟨mw_0_16, (List.forall_mem_cons.mpr ⟨mw_4_7, (List.forall_mem_cons.mpr ⟨mw_4_8, (List.forall_mem_cons.mpr ⟨mw_4_10, (List.forall_mem_cons.mpr ⟨mw_0_17, (List.forall_mem_cons.mpr ⟨mw_4_11, (List.forall_mem_cons.mpr ⟨mw_4_12, (List.forall_mem_cons.mpr ⟨mw_4_13, (List.forall_mem_cons.mpr ⟨mw_4_14, (List.forall_mem_cons.mpr ⟨mw_4_15, (List.forall_mem_nil _)⟩)⟩)⟩)⟩)⟩)⟩)⟩)⟩)⟩)⟩)⟩)⟩)⟩)⟩)⟩)⟩)⟩)⟩)⟩)⟩)⟩)
set_option maxRecDepth 20000 in
theorem gwsX11_ring : ∀ w ∈ wsX11_ring, wo_P w := (List.forall_mem_cons.mpr ⟨mw_3_212, (wi_ap (wi_ap (wi_ap (wi_ap (wi_ap (wi_ap (wi_ap (wi_ap (wi_ap gwsX11_ring_r1 (wi_ap gwsX11_ring_r2 (wi_ap gwsX11_ring_r3 (wi_ap gwsX11_ring_r4 gwsX11_ring_r5)))) gwsX110) gwsX00) gwsX10) gwsX60) gwsX40) gwsX80) gwsX90) gwsX30)⟩)
theorem mw_3_209 : wo_P (Cond.methodLink RL 97 yX11_ring) := ⟨wi_3 209 rfl, good_of_word rfl⟩
theorem mw_3_210 : wo_P (Cond.instanceMethod yX11_ring) := ⟨wi_3 210 rfl, good_of_word rfl⟩
theorem mw_3_211 : wo_P (Cond.selects RX11 yX11_ring yX11_ring) := ⟨wi_3 211 rfl, good_of_word rfl⟩
theorem gL_law_X11_ring : GoodIn lw_tbl (wsV RL 97 RX11 yX11_ring wsX11_ring) := wo_V mw_3_209 mw_3_210 mw_3_211 mw_1_1 gwsX11_ring
theorem mw_5_195 : wo_P (Cond.code yX12_ring cX12_ring 2 (some .int)) := ⟨wi_5 195 rfl, good_of_word rfl⟩
theorem mw_5_199 : wo_P (Cond.code yX12_findRings cX12_findRings 5 none) := ⟨wi_5 199 rfl, good_of_word rfl⟩
theorem mw_0_40 : wo_P (Cond.selects RX12 yX12_findRings yX12_findRings) := ⟨wi_0 40 rfl, good_of_word rfl⟩
theorem mw_5_198 : wo_P (Cond.instanceMethod yX12_findRings) := ⟨wi_5 198 rfl, good_of_word rfl⟩
theorem mw_5_196 : wo_P (Cond.methodLink RX12 227 yX12_findRings) := ⟨wi_5 196 rfl, good_of_word rfl⟩
set_option maxRecDepth 20000 in
theorem gwsX12_ring_r1 : ∀ w ∈ wsX12_ring_r1, wo_P w := (List.forall_mem_cons.mpr ⟨mw_5_18, (List.forall_mem_cons.mpr ⟨mw_4_148, (List.forall_mem_cons.mpr ⟨mw_5_122, (List.forall_mem_cons.mpr ⟨mw_4_170, (List.forall_mem_cons.mpr ⟨mw_5_33, (List.forall_mem_cons.mpr ⟨mw_5_35, (List.forall_mem_cons.mpr ⟨mw_0_20, (List.forall_mem_cons.mpr ⟨mw_1_9, (List.forall_mem_cons.mpr ⟨mw_5_36, (List.forall_mem_cons.mpr ⟨mw_4_144, (List.forall_mem_cons.mpr ⟨mw_5_15, (List.forall_mem_cons.mpr ⟨mw_5_16, (List.forall_mem_cons.mpr ⟨mw_5_17, (List.forall_mem_cons.mpr ⟨mw_5_19, (List.forall_mem_cons.mpr ⟨mw_5_21, (List.forall_mem_cons.mpr ⟨mw_0_19, (List.forall_mem_cons.mpr ⟨mw_5_22, (List.forall_mem_cons.mpr ⟨mw_4_162, (List.forall_mem_cons.mpr ⟨mw_5_23, (List.forall_mem_cons.mpr ⟨mw_5_196, (List.forall_mem_cons.mpr ⟨mw_5_198, (List.forall_mem_cons.mpr ⟨mw_0_40, (List.forall_mem_cons.mpr ⟨mw_5_199, (List.forall_mem_cons.mpr ⟨mw_4_171, (List.forall_mem_nil _)⟩)⟩)⟩)⟩)⟩)⟩)⟩)⟩)⟩)⟩)⟩)⟩)⟩)⟩)⟩)⟩)⟩)⟩)⟩)⟩)⟩)⟩)⟩)⟩)
theorem mw_5_207 : wo_P (Cond.code yX12_pointed cX12_pointed 4 (some .int)) := ⟨wi_5 207 rfl, good_of_word rfl⟩
theorem mw_0_42 : wo_P (Cond.selects RX12 yX12_pointed yX12_pointed) := ⟨wi_0 42 rfl, good_of_word rfl⟩
theorem mw_5_206 : wo_P (Cond.instanceMethod yX12_pointed) := ⟨wi_5 206 rfl, good_of_word rfl⟩
theorem mw_5_204 : wo_P (Cond.methodLink RX12 221 yX12_pointed) := ⟨wi_5 204 rfl, good_of_word rfl⟩
theorem mw_5_203 : wo_P (Cond.code yX12_isRound cX12_isRound 4 (some .boolean)) := ⟨wi_5 203 rfl, good_of_word rfl⟩
theorem mw_0_41 : wo_P (Cond.selects RX12 yX12_isRound yX12_isRound) := ⟨wi_0 41 rfl, good_of_word rfl⟩
theorem mw_5_202 : wo_P (Cond.instanceMethod yX12_isRound) := ⟨wi_5 202 rfl, good_of_word rfl⟩
theorem mw_5_200 : wo_P (Cond.methodLink RX12 224 yX12_isRound) := ⟨wi_5 200 rfl, good_of_word rfl⟩
set_option maxRecDepth 20000 in
theorem gwsX12_ring_r2 : ∀ w ∈ wsX12_ring_r2, wo_P w := (List.forall_mem_cons.mpr ⟨mw_4_172, (List.forall_mem_cons.mpr ⟨mw_5_200, (List.forall_mem_cons.mpr ⟨mw_5_202, (List.forall_mem_cons.mpr ⟨mw_0_41, (List.forall_mem_cons.mpr ⟨mw_5_203, (List.forall_mem_cons.mpr ⟨mw_5_204, (List.forall_mem_cons.mpr ⟨mw_5_206, (List.forall_mem_cons.mpr ⟨mw_0_42, (List.forall_mem_cons.mpr ⟨mw_5_207, (List.forall_mem_cons.mpr ⟨mw_4_157, (List.forall_mem_cons.mpr ⟨mw_4_158, (List.forall_mem_cons.mpr ⟨mw_4_143, (List.forall_mem_cons.mpr ⟨mw_5_89, (List.forall_mem_cons.mpr ⟨mw_5_91, (List.forall_mem_cons.mpr ⟨mw_0_27, (List.forall_mem_cons.mpr ⟨mw_5_92, (List.forall_mem_cons.mpr ⟨mw_4_145, (List.forall_mem_cons.mpr ⟨mw_4_147, (List.forall_mem_cons.mpr ⟨mw_4_146, (List.forall_mem_cons.mpr ⟨mw_4_140, (List.forall_mem_cons.mpr ⟨mw_4_139, (List.forall_mem_cons.mpr ⟨mw_4_149, (List.forall_mem_nil _)⟩)⟩)⟩)⟩)⟩)⟩)⟩)⟩)⟩)⟩)⟩)⟩)⟩)⟩)⟩)⟩)⟩)⟩)⟩)⟩)⟩)⟩)
set_option maxRecDepth 20000 in
theorem gwsX12_ring : ∀ w ∈ wsX12_ring, wo_P w := (List.forall_mem_cons.mpr ⟨mw_5_195, (wi_ap (wi_ap gwsX12_ring_r1 gwsX12_ring_r2) gwsX120)⟩)
theorem mw_5_192 : wo_P (Cond.methodLink RL 100 yX12_ring) := ⟨wi_5 192 rfl, good_of_word rfl⟩
theorem mw_5_193 : wo_P (Cond.instanceMethod yX12_ring) := ⟨wi_5 193 rfl, good_of_word rfl⟩
theorem mw_5_194 : wo_P (Cond.selects RX12 yX12_ring yX12_ring) := ⟨wi_5 194 rfl, good_of_word rfl⟩
theorem gL_law_X12_ring : GoodIn lw_tbl (wsV RL 100 RX12 yX12_ring wsX12_ring) := wo_V mw_5_192 mw_5_193 mw_5_194 mw_1_9 gwsX12_ring
theorem mw_4_19 : wo_P (Cond.code yX11_swap cX11_swap 3 (some .int)) := ⟨wi_4 19 rfl, good_of_word rfl⟩
set_option maxRecDepth 20000 in
theorem gwsX11_swap_r1 : ∀ w ∈ wsX11_swap_r1, wo_P w := (List.forall_mem_cons.mpr ⟨mw_1_188, (List.forall_mem_cons.mpr ⟨mw_1_185, (List.forall_mem_cons.mpr ⟨mw_1_73, (List.forall_mem_cons.mpr ⟨mw_1_64, (List.forall_mem_cons.mpr ⟨mw_3_213, (List.forall_mem_cons.mpr ⟨mw_3_214, (List.forall_mem_cons.mpr ⟨mw_3_215, (List.forall_mem_cons.mpr ⟨mw_1_7, (List.forall_mem_cons.mpr ⟨mw_3_216, (List.forall_mem_cons.mpr ⟨mw_1_155, (List.forall_mem_cons.mpr ⟨mw_1_152, (List.forall_mem_cons.mpr ⟨mw_1_72, (List.forall_mem_cons.mpr ⟨mw_1_153, (List.forall_mem_cons.mpr ⟨mw_1_61, (List.forall_mem_cons.mpr ⟨mw_3_217, (List.forall_mem_cons.mpr ⟨mw_2_203, (List.forall_mem_cons.mpr ⟨mw_2_204, (List.forall_mem_cons.mpr ⟨mw_1_3, (List.forall_mem_cons.mpr ⟨mw_2_205, (List.forall_mem_cons.mpr ⟨mw_1_45, (List.forall_mem_cons.mpr ⟨mw_1_221, (List.forall_mem_cons.mpr ⟨mw_1_1, (List.forall_mem_cons.mpr ⟨mw_1_222, (List.forall_mem_cons.mpr ⟨mw_3_218, (List.forall_mem_nil _)⟩)⟩)⟩)⟩)⟩)⟩)⟩)⟩)⟩)⟩)⟩)⟩)⟩)⟩)⟩)⟩)⟩)⟩)⟩)⟩)⟩)⟩)⟩)⟩)
set_option maxRecDepth 20000 in
theorem gwsX11_swap_r2 : ∀ w ∈ wsX11_swap_r2, wo_P w := (List.forall_mem_cons.mpr ⟨mw_3_220, (List.forall_mem_cons.mpr ⟨mw_0_11, (List.forall_mem_cons.mpr ⟨mw_3_221, (List.forall_mem_cons.mpr ⟨mw_1_154, (List.forall_mem_cons.mpr ⟨mw_3_222, (List.forall_mem_cons.mpr ⟨mw_3_224, (List.forall_mem_cons.mpr ⟨mw_0_12, (List.forall_mem_cons.mpr ⟨mw_3_225, (List.forall_mem_cons.mpr ⟨mw_3_227, (List.forall_mem_cons.mpr ⟨mw_2_133, (List.forall_mem_cons.mpr ⟨mw_2_134, (List.forall_mem_cons.mpr ⟨mw_1_2, (List.forall_mem_cons.mpr ⟨mw_2_135, (List.forall_mem_cons.mpr ⟨mw_1_69, (List.forall_mem_cons.mpr ⟨mw_1_55, (List.forall_mem_cons.mpr ⟨mw_3_228, (List.forall_mem_cons.mpr ⟨mw_3_230, (List.forall_mem_cons.mpr ⟨mw_0_13, (List.forall_mem_cons.mpr ⟨mw_3_231, (List.forall_mem_cons.mpr ⟨mw_2_84, (List.forall_mem_cons.mpr ⟨mw_1_239, (List.forall_mem_cons.mpr ⟨mw_2_70, (List.forall_mem_cons.mpr ⟨mw_3_232, (List.forall_mem_cons.mpr ⟨mw_3_192, (List.forall_mem_nil _)⟩)⟩)⟩)⟩)⟩)⟩)⟩)⟩)⟩)⟩)⟩)⟩)⟩)⟩)⟩)⟩)⟩)⟩)⟩)⟩)⟩)⟩)⟩)⟩)
set_option maxRecDepth 20000 in
theorem gwsX11_swap_r3 : ∀ w ∈ wsX11_swap_r3, wo_P w := (List.forall_mem_cons.mpr ⟨mw_3_193, (List.forall_mem_cons.mpr ⟨mw_3_191, (List.forall_mem_cons.mpr ⟨mw_1_11, (List.forall_mem_cons.mpr ⟨mw_3_196, (List.forall_mem_cons.mpr ⟨mw_2_83, (List.forall_mem_cons.mpr ⟨mw_2_82, (List.forall_mem_cons.mpr ⟨mw_3_194, (List.forall_mem_cons.mpr ⟨mw_3_195, (List.forall_mem_cons.mpr ⟨mw_3_233, (List.forall_mem_cons.mpr ⟨mw_2_183, (List.forall_mem_cons.mpr ⟨mw_2_184, (List.forall_mem_cons.mpr ⟨mw_2_185, (List.forall_mem_cons.mpr ⟨mw_1_65, (List.forall_mem_cons.mpr ⟨mw_1_54, (List.forall_mem_cons.mpr ⟨mw_3_234, (List.forall_mem_cons.mpr ⟨mw_2_217, (List.forall_mem_cons.mpr ⟨mw_2_218, (List.forall_mem_cons.mpr ⟨mw_2_219, (List.forall_mem_cons.mpr ⟨mw_1_46, (List.forall_mem_cons.mpr ⟨mw_3_235, (List.forall_mem_cons.mpr ⟨mw_3_6, (List.forall_mem_cons.mpr ⟨mw_3_7, (List.forall_mem_cons.mpr ⟨mw_3_8, (List.forall_mem_cons.mpr ⟨mw_2_77, (List.forall_mem_nil _)⟩)⟩)⟩)⟩)⟩)⟩)⟩)⟩)⟩)⟩)⟩)⟩)⟩)⟩)⟩)⟩)⟩)⟩)⟩)⟩)⟩)⟩)⟩)⟩)
set_option maxRecDepth 20000 in
theorem gwsX11_swap_r4 : ∀ w ∈ wsX11_swap_r4, wo_P w := (List.forall_mem_cons.mpr ⟨mw_2_12, (List.forall_mem_cons.mpr ⟨mw_2_9, (List.forall_mem_cons.mpr ⟨mw_1_76, (List.forall_mem_cons.mpr ⟨mw_3_9, (List.forall_mem_cons.mpr ⟨mw_3_11, (List.forall_mem_cons.mpr ⟨mw_3_10, (List.forall_mem_cons.mpr ⟨mw_3_12, (List.forall_mem_cons.mpr ⟨mw_3_13, (List.forall_mem_cons.mpr ⟨mw_1_13, (List.forall_mem_cons.mpr ⟨mw_3_14, (List.forall_mem_cons.mpr ⟨mw_2_79, (List.forall_mem_cons.mpr ⟨mw_2_80, (List.forall_mem_cons.mpr ⟨mw_3_17, (List.forall_mem_cons.mpr ⟨mw_3_15, (List.forall_mem_cons.mpr ⟨mw_3_10, (List.forall_mem_cons.mpr ⟨mw_2_78, (List.forall_mem_cons.mpr ⟨mw_3_16, (List.forall_mem_cons.mpr ⟨mw_3_236, (List.forall_mem_cons.mpr ⟨mw_3_238, (List.forall_mem_cons.mpr ⟨mw_0_14, (List.forall_mem_cons.mpr ⟨mw_3_239, (List.forall_mem_cons.mpr ⟨mw_4_0, (List.forall_mem_cons.mpr ⟨mw_4_2, (List.forall_mem_cons.mpr ⟨mw_0_15, (List.forall_mem_nil _)⟩)⟩)⟩)⟩)⟩)⟩)⟩)⟩)⟩)⟩)⟩)⟩)⟩)⟩)⟩)⟩)⟩)⟩)⟩)⟩)⟩)⟩)⟩)⟩)
theorem mw_2_85 : wo_P (Cond.fieldLink RX0 165 "BayMoorings$Boat" "wishCount" "I") := ⟨wi_2 85 rfl, good_of_word rfl⟩
theorem mw_4_23 : wo_P (Cond.code yX0_dropWishes cX0_dropWishes 3 none) := ⟨wi_4 23 rfl, good_of_word rfl⟩
theorem mw_4_22 : wo_P (Cond.selects RX0 yX0_dropWishes yX0_dropWishes) := ⟨wi_4 22 rfl, good_of_word rfl⟩
theorem mw_4_21 : wo_P (Cond.instanceMethod yX0_dropWishes) := ⟨wi_4 21 rfl, good_of_word rfl⟩
theorem mw_4_20 : wo_P (Cond.methodLink RX11 241 yX0_dropWishes) := ⟨wi_4 20 rfl, good_of_word rfl⟩
set_option maxRecDepth 20000 in
theorem gwsX11_swap_r5 : ∀ w ∈ wsX11_swap_r5, wo_P w := (List.forall_mem_cons.mpr ⟨mw_4_3, (List.forall_mem_cons.mpr ⟨mw_4_4, (List.forall_mem_cons.mpr ⟨mw_4_6, (List.forall_mem_cons.mpr ⟨mw_0_16, (List.forall_mem_cons.mpr ⟨mw_4_7, (List.forall_mem_cons.mpr ⟨mw_4_8, (List.forall_mem_cons.mpr ⟨mw_4_10, (List.forall_mem_cons.mpr ⟨mw_0_17, (List.forall_mem_cons.mpr ⟨mw_4_11, (List.forall_mem_cons.mpr ⟨mw_4_12, (List.forall_mem_cons.mpr ⟨mw_4_13, (List.forall_mem_cons.mpr ⟨mw_4_14, (List.forall_mem_cons.mpr ⟨mw_4_15, (List.forall_mem_cons.mpr ⟨mw_2_202, (List.forall_mem_cons.mpr ⟨mw_3_62, (List.forall_mem_cons.mpr ⟨mw_3_63, (List.forall_mem_cons.mpr ⟨mw_3_64, (List.forall_mem_cons.mpr ⟨mw_3_65, (List.forall_mem_cons.mpr ⟨mw_4_20, (List.forall_mem_cons.mpr ⟨mw_4_21, (List.forall_mem_cons.mpr ⟨mw_4_22, (List.forall_mem_cons.mpr ⟨mw_4_23, (List.forall_mem_cons.mpr ⟨mw_2_85, (List.forall_mem_cons.mpr ⟨mw_3_59, (List.forall_mem_nil _)⟩)⟩)⟩)⟩)⟩)⟩)⟩)⟩)⟩)⟩)⟩)⟩)⟩)⟩)⟩)⟩)⟩)⟩)⟩)⟩)⟩)⟩)⟩)⟩)
set_option maxRecDepth 20000 in
theorem gwsX11_swap : ∀ w ∈ wsX11_swap, wo_P w := (List.forall_mem_cons.mpr ⟨mw_4_19, (wi_ap (wi_ap (wi_ap (wi_ap (wi_ap (wi_ap (wi_ap (wi_ap (wi_ap gwsX11_swap_r1 (wi_ap gwsX11_swap_r2 (wi_ap gwsX11_swap_r3 (wi_ap gwsX11_swap_r4 gwsX11_swap_r5)))) gwsX110) gwsX00) gwsX60) gwsX10) gwsX40) gwsX80) gwsX90) gwsX30)⟩)
theorem mw_4_16 : wo_P (Cond.methodLink RL 101 yX11_swap) := ⟨wi_4 16 rfl, good_of_word rfl⟩
theorem mw_4_17 : wo_P (Cond.instanceMethod yX11_swap) := ⟨wi_4 17 rfl, good_of_word rfl⟩
theorem mw_4_18 : wo_P (Cond.selects RX11 yX11_swap yX11_swap) := ⟨wi_4 18 rfl, good_of_word rfl⟩
theorem gL_law_X11_swap : GoodIn lw_tbl (wsV RL 101 RX11 yX11_swap wsX11_swap) := wo_V mw_4_16 mw_4_17 mw_4_18 mw_1_1 gwsX11_swap
theorem mw_5_211 : wo_P (Cond.code yX12_swap cX12_swap 3 (some .int)) := ⟨wi_5 211 rfl, good_of_word rfl⟩
set_option maxRecDepth 20000 in
theorem gwsX12_swap_r1 : ∀ w ∈ wsX12_swap_r1, wo_P w := (List.forall_mem_cons.mpr ⟨mw_4_144, (List.forall_mem_cons.mpr ⟨mw_4_170, (List.forall_mem_cons.mpr ⟨mw_4_148, (List.forall_mem_cons.mpr ⟨mw_4_157, (List.forall_mem_cons.mpr ⟨mw_5_196, (List.forall_mem_cons.mpr ⟨mw_5_198, (List.forall_mem_cons.mpr ⟨mw_0_40, (List.forall_mem_cons.mpr ⟨mw_1_9, (List.forall_mem_cons.mpr ⟨mw_5_199, (List.forall_mem_cons.mpr ⟨mw_4_171, (List.forall_mem_cons.mpr ⟨mw_4_172, (List.forall_mem_cons.mpr ⟨mw_5_200, (List.forall_mem_cons.mpr ⟨mw_5_202, (List.forall_mem_cons.mpr ⟨mw_0_41, (List.forall_mem_cons.mpr ⟨mw_5_203, (List.forall_mem_cons.mpr ⟨mw_5_204, (List.forall_mem_cons.mpr ⟨mw_5_206, (List.forall_mem_cons.mpr ⟨mw_0_42, (List.forall_mem_cons.mpr ⟨mw_5_207, (List.forall_mem_cons.mpr ⟨mw_4_158, (List.forall_mem_cons.mpr ⟨mw_4_143, (List.forall_mem_cons.mpr ⟨mw_5_89, (List.forall_mem_cons.mpr ⟨mw_5_91, (List.forall_mem_cons.mpr ⟨mw_0_27, (List.forall_mem_nil _)⟩)⟩)⟩)⟩)⟩)⟩)⟩)⟩)⟩)⟩)⟩)⟩)⟩)⟩)⟩)⟩)⟩)⟩)⟩)⟩)⟩)⟩)⟩)⟩)
set_option maxRecDepth 20000 in
theorem gwsX12_swap_r2 : ∀ w ∈ wsX12_swap_r2, wo_P w := (List.forall_mem_cons.mpr ⟨mw_5_92, (List.forall_mem_cons.mpr ⟨mw_4_145, (List.forall_mem_cons.mpr ⟨mw_4_147, (List.forall_mem_cons.mpr ⟨mw_4_146, (List.forall_mem_cons.mpr ⟨mw_4_140, (List.forall_mem_cons.mpr ⟨mw_4_139, (List.forall_mem_cons.mpr ⟨mw_4_149, (List.forall_mem_cons.mpr ⟨mw_5_128, (List.forall_mem_cons.mpr ⟨mw_5_130, (List.forall_mem_cons.mpr ⟨mw_0_33, (List.forall_mem_cons.mpr ⟨mw_5_131, (List.forall_mem_nil _)⟩)⟩)⟩)⟩)⟩)⟩)⟩)⟩)⟩)⟩)⟩)
set_option maxRecDepth 20000 in
theorem gwsX12_swap : ∀ w ∈ wsX12_swap, wo_P w := (List.forall_mem_cons.mpr ⟨mw_5_211, (wi_ap (wi_ap gwsX12_swap_r1 gwsX12_swap_r2) gwsX120)⟩)
theorem mw_5_208 : wo_P (Cond.methodLink RL 105 yX12_swap) := ⟨wi_5 208 rfl, good_of_word rfl⟩
theorem mw_5_209 : wo_P (Cond.instanceMethod yX12_swap) := ⟨wi_5 209 rfl, good_of_word rfl⟩
theorem mw_5_210 : wo_P (Cond.selects RX12 yX12_swap yX12_swap) := ⟨wi_5 210 rfl, good_of_word rfl⟩
theorem gL_law_X12_swap : GoodIn lw_tbl (wsV RL 105 RX12 yX12_swap wsX12_swap) := wo_V mw_5_208 mw_5_209 mw_5_210 mw_1_9 gwsX12_swap
theorem mw_4_27 : wo_P (Cond.code yX11_years cX11_years 3 (some .int)) := ⟨wi_4 27 rfl, good_of_word rfl⟩
theorem mw_4_31 : wo_P (Cond.code yX0_passYear cX0_passYear 4 none) := ⟨wi_4 31 rfl, good_of_word rfl⟩
theorem mw_4_30 : wo_P (Cond.selects RX0 yX0_passYear yX0_passYear) := ⟨wi_4 30 rfl, good_of_word rfl⟩
theorem mw_4_29 : wo_P (Cond.instanceMethod yX0_passYear) := ⟨wi_4 29 rfl, good_of_word rfl⟩
theorem mw_4_28 : wo_P (Cond.methodLink RX11 244 yX0_passYear) := ⟨wi_4 28 rfl, good_of_word rfl⟩
set_option maxRecDepth 20000 in
theorem gwsX11_years_r1 : ∀ w ∈ wsX11_years_r1, wo_P w := (List.forall_mem_cons.mpr ⟨mw_1_185, (List.forall_mem_cons.mpr ⟨mw_1_220, (List.forall_mem_cons.mpr ⟨mw_1_221, (List.forall_mem_cons.mpr ⟨mw_1_1, (List.forall_mem_cons.mpr ⟨mw_1_222, (List.forall_mem_cons.mpr ⟨mw_1_223, (List.forall_mem_cons.mpr ⟨mw_1_225, (List.forall_mem_cons.mpr ⟨mw_0_0, (List.forall_mem_cons.mpr ⟨mw_1_226, (List.forall_mem_cons.mpr ⟨mw_1_190, (List.forall_mem_cons.mpr ⟨mw_1_227, (List.forall_mem_cons.mpr ⟨mw_4_28, (List.forall_mem_cons.mpr ⟨mw_4_29, (List.forall_mem_cons.mpr ⟨mw_4_30, (List.forall_mem_cons.mpr ⟨mw_1_2, (List.forall_mem_cons.mpr ⟨mw_4_31, (List.forall_mem_cons.mpr ⟨mw_1_65, (List.forall_mem_cons.mpr ⟨mw_1_59, (List.forall_mem_cons.mpr ⟨mw_2_77, (List.forall_mem_cons.mpr ⟨mw_2_182, (List.forall_mem_cons.mpr ⟨mw_2_183, (List.forall_mem_cons.mpr ⟨mw_2_184, (List.forall_mem_cons.mpr ⟨mw_2_185, (List.forall_mem_cons.mpr ⟨mw_1_54, (List.forall_mem_nil _)⟩)⟩)⟩)⟩)⟩)⟩)⟩)⟩)⟩)⟩)⟩)⟩)⟩)⟩)⟩)⟩)⟩)⟩)⟩)⟩)⟩)⟩)⟩)⟩)
theorem mw_4_37 : wo_P (Cond.methodLink RX11 247 yX0_partedChains) := ⟨wi_4 37 rfl, good_of_word rfl⟩
theorem mw_4_36 : wo_P (Cond.methodLink RX3 45 Lib.Math.min.name) := ⟨wi_4 36 rfl, good_of_word rfl⟩
theorem mw_4_35 : wo_P (Cond.code yX3_wear cX3_wear 2 none) := ⟨wi_4 35 rfl, good_of_word rfl⟩
theorem mw_4_34 : wo_P (Cond.selects RX3 yX3_wear yX3_wear) := ⟨wi_4 34 rfl, good_of_word rfl⟩
theorem mw_4_33 : wo_P (Cond.instanceMethod yX3_wear) := ⟨wi_4 33 rfl, good_of_word rfl⟩
theorem mw_4_32 : wo_P (Cond.methodLink RX0 168 yX3_wear) := ⟨wi_4 32 rfl, good_of_word rfl⟩
set_option maxRecDepth 20000 in
theorem gwsX11_years_r2 : ∀ w ∈ wsX11_years_r2, wo_P w := (List.forall_mem_cons.mpr ⟨mw_3_57, (List.forall_mem_cons.mpr ⟨mw_2_217, (List.forall_mem_cons.mpr ⟨mw_2_218, (List.forall_mem_cons.mpr ⟨mw_1_3, (List.forall_mem_cons.mpr ⟨mw_2_219, (List.forall_mem_cons.mpr ⟨mw_1_46, (List.forall_mem_cons.mpr ⟨mw_3_59, (List.forall_mem_cons.mpr ⟨mw_2_133, (List.forall_mem_cons.mpr ⟨mw_2_134, (List.forall_mem_cons.mpr ⟨mw_2_135, (List.forall_mem_cons.mpr ⟨mw_1_69, (List.forall_mem_cons.mpr ⟨mw_1_55, (List.forall_mem_cons.mpr ⟨mw_4_32, (List.forall_mem_cons.mpr ⟨mw_4_33, (List.forall_mem_cons.mpr ⟨mw_4_34, (List.forall_mem_cons.mpr ⟨mw_1_10, (List.forall_mem_cons.mpr ⟨mw_4_35, (List.forall_mem_cons.mpr ⟨mw_2_14, (List.forall_mem_cons.mpr ⟨mw_4_36, (List.forall_mem_cons.mpr ⟨mw_2_187, (List.forall_mem_cons.mpr ⟨mw_1_15, (List.forall_mem_cons.mpr ⟨mw_2_188, (List.forall_mem_cons.mpr ⟨mw_2_16, (List.forall_mem_cons.mpr ⟨mw_4_37, (List.forall_mem_nil _)⟩)⟩)⟩)⟩)⟩)⟩)⟩)⟩)⟩)⟩)⟩)⟩)⟩)⟩)⟩)⟩)⟩)⟩)⟩)⟩)⟩)⟩)⟩)⟩)
theorem mw_4_41 : wo_P (Cond.methodLink RX0 172 yX3_isParted) := ⟨wi_4 41 rfl, good_of_word rfl⟩
theorem mw_4_40 : wo_P (Cond.code yX0_partedChains cX0_partedChains 4 (some .int)) := ⟨wi_4 40 rfl, good_of_word rfl⟩
theorem mw_4_39 : wo_P (Cond.selects RX0 yX0_partedChains yX0_partedChains) := ⟨wi_4 39 rfl, good_of_word rfl⟩
theorem mw_4_38 : wo_P (Cond.instanceMethod yX0_partedChains) := ⟨wi_4 38 rfl, good_of_word rfl⟩
set_option maxRecDepth 20000 in
theorem gwsX11_years_r3 : ∀ w ∈ wsX11_years_r3, wo_P w := (List.forall_mem_cons.mpr ⟨mw_4_38, (List.forall_mem_cons.mpr ⟨mw_4_39, (List.forall_mem_cons.mpr ⟨mw_4_40, (List.forall_mem_cons.mpr ⟨mw_4_41, (List.forall_mem_cons.mpr ⟨mw_2_221, (List.forall_mem_cons.mpr ⟨mw_2_222, (List.forall_mem_cons.mpr ⟨mw_2_223, (List.forall_mem_nil _)⟩)⟩)⟩)⟩)⟩)⟩)⟩)
set_option maxRecDepth 20000 in
theorem gwsX11_years : ∀ w ∈ wsX11_years, wo_P w := (List.forall_mem_cons.mpr ⟨mw_4_27, (wi_ap (wi_ap (wi_ap (wi_ap (wi_ap (wi_ap (wi_ap (wi_ap gwsX11_years_r1 (wi_ap gwsX11_years_r2 gwsX11_years_r3)) gwsX110) gwsX00) gwsX40) gwsX80) gwsX90) gwsX10) gwsX30)⟩)
theorem mw_4_24 : wo_P (Cond.methodLink RL 106 yX11_years) := ⟨wi_4 24 rfl, good_of_word rfl⟩
theorem mw_4_25 : wo_P (Cond.instanceMethod yX11_years) := ⟨wi_4 25 rfl, good_of_word rfl⟩
theorem mw_4_26 : wo_P (Cond.selects RX11 yX11_years yX11_years) := ⟨wi_4 26 rfl, good_of_word rfl⟩
theorem gL_law_X11_years : GoodIn lw_tbl (wsV RL 106 RX11 yX11_years wsX11_years) := wo_V mw_4_24 mw_4_25 mw_4_26 mw_1_1 gwsX11_years
theorem mw_5_215 : wo_P (Cond.code yX12_years cX12_years 4 (some .int)) := ⟨wi_5 215 rfl, good_of_word rfl⟩
theorem mw_5_219 : wo_P (Cond.code yX12_partedMany cX12_partedMany 3 (some .int)) := ⟨wi_5 219 rfl, good_of_word rfl⟩
theorem mw_0_43 : wo_P (Cond.selects RX12 yX12_partedMany yX12_partedMany) := ⟨wi_0 43 rfl, good_of_word rfl⟩
theorem mw_5_218 : wo_P (Cond.instanceMethod yX12_partedMany) := ⟨wi_5 218 rfl, good_of_word rfl⟩
theorem mw_5_216 : wo_P (Cond.methodLink RX12 230 yX12_partedMany) := ⟨wi_5 216 rfl, good_of_word rfl⟩
set_option maxRecDepth 20000 in
theorem gwsX12_years_r1 : ∀ w ∈ wsX12_years_r1, wo_P w := (List.forall_mem_cons.mpr ⟨mw_5_18, (List.forall_mem_cons.mpr ⟨mw_4_136, (List.forall_mem_cons.mpr ⟨mw_4_143, (List.forall_mem_cons.mpr ⟨mw_4_146, (List.forall_mem_cons.mpr ⟨mw_4_142, (List.forall_mem_cons.mpr ⟨mw_5_105, (List.forall_mem_cons.mpr ⟨mw_2_187, (List.forall_mem_cons.mpr ⟨mw_1_15, (List.forall_mem_cons.mpr ⟨mw_2_188, (List.forall_mem_cons.mpr ⟨mw_4_141, (List.forall_mem_cons.mpr ⟨mw_5_15, (List.forall_mem_cons.mpr ⟨mw_5_16, (List.forall_mem_cons.mpr ⟨mw_1_9, (List.forall_mem_cons.mpr ⟨mw_5_17, (List.forall_mem_cons.mpr ⟨mw_5_19, (List.forall_mem_cons.mpr ⟨mw_5_21, (List.forall_mem_cons.mpr ⟨mw_0_19, (List.forall_mem_cons.mpr ⟨mw_5_22, (List.forall_mem_cons.mpr ⟨mw_4_162, (List.forall_mem_cons.mpr ⟨mw_5_23, (List.forall_mem_cons.mpr ⟨mw_5_216, (List.forall_mem_cons.mpr ⟨mw_5_218, (List.forall_mem_cons.mpr ⟨mw_0_43, (List.forall_mem_cons.mpr ⟨mw_5_219, (List.forall_mem_nil _)⟩)⟩)⟩)⟩)⟩)⟩)⟩)⟩)⟩)⟩)⟩)⟩)⟩)⟩)⟩)⟩)⟩)⟩)⟩)⟩)⟩)⟩)⟩)⟩)
set_option maxRecDepth 20000 in
theorem gwsX12_years_r2 : ∀ w ∈ wsX12_years_r2, wo_P w := (List.forall_mem_cons.mpr ⟨mw_5_66, (List.forall_mem_cons.mpr ⟨mw_5_68, (List.forall_mem_cons.mpr ⟨mw_0_24, (List.forall_mem_cons.mpr ⟨mw_5_69, (List.forall_mem_nil _)⟩)⟩)⟩)⟩)
set_option maxRecDepth 20000 in
theorem gwsX12_years : ∀ w ∈ wsX12_years, wo_P w := (List.forall_mem_cons.mpr ⟨mw_5_215, (wi_ap (wi_ap gwsX12_years_r1 gwsX12_years_r2) gwsX120)⟩)
theorem mw_5_212 : wo_P (Cond.methodLink RL 109 yX12_years) := ⟨wi_5 212 rfl, good_of_word rfl⟩
theorem mw_5_213 : wo_P (Cond.instanceMethod yX12_years) := ⟨wi_5 213 rfl, good_of_word rfl⟩
theorem mw_5_214 : wo_P (Cond.selects RX12 yX12_years yX12_years) := ⟨wi_5 214 rfl, good_of_word rfl⟩
theorem gL_law_X12_years : GoodIn lw_tbl (wsV RL 109 RX12 yX12_years wsX12_years) := wo_V mw_5_212 mw_5_213 mw_5_214 mw_1_9 gwsX12_years
theorem mw_4_45 : wo_P (Cond.code yX11_look cX11_look 6 (some .int)) := ⟨wi_4 45 rfl, good_of_word rfl⟩
theorem mw_4_47 : wo_P (Cond.methodLink RX11 256 Lib.Math.min.name) := ⟨wi_4 47 rfl, good_of_word rfl⟩
theorem mw_4_46 : wo_P (Cond.methodLink RX11 250 Lib.Math.max.name) := ⟨wi_4 46 rfl, good_of_word rfl⟩
set_option maxRecDepth 20000 in
theorem gwsX11_look_r1 : ∀ w ∈ wsX11_look_r1, wo_P w := (List.forall_mem_cons.mpr ⟨mw_1_185, (List.forall_mem_cons.mpr ⟨mw_2_17, (List.forall_mem_cons.mpr ⟨mw_2_15, (List.forall_mem_cons.mpr ⟨mw_4_46, (List.forall_mem_cons.mpr ⟨mw_3_36, (List.forall_mem_cons.mpr ⟨mw_1_15, (List.forall_mem_cons.mpr ⟨mw_3_37, (List.forall_mem_cons.mpr ⟨mw_4_47, (List.forall_mem_cons.mpr ⟨mw_2_187, (List.forall_mem_cons.mpr ⟨mw_2_188, (List.forall_mem_cons.mpr ⟨mw_2_215, (List.forall_mem_cons.mpr ⟨mw_2_183, (List.forall_mem_cons.mpr ⟨mw_2_184, (List.forall_mem_cons.mpr ⟨mw_1_2, (List.forall_mem_cons.mpr ⟨mw_2_185, (List.forall_mem_cons.mpr ⟨mw_1_65, (List.forall_mem_cons.mpr ⟨mw_1_54, (List.forall_mem_cons.mpr ⟨mw_1_221, (List.forall_mem_cons.mpr ⟨mw_1_1, (List.forall_mem_cons.mpr ⟨mw_1_222, (List.forall_mem_cons.mpr ⟨mw_1_220, (List.forall_mem_cons.mpr ⟨mw_3_172, (List.forall_mem_cons.mpr ⟨mw_3_173, (List.forall_mem_cons.mpr ⟨mw_3_174, (List.forall_mem_nil _)⟩)⟩)⟩)⟩)⟩)⟩)⟩)⟩)⟩)⟩)⟩)⟩)⟩)⟩)⟩)⟩)⟩)⟩)⟩)⟩)⟩)⟩)⟩)⟩)
theorem mw_4_51 : wo_P (Cond.code yX3_doubt cX3_doubt 1 (some .int)) := ⟨wi_4 51 rfl, good_of_word rfl⟩
theorem mw_4_50 : wo_P (Cond.selects RX3 yX3_doubt yX3_doubt) := ⟨wi_4 50 rfl, good_of_word rfl⟩
theorem mw_4_49 : wo_P (Cond.instanceMethod yX3_doubt) := ⟨wi_4 49 rfl, good_of_word rfl⟩
theorem mw_4_48 : wo_P (Cond.methodLink RX11 259 yX3_doubt) := ⟨wi_4 48 rfl, good_of_word rfl⟩
set_option maxRecDepth 20000 in
theorem gwsX11_look_r2 : ∀ w ∈ wsX11_look_r2, wo_P w := (List.forall_mem_cons.mpr ⟨mw_1_223, (List.forall_mem_cons.mpr ⟨mw_1_225, (List.forall_mem_cons.mpr ⟨mw_0_0, (List.forall_mem_cons.mpr ⟨mw_1_226, (List.forall_mem_cons.mpr ⟨mw_1_190, (List.forall_mem_cons.mpr ⟨mw_1_227, (List.forall_mem_cons.mpr ⟨mw_4_48, (List.forall_mem_cons.mpr ⟨mw_4_49, (List.forall_mem_cons.mpr ⟨mw_4_50, (List.forall_mem_cons.mpr ⟨mw_1_10, (List.forall_mem_cons.mpr ⟨mw_4_51, (List.forall_mem_cons.mpr ⟨mw_2_16, (List.forall_mem_cons.mpr ⟨mw_2_14, (List.forall_mem_nil _)⟩)⟩)⟩)⟩)⟩)⟩)⟩)⟩)⟩)⟩)⟩)⟩)⟩)
set_option maxRecDepth 20000 in
theorem gwsX11_look : ∀ w ∈ wsX11_look, wo_P w := (List.forall_mem_cons.mpr ⟨mw_4_45, (wi_ap (wi_ap (wi_ap (wi_ap gwsX11_look_r1 gwsX11_look_r2) gwsX110) gwsX30) gwsX00)⟩)
theorem mw_4_42 : wo_P (Cond.methodLink RL 110 yX11_look) := ⟨wi_4 42 rfl, good_of_word rfl⟩
theorem mw_4_43 : wo_P (Cond.instanceMethod yX11_look) := ⟨wi_4 43 rfl, good_of_word rfl⟩
theorem mw_4_44 : wo_P (Cond.selects RX11 yX11_look yX11_look) := ⟨wi_4 44 rfl, good_of_word rfl⟩
theorem gL_law_X11_look : GoodIn lw_tbl (wsV RL 110 RX11 yX11_look wsX11_look) := wo_V mw_4_42 mw_4_43 mw_4_44 mw_1_1 gwsX11_look
theorem mw_5_223 : wo_P (Cond.code yX12_look cX12_look 4 (some .int)) := ⟨wi_5 223 rfl, good_of_word rfl⟩
theorem mw_5_224 : wo_P (Cond.methodLink RX12 234 Lib.Math.max.name) := ⟨wi_5 224 rfl, good_of_word rfl⟩
set_option maxRecDepth 20000 in
theorem gwsX12_look_r1 : ∀ w ∈ wsX12_look_r1, wo_P w := (List.forall_mem_cons.mpr ⟨mw_5_18, (List.forall_mem_cons.mpr ⟨mw_4_142, (List.forall_mem_cons.mpr ⟨mw_4_141, (List.forall_mem_cons.mpr ⟨mw_5_127, (List.forall_mem_cons.mpr ⟨mw_5_224, (List.forall_mem_cons.mpr ⟨mw_3_36, (List.forall_mem_cons.mpr ⟨mw_1_15, (List.forall_mem_cons.mpr ⟨mw_3_37, (List.forall_mem_cons.mpr ⟨mw_5_105, (List.forall_mem_cons.mpr ⟨mw_2_187, (List.forall_mem_cons.mpr ⟨mw_2_188, (List.forall_mem_cons.mpr ⟨mw_5_62, (List.forall_mem_cons.mpr ⟨mw_5_64, (List.forall_mem_cons.mpr ⟨mw_0_23, (List.forall_mem_cons.mpr ⟨mw_1_9, (List.forall_mem_cons.mpr ⟨mw_5_65, (List.forall_mem_cons.mpr ⟨mw_4_136, (List.forall_mem_cons.mpr ⟨mw_5_15, (List.forall_mem_cons.mpr ⟨mw_5_16, (List.forall_mem_cons.mpr ⟨mw_5_17, (List.forall_mem_cons.mpr ⟨mw_5_19, (List.forall_mem_cons.mpr ⟨mw_5_21, (List.forall_mem_cons.mpr ⟨mw_0_19, (List.forall_mem_cons.mpr ⟨mw_5_22, (List.forall_mem_nil _)⟩)⟩)⟩)⟩)⟩)⟩)⟩)⟩)⟩)⟩)⟩)⟩)⟩)⟩)⟩)⟩)⟩)⟩)⟩)⟩)⟩)⟩)⟩)⟩)
set_option maxRecDepth 20000 in
theorem gwsX12_look_r2 : ∀ w ∈ wsX12_look_r2, wo_P w := (List.forall_mem_cons.mpr ⟨mw_4_162, (List.forall_mem_cons.mpr ⟨mw_5_23, (List.forall_mem_nil _)⟩)⟩)
set_option maxRecDepth 20000 in
theorem gwsX12_look : ∀ w ∈ wsX12_look, wo_P w := (List.forall_mem_cons.mpr ⟨mw_5_223, (wi_ap (wi_ap gwsX12_look_r1 gwsX12_look_r2) gwsX120)⟩)
theorem mw_5_220 : wo_P (Cond.methodLink RL 113 yX12_look) := ⟨wi_5 220 rfl, good_of_word rfl⟩
theorem mw_5_221 : wo_P (Cond.instanceMethod yX12_look) := ⟨wi_5 221 rfl, good_of_word rfl⟩
theorem mw_5_222 : wo_P (Cond.selects RX12 yX12_look yX12_look) := ⟨wi_5 222 rfl, good_of_word rfl⟩
theorem gL_law_X12_look : GoodIn lw_tbl (wsV RL 113 RX12 yX12_look wsX12_look) := wo_V mw_5_220 mw_5_221 mw_5_222 mw_1_9 gwsX12_look
theorem mw_4_55 : wo_P (Cond.code yX11_next cX11_next 2 (some .int)) := ⟨wi_4 55 rfl, good_of_word rfl⟩
theorem mw_4_63 : wo_P (Cond.methodLink RX0 180 yX3_doubt) := ⟨wi_4 63 rfl, good_of_word rfl⟩
theorem mw_2_18 : wo_P (Cond.fieldLink RX0 183 "BayMoorings$Buoy" "high" "I") := ⟨wi_2 18 rfl, good_of_word rfl⟩
theorem mw_4_62 : wo_P (Cond.code yX0_isLessKnown cX0_isLessKnown 2 (some .boolean)) := ⟨wi_4 62 rfl, good_of_word rfl⟩
theorem mw_4_61 : wo_P (Cond.static yX0_isLessKnown) := ⟨wi_4 61 rfl, good_of_word rfl⟩
theorem mw_4_60 : wo_P (Cond.methodLink RX0 176 yX0_isLessKnown) := ⟨wi_4 60 rfl, good_of_word rfl⟩
theorem mw_4_59 : wo_P (Cond.code yX0_leastKnown cX0_leastKnown 4 (some .int)) := ⟨wi_4 59 rfl, good_of_word rfl⟩
theorem mw_4_58 : wo_P (Cond.selects RX0 yX0_leastKnown yX0_leastKnown) := ⟨wi_4 58 rfl, good_of_word rfl⟩
theorem mw_4_57 : wo_P (Cond.instanceMethod yX0_leastKnown) := ⟨wi_4 57 rfl, good_of_word rfl⟩
theorem mw_4_56 : wo_P (Cond.methodLink RX11 262 yX0_leastKnown) := ⟨wi_4 56 rfl, good_of_word rfl⟩
set_option maxRecDepth 20000 in
theorem gwsX11_next_r1 : ∀ w ∈ wsX11_next_r1, wo_P w := (List.forall_mem_cons.mpr ⟨mw_1_185, (List.forall_mem_cons.mpr ⟨mw_4_56, (List.forall_mem_cons.mpr ⟨mw_4_57, (List.forall_mem_cons.mpr ⟨mw_4_58, (List.forall_mem_cons.mpr ⟨mw_1_2, (List.forall_mem_cons.mpr ⟨mw_4_59, (List.forall_mem_cons.mpr ⟨mw_1_65, (List.forall_mem_cons.mpr ⟨mw_2_0, (List.forall_mem_cons.mpr ⟨mw_2_182, (List.forall_mem_cons.mpr ⟨mw_2_183, (List.forall_mem_cons.mpr ⟨mw_2_184, (List.forall_mem_cons.mpr ⟨mw_2_185, (List.forall_mem_cons.mpr ⟨mw_1_54, (List.forall_mem_cons.mpr ⟨mw_1_221, (List.forall_mem_cons.mpr ⟨mw_1_1, (List.forall_mem_cons.mpr ⟨mw_1_222, (List.forall_mem_cons.mpr ⟨mw_4_60, (List.forall_mem_cons.mpr ⟨mw_4_61, (List.forall_mem_cons.mpr ⟨mw_4_62, (List.forall_mem_cons.mpr ⟨mw_2_18, (List.forall_mem_cons.mpr ⟨mw_4_63, (List.forall_mem_cons.mpr ⟨mw_4_49, (List.forall_mem_cons.mpr ⟨mw_4_50, (List.forall_mem_cons.mpr ⟨mw_1_10, (List.forall_mem_nil _)⟩)⟩)⟩)⟩)⟩)⟩)⟩)⟩)⟩)⟩)⟩)⟩)⟩)⟩)⟩)⟩)⟩)⟩)⟩)⟩)⟩)⟩)⟩)⟩)
set_option maxRecDepth 20000 in
theorem gwsX11_next_r2 : ∀ w ∈ wsX11_next_r2, wo_P w := (List.forall_mem_cons.mpr ⟨mw_4_51, (List.forall_mem_cons.mpr ⟨mw_2_16, (List.forall_mem_cons.mpr ⟨mw_2_14, (List.forall_mem_cons.mpr ⟨mw_1_223, (List.forall_mem_cons.mpr ⟨mw_1_225, (List.forall_mem_cons.mpr ⟨mw_0_0, (List.forall_mem_cons.mpr ⟨mw_1_226, (List.forall_mem_cons.mpr ⟨mw_1_190, (List.forall_mem_cons.mpr ⟨mw_1_227, (List.forall_mem_cons.mpr ⟨mw_1_220, (List.forall_mem_nil _)⟩)⟩)⟩)⟩)⟩)⟩)⟩)⟩)⟩)⟩)
set_option maxRecDepth 20000 in
theorem gwsX11_next : ∀ w ∈ wsX11_next, wo_P w := (List.forall_mem_cons.mpr ⟨mw_4_55, (wi_ap (wi_ap (wi_ap (wi_ap gwsX11_next_r1 gwsX11_next_r2) gwsX110) gwsX00) gwsX30)⟩)
theorem mw_4_52 : wo_P (Cond.methodLink RL 114 yX11_next) := ⟨wi_4 52 rfl, good_of_word rfl⟩
theorem mw_4_53 : wo_P (Cond.instanceMethod yX11_next) := ⟨wi_4 53 rfl, good_of_word rfl⟩
theorem mw_4_54 : wo_P (Cond.selects RX11 yX11_next yX11_next) := ⟨wi_4 54 rfl, good_of_word rfl⟩
theorem gL_law_X11_next : GoodIn lw_tbl (wsV RL 114 RX11 yX11_next wsX11_next) := wo_V mw_4_52 mw_4_53 mw_4_54 mw_1_1 gwsX11_next
theorem mw_5_228 : wo_P (Cond.code yX12_next cX12_next 4 (some .int)) := ⟨wi_5 228 rfl, good_of_word rfl⟩
set_option maxRecDepth 20000 in
theorem gwsX12_next : ∀ w ∈ wsX12_next, wo_P w := (List.forall_mem_cons.mpr ⟨mw_5_228, (wi_ap (List.forall_mem_cons.mpr ⟨mw_4_136, (List.forall_mem_cons.mpr ⟨mw_5_127, (List.forall_mem_cons.mpr ⟨mw_4_142, (List.forall_mem_cons.mpr ⟨mw_4_141, (List.forall_mem_cons.mpr ⟨mw_5_19, (List.forall_mem_cons.mpr ⟨mw_5_21, (List.forall_mem_cons.mpr ⟨mw_0_19, (List.forall_mem_cons.mpr ⟨mw_1_9, (List.forall_mem_cons.mpr ⟨mw_5_22, (List.forall_mem_cons.mpr ⟨mw_4_162, (List.forall_mem_cons.mpr ⟨mw_5_23, (List.forall_mem_nil _)⟩)⟩)⟩)⟩)⟩)⟩)⟩)⟩)⟩)⟩)⟩) gwsX120)⟩)
theorem mw_5_225 : wo_P (Cond.methodLink RL 117 yX12_next) := ⟨wi_5 225 rfl, good_of_word rfl⟩
theorem mw_5_226 : wo_P (Cond.instanceMethod yX12_next) := ⟨wi_5 226 rfl, good_of_word rfl⟩
theorem mw_5_227 : wo_P (Cond.selects RX12 yX12_next yX12_next) := ⟨wi_5 227 rfl, good_of_word rfl⟩
theorem gL_law_X12_next : GoodIn lw_tbl (wsV RL 117 RX12 yX12_next wsX12_next) := wo_V mw_5_225 mw_5_226 mw_5_227 mw_1_9 gwsX12_next
theorem mw_4_67 : wo_P (Cond.code yX11_renew cX11_renew 4 (some .int)) := ⟨wi_4 67 rfl, good_of_word rfl⟩
set_option maxRecDepth 20000 in
theorem gwsX11_renew : ∀ w ∈ wsX11_renew, wo_P w := (List.forall_mem_cons.mpr ⟨mw_4_67, (wi_ap (wi_ap (wi_ap (List.forall_mem_cons.mpr ⟨mw_1_185, (List.forall_mem_cons.mpr ⟨mw_2_17, (List.forall_mem_cons.mpr ⟨mw_2_15, (List.forall_mem_cons.mpr ⟨mw_2_215, (List.forall_mem_cons.mpr ⟨mw_2_183, (List.forall_mem_cons.mpr ⟨mw_2_184, (List.forall_mem_cons.mpr ⟨mw_1_2, (List.forall_mem_cons.mpr ⟨mw_2_185, (List.forall_mem_cons.mpr ⟨mw_1_65, (List.forall_mem_cons.mpr ⟨mw_1_54, (List.forall_mem_cons.mpr ⟨mw_1_221, (List.forall_mem_cons.mpr ⟨mw_1_1, (List.forall_mem_cons.mpr ⟨mw_1_222, (List.forall_mem_cons.mpr ⟨mw_1_223, (List.forall_mem_cons.mpr ⟨mw_1_225, (List.forall_mem_cons.mpr ⟨mw_0_0, (List.forall_mem_cons.mpr ⟨mw_1_226, (List.forall_mem_cons.mpr ⟨mw_1_190, (List.forall_mem_cons.mpr ⟨mw_1_227, (List.forall_mem_cons.mpr ⟨mw_1_220, (List.forall_mem_nil _)⟩)⟩)⟩)⟩)⟩)⟩)⟩)⟩)⟩)⟩)⟩)⟩)⟩)⟩)⟩)⟩)⟩)⟩)⟩)⟩) gwsX110) gwsX30) gwsX00)⟩)
theorem mw_4_64 : wo_P (Cond.methodLink RL 118 yX11_renew) := ⟨wi_4 64 rfl, good_of_word rfl⟩
theorem mw_4_65 : wo_P (Cond.instanceMethod yX11_renew) := ⟨wi_4 65 rfl, good_of_word rfl⟩
theorem mw_4_66 : wo_P (Cond.selects RX11 yX11_renew yX11_renew) := ⟨wi_4 66 rfl, good_of_word rfl⟩
theorem gL_law_X11_renew : GoodIn lw_tbl (wsV RL 118 RX11 yX11_renew wsX11_renew) := wo_V mw_4_64 mw_4_65 mw_4_66 mw_1_1 gwsX11_renew
theorem mw_5_232 : wo_P (Cond.code yX12_renew cX12_renew 3 (some .int)) := ⟨wi_5 232 rfl, good_of_word rfl⟩
set_option maxRecDepth 20000 in
theorem gwsX12_renew : ∀ w ∈ wsX12_renew, wo_P w := (List.forall_mem_cons.mpr ⟨mw_5_232, (wi_ap (List.forall_mem_cons.mpr ⟨mw_5_18, (List.forall_mem_cons.mpr ⟨mw_4_142, (List.forall_mem_cons.mpr ⟨mw_4_141, (List.forall_mem_cons.mpr ⟨mw_5_62, (List.forall_mem_cons.mpr ⟨mw_5_64, (List.forall_mem_cons.mpr ⟨mw_0_23, (List.forall_mem_cons.mpr ⟨mw_1_9, (List.forall_mem_cons.mpr ⟨mw_5_65, (List.forall_mem_cons.mpr ⟨mw_4_136, (List.forall_mem_cons.mpr ⟨mw_5_15, (List.forall_mem_cons.mpr ⟨mw_5_16, (List.forall_mem_cons.mpr ⟨mw_5_17, (List.forall_mem_cons.mpr ⟨mw_5_19, (List.forall_mem_cons.mpr ⟨mw_5_21, (List.forall_mem_cons.mpr ⟨mw_0_19, (List.forall_mem_cons.mpr ⟨mw_5_22, (List.forall_mem_cons.mpr ⟨mw_4_162, (List.forall_mem_cons.mpr ⟨mw_5_23, (List.forall_mem_nil _)⟩)⟩)⟩)⟩)⟩)⟩)⟩)⟩)⟩)⟩)⟩)⟩)⟩)⟩)⟩)⟩)⟩)⟩) gwsX120)⟩)
theorem mw_5_229 : wo_P (Cond.methodLink RL 121 yX12_renew) := ⟨wi_5 229 rfl, good_of_word rfl⟩
theorem mw_5_230 : wo_P (Cond.instanceMethod yX12_renew) := ⟨wi_5 230 rfl, good_of_word rfl⟩
theorem mw_5_231 : wo_P (Cond.selects RX12 yX12_renew yX12_renew) := ⟨wi_5 231 rfl, good_of_word rfl⟩
theorem gL_law_X12_renew : GoodIn lw_tbl (wsV RL 121 RX12 yX12_renew wsX12_renew) := wo_V mw_5_229 mw_5_230 mw_5_231 mw_1_9 gwsX12_renew
theorem mw_4_71 : wo_P (Cond.code yX11_storm cX11_storm 2 (some .int)) := ⟨wi_4 71 rfl, good_of_word rfl⟩
theorem mw_1_60 : wo_P (Cond.fieldLink RX5 26 "BayMoorings$Bay" "berths" "LBayMoorings$Berths;") := ⟨wi_1 60 rfl, good_of_word rfl⟩
theorem mw_4_78 : wo_P (Cond.code yX5_blow cX5_blow 6 none) := ⟨wi_4 78 rfl, good_of_word rfl⟩
theorem mw_4_77 : wo_P (Cond.selects RX5 yX5_blow yX5_blow) := ⟨wi_4 77 rfl, good_of_word rfl⟩
theorem mw_4_76 : wo_P (Cond.instanceMethod yX5_blow) := ⟨wi_4 76 rfl, good_of_word rfl⟩
theorem mw_4_75 : wo_P (Cond.methodLink RX11 268 yX5_blow) := ⟨wi_4 75 rfl, good_of_word rfl⟩
theorem mw_4_74 : wo_P (Cond.code yX11_isForce cX11_isForce 1 (some .boolean)) := ⟨wi_4 74 rfl, good_of_word rfl⟩
theorem mw_4_73 : wo_P (Cond.static yX11_isForce) := ⟨wi_4 73 rfl, good_of_word rfl⟩
theorem mw_4_72 : wo_P (Cond.methodLink RX11 265 yX11_isForce) := ⟨wi_4 72 rfl, good_of_word rfl⟩
theorem mw_1_177 : wo_P (Cond.fieldLink RX11 271 "BayMoorings$Flight" "fleeing" "I") := ⟨wi_1 177 rfl, good_of_word rfl⟩
set_option maxRecDepth 20000 in
theorem gwsX11_storm_r1 : ∀ w ∈ wsX11_storm_r1, wo_P w := (List.forall_mem_cons.mpr ⟨mw_1_189, (List.forall_mem_cons.mpr ⟨mw_1_177, (List.forall_mem_cons.mpr ⟨mw_4_72, (List.forall_mem_cons.mpr ⟨mw_4_73, (List.forall_mem_cons.mpr ⟨mw_1_1, (List.forall_mem_cons.mpr ⟨mw_4_74, (List.forall_mem_cons.mpr ⟨mw_1_220, (List.forall_mem_cons.mpr ⟨mw_1_221, (List.forall_mem_cons.mpr ⟨mw_1_222, (List.forall_mem_cons.mpr ⟨mw_1_223, (List.forall_mem_cons.mpr ⟨mw_1_225, (List.forall_mem_cons.mpr ⟨mw_0_0, (List.forall_mem_cons.mpr ⟨mw_1_226, (List.forall_mem_cons.mpr ⟨mw_1_190, (List.forall_mem_cons.mpr ⟨mw_1_227, (List.forall_mem_cons.mpr ⟨mw_4_75, (List.forall_mem_cons.mpr ⟨mw_4_76, (List.forall_mem_cons.mpr ⟨mw_4_77, (List.forall_mem_cons.mpr ⟨mw_1_8, (List.forall_mem_cons.mpr ⟨mw_4_78, (List.forall_mem_cons.mpr ⟨mw_1_174, (List.forall_mem_cons.mpr ⟨mw_1_173, (List.forall_mem_cons.mpr ⟨mw_1_60, (List.forall_mem_cons.mpr ⟨mw_1_176, (List.forall_mem_nil _)⟩)⟩)⟩)⟩)⟩)⟩)⟩)⟩)⟩)⟩)⟩)⟩)⟩)⟩)⟩)⟩)⟩)⟩)⟩)⟩)⟩)⟩)⟩)⟩)
theorem mw_4_86 : wo_P (Cond.methodLink RX5 44 yX0_buoyAt) := ⟨wi_4 86 rfl, good_of_word rfl⟩
theorem mw_4_85 : wo_P (Cond.methodLink RX5 40 yX1_buoyOf) := ⟨wi_4 85 rfl, good_of_word rfl⟩
theorem mw_4_84 : wo_P (Cond.methodLink RX5 36 yX0_boatAt) := ⟨wi_4 84 rfl, good_of_word rfl⟩
theorem mw_4_83 : wo_P (Cond.methodLink RX1 32 arraycopyName) := ⟨wi_4 83 rfl, good_of_word rfl⟩
theorem mw_4_82 : wo_P (Cond.code yX1_copyFrom cX1_copyFrom 2 none) := ⟨wi_4 82 rfl, good_of_word rfl⟩
theorem mw_4_81 : wo_P (Cond.selects RX1 yX1_copyFrom yX1_copyFrom) := ⟨wi_4 81 rfl, good_of_word rfl⟩
theorem mw_4_80 : wo_P (Cond.instanceMethod yX1_copyFrom) := ⟨wi_4 80 rfl, good_of_word rfl⟩
theorem mw_4_79 : wo_P (Cond.methodLink RX5 29 yX1_copyFrom) := ⟨wi_4 79 rfl, good_of_word rfl⟩
theorem mw_1_71 : wo_P (Cond.fieldLink RX5 33 "BayMoorings$Bay" "boatCount" "I") := ⟨wi_1 71 rfl, good_of_word rfl⟩
set_option maxRecDepth 20000 in
theorem gwsX11_storm_r2 : ∀ w ∈ wsX11_storm_r2, wo_P w := (List.forall_mem_cons.mpr ⟨mw_1_71, (List.forall_mem_cons.mpr ⟨mw_4_79, (List.forall_mem_cons.mpr ⟨mw_4_80, (List.forall_mem_cons.mpr ⟨mw_4_81, (List.forall_mem_cons.mpr ⟨mw_1_3, (List.forall_mem_cons.mpr ⟨mw_4_82, (List.forall_mem_cons.mpr ⟨mw_1_45, (List.forall_mem_cons.mpr ⟨mw_4_83, (List.forall_mem_cons.mpr ⟨mw_3_116, (List.forall_mem_cons.mpr ⟨mw_3_115, (List.forall_mem_cons.mpr ⟨mw_1_17, (List.forall_mem_cons.mpr ⟨mw_1_46, (List.forall_mem_cons.mpr ⟨mw_4_84, (List.forall_mem_cons.mpr ⟨mw_2_133, (List.forall_mem_cons.mpr ⟨mw_2_134, (List.forall_mem_cons.mpr ⟨mw_1_2, (List.forall_mem_cons.mpr ⟨mw_2_135, (List.forall_mem_cons.mpr ⟨mw_1_69, (List.forall_mem_cons.mpr ⟨mw_1_55, (List.forall_mem_cons.mpr ⟨mw_4_85, (List.forall_mem_cons.mpr ⟨mw_2_203, (List.forall_mem_cons.mpr ⟨mw_2_204, (List.forall_mem_cons.mpr ⟨mw_2_205, (List.forall_mem_cons.mpr ⟨mw_4_86, (List.forall_mem_nil _)⟩)⟩)⟩)⟩)⟩)⟩)⟩)⟩)⟩)⟩)⟩)⟩)⟩)⟩)⟩)⟩)⟩)⟩)⟩)⟩)⟩)⟩)⟩)⟩)
theorem mw_4_95 : wo_P (Cond.methodLink RX5 69 yX0_mayLie) := ⟨wi_4 95 rfl, good_of_word rfl⟩
theorem mw_1_67 : wo_P (Cond.fieldLink RX5 66 "BayMoorings$Bay" "buoyCount" "I") := ⟨wi_1 67 rfl, good_of_word rfl⟩
theorem mw_4_94 : wo_P (Cond.code yX5_refugeOf cX5_refugeOf 5 (some .int)) := ⟨wi_4 94 rfl, good_of_word rfl⟩
theorem mw_0_18 : wo_P (Cond.selects RX5 yX5_refugeOf yX5_refugeOf) := ⟨wi_0 18 rfl, good_of_word rfl⟩
theorem mw_4_93 : wo_P (Cond.instanceMethod yX5_refugeOf) := ⟨wi_4 93 rfl, good_of_word rfl⟩
theorem mw_4_91 : wo_P (Cond.methodLink RX5 54 yX5_refugeOf) := ⟨wi_4 91 rfl, good_of_word rfl⟩
theorem mw_2_75 : wo_P (Cond.fieldLink RX3 51 "BayMoorings$Boat" "length" "I") := ⟨wi_2 75 rfl, good_of_word rfl⟩
theorem mw_4_90 : wo_P (Cond.code yX3_holds cX3_holds 3 (some .boolean)) := ⟨wi_4 90 rfl, good_of_word rfl⟩
theorem mw_4_89 : wo_P (Cond.selects RX3 yX3_holds yX3_holds) := ⟨wi_4 89 rfl, good_of_word rfl⟩
theorem mw_4_88 : wo_P (Cond.instanceMethod yX3_holds) := ⟨wi_4 88 rfl, good_of_word rfl⟩
theorem mw_4_87 : wo_P (Cond.methodLink RX5 48 yX3_holds) := ⟨wi_4 87 rfl, good_of_word rfl⟩
set_option maxRecDepth 20000 in
theorem gwsX11_storm_r3 : ∀ w ∈ wsX11_storm_r3, wo_P w := (List.forall_mem_cons.mpr ⟨mw_2_183, (List.forall_mem_cons.mpr ⟨mw_2_184, (List.forall_mem_cons.mpr ⟨mw_2_185, (List.forall_mem_cons.mpr ⟨mw_1_65, (List.forall_mem_cons.mpr ⟨mw_1_54, (List.forall_mem_cons.mpr ⟨mw_4_87, (List.forall_mem_cons.mpr ⟨mw_4_88, (List.forall_mem_cons.mpr ⟨mw_4_89, (List.forall_mem_cons.mpr ⟨mw_1_10, (List.forall_mem_cons.mpr ⟨mw_4_90, (List.forall_mem_cons.mpr ⟨mw_2_16, (List.forall_mem_cons.mpr ⟨mw_2_75, (List.forall_mem_cons.mpr ⟨mw_4_91, (List.forall_mem_cons.mpr ⟨mw_4_93, (List.forall_mem_cons.mpr ⟨mw_0_18, (List.forall_mem_cons.mpr ⟨mw_4_94, (List.forall_mem_cons.mpr ⟨mw_1_67, (List.forall_mem_cons.mpr ⟨mw_4_95, (List.forall_mem_cons.mpr ⟨mw_3_54, (List.forall_mem_cons.mpr ⟨mw_3_55, (List.forall_mem_cons.mpr ⟨mw_3_56, (List.forall_mem_cons.mpr ⟨mw_2_0, (List.forall_mem_cons.mpr ⟨mw_2_71, (List.forall_mem_cons.mpr ⟨mw_3_57, (List.forall_mem_nil _)⟩)⟩)⟩)⟩)⟩)⟩)⟩)⟩)⟩)⟩)⟩)⟩)⟩)⟩)⟩)⟩)⟩)⟩)⟩)⟩)⟩)⟩)⟩)⟩)
set_option maxRecDepth 20000 in
theorem gwsX11_storm_r4 : ∀ w ∈ wsX11_storm_r4, wo_P w := (List.forall_mem_cons.mpr ⟨mw_2_217, (List.forall_mem_cons.mpr ⟨mw_2_218, (List.forall_mem_cons.mpr ⟨mw_2_219, (List.forall_mem_cons.mpr ⟨mw_3_58, (List.forall_mem_cons.mpr ⟨mw_3_6, (List.forall_mem_cons.mpr ⟨mw_3_7, (List.forall_mem_cons.mpr ⟨mw_3_8, (List.forall_mem_cons.mpr ⟨mw_2_77, (List.forall_mem_cons.mpr ⟨mw_2_12, (List.forall_mem_cons.mpr ⟨mw_2_9, (List.forall_mem_cons.mpr ⟨mw_1_76, (List.forall_mem_cons.mpr ⟨mw_3_9, (List.forall_mem_cons.mpr ⟨mw_3_11, (List.forall_mem_cons.mpr ⟨mw_3_10, (List.forall_mem_cons.mpr ⟨mw_3_12, (List.forall_mem_cons.mpr ⟨mw_3_13, (List.forall_mem_cons.mpr ⟨mw_1_13, (List.forall_mem_cons.mpr ⟨mw_3_14, (List.forall_mem_cons.mpr ⟨mw_2_79, (List.forall_mem_cons.mpr ⟨mw_2_80, (List.forall_mem_cons.mpr ⟨mw_3_17, (List.forall_mem_cons.mpr ⟨mw_3_15, (List.forall_mem_cons.mpr ⟨mw_3_10, (List.forall_mem_cons.mpr ⟨mw_1_11, (List.forall_mem_nil _)⟩)⟩)⟩)⟩)⟩)⟩)⟩)⟩)⟩)⟩)⟩)⟩)⟩)⟩)⟩)⟩)⟩)⟩)⟩)⟩)⟩)⟩)⟩)⟩)
set_option maxRecDepth 20000 in
theorem gwsX11_storm_r5 : ∀ w ∈ wsX11_storm_r5, wo_P w := (List.forall_mem_cons.mpr ⟨mw_2_78, (List.forall_mem_cons.mpr ⟨mw_3_16, (List.forall_mem_cons.mpr ⟨mw_3_59, (List.forall_mem_cons.mpr ⟨mw_3_60, (List.forall_mem_cons.mpr ⟨mw_2_182, (List.forall_mem_cons.mpr ⟨mw_3_61, (List.forall_mem_cons.mpr ⟨mw_3_23, (List.forall_mem_cons.mpr ⟨mw_3_24, (List.forall_mem_cons.mpr ⟨mw_3_25, (List.forall_mem_cons.mpr ⟨mw_2_3, (List.forall_mem_cons.mpr ⟨mw_2_6, (List.forall_mem_cons.mpr ⟨mw_1_58, (List.forall_mem_cons.mpr ⟨mw_3_26, (List.forall_mem_cons.mpr ⟨mw_2_234, (List.forall_mem_cons.mpr ⟨mw_2_235, (List.forall_mem_cons.mpr ⟨mw_2_233, (List.forall_mem_cons.mpr ⟨mw_3_0, (List.forall_mem_cons.mpr ⟨mw_2_72, (List.forall_mem_cons.mpr ⟨mw_2_236, (List.forall_mem_cons.mpr ⟨mw_2_233, (List.forall_mem_cons.mpr ⟨mw_2_237, (List.forall_mem_cons.mpr ⟨mw_2_238, (List.forall_mem_cons.mpr ⟨mw_1_12, (List.forall_mem_cons.mpr ⟨mw_2_239, (List.forall_mem_nil _)⟩)⟩)⟩)⟩)⟩)⟩)⟩)⟩)⟩)⟩)⟩)⟩)⟩)⟩)⟩)⟩)⟩)⟩)⟩)⟩)⟩)⟩)⟩)⟩)
set_option maxRecDepth 20000 in
theorem gwsX11_storm_r6 : ∀ w ∈ wsX11_storm_r6, wo_P w := (List.forall_mem_cons.mpr ⟨mw_2_73, (List.forall_mem_cons.mpr ⟨mw_2_74, (List.forall_mem_cons.mpr ⟨mw_3_27, (List.forall_mem_cons.mpr ⟨mw_2_229, (List.forall_mem_cons.mpr ⟨mw_2_230, (List.forall_mem_cons.mpr ⟨mw_2_231, (List.forall_mem_cons.mpr ⟨mw_2_13, (List.forall_mem_cons.mpr ⟨mw_3_28, (List.forall_mem_cons.mpr ⟨mw_3_30, (List.forall_mem_cons.mpr ⟨mw_0_2, (List.forall_mem_cons.mpr ⟨mw_3_31, (List.forall_mem_cons.mpr ⟨mw_3_32, (List.forall_mem_cons.mpr ⟨mw_3_33, (List.forall_mem_cons.mpr ⟨mw_1_15, (List.forall_mem_cons.mpr ⟨mw_3_34, (List.forall_mem_cons.mpr ⟨mw_3_35, (List.forall_mem_cons.mpr ⟨mw_3_36, (List.forall_mem_cons.mpr ⟨mw_3_37, (List.forall_mem_cons.mpr ⟨mw_2_186, (List.forall_mem_cons.mpr ⟨mw_2_187, (List.forall_mem_cons.mpr ⟨mw_2_188, (List.forall_mem_cons.mpr ⟨mw_3_38, (List.forall_mem_cons.mpr ⟨mw_3_40, (List.forall_mem_cons.mpr ⟨mw_0_3, (List.forall_mem_nil _)⟩)⟩)⟩)⟩)⟩)⟩)⟩)⟩)⟩)⟩)⟩)⟩)⟩)⟩)⟩)⟩)⟩)⟩)⟩)⟩)⟩)⟩)⟩)⟩)
theorem mw_4_97 : wo_P (Cond.methodLink RX5 62 yX1_put) := ⟨wi_4 97 rfl, good_of_word rfl⟩
theorem mw_4_96 : wo_P (Cond.methodLink RX5 58 yX1_lift) := ⟨wi_4 96 rfl, good_of_word rfl⟩
set_option maxRecDepth 20000 in
theorem gwsX11_storm_r7 : ∀ w ∈ wsX11_storm_r7, wo_P w := (List.forall_mem_cons.mpr ⟨mw_3_41, (List.forall_mem_cons.mpr ⟨mw_1_74, (List.forall_mem_cons.mpr ⟨mw_3_42, (List.forall_mem_cons.mpr ⟨mw_3_43, (List.forall_mem_cons.mpr ⟨mw_3_44, (List.forall_mem_cons.mpr ⟨mw_4_96, (List.forall_mem_cons.mpr ⟨mw_3_76, (List.forall_mem_cons.mpr ⟨mw_3_77, (List.forall_mem_cons.mpr ⟨mw_3_78, (List.forall_mem_cons.mpr ⟨mw_3_79, (List.forall_mem_cons.mpr ⟨mw_4_97, (List.forall_mem_cons.mpr ⟨mw_3_63, (List.forall_mem_cons.mpr ⟨mw_3_64, (List.forall_mem_cons.mpr ⟨mw_3_65, (List.forall_mem_nil _)⟩)⟩)⟩)⟩)⟩)⟩)⟩)⟩)⟩)⟩)⟩)⟩)⟩)⟩)
set_option maxRecDepth 20000 in
theorem gwsX11_storm : ∀ w ∈ wsX11_storm, wo_P w := (List.forall_mem_cons.mpr ⟨mw_4_71, (wi_ap (wi_ap (wi_ap (wi_ap (wi_ap (wi_ap (wi_ap (wi_ap (wi_ap gwsX11_storm_r1 (wi_ap gwsX11_storm_r2 (wi_ap gwsX11_storm_r3 (wi_ap gwsX11_storm_r4 (wi_ap gwsX11_storm_r5 (wi_ap gwsX11_storm_r6 gwsX11_storm_r7)))))) gwsX110) gwsX50) gwsX00) gwsX10) gwsX30) gwsX40) gwsX80) gwsX90)⟩)
theorem mw_4_68 : wo_P (Cond.methodLink RL 122 yX11_storm) := ⟨wi_4 68 rfl, good_of_word rfl⟩
theorem mw_4_69 : wo_P (Cond.instanceMethod yX11_storm) := ⟨wi_4 69 rfl, good_of_word rfl⟩
theorem mw_4_70 : wo_P (Cond.selects RX11 yX11_storm yX11_storm) := ⟨wi_4 70 rfl, good_of_word rfl⟩
theorem gL_law_X11_storm : GoodIn lw_tbl (wsV RL 122 RX11 yX11_storm wsX11_storm) := wo_V mw_4_68 mw_4_69 mw_4_70 mw_1_1 gwsX11_storm
theorem mw_5_236 : wo_P (Cond.code yX12_storm cX12_storm 2 (some .int)) := ⟨wi_5 236 rfl, good_of_word rfl⟩
theorem mw_6_4 : wo_P (Cond.code yX12_holds cX12_holds 4 (some .boolean)) := ⟨wi_6 4 rfl, good_of_word rfl⟩
theorem mw_0_45 : wo_P (Cond.selects RX12 yX12_holds yX12_holds) := ⟨wi_0 45 rfl, good_of_word rfl⟩
theorem mw_6_3 : wo_P (Cond.instanceMethod yX12_holds) := ⟨wi_6 3 rfl, good_of_word rfl⟩
theorem mw_6_1 : wo_P (Cond.methodLink RX12 237 yX12_holds) := ⟨wi_6 1 rfl, good_of_word rfl⟩
theorem mw_6_0 : wo_P (Cond.code yX12_flee cX12_flee 6 (some .int)) := ⟨wi_6 0 rfl, good_of_word rfl⟩
theorem mw_0_44 : wo_P (Cond.selects RX12 yX12_flee yX12_flee) := ⟨wi_0 44 rfl, good_of_word rfl⟩
theorem mw_5_239 : wo_P (Cond.instanceMethod yX12_flee) := ⟨wi_5 239 rfl, good_of_word rfl⟩
theorem mw_5_237 : wo_P (Cond.methodLink RX12 240 yX12_flee) := ⟨wi_5 237 rfl, good_of_word rfl⟩
set_option maxRecDepth 20000 in
theorem gwsX12_storm_r1 : ∀ w ∈ wsX12_storm_r1, wo_P w := (List.forall_mem_cons.mpr ⟨mw_5_18, (List.forall_mem_cons.mpr ⟨mw_5_15, (List.forall_mem_cons.mpr ⟨mw_5_16, (List.forall_mem_cons.mpr ⟨mw_1_9, (List.forall_mem_cons.mpr ⟨mw_5_17, (List.forall_mem_cons.mpr ⟨mw_5_237, (List.forall_mem_cons.mpr ⟨mw_5_239, (List.forall_mem_cons.mpr ⟨mw_0_44, (List.forall_mem_cons.mpr ⟨mw_6_0, (List.forall_mem_cons.mpr ⟨mw_4_144, (List.forall_mem_cons.mpr ⟨mw_4_173, (List.forall_mem_cons.mpr ⟨mw_4_148, (List.forall_mem_cons.mpr ⟨mw_4_136, (List.forall_mem_cons.mpr ⟨mw_6_1, (List.forall_mem_cons.mpr ⟨mw_6_3, (List.forall_mem_cons.mpr ⟨mw_0_45, (List.forall_mem_cons.mpr ⟨mw_6_4, (List.forall_mem_cons.mpr ⟨mw_4_142, (List.forall_mem_cons.mpr ⟨mw_4_146, (List.forall_mem_cons.mpr ⟨mw_5_123, (List.forall_mem_cons.mpr ⟨mw_5_125, (List.forall_mem_cons.mpr ⟨mw_0_32, (List.forall_mem_cons.mpr ⟨mw_5_126, (List.forall_mem_cons.mpr ⟨mw_5_89, (List.forall_mem_nil _)⟩)⟩)⟩)⟩)⟩)⟩)⟩)⟩)⟩)⟩)⟩)⟩)⟩)⟩)⟩)⟩)⟩)⟩)⟩)⟩)⟩)⟩)⟩)⟩)
set_option maxRecDepth 20000 in
theorem gwsX12_storm_r2 : ∀ w ∈ wsX12_storm_r2, wo_P w := (List.forall_mem_cons.mpr ⟨mw_5_91, (List.forall_mem_cons.mpr ⟨mw_0_27, (List.forall_mem_cons.mpr ⟨mw_5_92, (List.forall_mem_cons.mpr ⟨mw_4_145, (List.forall_mem_cons.mpr ⟨mw_4_147, (List.forall_mem_cons.mpr ⟨mw_4_140, (List.forall_mem_cons.mpr ⟨mw_4_139, (List.forall_mem_cons.mpr ⟨mw_4_149, (List.forall_mem_cons.mpr ⟨mw_5_97, (List.forall_mem_cons.mpr ⟨mw_5_99, (List.forall_mem_cons.mpr ⟨mw_0_28, (List.forall_mem_cons.mpr ⟨mw_5_100, (List.forall_mem_cons.mpr ⟨mw_5_101, (List.forall_mem_cons.mpr ⟨mw_5_103, (List.forall_mem_cons.mpr ⟨mw_0_29, (List.forall_mem_cons.mpr ⟨mw_5_104, (List.forall_mem_cons.mpr ⟨mw_5_105, (List.forall_mem_cons.mpr ⟨mw_2_187, (List.forall_mem_cons.mpr ⟨mw_1_15, (List.forall_mem_cons.mpr ⟨mw_2_188, (List.forall_mem_cons.mpr ⟨mw_4_137, (List.forall_mem_cons.mpr ⟨mw_5_106, (List.forall_mem_cons.mpr ⟨mw_3_33, (List.forall_mem_cons.mpr ⟨mw_3_34, (List.forall_mem_nil _)⟩)⟩)⟩)⟩)⟩)⟩)⟩)⟩)⟩)⟩)⟩)⟩)⟩)⟩)⟩)⟩)⟩)⟩)⟩)⟩)⟩)⟩)⟩)⟩)
set_option maxRecDepth 20000 in
theorem gwsX12_storm_r3 : ∀ w ∈ wsX12_storm_r3, wo_P w := (List.forall_mem_cons.mpr ⟨mw_4_138, (List.forall_mem_cons.mpr ⟨mw_5_74, (List.forall_mem_cons.mpr ⟨mw_5_76, (List.forall_mem_cons.mpr ⟨mw_0_25, (List.forall_mem_cons.mpr ⟨mw_5_77, (List.forall_mem_cons.mpr ⟨mw_5_78, (List.forall_mem_cons.mpr ⟨mw_5_79, (List.forall_mem_cons.mpr ⟨mw_5_80, (List.forall_mem_cons.mpr ⟨mw_5_81, (List.forall_mem_cons.mpr ⟨mw_5_83, (List.forall_mem_cons.mpr ⟨mw_0_26, (List.forall_mem_cons.mpr ⟨mw_5_84, (List.forall_mem_cons.mpr ⟨mw_5_107, (List.forall_mem_cons.mpr ⟨mw_5_109, (List.forall_mem_cons.mpr ⟨mw_0_30, (List.forall_mem_cons.mpr ⟨mw_5_110, (List.forall_mem_cons.mpr ⟨mw_4_150, (List.forall_mem_cons.mpr ⟨mw_5_111, (List.forall_mem_cons.mpr ⟨mw_5_113, (List.forall_mem_cons.mpr ⟨mw_0_31, (List.forall_mem_cons.mpr ⟨mw_5_114, (List.forall_mem_cons.mpr ⟨mw_4_151, (List.forall_mem_cons.mpr ⟨mw_4_152, (List.forall_mem_cons.mpr ⟨mw_5_115, (List.forall_mem_nil _)⟩)⟩)⟩)⟩)⟩)⟩)⟩)⟩)⟩)⟩)⟩)⟩)⟩)⟩)⟩)⟩)⟩)⟩)⟩)⟩)⟩)⟩)⟩)⟩)
set_option maxRecDepth 20000 in
theorem gwsX12_storm_r4 : ∀ w ∈ wsX12_storm_r4, wo_P w := (List.forall_mem_cons.mpr ⟨mw_5_116, (List.forall_mem_cons.mpr ⟨mw_5_117, (List.forall_mem_cons.mpr ⟨mw_5_19, (List.forall_mem_cons.mpr ⟨mw_5_21, (List.forall_mem_cons.mpr ⟨mw_0_19, (List.forall_mem_cons.mpr ⟨mw_5_22, (List.forall_mem_cons.mpr ⟨mw_4_162, (List.forall_mem_cons.mpr ⟨mw_5_23, (List.forall_mem_nil _)⟩)⟩)⟩)⟩)⟩)⟩)⟩)⟩)
set_option maxRecDepth 20000 in
theorem gwsX12_storm : ∀ w ∈ wsX12_storm, wo_P w := (List.forall_mem_cons.mpr ⟨mw_5_236, (wi_ap (wi_ap gwsX12_storm_r1 (wi_ap gwsX12_storm_r2 (wi_ap gwsX12_storm_r3 gwsX12_storm_r4))) gwsX120)⟩)
theorem mw_5_233 : wo_P (Cond.methodLink RL 125 yX12_storm) := ⟨wi_5 233 rfl, good_of_word rfl⟩
theorem mw_5_234 : wo_P (Cond.instanceMethod yX12_storm) := ⟨wi_5 234 rfl, good_of_word rfl⟩
theorem mw_5_235 : wo_P (Cond.selects RX12 yX12_storm yX12_storm) := ⟨wi_5 235 rfl, good_of_word rfl⟩
theorem gL_law_X12_storm : GoodIn lw_tbl (wsV RL 125 RX12 yX12_storm wsX12_storm) := wo_V mw_5_233 mw_5_234 mw_5_235 mw_1_9 gwsX12_storm
theorem mw_4_101 : wo_P (Cond.code yX11_fled cX11_fled 3 (some .int)) := ⟨wi_4 101 rfl, good_of_word rfl⟩
theorem mw_1_175 : wo_P (Cond.fieldLink RX11 274 "BayMoorings$Flight" "berths" "LBayMoorings$Berths;") := ⟨wi_1 175 rfl, good_of_word rfl⟩
set_option maxRecDepth 20000 in
theorem gwsX11_fled_r1 : ∀ w ∈ wsX11_fled_r1, wo_P w := (List.forall_mem_cons.mpr ⟨mw_1_185, (List.forall_mem_cons.mpr ⟨mw_1_64, (List.forall_mem_cons.mpr ⟨mw_1_189, (List.forall_mem_cons.mpr ⟨mw_1_175, (List.forall_mem_cons.mpr ⟨mw_2_132, (List.forall_mem_cons.mpr ⟨mw_2_133, (List.forall_mem_cons.mpr ⟨mw_2_134, (List.forall_mem_cons.mpr ⟨mw_1_2, (List.forall_mem_cons.mpr ⟨mw_2_135, (List.forall_mem_cons.mpr ⟨mw_1_69, (List.forall_mem_cons.mpr ⟨mw_1_55, (List.forall_mem_cons.mpr ⟨mw_1_221, (List.forall_mem_cons.mpr ⟨mw_1_1, (List.forall_mem_cons.mpr ⟨mw_1_222, (List.forall_mem_cons.mpr ⟨mw_4_72, (List.forall_mem_cons.mpr ⟨mw_4_73, (List.forall_mem_cons.mpr ⟨mw_4_74, (List.forall_mem_cons.mpr ⟨mw_1_220, (List.forall_mem_cons.mpr ⟨mw_1_223, (List.forall_mem_cons.mpr ⟨mw_1_225, (List.forall_mem_cons.mpr ⟨mw_0_0, (List.forall_mem_cons.mpr ⟨mw_1_226, (List.forall_mem_cons.mpr ⟨mw_1_190, (List.forall_mem_cons.mpr ⟨mw_1_227, (List.forall_mem_nil _)⟩)⟩)⟩)⟩)⟩)⟩)⟩)⟩)⟩)⟩)⟩)⟩)⟩)⟩)⟩)⟩)⟩)⟩)⟩)⟩)⟩)⟩)⟩)⟩)
set_option maxRecDepth 20000 in
theorem gwsX11_fled_r2 : ∀ w ∈ wsX11_fled_r2, wo_P w := (List.forall_mem_cons.mpr ⟨mw_2_202, (List.forall_mem_cons.mpr ⟨mw_2_203, (List.forall_mem_cons.mpr ⟨mw_2_204, (List.forall_mem_cons.mpr ⟨mw_1_3, (List.forall_mem_cons.mpr ⟨mw_2_205, (List.forall_mem_cons.mpr ⟨mw_1_45, (List.forall_mem_cons.mpr ⟨mw_4_75, (List.forall_mem_cons.mpr ⟨mw_4_76, (List.forall_mem_cons.mpr ⟨mw_4_77, (List.forall_mem_cons.mpr ⟨mw_1_8, (List.forall_mem_cons.mpr ⟨mw_4_78, (List.forall_mem_cons.mpr ⟨mw_1_174, (List.forall_mem_cons.mpr ⟨mw_1_173, (List.forall_mem_cons.mpr ⟨mw_1_60, (List.forall_mem_cons.mpr ⟨mw_1_176, (List.forall_mem_cons.mpr ⟨mw_1_71, (List.forall_mem_cons.mpr ⟨mw_4_79, (List.forall_mem_cons.mpr ⟨mw_4_80, (List.forall_mem_cons.mpr ⟨mw_4_81, (List.forall_mem_cons.mpr ⟨mw_4_82, (List.forall_mem_cons.mpr ⟨mw_4_83, (List.forall_mem_cons.mpr ⟨mw_3_116, (List.forall_mem_cons.mpr ⟨mw_3_115, (List.forall_mem_cons.mpr ⟨mw_1_17, (List.forall_mem_nil _)⟩)⟩)⟩)⟩)⟩)⟩)⟩)⟩)⟩)⟩)⟩)⟩)⟩)⟩)⟩)⟩)⟩)⟩)⟩)⟩)⟩)⟩)⟩)⟩)
set_option maxRecDepth 20000 in
theorem gwsX11_fled_r3 : ∀ w ∈ wsX11_fled_r3, wo_P w := (List.forall_mem_cons.mpr ⟨mw_1_46, (List.forall_mem_cons.mpr ⟨mw_4_84, (List.forall_mem_cons.mpr ⟨mw_4_85, (List.forall_mem_cons.mpr ⟨mw_4_86, (List.forall_mem_cons.mpr ⟨mw_2_183, (List.forall_mem_cons.mpr ⟨mw_2_184, (List.forall_mem_cons.mpr ⟨mw_2_185, (List.forall_mem_cons.mpr ⟨mw_1_65, (List.forall_mem_cons.mpr ⟨mw_1_54, (List.forall_mem_cons.mpr ⟨mw_4_87, (List.forall_mem_cons.mpr ⟨mw_4_88, (List.forall_mem_cons.mpr ⟨mw_4_89, (List.forall_mem_cons.mpr ⟨mw_1_10, (List.forall_mem_cons.mpr ⟨mw_4_90, (List.forall_mem_cons.mpr ⟨mw_2_16, (List.forall_mem_cons.mpr ⟨mw_2_75, (List.forall_mem_cons.mpr ⟨mw_4_91, (List.forall_mem_cons.mpr ⟨mw_4_93, (List.forall_mem_cons.mpr ⟨mw_0_18, (List.forall_mem_cons.mpr ⟨mw_4_94, (List.forall_mem_cons.mpr ⟨mw_1_67, (List.forall_mem_cons.mpr ⟨mw_4_95, (List.forall_mem_cons.mpr ⟨mw_3_54, (List.forall_mem_cons.mpr ⟨mw_3_55, (List.forall_mem_nil _)⟩)⟩)⟩)⟩)⟩)⟩)⟩)⟩)⟩)⟩)⟩)⟩)⟩)⟩)⟩)⟩)⟩)⟩)⟩)⟩)⟩)⟩)⟩)⟩)
set_option maxRecDepth 20000 in
theorem gwsX11_fled_r4 : ∀ w ∈ wsX11_fled_r4, wo_P w := (List.forall_mem_cons.mpr ⟨mw_3_56, (List.forall_mem_cons.mpr ⟨mw_2_0, (List.forall_mem_cons.mpr ⟨mw_2_71, (List.forall_mem_cons.mpr ⟨mw_3_57, (List.forall_mem_cons.mpr ⟨mw_2_217, (List.forall_mem_cons.mpr ⟨mw_2_218, (List.forall_mem_cons.mpr ⟨mw_2_219, (List.forall_mem_cons.mpr ⟨mw_3_58, (List.forall_mem_cons.mpr ⟨mw_3_6, (List.forall_mem_cons.mpr ⟨mw_3_7, (List.forall_mem_cons.mpr ⟨mw_3_8, (List.forall_mem_cons.mpr ⟨mw_2_77, (List.forall_mem_cons.mpr ⟨mw_2_12, (List.forall_mem_cons.mpr ⟨mw_2_9, (List.forall_mem_cons.mpr ⟨mw_1_76, (List.forall_mem_cons.mpr ⟨mw_3_9, (List.forall_mem_cons.mpr ⟨mw_3_11, (List.forall_mem_cons.mpr ⟨mw_3_10, (List.forall_mem_cons.mpr ⟨mw_3_12, (List.forall_mem_cons.mpr ⟨mw_3_13, (List.forall_mem_cons.mpr ⟨mw_1_13, (List.forall_mem_cons.mpr ⟨mw_3_14, (List.forall_mem_cons.mpr ⟨mw_2_79, (List.forall_mem_cons.mpr ⟨mw_2_80, (List.forall_mem_nil _)⟩)⟩)⟩)⟩)⟩)⟩)⟩)⟩)⟩)⟩)⟩)⟩)⟩)⟩)⟩)⟩)⟩)⟩)⟩)⟩)⟩)⟩)⟩)⟩)
set_option maxRecDepth 20000 in
theorem gwsX11_fled_r5 : ∀ w ∈ wsX11_fled_r5, wo_P w := (List.forall_mem_cons.mpr ⟨mw_3_17, (List.forall_mem_cons.mpr ⟨mw_3_15, (List.forall_mem_cons.mpr ⟨mw_3_10, (List.forall_mem_cons.mpr ⟨mw_1_11, (List.forall_mem_cons.mpr ⟨mw_2_78, (List.forall_mem_cons.mpr ⟨mw_3_16, (List.forall_mem_cons.mpr ⟨mw_3_59, (List.forall_mem_cons.mpr ⟨mw_3_60, (List.forall_mem_cons.mpr ⟨mw_2_182, (List.forall_mem_cons.mpr ⟨mw_3_61, (List.forall_mem_cons.mpr ⟨mw_3_23, (List.forall_mem_cons.mpr ⟨mw_3_24, (List.forall_mem_cons.mpr ⟨mw_3_25, (List.forall_mem_cons.mpr ⟨mw_2_3, (List.forall_mem_cons.mpr ⟨mw_2_6, (List.forall_mem_cons.mpr ⟨mw_1_58, (List.forall_mem_cons.mpr ⟨mw_3_26, (List.forall_mem_cons.mpr ⟨mw_2_234, (List.forall_mem_cons.mpr ⟨mw_2_235, (List.forall_mem_cons.mpr ⟨mw_2_233, (List.forall_mem_cons.mpr ⟨mw_3_0, (List.forall_mem_cons.mpr ⟨mw_2_72, (List.forall_mem_cons.mpr ⟨mw_2_236, (List.forall_mem_cons.mpr ⟨mw_2_233, (List.forall_mem_nil _)⟩)⟩)⟩)⟩)⟩)⟩)⟩)⟩)⟩)⟩)⟩)⟩)⟩)⟩)⟩)⟩)⟩)⟩)⟩)⟩)⟩)⟩)⟩)⟩)
set_option maxRecDepth 20000 in
theorem gwsX11_fled_r6 : ∀ w ∈ wsX11_fled_r6, wo_P w := (List.forall_mem_cons.mpr ⟨mw_2_237, (List.forall_mem_cons.mpr ⟨mw_2_238, (List.forall_mem_cons.mpr ⟨mw_1_12, (List.forall_mem_cons.mpr ⟨mw_2_239, (List.forall_mem_cons.mpr ⟨mw_2_73, (List.forall_mem_cons.mpr ⟨mw_2_74, (List.forall_mem_cons.mpr ⟨mw_3_27, (List.forall_mem_cons.mpr ⟨mw_2_229, (List.forall_mem_cons.mpr ⟨mw_2_230, (List.forall_mem_cons.mpr ⟨mw_2_231, (List.forall_mem_cons.mpr ⟨mw_2_13, (List.forall_mem_cons.mpr ⟨mw_3_28, (List.forall_mem_cons.mpr ⟨mw_3_30, (List.forall_mem_cons.mpr ⟨mw_0_2, (List.forall_mem_cons.mpr ⟨mw_3_31, (List.forall_mem_cons.mpr ⟨mw_3_32, (List.forall_mem_cons.mpr ⟨mw_3_33, (List.forall_mem_cons.mpr ⟨mw_1_15, (List.forall_mem_cons.mpr ⟨mw_3_34, (List.forall_mem_cons.mpr ⟨mw_3_35, (List.forall_mem_cons.mpr ⟨mw_3_36, (List.forall_mem_cons.mpr ⟨mw_3_37, (List.forall_mem_cons.mpr ⟨mw_2_186, (List.forall_mem_cons.mpr ⟨mw_2_187, (List.forall_mem_nil _)⟩)⟩)⟩)⟩)⟩)⟩)⟩)⟩)⟩)⟩)⟩)⟩)⟩)⟩)⟩)⟩)⟩)⟩)⟩)⟩)⟩)⟩)⟩)⟩)
set_option maxRecDepth 20000 in
theorem gwsX11_fled_r7 : ∀ w ∈ wsX11_fled_r7, wo_P w := (List.forall_mem_cons.mpr ⟨mw_2_188, (List.forall_mem_cons.mpr ⟨mw_3_38, (List.forall_mem_cons.mpr ⟨mw_3_40, (List.forall_mem_cons.mpr ⟨mw_0_3, (List.forall_mem_cons.mpr ⟨mw_3_41, (List.forall_mem_cons.mpr ⟨mw_1_74, (List.forall_mem_cons.mpr ⟨mw_3_42, (List.forall_mem_cons.mpr ⟨mw_3_43, (List.forall_mem_cons.mpr ⟨mw_3_44, (List.forall_mem_cons.mpr ⟨mw_4_96, (List.forall_mem_cons.mpr ⟨mw_3_76, (List.forall_mem_cons.mpr ⟨mw_3_77, (List.forall_mem_cons.mpr ⟨mw_3_78, (List.forall_mem_cons.mpr ⟨mw_3_79, (List.forall_mem_cons.mpr ⟨mw_4_97, (List.forall_mem_cons.mpr ⟨mw_3_63, (List.forall_mem_cons.mpr ⟨mw_3_64, (List.forall_mem_cons.mpr ⟨mw_3_65, (List.forall_mem_nil _)⟩)⟩)⟩)⟩)⟩)⟩)⟩)⟩)⟩)⟩)⟩)⟩)⟩)⟩)⟩)⟩)⟩)⟩)
set_option maxRecDepth 20000 in
theorem gwsX11_fled : ∀ w ∈ wsX11_fled, wo_P w := (List.forall_mem_cons.mpr ⟨mw_4_101, (wi_ap (wi_ap (wi_ap (wi_ap (wi_ap (wi_ap (wi_ap (wi_ap (wi_ap gwsX11_fled_r1 (wi_ap gwsX11_fled_r2 (wi_ap gwsX11_fled_r3 (wi_ap gwsX11_fled_r4 (wi_ap gwsX11_fled_r5 (wi_ap gwsX11_fled_r6 gwsX11_fled_r7)))))) gwsX110) gwsX00) gwsX50) gwsX10) gwsX30) gwsX40) gwsX80) gwsX90)⟩)
theorem mw_4_98 : wo_P (Cond.methodLink RL 126 yX11_fled) := ⟨wi_4 98 rfl, good_of_word rfl⟩
theorem mw_4_99 : wo_P (Cond.instanceMethod yX11_fled) := ⟨wi_4 99 rfl, good_of_word rfl⟩
theorem mw_4_100 : wo_P (Cond.selects RX11 yX11_fled yX11_fled) := ⟨wi_4 100 rfl, good_of_word rfl⟩
theorem gL_law_X11_fled : GoodIn lw_tbl (wsV RL 126 RX11 yX11_fled wsX11_fled) := wo_V mw_4_98 mw_4_99 mw_4_100 mw_1_1 gwsX11_fled
theorem mw_6_8 : wo_P (Cond.code yX12_fled cX12_fled 4 (some .int)) := ⟨wi_6 8 rfl, good_of_word rfl⟩
set_option maxRecDepth 20000 in
theorem gwsX12_fled_r1 : ∀ w ∈ wsX12_fled_r1, wo_P w := (List.forall_mem_cons.mpr ⟨mw_5_18, (List.forall_mem_cons.mpr ⟨mw_4_148, (List.forall_mem_cons.mpr ⟨mw_5_122, (List.forall_mem_cons.mpr ⟨mw_4_173, (List.forall_mem_cons.mpr ⟨mw_5_33, (List.forall_mem_cons.mpr ⟨mw_5_35, (List.forall_mem_cons.mpr ⟨mw_0_20, (List.forall_mem_cons.mpr ⟨mw_1_9, (List.forall_mem_cons.mpr ⟨mw_5_36, (List.forall_mem_cons.mpr ⟨mw_4_144, (List.forall_mem_cons.mpr ⟨mw_5_15, (List.forall_mem_cons.mpr ⟨mw_5_16, (List.forall_mem_cons.mpr ⟨mw_5_17, (List.forall_mem_cons.mpr ⟨mw_5_19, (List.forall_mem_cons.mpr ⟨mw_5_21, (List.forall_mem_cons.mpr ⟨mw_0_19, (List.forall_mem_cons.mpr ⟨mw_5_22, (List.forall_mem_cons.mpr ⟨mw_4_162, (List.forall_mem_cons.mpr ⟨mw_5_23, (List.forall_mem_cons.mpr ⟨mw_5_237, (List.forall_mem_cons.mpr ⟨mw_5_239, (List.forall_mem_cons.mpr ⟨mw_0_44, (List.forall_mem_cons.mpr ⟨mw_6_0, (List.forall_mem_cons.mpr ⟨mw_4_136, (List.forall_mem_nil _)⟩)⟩)⟩)⟩)⟩)⟩)⟩)⟩)⟩)⟩)⟩)⟩)⟩)⟩)⟩)⟩)⟩)⟩)⟩)⟩)⟩)⟩)⟩)⟩)
set_option maxRecDepth 20000 in
theorem gwsX12_fled_r2 : ∀ w ∈ wsX12_fled_r2, wo_P w := (List.forall_mem_cons.mpr ⟨mw_6_1, (List.forall_mem_cons.mpr ⟨mw_6_3, (List.forall_mem_cons.mpr ⟨mw_0_45, (List.forall_mem_cons.mpr ⟨mw_6_4, (List.forall_mem_cons.mpr ⟨mw_4_142, (List.forall_mem_cons.mpr ⟨mw_4_146, (List.forall_mem_cons.mpr ⟨mw_5_123, (List.forall_mem_cons.mpr ⟨mw_5_125, (List.forall_mem_cons.mpr ⟨mw_0_32, (List.forall_mem_cons.mpr ⟨mw_5_126, (List.forall_mem_cons.mpr ⟨mw_5_89, (List.forall_mem_cons.mpr ⟨mw_5_91, (List.forall_mem_cons.mpr ⟨mw_0_27, (List.forall_mem_cons.mpr ⟨mw_5_92, (List.forall_mem_cons.mpr ⟨mw_4_145, (List.forall_mem_cons.mpr ⟨mw_4_147, (List.forall_mem_cons.mpr ⟨mw_4_140, (List.forall_mem_cons.mpr ⟨mw_4_139, (List.forall_mem_cons.mpr ⟨mw_4_149, (List.forall_mem_cons.mpr ⟨mw_5_97, (List.forall_mem_cons.mpr ⟨mw_5_99, (List.forall_mem_cons.mpr ⟨mw_0_28, (List.forall_mem_cons.mpr ⟨mw_5_100, (List.forall_mem_cons.mpr ⟨mw_5_101, (List.forall_mem_nil _)⟩)⟩)⟩)⟩)⟩)⟩)⟩)⟩)⟩)⟩)⟩)⟩)⟩)⟩)⟩)⟩)⟩)⟩)⟩)⟩)⟩)⟩)⟩)⟩)
set_option maxRecDepth 20000 in
theorem gwsX12_fled_r3 : ∀ w ∈ wsX12_fled_r3, wo_P w := (List.forall_mem_cons.mpr ⟨mw_5_103, (List.forall_mem_cons.mpr ⟨mw_0_29, (List.forall_mem_cons.mpr ⟨mw_5_104, (List.forall_mem_cons.mpr ⟨mw_5_105, (List.forall_mem_cons.mpr ⟨mw_2_187, (List.forall_mem_cons.mpr ⟨mw_1_15, (List.forall_mem_cons.mpr ⟨mw_2_188, (List.forall_mem_cons.mpr ⟨mw_4_137, (List.forall_mem_cons.mpr ⟨mw_5_106, (List.forall_mem_cons.mpr ⟨mw_3_33, (List.forall_mem_cons.mpr ⟨mw_3_34, (List.forall_mem_cons.mpr ⟨mw_4_138, (List.forall_mem_cons.mpr ⟨mw_5_74, (List.forall_mem_cons.mpr ⟨mw_5_76, (List.forall_mem_cons.mpr ⟨mw_0_25, (List.forall_mem_cons.mpr ⟨mw_5_77, (List.forall_mem_cons.mpr ⟨mw_5_78, (List.forall_mem_cons.mpr ⟨mw_5_79, (List.forall_mem_cons.mpr ⟨mw_5_80, (List.forall_mem_cons.mpr ⟨mw_5_81, (List.forall_mem_cons.mpr ⟨mw_5_83, (List.forall_mem_cons.mpr ⟨mw_0_26, (List.forall_mem_cons.mpr ⟨mw_5_84, (List.forall_mem_cons.mpr ⟨mw_5_107, (List.forall_mem_nil _)⟩)⟩)⟩)⟩)⟩)⟩)⟩)⟩)⟩)⟩)⟩)⟩)⟩)⟩)⟩)⟩)⟩)⟩)⟩)⟩)⟩)⟩)⟩)⟩)
set_option maxRecDepth 20000 in
theorem gwsX12_fled_r4 : ∀ w ∈ wsX12_fled_r4, wo_P w := (List.forall_mem_cons.mpr ⟨mw_5_109, (List.forall_mem_cons.mpr ⟨mw_0_30, (List.forall_mem_cons.mpr ⟨mw_5_110, (List.forall_mem_cons.mpr ⟨mw_4_150, (List.forall_mem_cons.mpr ⟨mw_5_111, (List.forall_mem_cons.mpr ⟨mw_5_113, (List.forall_mem_cons.mpr ⟨mw_0_31, (List.forall_mem_cons.mpr ⟨mw_5_114, (List.forall_mem_cons.mpr ⟨mw_4_151, (List.forall_mem_cons.mpr ⟨mw_4_152, (List.forall_mem_cons.mpr ⟨mw_5_115, (List.forall_mem_cons.mpr ⟨mw_5_116, (List.forall_mem_cons.mpr ⟨mw_5_117, (List.forall_mem_nil _)⟩)⟩)⟩)⟩)⟩)⟩)⟩)⟩)⟩)⟩)⟩)⟩)⟩)
set_option maxRecDepth 20000 in
theorem gwsX12_fled : ∀ w ∈ wsX12_fled, wo_P w := (List.forall_mem_cons.mpr ⟨mw_6_8, (wi_ap (wi_ap gwsX12_fled_r1 (wi_ap gwsX12_fled_r2 (wi_ap gwsX12_fled_r3 gwsX12_fled_r4))) gwsX120)⟩)
theorem mw_6_5 : wo_P (Cond.methodLink RL 129 yX12_fled) := ⟨wi_6 5 rfl, good_of_word rfl⟩
theorem mw_6_6 : wo_P (Cond.instanceMethod yX12_fled) := ⟨wi_6 6 rfl, good_of_word rfl⟩
theorem mw_6_7 : wo_P (Cond.selects RX12 yX12_fled yX12_fled) := ⟨wi_6 7 rfl, good_of_word rfl⟩
theorem gL_law_X12_fled : GoodIn lw_tbl (wsV RL 129 RX12 yX12_fled wsX12_fled) := wo_V mw_6_5 mw_6_6 mw_6_7 mw_1_9 gwsX12_fled
theorem mw_4_105 : wo_P (Cond.code yX11_rate cX11_rate 3 (some .int)) := ⟨wi_4 105 rfl, good_of_word rfl⟩
set_option maxRecDepth 20000 in
theorem gwsX11_rate : ∀ w ∈ wsX11_rate, wo_P w := (List.forall_mem_cons.mpr ⟨mw_4_105, (wi_ap (List.forall_mem_cons.mpr ⟨mw_1_193, (List.forall_mem_cons.mpr ⟨mw_1_220, (List.forall_mem_cons.mpr ⟨mw_1_221, (List.forall_mem_cons.mpr ⟨mw_1_1, (List.forall_mem_cons.mpr ⟨mw_1_222, (List.forall_mem_cons.mpr ⟨mw_1_223, (List.forall_mem_cons.mpr ⟨mw_1_225, (List.forall_mem_cons.mpr ⟨mw_0_0, (List.forall_mem_cons.mpr ⟨mw_1_226, (List.forall_mem_cons.mpr ⟨mw_1_190, (List.forall_mem_cons.mpr ⟨mw_1_227, (List.forall_mem_nil _)⟩)⟩)⟩)⟩)⟩)⟩)⟩)⟩)⟩)⟩)⟩) gwsX110)⟩)
theorem mw_4_102 : wo_P (Cond.methodLink RL 130 yX11_rate) := ⟨wi_4 102 rfl, good_of_word rfl⟩
theorem mw_4_103 : wo_P (Cond.instanceMethod yX11_rate) := ⟨wi_4 103 rfl, good_of_word rfl⟩
theorem mw_4_104 : wo_P (Cond.selects RX11 yX11_rate yX11_rate) := ⟨wi_4 104 rfl, good_of_word rfl⟩
theorem gL_law_X11_rate : GoodIn lw_tbl (wsV RL 130 RX11 yX11_rate wsX11_rate) := wo_V mw_4_102 mw_4_103 mw_4_104 mw_1_1 gwsX11_rate
theorem mw_6_12 : wo_P (Cond.code yX12_rate cX12_rate 3 (some .int)) := ⟨wi_6 12 rfl, good_of_word rfl⟩
set_option maxRecDepth 20000 in
theorem gwsX12_rate : ∀ w ∈ wsX12_rate, wo_P w := (List.forall_mem_cons.mpr ⟨mw_6_12, (wi_ap (List.forall_mem_cons.mpr ⟨mw_5_18, (List.forall_mem_cons.mpr ⟨mw_4_159, (List.forall_mem_cons.mpr ⟨mw_5_15, (List.forall_mem_cons.mpr ⟨mw_5_16, (List.forall_mem_cons.mpr ⟨mw_1_9, (List.forall_mem_cons.mpr ⟨mw_5_17, (List.forall_mem_cons.mpr ⟨mw_5_19, (List.forall_mem_cons.mpr ⟨mw_5_21, (List.forall_mem_cons.mpr ⟨mw_0_19, (List.forall_mem_cons.mpr ⟨mw_5_22, (List.forall_mem_cons.mpr ⟨mw_4_162, (List.forall_mem_cons.mpr ⟨mw_5_23, (List.forall_mem_nil _)⟩)⟩)⟩)⟩)⟩)⟩)⟩)⟩)⟩)⟩)⟩)⟩) gwsX120)⟩)
theorem mw_6_9 : wo_P (Cond.methodLink RL 133 yX12_rate) := ⟨wi_6 9 rfl, good_of_word rfl⟩
theorem mw_6_10 : wo_P (Cond.instanceMethod yX12_rate) := ⟨wi_6 10 rfl, good_of_word rfl⟩
theorem mw_6_11 : wo_P (Cond.selects RX12 yX12_rate yX12_rate) := ⟨wi_6 11 rfl, good_of_word rfl⟩
theorem gL_law_X12_rate : GoodIn lw_tbl (wsV RL 133 RX12 yX12_rate wsX12_rate) := wo_V mw_6_9 mw_6_10 mw_6_11 mw_1_9 gwsX12_rate
theorem mw_4_109 : wo_P (Cond.code yX11_dues cX11_dues 4 (some .int)) := ⟨wi_4 109 rfl, good_of_word rfl⟩
set_option maxRecDepth 20000 in
theorem gwsX11_dues_r1 : ∀ w ∈ wsX11_dues_r1, wo_P w := (List.forall_mem_cons.mpr ⟨mw_1_185, (List.forall_mem_cons.mpr ⟨mw_1_73, (List.forall_mem_cons.mpr ⟨mw_1_64, (List.forall_mem_cons.mpr ⟨mw_1_193, (List.forall_mem_cons.mpr ⟨mw_2_132, (List.forall_mem_cons.mpr ⟨mw_2_133, (List.forall_mem_cons.mpr ⟨mw_2_134, (List.forall_mem_cons.mpr ⟨mw_1_2, (List.forall_mem_cons.mpr ⟨mw_2_135, (List.forall_mem_cons.mpr ⟨mw_1_69, (List.forall_mem_cons.mpr ⟨mw_1_55, (List.forall_mem_cons.mpr ⟨mw_1_221, (List.forall_mem_cons.mpr ⟨mw_1_1, (List.forall_mem_cons.mpr ⟨mw_1_222, (List.forall_mem_cons.mpr ⟨mw_2_202, (List.forall_mem_cons.mpr ⟨mw_2_203, (List.forall_mem_cons.mpr ⟨mw_2_204, (List.forall_mem_cons.mpr ⟨mw_1_3, (List.forall_mem_cons.mpr ⟨mw_2_205, (List.forall_mem_cons.mpr ⟨mw_1_45, (List.forall_mem_cons.mpr ⟨mw_2_156, (List.forall_mem_cons.mpr ⟨mw_2_158, (List.forall_mem_cons.mpr ⟨mw_2_159, (List.forall_mem_cons.mpr ⟨mw_2_157, (List.forall_mem_nil _)⟩)⟩)⟩)⟩)⟩)⟩)⟩)⟩)⟩)⟩)⟩)⟩)⟩)⟩)⟩)⟩)⟩)⟩)⟩)⟩)⟩)⟩)⟩)⟩)
set_option maxRecDepth 20000 in
theorem gwsX11_dues_r2 : ∀ w ∈ wsX11_dues_r2, wo_P w := (List.forall_mem_cons.mpr ⟨mw_1_11, (List.forall_mem_cons.mpr ⟨mw_2_170, (List.forall_mem_cons.mpr ⟨mw_2_171, (List.forall_mem_cons.mpr ⟨mw_6_33, (List.forall_mem_cons.mpr ⟨mw_6_34, (List.forall_mem_cons.mpr ⟨mw_2_168, (List.forall_mem_cons.mpr ⟨mw_2_169, (List.forall_mem_cons.mpr ⟨mw_2_72, (List.forall_mem_cons.mpr ⟨mw_6_35, (List.forall_mem_cons.mpr ⟨mw_6_36, (List.forall_mem_cons.mpr ⟨mw_2_160, (List.forall_mem_cons.mpr ⟨mw_2_157, (List.forall_mem_cons.mpr ⟨mw_2_161, (List.forall_mem_cons.mpr ⟨mw_2_162, (List.forall_mem_cons.mpr ⟨mw_1_12, (List.forall_mem_cons.mpr ⟨mw_2_163, (List.forall_mem_cons.mpr ⟨mw_2_164, (List.forall_mem_cons.mpr ⟨mw_2_165, (List.forall_mem_cons.mpr ⟨mw_2_167, (List.forall_mem_nil _)⟩)⟩)⟩)⟩)⟩)⟩)⟩)⟩)⟩)⟩)⟩)⟩)⟩)⟩)⟩)⟩)⟩)⟩)⟩)
set_option maxRecDepth 20000 in
theorem gwsX11_dues : ∀ w ∈ wsX11_dues, wo_P w := (List.forall_mem_cons.mpr ⟨mw_4_109, (wi_ap (wi_ap (wi_ap (wi_ap (wi_ap (wi_ap (wi_ap gwsX11_dues_r1 gwsX11_dues_r2) gwsX110) gwsX00) gwsX10) gwsX40) gwsX80) gwsX90)⟩)
theorem mw_4_106 : wo_P (Cond.methodLink RL 134 yX11_dues) := ⟨wi_4 106 rfl, good_of_word rfl⟩
theorem mw_4_107 : wo_P (Cond.instanceMethod yX11_dues) := ⟨wi_4 107 rfl, good_of_word rfl⟩
theorem mw_4_108 : wo_P (Cond.selects RX11 yX11_dues yX11_dues) := ⟨wi_4 108 rfl, good_of_word rfl⟩
theorem gL_law_X11_dues : GoodIn lw_tbl (wsV RL 134 RX11 yX11_dues wsX11_dues) := wo_V mw_4_106 mw_4_107 mw_4_108 mw_1_1 gwsX11_dues
theorem mw_6_16 : wo_P (Cond.code yX12_dues cX12_dues 3 (some .int)) := ⟨wi_6 16 rfl, good_of_word rfl⟩
set_option maxRecDepth 20000 in
theorem gwsX12_dues : ∀ w ∈ wsX12_dues, wo_P w := (List.forall_mem_cons.mpr ⟨mw_6_16, (wi_ap (List.forall_mem_cons.mpr ⟨mw_4_144, (List.forall_mem_cons.mpr ⟨mw_4_148, (List.forall_mem_cons.mpr ⟨mw_5_37, (List.forall_mem_cons.mpr ⟨mw_5_39, (List.forall_mem_cons.mpr ⟨mw_0_21, (List.forall_mem_cons.mpr ⟨mw_1_9, (List.forall_mem_cons.mpr ⟨mw_5_40, (List.forall_mem_cons.mpr ⟨mw_4_146, (List.forall_mem_cons.mpr ⟨mw_4_159, (List.forall_mem_cons.mpr ⟨mw_4_145, (List.forall_mem_nil _)⟩)⟩)⟩)⟩)⟩)⟩)⟩)⟩)⟩)⟩) gwsX120)⟩)
theorem mw_6_13 : wo_P (Cond.methodLink RL 137 yX12_dues) := ⟨wi_6 13 rfl, good_of_word rfl⟩
theorem mw_6_14 : wo_P (Cond.instanceMethod yX12_dues) := ⟨wi_6 14 rfl, good_of_word rfl⟩
theorem mw_6_15 : wo_P (Cond.selects RX12 yX12_dues yX12_dues) := ⟨wi_6 15 rfl, good_of_word rfl⟩
theorem gL_law_X12_dues : GoodIn lw_tbl (wsV RL 137 RX12 yX12_dues wsX12_dues) := wo_V mw_6_13 mw_6_14 mw_6_15 mw_1_9 gwsX12_dues
theorem mw_4_113 : wo_P (Cond.code yX11_tell cX11_tell 2 (some .int)) := ⟨wi_4 113 rfl, good_of_word rfl⟩
set_option maxRecDepth 20000 in
theorem gwsX11_tell : ∀ w ∈ wsX11_tell, wo_P w := (List.forall_mem_cons.mpr ⟨mw_4_113, (wi_ap (List.forall_mem_cons.mpr ⟨mw_1_192, (List.forall_mem_cons.mpr ⟨mw_1_191, (List.forall_mem_cons.mpr ⟨mw_1_223, (List.forall_mem_cons.mpr ⟨mw_1_225, (List.forall_mem_cons.mpr ⟨mw_0_0, (List.forall_mem_cons.mpr ⟨mw_1_1, (List.forall_mem_cons.mpr ⟨mw_1_226, (List.forall_mem_cons.mpr ⟨mw_1_190, (List.forall_mem_cons.mpr ⟨mw_1_227, (List.forall_mem_cons.mpr ⟨mw_1_220, (List.forall_mem_cons.mpr ⟨mw_1_221, (List.forall_mem_cons.mpr ⟨mw_1_222, (List.forall_mem_nil _)⟩)⟩)⟩)⟩)⟩)⟩)⟩)⟩)⟩)⟩)⟩)⟩) gwsX110)⟩)
theorem mw_4_110 : wo_P (Cond.methodLink RL 138 yX11_tell) := ⟨wi_4 110 rfl, good_of_word rfl⟩
theorem mw_4_111 : wo_P (Cond.instanceMethod yX11_tell) := ⟨wi_4 111 rfl, good_of_word rfl⟩
theorem mw_4_112 : wo_P (Cond.selects RX11 yX11_tell yX11_tell) := ⟨wi_4 112 rfl, good_of_word rfl⟩
theorem gL_law_X11_tell : GoodIn lw_tbl (wsV RL 138 RX11 yX11_tell wsX11_tell) := wo_V mw_4_110 mw_4_111 mw_4_112 mw_1_1 gwsX11_tell
theorem mw_6_20 : wo_P (Cond.code yX12_tell cX12_tell 2 (some .int)) := ⟨wi_6 20 rfl, good_of_word rfl⟩
theorem mw_4_160 : wo_P (Cond.fieldLink RX12 243 "BayMooringsModel" "tells" "I") := ⟨wi_4 160 rfl, good_of_word rfl⟩
set_option maxRecDepth 20000 in
theorem gwsX12_tell : ∀ w ∈ wsX12_tell, wo_P w := (List.forall_mem_cons.mpr ⟨mw_6_20, (wi_ap (List.forall_mem_cons.mpr ⟨mw_4_160, (List.forall_mem_cons.mpr ⟨mw_5_24, (List.forall_mem_cons.mpr ⟨mw_4_161, (List.forall_mem_cons.mpr ⟨mw_5_19, (List.forall_mem_cons.mpr ⟨mw_5_21, (List.forall_mem_cons.mpr ⟨mw_0_19, (List.forall_mem_cons.mpr ⟨mw_1_9, (List.forall_mem_cons.mpr ⟨mw_5_22, (List.forall_mem_cons.mpr ⟨mw_4_162, (List.forall_mem_cons.mpr ⟨mw_5_23, (List.forall_mem_nil _)⟩)⟩)⟩)⟩)⟩)⟩)⟩)⟩)⟩)⟩) gwsX120)⟩)
theorem mw_6_17 : wo_P (Cond.methodLink RL 141 yX12_tell) := ⟨wi_6 17 rfl, good_of_word rfl⟩
theorem mw_6_18 : wo_P (Cond.instanceMethod yX12_tell) := ⟨wi_6 18 rfl, good_of_word rfl⟩
theorem mw_6_19 : wo_P (Cond.selects RX12 yX12_tell yX12_tell) := ⟨wi_6 19 rfl, good_of_word rfl⟩
theorem gL_law_X12_tell : GoodIn lw_tbl (wsV RL 141 RX12 yX12_tell wsX12_tell) := wo_V mw_6_17 mw_6_18 mw_6_19 mw_1_9 gwsX12_tell
theorem mw_4_117 : wo_P (Cond.code yX11_check cX11_check 3 (some .int)) := ⟨wi_4 117 rfl, good_of_word rfl⟩
set_option maxRecDepth 20000 in
theorem gwsX11_check_r1 : ∀ w ∈ wsX11_check_r1, wo_P w := (List.forall_mem_cons.mpr ⟨mw_1_192, (List.forall_mem_cons.mpr ⟨mw_1_188, (List.forall_mem_cons.mpr ⟨mw_1_185, (List.forall_mem_cons.mpr ⟨mw_1_73, (List.forall_mem_cons.mpr ⟨mw_1_191, (List.forall_mem_cons.mpr ⟨mw_3_213, (List.forall_mem_cons.mpr ⟨mw_3_214, (List.forall_mem_cons.mpr ⟨mw_3_215, (List.forall_mem_cons.mpr ⟨mw_1_7, (List.forall_mem_cons.mpr ⟨mw_3_216, (List.forall_mem_cons.mpr ⟨mw_1_155, (List.forall_mem_cons.mpr ⟨mw_1_152, (List.forall_mem_cons.mpr ⟨mw_1_72, (List.forall_mem_cons.mpr ⟨mw_1_153, (List.forall_mem_cons.mpr ⟨mw_1_61, (List.forall_mem_cons.mpr ⟨mw_3_217, (List.forall_mem_cons.mpr ⟨mw_2_203, (List.forall_mem_cons.mpr ⟨mw_2_204, (List.forall_mem_cons.mpr ⟨mw_1_3, (List.forall_mem_cons.mpr ⟨mw_2_205, (List.forall_mem_cons.mpr ⟨mw_1_45, (List.forall_mem_cons.mpr ⟨mw_1_221, (List.forall_mem_cons.mpr ⟨mw_1_1, (List.forall_mem_cons.mpr ⟨mw_1_222, (List.forall_mem_nil _)⟩)⟩)⟩)⟩)⟩)⟩)⟩)⟩)⟩)⟩)⟩)⟩)⟩)⟩)⟩)⟩)⟩)⟩)⟩)⟩)⟩)⟩)⟩)⟩)
set_option maxRecDepth 20000 in
theorem gwsX11_check_r2 : ∀ w ∈ wsX11_check_r2, wo_P w := (List.forall_mem_cons.mpr ⟨mw_3_218, (List.forall_mem_cons.mpr ⟨mw_3_220, (List.forall_mem_cons.mpr ⟨mw_0_11, (List.forall_mem_cons.mpr ⟨mw_3_221, (List.forall_mem_cons.mpr ⟨mw_1_154, (List.forall_mem_cons.mpr ⟨mw_3_222, (List.forall_mem_cons.mpr ⟨mw_3_224, (List.forall_mem_cons.mpr ⟨mw_0_12, (List.forall_mem_cons.mpr ⟨mw_3_225, (List.forall_mem_cons.mpr ⟨mw_3_227, (List.forall_mem_cons.mpr ⟨mw_2_133, (List.forall_mem_cons.mpr ⟨mw_2_134, (List.forall_mem_cons.mpr ⟨mw_1_2, (List.forall_mem_cons.mpr ⟨mw_2_135, (List.forall_mem_cons.mpr ⟨mw_1_69, (List.forall_mem_cons.mpr ⟨mw_1_55, (List.forall_mem_cons.mpr ⟨mw_3_228, (List.forall_mem_cons.mpr ⟨mw_3_230, (List.forall_mem_cons.mpr ⟨mw_0_13, (List.forall_mem_cons.mpr ⟨mw_3_231, (List.forall_mem_cons.mpr ⟨mw_2_84, (List.forall_mem_cons.mpr ⟨mw_1_239, (List.forall_mem_cons.mpr ⟨mw_2_70, (List.forall_mem_cons.mpr ⟨mw_3_232, (List.forall_mem_nil _)⟩)⟩)⟩)⟩)⟩)⟩)⟩)⟩)⟩)⟩)⟩)⟩)⟩)⟩)⟩)⟩)⟩)⟩)⟩)⟩)⟩)⟩)⟩)⟩)
set_option maxRecDepth 20000 in
theorem gwsX11_check_r3 : ∀ w ∈ wsX11_check_r3, wo_P w := (List.forall_mem_cons.mpr ⟨mw_3_192, (List.forall_mem_cons.mpr ⟨mw_3_193, (List.forall_mem_cons.mpr ⟨mw_3_191, (List.forall_mem_cons.mpr ⟨mw_1_11, (List.forall_mem_cons.mpr ⟨mw_3_196, (List.forall_mem_cons.mpr ⟨mw_2_83, (List.forall_mem_cons.mpr ⟨mw_2_82, (List.forall_mem_cons.mpr ⟨mw_3_194, (List.forall_mem_cons.mpr ⟨mw_3_195, (List.forall_mem_cons.mpr ⟨mw_3_233, (List.forall_mem_cons.mpr ⟨mw_2_183, (List.forall_mem_cons.mpr ⟨mw_2_184, (List.forall_mem_cons.mpr ⟨mw_2_185, (List.forall_mem_cons.mpr ⟨mw_1_65, (List.forall_mem_cons.mpr ⟨mw_1_54, (List.forall_mem_cons.mpr ⟨mw_3_234, (List.forall_mem_cons.mpr ⟨mw_2_217, (List.forall_mem_cons.mpr ⟨mw_2_218, (List.forall_mem_cons.mpr ⟨mw_2_219, (List.forall_mem_cons.mpr ⟨mw_1_46, (List.forall_mem_cons.mpr ⟨mw_3_235, (List.forall_mem_cons.mpr ⟨mw_3_6, (List.forall_mem_cons.mpr ⟨mw_3_7, (List.forall_mem_cons.mpr ⟨mw_3_8, (List.forall_mem_nil _)⟩)⟩)⟩)⟩)⟩)⟩)⟩)⟩)⟩)⟩)⟩)⟩)⟩)⟩)⟩)⟩)⟩)⟩)⟩)⟩)⟩)⟩)⟩)⟩)
set_option maxRecDepth 20000 in
theorem gwsX11_check_r4 : ∀ w ∈ wsX11_check_r4, wo_P w := (List.forall_mem_cons.mpr ⟨mw_2_77, (List.forall_mem_cons.mpr ⟨mw_2_12, (List.forall_mem_cons.mpr ⟨mw_2_9, (List.forall_mem_cons.mpr ⟨mw_1_76, (List.forall_mem_cons.mpr ⟨mw_3_9, (List.forall_mem_cons.mpr ⟨mw_3_11, (List.forall_mem_cons.mpr ⟨mw_3_10, (List.forall_mem_cons.mpr ⟨mw_3_12, (List.forall_mem_cons.mpr ⟨mw_3_13, (List.forall_mem_cons.mpr ⟨mw_1_13, (List.forall_mem_cons.mpr ⟨mw_3_14, (List.forall_mem_cons.mpr ⟨mw_2_79, (List.forall_mem_cons.mpr ⟨mw_2_80, (List.forall_mem_cons.mpr ⟨mw_3_17, (List.forall_mem_cons.mpr ⟨mw_3_15, (List.forall_mem_cons.mpr ⟨mw_3_10, (List.forall_mem_cons.mpr ⟨mw_2_78, (List.forall_mem_cons.mpr ⟨mw_3_16, (List.forall_mem_cons.mpr ⟨mw_3_236, (List.forall_mem_cons.mpr ⟨mw_3_238, (List.forall_mem_cons.mpr ⟨mw_0_14, (List.forall_mem_cons.mpr ⟨mw_3_239, (List.forall_mem_cons.mpr ⟨mw_4_0, (List.forall_mem_cons.mpr ⟨mw_4_2, (List.forall_mem_nil _)⟩)⟩)⟩)⟩)⟩)⟩)⟩)⟩)⟩)⟩)⟩)⟩)⟩)⟩)⟩)⟩)⟩)⟩)⟩)⟩)⟩)⟩)⟩)⟩)
set_option maxRecDepth 20000 in
theorem gwsX11_check_r5 : ∀ w ∈ wsX11_check_r5, wo_P w := (List.forall_mem_cons.mpr ⟨mw_0_15, (List.forall_mem_cons.mpr ⟨mw_4_3, (List.forall_mem_cons.mpr ⟨mw_4_4, (List.forall_mem_cons.mpr ⟨mw_4_6, (List.forall_mem_cons.mpr ⟨mw_0_16, (List.forall_mem_cons.mpr ⟨mw_4_7, (List.forall_mem_cons.mpr ⟨mw_4_8, (List.forall_mem_cons.mpr ⟨mw_4_10, (List.forall_mem_cons.mpr ⟨mw_0_17, (List.forall_mem_cons.mpr ⟨mw_4_11, (List.forall_mem_cons.mpr ⟨mw_4_12, (List.forall_mem_cons.mpr ⟨mw_4_13, (List.forall_mem_cons.mpr ⟨mw_4_14, (List.forall_mem_cons.mpr ⟨mw_4_15, (List.forall_mem_nil _)⟩)⟩)⟩)⟩)⟩)⟩)⟩)⟩)⟩)⟩)⟩)⟩)⟩)⟩)
set_option maxRecDepth 20000 in
theorem gwsX11_check : ∀ w ∈ wsX11_check, wo_P w := (List.forall_mem_cons.mpr ⟨mw_4_117, (wi_ap (wi_ap (wi_ap (wi_ap (wi_ap (wi_ap (wi_ap (wi_ap (wi_ap gwsX11_check_r1 (wi_ap gwsX11_check_r2 (wi_ap gwsX11_check_r3 (wi_ap gwsX11_check_r4 gwsX11_check_r5)))) gwsX110) gwsX00) gwsX60) gwsX10) gwsX40) gwsX80) gwsX90) gwsX30)⟩)
theorem mw_4_114 : wo_P (Cond.methodLink RL 142 yX11_check) := ⟨wi_4 114 rfl, good_of_word rfl⟩
theorem mw_4_115 : wo_P (Cond.instanceMethod yX11_check) := ⟨wi_4 115 rfl, good_of_word rfl⟩
theorem mw_4_116 : wo_P (Cond.selects RX11 yX11_check yX11_check) := ⟨wi_4 116 rfl, good_of_word rfl⟩
theorem gL_law_X11_check : GoodIn lw_tbl (wsV RL 142 RX11 yX11_check wsX11_check) := wo_V mw_4_114 mw_4_115 mw_4_116 mw_1_1 gwsX11_check
theorem mw_6_24 : wo_P (Cond.code yX12_check cX12_check 3 (some .int)) := ⟨wi_6 24 rfl, good_of_word rfl⟩
set_option maxRecDepth 20000 in
theorem gwsX12_check_r1 : ∀ w ∈ wsX12_check_r1, wo_P w := (List.forall_mem_cons.mpr ⟨mw_4_160, (List.forall_mem_cons.mpr ⟨mw_4_144, (List.forall_mem_cons.mpr ⟨mw_4_161, (List.forall_mem_cons.mpr ⟨mw_4_170, (List.forall_mem_cons.mpr ⟨mw_5_196, (List.forall_mem_cons.mpr ⟨mw_5_198, (List.forall_mem_cons.mpr ⟨mw_0_40, (List.forall_mem_cons.mpr ⟨mw_1_9, (List.forall_mem_cons.mpr ⟨mw_5_199, (List.forall_mem_cons.mpr ⟨mw_4_171, (List.forall_mem_cons.mpr ⟨mw_4_148, (List.forall_mem_cons.mpr ⟨mw_4_172, (List.forall_mem_cons.mpr ⟨mw_5_200, (List.forall_mem_cons.mpr ⟨mw_5_202, (List.forall_mem_cons.mpr ⟨mw_0_41, (List.forall_mem_cons.mpr ⟨mw_5_203, (List.forall_mem_cons.mpr ⟨mw_5_204, (List.forall_mem_cons.mpr ⟨mw_5_206, (List.forall_mem_cons.mpr ⟨mw_0_42, (List.forall_mem_cons.mpr ⟨mw_5_207, (List.forall_mem_cons.mpr ⟨mw_4_157, (List.forall_mem_cons.mpr ⟨mw_4_158, (List.forall_mem_cons.mpr ⟨mw_4_143, (List.forall_mem_cons.mpr ⟨mw_5_89, (List.forall_mem_nil _)⟩)⟩)⟩)⟩)⟩)⟩)⟩)⟩)⟩)⟩)⟩)⟩)⟩)⟩)⟩)⟩)⟩)⟩)⟩)⟩)⟩)⟩)⟩)⟩)
set_option maxRecDepth 20000 in
theorem gwsX12_check_r2 : ∀ w ∈ wsX12_check_r2, wo_P w := (List.forall_mem_cons.mpr ⟨mw_5_91, (List.forall_mem_cons.mpr ⟨mw_0_27, (List.forall_mem_cons.mpr ⟨mw_5_92, (List.forall_mem_cons.mpr ⟨mw_4_145, (List.forall_mem_cons.mpr ⟨mw_4_147, (List.forall_mem_cons.mpr ⟨mw_4_146, (List.forall_mem_cons.mpr ⟨mw_4_140, (List.forall_mem_cons.mpr ⟨mw_4_139, (List.forall_mem_cons.mpr ⟨mw_4_149, (List.forall_mem_nil _)⟩)⟩)⟩)⟩)⟩)⟩)⟩)⟩)⟩)
set_option maxRecDepth 20000 in
theorem gwsX12_check : ∀ w ∈ wsX12_check, wo_P w := (List.forall_mem_cons.mpr ⟨mw_6_24, (wi_ap (wi_ap gwsX12_check_r1 gwsX12_check_r2) gwsX120)⟩)
theorem mw_6_21 : wo_P (Cond.methodLink RL 145 yX12_check) := ⟨wi_6 21 rfl, good_of_word rfl⟩
theorem mw_6_22 : wo_P (Cond.instanceMethod yX12_check) := ⟨wi_6 22 rfl, good_of_word rfl⟩
theorem mw_6_23 : wo_P (Cond.selects RX12 yX12_check yX12_check) := ⟨wi_6 23 rfl, good_of_word rfl⟩
theorem gL_law_X12_check : GoodIn lw_tbl (wsV RL 145 RX12 yX12_check wsX12_check) := wo_V mw_6_21 mw_6_22 mw_6_23 mw_1_9 gwsX12_check
theorem mw_4_121 : wo_P (Cond.code yX11_count cX11_count 2 (some .int)) := ⟨wi_4 121 rfl, good_of_word rfl⟩
theorem mw_4_125 : wo_P (Cond.code yX0_lyingBoats cX0_lyingBoats 3 (some .int)) := ⟨wi_4 125 rfl, good_of_word rfl⟩
theorem mw_4_124 : wo_P (Cond.selects RX0 yX0_lyingBoats yX0_lyingBoats) := ⟨wi_4 124 rfl, good_of_word rfl⟩
theorem mw_4_123 : wo_P (Cond.instanceMethod yX0_lyingBoats) := ⟨wi_4 123 rfl, good_of_word rfl⟩
theorem mw_4_122 : wo_P (Cond.methodLink RX11 275 yX0_lyingBoats) := ⟨wi_4 122 rfl, good_of_word rfl⟩
set_option maxRecDepth 20000 in
theorem gwsX11_count_r1 : ∀ w ∈ wsX11_count_r1, wo_P w := (List.forall_mem_cons.mpr ⟨mw_1_185, (List.forall_mem_cons.mpr ⟨mw_1_66, (List.forall_mem_cons.mpr ⟨mw_1_73, (List.forall_mem_cons.mpr ⟨mw_1_186, (List.forall_mem_cons.mpr ⟨mw_1_105, (List.forall_mem_cons.mpr ⟨mw_1_192, (List.forall_mem_cons.mpr ⟨mw_1_75, (List.forall_mem_cons.mpr ⟨mw_4_122, (List.forall_mem_cons.mpr ⟨mw_4_123, (List.forall_mem_cons.mpr ⟨mw_4_124, (List.forall_mem_cons.mpr ⟨mw_1_2, (List.forall_mem_cons.mpr ⟨mw_4_125, (List.forall_mem_cons.mpr ⟨mw_1_69, (List.forall_mem_cons.mpr ⟨mw_1_59, (List.forall_mem_cons.mpr ⟨mw_3_60, (List.forall_mem_cons.mpr ⟨mw_2_203, (List.forall_mem_cons.mpr ⟨mw_2_204, (List.forall_mem_cons.mpr ⟨mw_1_3, (List.forall_mem_cons.mpr ⟨mw_2_205, (List.forall_mem_cons.mpr ⟨mw_1_45, (List.forall_mem_cons.mpr ⟨mw_1_221, (List.forall_mem_cons.mpr ⟨mw_1_1, (List.forall_mem_cons.mpr ⟨mw_1_222, (List.forall_mem_cons.mpr ⟨mw_4_37, (List.forall_mem_nil _)⟩)⟩)⟩)⟩)⟩)⟩)⟩)⟩)⟩)⟩)⟩)⟩)⟩)⟩)⟩)⟩)⟩)⟩)⟩)⟩)⟩)⟩)⟩)⟩)
set_option maxRecDepth 20000 in
theorem gwsX11_count_r2 : ∀ w ∈ wsX11_count_r2, wo_P w := (List.forall_mem_cons.mpr ⟨mw_4_38, (List.forall_mem_cons.mpr ⟨mw_4_39, (List.forall_mem_cons.mpr ⟨mw_4_40, (List.forall_mem_cons.mpr ⟨mw_1_65, (List.forall_mem_cons.mpr ⟨mw_2_182, (List.forall_mem_cons.mpr ⟨mw_2_183, (List.forall_mem_cons.mpr ⟨mw_2_184, (List.forall_mem_cons.mpr ⟨mw_2_185, (List.forall_mem_cons.mpr ⟨mw_1_54, (List.forall_mem_cons.mpr ⟨mw_4_41, (List.forall_mem_cons.mpr ⟨mw_2_221, (List.forall_mem_cons.mpr ⟨mw_2_222, (List.forall_mem_cons.mpr ⟨mw_1_10, (List.forall_mem_cons.mpr ⟨mw_2_223, (List.forall_mem_cons.mpr ⟨mw_2_14, (List.forall_mem_cons.mpr ⟨mw_3_84, (List.forall_mem_cons.mpr ⟨mw_3_85, (List.forall_mem_cons.mpr ⟨mw_1_16, (List.forall_mem_cons.mpr ⟨mw_3_86, (List.forall_mem_cons.mpr ⟨mw_3_87, (List.forall_mem_cons.mpr ⟨mw_3_88, (List.forall_mem_cons.mpr ⟨mw_3_89, (List.forall_mem_cons.mpr ⟨mw_1_223, (List.forall_mem_cons.mpr ⟨mw_1_225, (List.forall_mem_nil _)⟩)⟩)⟩)⟩)⟩)⟩)⟩)⟩)⟩)⟩)⟩)⟩)⟩)⟩)⟩)⟩)⟩)⟩)⟩)⟩)⟩)⟩)⟩)⟩)
set_option maxRecDepth 20000 in
theorem gwsX11_count_r3 : ∀ w ∈ wsX11_count_r3, wo_P w := (List.forall_mem_cons.mpr ⟨mw_0_0, (List.forall_mem_cons.mpr ⟨mw_1_226, (List.forall_mem_cons.mpr ⟨mw_1_190, (List.forall_mem_cons.mpr ⟨mw_1_227, (List.forall_mem_cons.mpr ⟨mw_1_220, (List.forall_mem_nil _)⟩)⟩)⟩)⟩)⟩)
set_option maxRecDepth 20000 in
theorem gwsX11_count : ∀ w ∈ wsX11_count, wo_P w := (List.forall_mem_cons.mpr ⟨mw_4_121, (wi_ap (wi_ap (wi_ap (wi_ap (wi_ap (wi_ap gwsX11_count_r1 (wi_ap gwsX11_count_r2 gwsX11_count_r3)) gwsX110) gwsX00) gwsX100) gwsX10) gwsX30)⟩)
theorem mw_4_118 : wo_P (Cond.methodLink RL 146 yX11_count) := ⟨wi_4 118 rfl, good_of_word rfl⟩
theorem mw_4_119 : wo_P (Cond.instanceMethod yX11_count) := ⟨wi_4 119 rfl, good_of_word rfl⟩
theorem mw_4_120 : wo_P (Cond.selects RX11 yX11_count yX11_count) := ⟨wi_4 120 rfl, good_of_word rfl⟩
theorem gL_law_X11_count : GoodIn lw_tbl (wsV RL 146 RX11 yX11_count wsX11_count) := wo_V mw_4_118 mw_4_119 mw_4_120 mw_1_1 gwsX11_count
theorem mw_6_28 : wo_P (Cond.code yX12_count cX12_count 4 (some .int)) := ⟨wi_6 28 rfl, good_of_word rfl⟩
set_option maxRecDepth 20000 in
theorem gwsX12_count : ∀ w ∈ wsX12_count, wo_P w := (List.forall_mem_cons.mpr ⟨mw_6_28, (wi_ap (List.forall_mem_cons.mpr ⟨mw_4_144, (List.forall_mem_cons.mpr ⟨mw_4_148, (List.forall_mem_cons.mpr ⟨mw_4_136, (List.forall_mem_cons.mpr ⟨mw_4_153, (List.forall_mem_cons.mpr ⟨mw_4_160, (List.forall_mem_cons.mpr ⟨mw_4_150, (List.forall_mem_cons.mpr ⟨mw_5_18, (List.forall_mem_cons.mpr ⟨mw_5_216, (List.forall_mem_cons.mpr ⟨mw_5_218, (List.forall_mem_cons.mpr ⟨mw_0_43, (List.forall_mem_cons.mpr ⟨mw_1_9, (List.forall_mem_cons.mpr ⟨mw_5_219, (List.forall_mem_cons.mpr ⟨mw_5_66, (List.forall_mem_cons.mpr ⟨mw_5_68, (List.forall_mem_cons.mpr ⟨mw_0_24, (List.forall_mem_cons.mpr ⟨mw_5_69, (List.forall_mem_cons.mpr ⟨mw_4_141, (List.forall_mem_cons.mpr ⟨mw_5_19, (List.forall_mem_cons.mpr ⟨mw_5_21, (List.forall_mem_cons.mpr ⟨mw_0_19, (List.forall_mem_cons.mpr ⟨mw_5_22, (List.forall_mem_cons.mpr ⟨mw_4_162, (List.forall_mem_cons.mpr ⟨mw_5_23, (List.forall_mem_nil _)⟩)⟩)⟩)⟩)⟩)⟩)⟩)⟩)⟩)⟩)⟩)⟩)⟩)⟩)⟩)⟩)⟩)⟩)⟩)⟩)⟩)⟩)⟩) gwsX120)⟩)
theorem mw_6_25 : wo_P (Cond.methodLink RL 149 yX12_count) := ⟨wi_6 25 rfl, good_of_word rfl⟩
theorem mw_6_26 : wo_P (Cond.instanceMethod yX12_count) := ⟨wi_6 26 rfl, good_of_word rfl⟩
theorem mw_6_27 : wo_P (Cond.selects RX12 yX12_count yX12_count) := ⟨wi_6 27 rfl, good_of_word rfl⟩
theorem gL_law_X12_count : GoodIn lw_tbl (wsV RL 149 RX12 yX12_count wsX12_count) := wo_V mw_6_25 mw_6_26 mw_6_27 mw_1_9 gwsX12_count
theorem mw_4_129 : wo_P (Cond.code yX11_found cX11_found 2 (some .int)) := ⟨wi_4 129 rfl, good_of_word rfl⟩
set_option maxRecDepth 20000 in
theorem gwsX11_found : ∀ w ∈ wsX11_found, wo_P w := (List.forall_mem_cons.mpr ⟨mw_4_129, (wi_ap (List.forall_mem_cons.mpr ⟨mw_1_190, (List.forall_mem_cons.mpr ⟨mw_1_220, (List.forall_mem_cons.mpr ⟨mw_1_221, (List.forall_mem_cons.mpr ⟨mw_1_1, (List.forall_mem_cons.mpr ⟨mw_1_222, (List.forall_mem_cons.mpr ⟨mw_1_223, (List.forall_mem_cons.mpr ⟨mw_1_225, (List.forall_mem_cons.mpr ⟨mw_0_0, (List.forall_mem_cons.mpr ⟨mw_1_226, (List.forall_mem_cons.mpr ⟨mw_1_227, (List.forall_mem_nil _)⟩)⟩)⟩)⟩)⟩)⟩)⟩)⟩)⟩)⟩) gwsX110)⟩)
theorem mw_4_126 : wo_P (Cond.methodLink RL 150 yX11_found) := ⟨wi_4 126 rfl, good_of_word rfl⟩
theorem mw_4_127 : wo_P (Cond.instanceMethod yX11_found) := ⟨wi_4 127 rfl, good_of_word rfl⟩
theorem mw_4_128 : wo_P (Cond.selects RX11 yX11_found yX11_found) := ⟨wi_4 128 rfl, good_of_word rfl⟩
theorem gL_law_X11_found : GoodIn lw_tbl (wsV RL 150 RX11 yX11_found wsX11_found) := wo_V mw_4_126 mw_4_127 mw_4_128 mw_1_1 gwsX11_found
theorem mw_6_32 : wo_P (Cond.code yX12_found cX12_found 2 (some .int)) := ⟨wi_6 32 rfl, good_of_word rfl⟩
set_option maxRecDepth 20000 in
theorem gwsX12_found : ∀ w ∈ wsX12_found, wo_P w := (List.forall_mem_cons.mpr ⟨mw_6_32, (wi_ap (List.forall_mem_cons.mpr ⟨mw_4_162, (List.forall_mem_cons.mpr ⟨mw_5_18, (List.forall_mem_cons.mpr ⟨mw_5_15, (List.forall_mem_cons.mpr ⟨mw_5_16, (List.forall_mem_cons.mpr ⟨mw_1_9, (List.forall_mem_cons.mpr ⟨mw_5_17, (List.forall_mem_cons.mpr ⟨mw_5_19, (List.forall_mem_cons.mpr ⟨mw_5_21, (List.forall_mem_cons.mpr ⟨mw_0_19, (List.forall_mem_cons.mpr ⟨mw_5_22, (List.forall_mem_cons.mpr ⟨mw_5_23, (List.forall_mem_nil _)⟩)⟩)⟩)⟩)⟩)⟩)⟩)⟩)⟩)⟩)⟩) gwsX120)⟩)
theorem mw_6_29 : wo_P (Cond.methodLink RL 153 yX12_found) := ⟨wi_6 29 rfl, good_of_word rfl⟩
theorem mw_6_30 : wo_P (Cond.instanceMethod yX12_found) := ⟨wi_6 30 rfl, good_of_word rfl⟩
theorem mw_6_31 : wo_P (Cond.selects RX12 yX12_found yX12_found) := ⟨wi_6 31 rfl, good_of_word rfl⟩
theorem gL_law_X12_found : GoodIn lw_tbl (wsV RL 153 RX12 yX12_found wsX12_found) := wo_V mw_6_29 mw_6_30 mw_6_31 mw_1_9 gwsX12_found
theorem inX0 : ∀ w ∈ wsX00, w ∈ lw_tbl := fun w h => (gwsX00 w h).1
theorem inX1 : ∀ w ∈ wsX10, w ∈ lw_tbl := fun w h => (gwsX10 w h).1
set_option maxRecDepth 20000 in
theorem gwsX20 : ∀ w ∈ wsX20, wo_P w := (List.forall_mem_nil _)
theorem inX2 : ∀ w ∈ wsX20, w ∈ lw_tbl := fun w h => (gwsX20 w h).1
theorem inX3 : ∀ w ∈ wsX30, w ∈ lw_tbl := fun w h => (gwsX30 w h).1
theorem inX4 : ∀ w ∈ wsX40, w ∈ lw_tbl := fun w h => (gwsX40 w h).1
theorem inX5 : ∀ w ∈ wsX50, w ∈ lw_tbl := fun w h => (gwsX50 w h).1
theorem inX6 : ∀ w ∈ wsX60, w ∈ lw_tbl := fun w h => (gwsX60 w h).1
theorem inX7 : ∀ w ∈ wsX70, w ∈ lw_tbl := fun w h => (gwsX70 w h).1
theorem inX8 : ∀ w ∈ wsX80, w ∈ lw_tbl := fun w h => (gwsX80 w h).1
theorem inX9 : ∀ w ∈ wsX90, w ∈ lw_tbl := fun w h => (gwsX90 w h).1
theorem inX10 : ∀ w ∈ wsX100, w ∈ lw_tbl := fun w h => (gwsX100 w h).1
theorem inX11 : ∀ w ∈ wsX110, w ∈ lw_tbl := fun w h => (gwsX110 w h).1
theorem inX12 : ∀ w ∈ wsX120, w ∈ lw_tbl := fun w h => (gwsX120 w h).1
theorem mv_1_19 : (Cond.instantiable RX11 10) ∈ lw_tbl := wi_1 19 rfl
theorem mv_4_131 : (Cond.instantiable RX12 38) ∈ lw_tbl := wi_4 131 rfl
theorem mv_1_33 : (Cond.arrayOver (.object "BayMoorings$Buoy")) ∈ lw_tbl := wi_1 33 rfl
theorem mv_1_35 : (Cond.arrayOver (.object "BayMoorings$Boat")) ∈ lw_tbl := wi_1 35 rfl
theorem mv_2_40 : (Cond.methodLinkNest RX3 37 yX11_isHour RX11) ∈ lw_tbl := wi_2 40 rfl
theorem mv_2_136 : (Cond.methodLinkNest RX0 51 yX11_within RX11) ∈ lw_tbl := wi_2 136 rfl
theorem mv_2_181 : (Cond.methodLinkNest RX0 77 yX11_isHour RX11) ∈ lw_tbl := wi_2 181 rfl
theorem mv_2_206 : (Cond.methodLinkNest RX1 24 yX11_within RX11) ∈ lw_tbl := wi_2 206 rfl
theorem mv_3_70 : (Cond.methodLinkNest RX10 23 yX11_within RX11) ∈ lw_tbl := wi_3 70 rfl
theorem mv_3_134 : (Cond.methodLinkNest RX7 64 yX11_within RX11) ∈ lw_tbl := wi_3 134 rfl
theorem mv_3_197 : (Cond.methodLinkNest RX2 39 yX11_within RX11) ∈ lw_tbl := wi_3 197 rfl
theorem mv_3_226 : (Cond.methodLinkNest RX6 26 yX11_within RX11) ∈ lw_tbl := wi_3 226 rfl
theorem mv_3_45 : (Cond.fieldLinkNest RX0 159 "BayMoorings" "WIND_X" "[I" RX11) ∈ lw_tbl := wi_3 45 rfl
theorem mv_3_47 : (Cond.fieldLinkNest RX0 162 "BayMoorings" "WIND_Y" "[I" RX11) ∈ lw_tbl := wi_3 47 rfl
theorem mv_2_145 : (Cond.declares ⟨"BayMoorings$Boat", "kindNumber", "()I"⟩) ∈ lw_tbl := wi_2 145 rfl
theorem mv_2_166 : (Cond.declares ⟨"BayMoorings$Boat", "plainFee", "(I)I"⟩) ∈ lw_tbl := wi_2 166 rfl
theorem mv_6_38 : (Cond.castable RX4 "BayMoorings$Boat") ∈ lw_tbl := wi_6 38 rfl
theorem mv_6_39 : (Cond.castable RX8 "BayMoorings$Boat") ∈ lw_tbl := wi_6 39 rfl
theorem mv_6_37 : (Cond.castable RX9 "BayMoorings$Boat") ∈ lw_tbl := wi_6 37 rfl
theorem mv_3_46 : (Cond.laysStatic "BayMoorings" "WIND_X" "[I") ∈ lw_tbl := wi_3 46 rfl
theorem mv_3_48 : (Cond.laysStatic "BayMoorings" "WIND_Y" "[I") ∈ lw_tbl := wi_3 48 rfl
theorem mv_1_18 : (Cond.classLink RL 7 RX11) ∈ lw_tbl := wi_1 18 rfl
theorem mv_1_20 : (Cond.methodLink RL 9 yX11_init) ∈ lw_tbl := wi_1 20 rfl
theorem mv_1_21 : (Cond.instanceMethod yX11_init) ∈ lw_tbl := wi_1 21 rfl
theorem mv_4_130 : (Cond.classLink RL 10 RX12) ∈ lw_tbl := wi_4 130 rfl
theorem mv_4_132 : (Cond.methodLink RL 12 yX12_init) ∈ lw_tbl := wi_4 132 rfl
theorem mv_4_133 : (Cond.instanceMethod yX12_init) ∈ lw_tbl := wi_4 133 rfl
