section
theorem dJ6_bitCount_0f7a4_35 : decode cJ6_bitCount_0f7a4 35 = .ok (.iload_n 0, 1) := by decide +kernel
theorem dJ6_bitCount_0f7a4_36 : decode cJ6_bitCount_0f7a4 36 = .ok (.bipush 8, 2) := by decide +kernel
theorem dJ6_bitCount_0f7a4_38 : decode cJ6_bitCount_0f7a4 38 = .ok (.iushr, 1) := by decide +kernel
theorem dJ6_bitCount_0f7a4_39 : decode cJ6_bitCount_0f7a4 39 = .ok (.iadd, 1) := by decide +kernel
theorem dJ6_bitCount_0f7a4_40 : decode cJ6_bitCount_0f7a4 40 = .ok (.istore_n 0, 1) := by decide +kernel
theorem dJ6_bitCount_0f7a4_41 : decode cJ6_bitCount_0f7a4 41 = .ok (.iload_n 0, 1) := by decide +kernel
theorem dJ6_bitCount_0f7a4_42 : decode cJ6_bitCount_0f7a4 42 = .ok (.iload_n 0, 1) := by decide +kernel
theorem dJ6_bitCount_0f7a4_43 : decode cJ6_bitCount_0f7a4 43 = .ok (.bipush 16, 2) := by decide +kernel
theorem dJ6_bitCount_0f7a4_45 : decode cJ6_bitCount_0f7a4 45 = .ok (.iushr, 1) := by decide +kernel
theorem dJ6_bitCount_0f7a4_46 : decode cJ6_bitCount_0f7a4 46 = .ok (.iadd, 1) := by decide +kernel
theorem dJ6_bitCount_0f7a4_47 : decode cJ6_bitCount_0f7a4 47 = .ok (.istore_n 0, 1) := by decide +kernel
theorem dJ6_bitCount_0f7a4_48 : decode cJ6_bitCount_0f7a4 48 = .ok (.iload_n 0, 1) := by decide +kernel
theorem dJ6_bitCount_0f7a4_49 : decode cJ6_bitCount_0f7a4 49 = .ok (.bipush 63, 2) := by decide +kernel
theorem dJ6_bitCount_0f7a4_51 : decode cJ6_bitCount_0f7a4 51 = .ok (.iand, 1) := by decide +kernel
theorem dJ6_bitCount_0f7a4_52 : decode cJ6_bitCount_0f7a4 52 = .ok (.ireturn, 1) := by decide +kernel
theorem dJ9_abs_0f7a4_0 : decode cJ9_abs_0f7a4 0 = .ok (.iload_n 0, 1) := by decide +kernel
theorem dJ9_abs_0f7a4_1 : decode cJ9_abs_0f7a4 1 = .ok (.ifCond .ge 8, 3) := by decide +kernel
theorem dJ9_abs_0f7a4_4 : decode cJ9_abs_0f7a4 4 = .ok (.iload_n 0, 1) := by decide +kernel
theorem dJ9_abs_0f7a4_5 : decode cJ9_abs_0f7a4 5 = .ok (.ineg, 1) := by decide +kernel
theorem dJ9_abs_0f7a4_6 : decode cJ9_abs_0f7a4 6 = .ok (.goto 4, 3) := by decide +kernel
theorem dJ9_abs_0f7a4_9 : decode cJ9_abs_0f7a4 9 = .ok (.iload_n 0, 1) := by decide +kernel
theorem dJ9_abs_0f7a4_10 : decode cJ9_abs_0f7a4 10 = .ok (.ireturn, 1) := by decide +kernel
theorem dJ9_max_7cf53_0 : decode cJ9_max_7cf53 0 = .ok (.iload_n 0, 1) := by decide +kernel
theorem dJ9_max_7cf53_1 : decode cJ9_max_7cf53 1 = .ok (.iload_n 1, 1) := by decide +kernel
theorem dJ9_max_7cf53_2 : decode cJ9_max_7cf53 2 = .ok (.if_icmp .lt 7, 3) := by decide +kernel
theorem dJ9_max_7cf53_5 : decode cJ9_max_7cf53 5 = .ok (.iload_n 0, 1) := by decide +kernel
theorem dJ9_max_7cf53_6 : decode cJ9_max_7cf53 6 = .ok (.goto 4, 3) := by decide +kernel
theorem dJ9_max_7cf53_9 : decode cJ9_max_7cf53 9 = .ok (.iload_n 1, 1) := by decide +kernel
theorem dJ9_max_7cf53_10 : decode cJ9_max_7cf53 10 = .ok (.ireturn, 1) := by decide +kernel
theorem dJ9_min_7cf53_0 : decode cJ9_min_7cf53 0 = .ok (.iload_n 0, 1) := by decide +kernel
theorem dJ9_min_7cf53_1 : decode cJ9_min_7cf53 1 = .ok (.iload_n 1, 1) := by decide +kernel
theorem dJ9_min_7cf53_2 : decode cJ9_min_7cf53 2 = .ok (.if_icmp .gt 7, 3) := by decide +kernel
theorem dJ9_min_7cf53_5 : decode cJ9_min_7cf53 5 = .ok (.iload_n 0, 1) := by decide +kernel
theorem dJ9_min_7cf53_6 : decode cJ9_min_7cf53 6 = .ok (.goto 4, 3) := by decide +kernel
theorem dJ9_min_7cf53_9 : decode cJ9_min_7cf53 9 = .ok (.iload_n 1, 1) := by decide +kernel
theorem dJ9_min_7cf53_10 : decode cJ9_min_7cf53 10 = .ok (.ireturn, 1) := by decide +kernel
theorem dJ7_fill_53178_0 : decode cJ7_fill_53178 0 = .ok (.iconst 0, 1) := by decide +kernel
theorem dJ7_fill_53178_1 : decode cJ7_fill_53178 1 = .ok (.istore_n 2, 1) := by decide +kernel
theorem dJ7_fill_53178_2 : decode cJ7_fill_53178 2 = .ok (.aload_n 0, 1) := by decide +kernel
theorem dJ7_fill_53178_3 : decode cJ7_fill_53178 3 = .ok (.arraylength, 1) := by decide +kernel
theorem dJ7_fill_53178_4 : decode cJ7_fill_53178 4 = .ok (.istore_n 3, 1) := by decide +kernel
theorem dJ7_fill_53178_5 : decode cJ7_fill_53178 5 = .ok (.iload_n 2, 1) := by decide +kernel
theorem dJ7_fill_53178_6 : decode cJ7_fill_53178 6 = .ok (.iload_n 3, 1) := by decide +kernel
theorem dJ7_fill_53178_7 : decode cJ7_fill_53178 7 = .ok (.if_icmp .ge 13, 3) := by decide +kernel
theorem dJ7_fill_53178_10 : decode cJ7_fill_53178 10 = .ok (.aload_n 0, 1) := by decide +kernel
theorem dJ7_fill_53178_11 : decode cJ7_fill_53178 11 = .ok (.iload_n 2, 1) := by decide +kernel
theorem dJ7_fill_53178_12 : decode cJ7_fill_53178 12 = .ok (.iload_n 1, 1) := by decide +kernel
theorem dJ7_fill_53178_13 : decode cJ7_fill_53178 13 = .ok (.iastore, 1) := by decide +kernel
theorem dJ7_fill_53178_14 : decode cJ7_fill_53178 14 = .ok (.iinc 2 1, 3) := by decide +kernel
theorem dJ7_fill_53178_17 : decode cJ7_fill_53178 17 = .ok (.goto (-12), 3) := by decide +kernel
theorem dJ7_fill_53178_20 : decode cJ7_fill_53178 20 = .ok (.return_, 1) := by decide +kernel
end
section
/-! ===== what every method asks of its start: the typed heap, the classes, the nest's links, the two static rows ===== -/
abbrev th_Zt : Type := (Nat × Nat) × (Nat → Int32) × (Nat → Int32)
def th_Z (Z : th_Zt) (A : Nat → Prop) (U : State) (H : Heap) : Prop := va_Z "BayMoorings" "WIND_X" "[I" (.ref Z.1.1) A U H ∧ va_T .int Z.1.1 8 (fun j => .int (Z.2.1 j)) A U H ∧ va_Z "BayMoorings" "WIND_Y" "[I" (.ref Z.1.2) A U H ∧ va_T .int Z.1.2 8 (fun j => .int (Z.2.2 j)) A U H
theorem th_Z.moved {Z : th_Zt} {A : Nat → Prop} {u U : State} {H : Heap} (hvm : u.vm.Alike U.vm) (h : th_Z Z A u H) : th_Z Z A U H := ⟨h.1.moved hvm, h.2.1.moved hvm, h.2.2.1.moved hvm, h.2.2.2.moved hvm⟩
theorem th_Z.kept {Z : th_Zt} {A : Nat → Prop} {U : State} {H H1 : Heap} (h : th_Z Z A U H) (hq : ∀ a : Nat, a < H.size → ¬ A a → H1[a]? = H[a]?) : th_Z Z A U H1 := ⟨h.1.kept hq, h.2.1.kept hq, h.2.2.1.kept hq, h.2.2.2.kept hq⟩
theorem th_Z.narrow {Z : th_Zt} {A B : Nat → Prop} {U : State} {H : Heap} (h : th_Z Z A U H) (hAB : ∀ q, B q → A q) : th_Z Z B U H := ⟨h.1.narrow hAB, h.2.1.narrow hAB, h.2.2.1.narrow hAB, h.2.2.2.narrow hAB⟩
def th_N (U : State) : Prop := va_Nw (.methodLinkNest RX3 37 yX11_isHour RX11) U ∧ va_Nw (.methodLinkNest RX0 51 yX11_within RX11) U ∧ va_Nw (.methodLinkNest RX0 77 yX11_isHour RX11) U ∧ va_Nw (.methodLinkNest RX1 24 yX11_within RX11) U ∧ va_Nw (.methodLinkNest RX10 23 yX11_within RX11) U ∧ va_Nw (.methodLinkNest RX7 64 yX11_within RX11) U ∧ va_Nw (.methodLinkNest RX2 39 yX11_within RX11) U ∧ va_Nw (.methodLinkNest RX6 26 yX11_within RX11) U ∧ va_Nw (.fieldLinkNest RX0 159 "BayMoorings" "WIND_X" "[I" RX11) U ∧ va_Nw (.fieldLinkNest RX0 162 "BayMoorings" "WIND_Y" "[I" RX11) U ∧ va_Nw (.declares ⟨"BayMoorings$Boat", "kindNumber", "()I"⟩) U ∧ va_Nw (.declares ⟨"BayMoorings$Boat", "plainFee", "(I)I"⟩) U ∧ va_AO "BayMoorings$Boat" U ∧ va_AO "BayMoorings$Buoy" U ∧ va_Nw (.castable RX4 "BayMoorings$Boat") U ∧ va_Nw (.castable RX8 "BayMoorings$Boat") U ∧ va_Nw (.castable RX9 "BayMoorings$Boat") U
theorem th_N.warm {s U : State} (hW : s.WarmedH U.vm) (h : th_N s) : th_N U := by
  obtain ⟨h1, h2, h3, h4, h5, h6, h7, h8, h9, h10, h11, h12, h13, h14, h15, h16, h17⟩ := h
  exact ⟨va_Nw.warmM hW h1, va_Nw.warmM hW h2, va_Nw.warmM hW h3, va_Nw.warmM hW h4, va_Nw.warmM hW h5, va_Nw.warmM hW h6, va_Nw.warmM hW h7, va_Nw.warmM hW h8, va_Nw.warmF hW h9, va_Nw.warmF hW h10, va_Nw.warmD hW h11, va_Nw.warmD hW h12, h13.moved hW.alike, h14.moved hW.alike, va_Nw.warmC hW h15, va_Nw.warmC hW h16, va_Nw.warmC hW h17⟩
theorem th_N.same {u U : State} (hv : u.vm = U.vm) (h : th_N u) : th_N U := by
  obtain ⟨h1, h2, h3, h4, h5, h6, h7, h8, h9, h10, h11, h12, h13, h14, h15, h16, h17⟩ := h
  have ha : u.vm.Alike U.vm := hv ▸ Vm.Alike.refl u.vm
  exact ⟨va_Nw.same rfl hv h1, va_Nw.same rfl hv h2, va_Nw.same rfl hv h3, va_Nw.same rfl hv h4, va_Nw.same rfl hv h5, va_Nw.same rfl hv h6, va_Nw.same rfl hv h7, va_Nw.same rfl hv h8, va_Nw.same rfl hv h9, va_Nw.same rfl hv h10, va_Nw.same rfl hv h11, va_Nw.same rfl hv h12, h13.moved ha, h14.moved ha, va_Nw.same rfl hv h15, va_Nw.same rfl hv h16, va_Nw.same rfl hv h17⟩
def th_Pre (D : va_G) (cA : Nat → ClassId) (Z : th_Zt) (τ : th_t) (gi : th_i) (gr : th_r) (sz : Nat) (U : State) : Prop := U.heap.size = sz ∧ th_H D cA τ gi gr U.heap ∧ va_K D vwCl (th_tys cA) U ∧ th_N U ∧ th_Z Z (th_A τ sz) U U.heap
theorem th_blind {D : va_G} {cA : Nat → ClassId} {Z : th_Zt} {τ : th_t} {gi : th_i} {gr : th_r} {sz : Nat} {av : List Value} : FrameBlind (va_Pc av (th_Pre D cA Z τ gi gr sz)) := fun a U g mk q => by
  obtain ⟨q0, q1, q2, q3, q4, q5⟩ := q
  exact ⟨q0, q1, q2, va_K.moved (u := U) (U := U.calling g mk a) (Vm.Alike.refl U.vm) q3, th_N.same (u := U) (U := U.calling g mk a) rfl q4, th_Z.moved (u := U) (U := U.calling g mk a) (Vm.Alike.refl U.vm) q5⟩
theorem th_pre {D : va_G} {cA : Nat → ClassId} {Z : th_Zt} {τ : th_t} {gi : th_i} {gr : th_r} {s : State} {H : Heap} {A0 : Nat → Prop} {locs : List Loc} {av : List Value} (hH : th_H D cA τ gi gr H) (hK : va_K D vwCl (th_tys cA) s) (hN : th_N s) (hZ : th_Z Z A0 s s.heap) (hS : va_S A0 s.heap H locs) (hA : ∀ q, th_A τ H.size q → A0 q) : ∀ U : State, U.heap = H → s.WarmedH U.vm → va_Pc av (th_Pre D cA Z τ gi gr H.size) av.toArray U := fun U hU hW =>
  ⟨rfl, by rw [hU], by rw [hU]; exact hH, va_K.moved hW.alike hK, th_N.warm hW hN, by rw [hU]; exact ((hZ.kept hS.2.1).narrow hA).moved hW.alike⟩
theorem th_recv {D : va_G} {cA : Nat → ClassId} {τ : th_t} {gi : th_i} {gr : th_r} {s : State} {H : Heap} {tys : List (ClassId × FieldType)} {b c ci : Nat} {q : vw_C} {fs : List Value} (hK : va_K D vwCl tys s) (hH : th_H D cA τ gi gr H) (ht : τ b = c) (h0 : c ≠ 0) (he : th_E cA c (gi b) (gr b) = .inr (ci, fs)) (hc : vwCl[ci]? = some q) : ∃ cell : Cell, H[b]? = some cell ∧ cell.vm.isStatics = false ∧ s.vm.findClass q.1 = some cell.cls := va_recv hK (hH.P ht h0 he) (q0 := 0) hc rfl
theorem th_Asub {τ : th_t} {H0 H : Heap} {locs : List Loc} {A : Nat → Prop} (hS : va_S A H0 H locs) : ∀ q, th_A τ H.size q → th_A τ H0.size q := fun _ h => h.imp id (fun h => Nat.le_trans hS.1 h)
section TN
variable {p : Program} {l : Launch} {e : Env} {R : Room} {s : State} {m : MethodId} {args : Array Value} {below : List Frame} {meth : Method} {c : Code} {H : Heap} {locs : List Loc} {cells slots : Nat} {Q : State → Prop}
variable {cc : ByteArray} {pc : Nat} {ls : Array Slot} {rest : List Value}
/-- loads and stores of what may be null, and the tests -/
theorem th_aloadq_n (hexec : p.tables.exec = Jvm.exec) (hb : c.code = cc) {k : Fin 4} {i : Nat} {r : Option Nat} (hdg : decode cc pc = .ok (.aload_n k, 1)) (hi : (k : Nat) = i) (hl : ls[i]? = some (.val (va_rf r))) (kk : W p l e R s m args below meth c H locs cells slots Q (F0 m (pc + 1) ls (va_rf r :: rest))) : W p l e R s m args below meth c H locs cells slots Q (F0 m pc ls rest) := by
  cases r with
  | none => exact lv_aload_nN hexec hb hdg hi hl kk
  | some x => exact lv_aload_n hexec hb hdg hi hl kk
theorem th_aloadq (hexec : p.tables.exec = Jvm.exec) (hb : c.code = cc) {i : Nat} {r : Option Nat} (hdg : decode cc pc = .ok (.aload i, 2)) (hl : ls[i]? = some (.val (va_rf r))) (kk : W p l e R s m args below meth c H locs cells slots Q (F0 m (pc + 2) ls (va_rf r :: rest))) : W p l e R s m args below meth c H locs cells slots Q (F0 m pc ls rest) := by
  cases r with
  | none => exact lv_aloadN hexec hb hdg hl kk
  | some x => exact lv_aload hexec hb hdg hl kk
theorem th_cat (r : Option Nat) : (va_rf r).category = 1 := by cases r <;> rfl
theorem th_astoreq_n (hexec : p.tables.exec = Jvm.exec) (hb : c.code = cc) {k : Fin 4} {i nL : Nat} {r : Option Nat} {lv lv' : List (Nat × Value)} (hdg : decode cc pc = .ok (.astore_n k, 1)) (hi : (k : Nat) = i) (h : lv_has ls nL lv) (hn : i < nL) (hl : (i, va_rf r) :: lv.filter (fun q => !(q.1 == i) && !(q.1 + 1 == i && q.2.category == 2)) = lv') (kk : ∀ ls' : Array Slot, lv_has ls' nL lv' → W p l e R s m args below meth c H locs cells slots Q (F0 m (pc + 1) ls' rest)) : W p l e R s m args below meth c H locs cells slots Q (F0 m pc ls (va_rf r :: rest)) := by
  cases r with
  | none => exact lv_astore_nN hexec hb hdg hi h hn hl kk
  | some x => exact lv_astore_n hexec hb hdg hi h hn hl kk
theorem th_astoreq (hexec : p.tables.exec = Jvm.exec) (hb : c.code = cc) {i nL : Nat} {r : Option Nat} {lv lv' : List (Nat × Value)} (hdg : decode cc pc = .ok (.astore i, 2)) (h : lv_has ls nL lv) (hn : i < nL) (hl : (i, va_rf r) :: lv.filter (fun q => !(q.1 == i) && !(q.1 + 1 == i && q.2.category == 2)) = lv') (kk : ∀ ls' : Array Slot, lv_has ls' nL lv' → W p l e R s m args below meth c H locs cells slots Q (F0 m (pc + 2) ls' rest)) : W p l e R s m args below meth c H locs cells slots Q (F0 m pc ls (va_rf r :: rest)) := by
  cases r with
  | none => exact lv_astoreN hexec hb hdg h hn hl kk
  | some x => exact lv_astore hexec hb hdg h hn hl kk
theorem th_ifnull (hexec : p.tables.exec = Jvm.exec) (hb : c.code = cc) {r : Option Nat} {off : Int} {tgt : Nat} (hdg : decode cc pc = .ok (.ifnull off, 3)) (ht : (pc : Int) + off = (tgt : Int)) (kn : r = none → W p l e R s m args below meth c H locs cells slots Q (F0 m tgt ls rest)) (ks : ∀ q, r = some q → W p l e R s m args below meth c H locs cells slots Q (F0 m (pc + 3) ls rest)) : W p l e R s m args below meth c H locs cells slots Q (F0 m pc ls (va_rf r :: rest)) := by
  cases r with
  | none => exact lv_ifnullN hexec hb hdg ht (kn rfl)
  | some x => exact lv_ifnull hexec hb hdg (ks x rfl)
theorem th_ifnonnull (hexec : p.tables.exec = Jvm.exec) (hb : c.code = cc) {r : Option Nat} {off : Int} {tgt : Nat} (hdg : decode cc pc = .ok (.ifnonnull off, 3)) (ht : (pc : Int) + off = (tgt : Int)) (ks : ∀ q, r = some q → W p l e R s m args below meth c H locs cells slots Q (F0 m tgt ls rest)) (kn : r = none → W p l e R s m args below meth c H locs cells slots Q (F0 m (pc + 3) ls rest)) : W p l e R s m args below meth c H locs cells slots Q (F0 m pc ls (va_rf r :: rest)) := by
  cases r with
  | none => exact lv_ifnonnullN hexec hb hdg (kn rfl)
  | some x => exact lv_ifnonnull hexec hb hdg ht (ks x rfl)
theorem th_topq {r0 : Option Nat} (k : ∀ r : Option Nat, r = r0 → W p l e R s m args below meth c H locs cells slots Q (F0 m pc ls (va_rf r :: rest))) : W p l e R s m args below meth c H locs cells slots Q (F0 m pc ls (va_rf r0 :: rest)) := k r0 rfl
end TN
end
section
theorem rg_dA {l h c : Int} {x a b : Int32} (e : x = a + b) (pa : rg l h a) (pb : rg c c b) (h1 : -2147483648 ≤ l + c) (h2 : h + c ≤ 2147483647) : x.toInt = a.toInt + c := by
  have := rg_addI pa pb h1 h2
  obtain ⟨q1, q2⟩ := pb
  rw [e, this]
  omega
theorem rg_dS {l h c : Int} {x a b : Int32} (e : x = a - b) (pa : rg l h a) (pb : rg c c b) (h1 : -2147483648 ≤ l - c) (h2 : h - c ≤ 2147483647) : x.toInt = a.toInt + -c := by
  obtain ⟨p1, p2⟩ := pa
  obtain ⟨q1, q2⟩ := pb
  rw [e, Int32.toInt_sub, rg_bm (by omega) (by omega)]
  omega
theorem rg_back {c l1 h1 l2 h2 lo hi : Int} {x a : Int32} (e : x.toInt = a.toInt + c) (fa : rg l1 h1 a) (fx : rg l2 h2 x) (g1 : lo ≤ l1 ∨ lo ≤ l2 - c) (g2 : h1 ≤ hi ∨ h2 - c ≤ hi) : rg lo hi a := by
  obtain ⟨p1, p2⟩ := fa
  obtain ⟨q1, q2⟩ := fx
  exact ⟨by omega, by omega⟩
theorem th_up {lo hi B : Int} {x y : Int32} {k : Nat} (e : x.toInt = y.toInt + 1) (fy : rg lo hi y) (hn : (B - y.toInt).toNat < k + 1) (h : hi < B) : (B - x.toInt).toNat < k := by
  obtain ⟨p1, p2⟩ := fy
  omega
theorem th_dn {lo hi B : Int} {x y : Int32} {k : Nat} (e : x.toInt = y.toInt + -1) (fy : rg lo hi y) (hn : (y.toInt - B).toNat < k + 1) (h : B < lo) : (x.toInt - B).toNat < k := by
  obtain ⟨p1, p2⟩ := fy
  omega
theorem rg_no {lo hi : Int} {x : Int32} (h : hi < lo) : ¬ rg lo hi x := fun q => by
  obtain ⟨p1, p2⟩ := q
  omega
theorem rg_one {a : Int} {x y : Int32} (hx : rg a a x) (hy : rg a a y) : x = y := by
  obtain ⟨p1, p2⟩ := hx
  obtain ⟨q1, q2⟩ := hy
  exact Int32.toInt_inj.mp (by omega)
theorem rg_cl {lo hi : Int} {x : Int32} {n : Nat} (h : rg lo hi x) (h0 : 0 ≤ lo) (h1 : hi < (n : Int)) : x.toNatClampNeg < n := Nat.not_le.mp fun q => (rg_in h h0 h1) (Or.inr q)
theorem rg_wi {a b c d : Int} {x lo hi : Int32} (pl : rg a b lo) (ph : rg c d hi) (h : lo ≤ x ∧ x ≤ hi) : rg a d x := by
  obtain ⟨p1, p2⟩ := pl
  obtain ⟨q1, q2⟩ := ph
  have h1 := Int32.le_iff_toInt_le.mp h.1
  have h2 := Int32.le_iff_toInt_le.mp h.2
  exact ⟨by omega, by omega⟩
theorem rg_rem {a b c d : Int} {x y : Int32} (hx : rg a b x) (hy : rg c d y) (ha : 0 ≤ a) (hc : 0 < c) : rg 0 (d - 1) (x - x / y * y) := by
  obtain ⟨p1, p2⟩ := hx
  obtain ⟨q1, q2⟩ := hy
  have x2 := Int32.toInt_lt x
  have e : (x / y).toInt = x.toInt / y.toInt := by
    rw [Int32.toInt_div_of_ne_right]
    · exact Int.tdiv_eq_ediv_of_nonneg (by omega)
    · intro q
      have : (-1 : Int32).toInt = -1 := by decide
      rw [q] at q1
      omega
  have hy0 : 0 < y.toInt := by omega
  have m1 := Int.emod_nonneg x.toInt (show y.toInt ≠ 0 by omega)
  have m2 := Int.emod_lt_of_pos x.toInt hy0
  have m3 := Int.emod_add_mul_ediv x.toInt y.toInt
  have d0 : 0 ≤ x.toInt / y.toInt := Int.ediv_nonneg (by omega) (by omega)
  have d1 : 0 ≤ x.toInt / y.toInt * y.toInt := Int.mul_nonneg d0 (by omega)
  have d2 : x.toInt / y.toInt * y.toInt = y.toInt * (x.toInt / y.toInt) := Int.mul_comm _ _
  have e2 : (x / y * y).toInt = x.toInt / y.toInt * y.toInt := by
    rw [Int32.toInt_mul, e]
    exact rg_bm (by omega) (by omega)
  have e3 : (x - x / y * y).toInt = x.toInt % y.toInt := by
    rw [Int32.toInt_sub, e2, rg_bm (by omega) (by omega)]
    omega
  rw [rg, e3]
  constructor <;> omega
theorem rg_shr1 {a b : Int} {x : Int32} (hx : rg a b x) (ha : 0 ≤ a) : rg (a / 2) (b / 2) (x >>> (1 &&& 31)) := by
  obtain ⟨p1, p2⟩ := hx
  have e : (x >>> ((1 : Int32) &&& 31)).toInt = x.toInt / 2 := by
    rw [pk_shr x _ 1 (by decide), Int.shiftRight_eq_div_pow]
    rfl
  rw [rg, e]
  constructor <;> omega
theorem th_or2 {A B P : Prop} (h : A ∨ B) (a : A → P) (b : B → P) : P := h.elim a b
theorem th_or3 {A B C P : Prop} (h : A ∨ B ∨ C) (a : A → P) (b : B → P) (c : C → P) : P := h.elim a (fun h => h.elim b c)
theorem th_any2 {A B P K : Prop} (h : A ∨ B) (a : A → K → P) (b : B → K → P) (k : K) : P := h.elim (fun h => a h k) (fun h => b h k)
theorem th_any3 {A B C P K : Prop} (h : A ∨ B ∨ C) (a : A → K → P) (b : B → K → P) (c : C → K → P) (k : K) : P := h.elim (fun h => a h k) (fun h => h.elim (fun h => b h k) (fun h => c h k))
theorem th_ne {τ : th_t} {a b c d : Nat} (h1 : τ b = c) (h2 : τ a = d) (h : c ≠ d) : b ≠ a := fun q => h (by rw [← h1, ← h2, q])
theorem th_Ht {D : va_G} {cA : Nat → ClassId} {τ : th_t} {gi : th_i} {gr : th_r} {H : Heap} {t : State} (ht : t.heap = H) (hH : th_H D cA τ gi gr H) : th_H D cA τ gi gr t.heap := by rw [ht]; exact hH
theorem th_half {lo hi : Int} {x y : Int32} {k : Nat} (e : x = y >>> (1 &&& 31)) (fy : rg lo hi y) (hn : y.toInt.toNat < k + 1) (h : 0 < lo) : x.toInt.toNat < k := by
  have e1 : (y >>> ((1 : Int32) &&& 31)).toInt = y.toInt / 2 := by
    rw [pk_shr y _ 1 (by decide), Int.shiftRight_eq_div_pow]
    rfl
  obtain ⟨p1, p2⟩ := fy
  rw [e, e1]
  omega
end
section
/-! ===== making cells ===== -/
theorem th_em {τ τ' : th_t} {r : Option Nat} {c : Nat} (hm : ∀ a, τ a ≠ 0 → τ' a = τ a) (hc : c ≠ 0) (h : ∃ q, r = some q ∧ τ q = c) : ∃ q, r = some q ∧ τ' q = c := by
  obtain ⟨q, h1, h2⟩ := h
  exact ⟨q, h1, by rw [hm q (by rw [h2]; exact hc), h2]⟩
theorem th_m1 {τ τ' : th_t} {q c : Nat} (hm : ∀ a, τ a ≠ 0 → τ' a = τ a) (hc : c ≠ 0) (h : τ q = c) : τ' q = c := by rw [hm q (by rw [h]; exact hc), h]
theorem th_Imono {c : Nat} {τ τ' : th_t} {f : Nat → Int32} {r : Nat → Option Nat} (hm : ∀ a, τ a ≠ 0 → τ' a = τ a) (h : th_I c τ f r) : th_I c τ' f r := by
  unfold th_I at h
  split at h
  · exact ⟨th_em hm (by decide) (h.1), th_em hm (by decide) (h.2.1), th_em hm (by decide) (h.2.2.1), th_em hm (by decide) (h.2.2.2.1), th_em hm (by decide) (h.2.2.2.2.1), h.2.2.2.2.2.1, h.2.2.2.2.2.2⟩
  · exact ⟨th_em hm (by decide) (h.1), th_em hm (by decide) (h.2)⟩
  · exact th_em hm (by decide) h
  · exact ⟨th_em hm (by decide) (h.1), h.2⟩
  · exact ⟨th_em hm (by decide) (h.1), th_em hm (by decide) (h.2)⟩
  · exact ⟨th_em hm (by decide) (h.1), th_em hm (by decide) (h.2.1), th_em hm (by decide) (h.2.2)⟩
  · exact ⟨th_em hm (by decide) (h.1), th_em hm (by decide) (h.2.1), h.2.2.1, th_em hm (by decide) (h.2.2.2.1), th_em hm (by decide) (h.2.2.2.2.1), th_em hm (by decide) (h.2.2.2.2.2.1), th_em hm (by decide) (h.2.2.2.2.2.2)⟩
  · exact ⟨th_em hm (by decide) (h.1), h.2⟩
  · exact ⟨th_em hm (by decide) (h.1), h.2⟩
  · exact ⟨th_em hm (by decide) (h.1), th_em hm (by decide) (h.2.1), h.2.2⟩
  · exact ⟨th_em hm (by decide) (h.1), th_em hm (by decide) (h.2.1), th_em hm (by decide) (h.2.2.1), th_em hm (by decide) (h.2.2.2.1), th_em hm (by decide) (h.2.2.2.2.1), th_em hm (by decide) (h.2.2.2.2.2.1), th_em hm (by decide) (h.2.2.2.2.2.2.1), h.2.2.2.2.2.2.2.1, h.2.2.2.2.2.2.2.2⟩
  · exact ⟨h.1, th_em hm (by decide) (h.2.1), th_em hm (by decide) (h.2.2.1), th_em hm (by decide) (h.2.2.2.1), th_em hm (by decide) (h.2.2.2.2.1), th_em hm (by decide) (h.2.2.2.2.2.1), th_em hm (by decide) (h.2.2.2.2.2.2.1), th_em hm (by decide) (h.2.2.2.2.2.2.2.1), h.2.2.2.2.2.2.2.2.1, th_em hm (by decide) (h.2.2.2.2.2.2.2.2.2.1), th_em hm (by decide) (h.2.2.2.2.2.2.2.2.2.2.1), th_em hm (by decide) (h.2.2.2.2.2.2.2.2.2.2.2.1), th_em hm (by decide) (h.2.2.2.2.2.2.2.2.2.2.2.2.1), th_em hm (by decide) (h.2.2.2.2.2.2.2.2.2.2.2.2.2.1), th_em hm (by decide) (h.2.2.2.2.2.2.2.2.2.2.2.2.2.2.1), th_em hm (by decide) (h.2.2.2.2.2.2.2.2.2.2.2.2.2.2.2.1), h.2.2.2.2.2.2.2.2.2.2.2.2.2.2.2.2.1, th_em hm (by decide) (h.2.2.2.2.2.2.2.2.2.2.2.2.2.2.2.2.2.1), th_em hm (by decide) (h.2.2.2.2.2.2.2.2.2.2.2.2.2.2.2.2.2.2.1), th_em hm (by decide) (h.2.2.2.2.2.2.2.2.2.2.2.2.2.2.2.2.2.2.2.1), th_em hm (by decide) (h.2.2.2.2.2.2.2.2.2.2.2.2.2.2.2.2.2.2.2.2.1), h.2.2.2.2.2.2.2.2.2.2.2.2.2.2.2.2.2.2.2.2.2.1, th_em hm (by decide) (h.2.2.2.2.2.2.2.2.2.2.2.2.2.2.2.2.2.2.2.2.2.2.1), th_em hm (by decide) (h.2.2.2.2.2.2.2.2.2.2.2.2.2.2.2.2.2.2.2.2.2.2.2.1), h.2.2.2.2.2.2.2.2.2.2.2.2.2.2.2.2.2.2.2.2.2.2.2.2.1, th_em hm (by decide) (h.2.2.2.2.2.2.2.2.2.2.2.2.2.2.2.2.2.2.2.2.2.2.2.2.2.1), th_em hm (by decide) (h.2.2.2.2.2.2.2.2.2.2.2.2.2.2.2.2.2.2.2.2.2.2.2.2.2.2.1), th_em hm (by decide) (h.2.2.2.2.2.2.2.2.2.2.2.2.2.2.2.2.2.2.2.2.2.2.2.2.2.2.2.1), th_em hm (by decide) (h.2.2.2.2.2.2.2.2.2.2.2.2.2.2.2.2.2.2.2.2.2.2.2.2.2.2.2.2.1), th_em hm (by decide) (h.2.2.2.2.2.2.2.2.2.2.2.2.2.2.2.2.2.2.2.2.2.2.2.2.2.2.2.2.2.1), th_em hm (by decide) (h.2.2.2.2.2.2.2.2.2.2.2.2.2.2.2.2.2.2.2.2.2.2.2.2.2.2.2.2.2.2.1), th_em hm (by decide) (h.2.2.2.2.2.2.2.2.2.2.2.2.2.2.2.2.2.2.2.2.2.2.2.2.2.2.2.2.2.2.2.1), th_em hm (by decide) (h.2.2.2.2.2.2.2.2.2.2.2.2.2.2.2.2.2.2.2.2.2.2.2.2.2.2.2.2.2.2.2.2.1), th_em hm (by decide) (h.2.2.2.2.2.2.2.2.2.2.2.2.2.2.2.2.2.2.2.2.2.2.2.2.2.2.2.2.2.2.2.2.2)⟩
  · exact fun j hj q hq => th_m1 hm (by decide) (h j hj q hq)
  · exact fun j hj q hq => (h j hj q hq).imp (th_m1 hm (by decide)) (fun z => z.imp (th_m1 hm (by decide)) (th_m1 hm (by decide)))
  · exact trivial
  · exact h
  · exact trivial
  · exact trivial
  · exact trivial
  · exact trivial
  · exact trivial
  · exact trivial
  · exact fun j hj q hq => (h j hj q hq).imp (th_m1 hm (by decide)) (fun z => z.imp (th_m1 hm (by decide)) (th_m1 hm (by decide)))
  · exact trivial
  · exact trivial
  · exact trivial
  · exact trivial
  · exact trivial
  · exact trivial
  · exact trivial
  · exact trivial
  · exact trivial
  · exact h
  · exact h
  · exact trivial
  · exact trivial
  · exact h
  · exact trivial
  · exact trivial
  · exact trivial
  · exact h
  · exact h
  · exact trivial
  · exact trivial
  · exact h
  · exact trivial
  · exact h
  · exact h
  · exact trivial
  · exact trivial
  · exact h
  · exact trivial
  · exact h
  · exact trivial
  · exact trivial
  · exact h
  · exact h
  · exact h
  · exact h
  · exact h.elim
theorem th_H.off {D : va_G} {cA : Nat → ClassId} {τ : th_t} {gi : th_i} {gr : th_r} {H H1 : Heap} {a : Nat} (hH : th_H D cA τ gi gr H) (h0 : τ a = 0) (oq : ∀ q, q ≠ a → H1[q]? = H[q]?) : th_H D cA τ gi gr H1 := fun b hb => ⟨(hH b hb).1.kept (oq b (fun e => hb (by rw [e]; exact h0))), (hH b hb).2⟩
theorem th_fresh {D : va_G} {cA : Nat → ClassId} {τ : th_t} {gi : th_i} {gr : th_r} {H : Heap} (hH : th_H D cA τ gi gr H) {a : Nat} (h : H.size ≤ a) : τ a = 0 := by
  by_cases h0 : τ a = 0
  · exact h0
  · exact absurd (hH a h0).1.lt (Nat.not_lt.mpr h)
theorem th_le {τ : th_t} {q k0 : Nat} (hq : τ q = 0) : ∀ a, τ a ≠ 0 → va_up τ q k0 a = τ a := fun a ha => va_up_ne _ _ (fun e => ha (by rw [e]; exact hq))
theorem th_H.push {D : va_G} {cA : Nat → ClassId} {τ : th_t} {gi : th_i} {gr : th_r} {H H1 : Heap} {q k0 : Nat} {f : Nat → Int32} {r : Nat → Option Nat} (hH : th_H D cA τ gi gr H) (hq : τ q = 0) (hat : va_at D classes (q, th_E cA k0 f r) H1) (hI : th_I k0 (va_up τ q k0) f r) (ho : ∀ a, τ a ≠ 0 → H1[a]? = H[a]?) : th_H D cA (va_up τ q k0) (va_up gi q f) (va_up gr q r) H1 := by
  intro b hb
  by_cases hbq : b = q
  · subst hbq
    rw [va_up_self, va_up_self, va_up_self]
    exact ⟨hat, hI⟩
  · rw [va_up_ne _ _ hbq] at hb
    rw [va_up_ne _ _ hbq, va_up_ne _ _ hbq, va_up_ne _ _ hbq]
    exact ⟨(hH b hb).1.kept (ho b hb), th_Imono (th_le hq) (hH b hb).2⟩
theorem th_upid {α : Type} (g : Nat → α) (q : Nat) : va_up g q (g q) = g := by
  funext j
  by_cases h : j = q
  · rw [h, va_up_self]
  · rw [va_up_ne _ _ h]
/-- what a method that makes cells leaves: old cells keep their codes, changes of old cells are in M, new codes are at h0 or from sz on -/
def th_Ext (M : List Nat) (τ : th_t) (gi : th_i) (gr : th_r) (sz h0 : Nat) (τ' : th_t) (gi' : th_i) (gr' : th_r) : Prop := (∀ b, τ b ≠ 0 → τ' b = τ b) ∧ (∀ b, τ' b ≠ 0 → τ b ≠ 0 ∨ b = h0 ∨ sz ≤ b) ∧ th_Mod M τ gi gr gi' gr'
theorem th_Ext.rf {M : List Nat} {τ : th_t} {gi : th_i} {gr : th_r} {sz h0 : Nat} : th_Ext M τ gi gr sz h0 τ gi gr := ⟨fun _ _ => rfl, fun _ h => Or.inl h, th_Mod.rf⟩
theorem th_Ext.z {M : List Nat} {τ : th_t} {gi : th_i} {gr : th_r} {sz h0 : Nat} {τ1 : th_t} {gi1 : th_i} {gr1 : th_r} (h : th_Ext M τ gi gr sz h0 τ1 gi1 gr1) {q : Nat} (hq : τ1 q = 0) : τ q = 0 := by
  by_cases h0 : τ q = 0
  · exact h0
  · exact absurd hq (by rw [h.1 q h0]; exact h0)
theorem th_Ext.add {M : List Nat} {τ : th_t} {gi : th_i} {gr : th_r} {sz h0 : Nat} {τ1 : th_t} {gi1 : th_i} {gr1 : th_r} (h : th_Ext M τ gi gr sz h0 τ1 gi1 gr1) {q k0 : Nat} {f : Nat → Int32} {r : Nat → Option Nat} (hq : τ1 q = 0) (hs : q = h0 ∨ sz ≤ q) : th_Ext M τ gi gr sz h0 (va_up τ1 q k0) (va_up gi1 q f) (va_up gr1 q r) := by
  have hz := h.z hq
  refine ⟨fun b hb => ?_, fun b hb => ?_, fun b j hb hk => ?_⟩
  · have hbq : b ≠ q := fun e => hb (by rw [e]; exact hz)
    rw [va_up_ne _ _ hbq]
    exact h.1 b hb
  · by_cases hbq : b = q
    · rw [hbq]
      exact Or.inr hs
    · rw [va_up_ne _ _ hbq] at hb
      exact h.2.1 b hb
  · have hbq : b ≠ q := fun e => hb (by rw [e]; exact hz)
    rw [va_up_ne _ _ hbq, va_up_ne _ _ hbq]
    exact h.2.2 b j hb hk
/-- a change of a new cell -/
theorem th_Ext.new {M : List Nat} {τ : th_t} {gi : th_i} {gr : th_r} {sz h0 : Nat} {τ1 : th_t} {gi1 gi2 : th_i} {gr1 gr2 : th_r} (h : th_Ext M τ gi gr sz h0 τ1 gi1 gr1) {a : Nat} (hz : τ a = 0) (hi : ∀ b, b ≠ a → gi2 b = gi1 b) (hr : ∀ b, b ≠ a → gr2 b = gr1 b) : th_Ext M τ gi gr sz h0 τ1 gi2 gr2 := ⟨h.1, h.2.1, fun b j hb hk => by
  have hba : b ≠ a := fun e => hb (by rw [e]; exact hz)
  rw [hi b hba, hr b hba]
  exact h.2.2 b j hb hk⟩
theorem th_Ext.mod {M M2 : List Nat} {τ : th_t} {gi : th_i} {gr : th_r} {sz h0 : Nat} {τ1 : th_t} {gi1 gi2 : th_i} {gr1 gr2 : th_r} (h : th_Ext M τ gi gr sz h0 τ1 gi1 gr1) (h2 : th_Mod M2 τ1 gi1 gr1 gi2 gr2) (s : ∀ x ∈ M2, x ∈ M) : th_Ext M τ gi gr sz h0 τ1 gi2 gr2 := ⟨h.1, h.2.1, fun b j hb hk => by
  have e1 := h.2.2 b j hb hk
  have t1 := h.1 b hb
  have e2 := h2 b j (by rw [t1]; exact hb) (by rw [t1]; exact fun q => hk (s _ q))
  exact ⟨e2.1.trans e1.1, e2.2.trans e1.2⟩⟩
theorem th_Ext.tr {M M2 : List Nat} {τ : th_t} {gi : th_i} {gr : th_r} {sz h0 sz2 q : Nat} {τ1 τ2 : th_t} {gi1 gi2 : th_i} {gr1 gr2 : th_r} (h : th_Ext M τ gi gr sz h0 τ1 gi1 gr1) (h2 : th_Ext M2 τ1 gi1 gr1 sz2 q τ2 gi2 gr2) (hq : q = h0 ∨ sz ≤ q) (hs : sz ≤ sz2) (s : ∀ x ∈ M2, x ∈ M) : th_Ext M τ gi gr sz h0 τ2 gi2 gr2 := by
  refine ⟨fun b hb => ?_, fun b hb => ?_, (h.mod h2.2.2 s).2.2⟩
  · rw [h2.1 b (by rw [h.1 b hb]; exact hb), h.1 b hb]
  · rcases h2.2.1 b hb with h3 | h3 | h3
    · exact h.2.1 b h3
    · rw [h3]; exact Or.inr hq
    · exact Or.inr (Or.inr (Nat.le_trans hs h3))
def th_AC (τ : th_t) (sz h0 : Nat) : Nat → Prop := fun q => q = h0 ∨ th_A τ sz q
/-- a constructor's start: its object is there, with nothing in it, and has no code yet -/
def th_PreC (D : va_G) (cA : Nat → ClassId) (Z : th_Zt) (τ : th_t) (gi : th_i) (gr : th_r) (sz h0 : Nat) (e0 : va_E) (U : State) : Prop := U.heap.size = sz ∧ th_H D cA τ gi gr U.heap ∧ va_K D vwCl (th_tys cA) U ∧ th_N U ∧ th_Z Z (th_AC τ sz h0) U U.heap ∧ τ h0 = 0 ∧ va_P D vwCl [(h0, e0)] U.heap
theorem th_blindC {D : va_G} {cA : Nat → ClassId} {Z : th_Zt} {τ : th_t} {gi : th_i} {gr : th_r} {sz h0 : Nat} {e0 : va_E} {av : List Value} : FrameBlind (va_Pc av (th_PreC D cA Z τ gi gr sz h0 e0)) := fun a U g mk q => by
  obtain ⟨q0, q1, q2, q3, q4, q5, q6, q7⟩ := q
  exact ⟨q0, q1, q2, va_K.moved (u := U) (U := U.calling g mk a) (Vm.Alike.refl U.vm) q3, th_N.same (u := U) (U := U.calling g mk a) rfl q4, th_Z.moved (u := U) (U := U.calling g mk a) (Vm.Alike.refl U.vm) q5, q6, q7⟩
theorem th_preC {D : va_G} {cA : Nat → ClassId} {Z : th_Zt} {τ : th_t} {gi : th_i} {gr : th_r} {s : State} {H : Heap} {A0 : Nat → Prop} {locs : List Loc} {av : List Value} {q : Nat} {e0 : va_E} (hH : th_H D cA τ gi gr H) (hK : va_K D vwCl (th_tys cA) s) (hN : th_N s) (hZ : th_Z Z A0 s s.heap) (hS : va_S A0 s.heap H locs) (hA : ∀ x, th_AC τ H.size q x → A0 x) (h0 : τ q = 0) (hR : va_P D vwCl [(q, e0)] H) : ∀ U : State, U.heap = H → s.WarmedH U.vm → va_Pc av (th_PreC D cA Z τ gi gr H.size q e0) av.toArray U := fun U hU hW =>
  ⟨rfl, by rw [hU], by rw [hU]; exact hH, va_K.moved hW.alike hK, th_N.warm hW hN, by rw [hU]; exact ((hZ.kept hS.2.1).narrow hA).moved hW.alike, h0, by rw [hU]; exact hR⟩
theorem th_tk {τ : th_t} {e q c k0 : Nat} (h : τ e = c) (hc : c ≠ 0) (hq : τ q = 0) : va_up τ q k0 e = c := by
  rw [va_up_ne _ _ (fun z => hc (by rw [← h, z]; exact hq))]
  exact h
theorem th_tz {τ : th_t} {e q k0 : Nat} (h : τ e = 0) (hq : e ≠ q) : va_up τ q k0 e = 0 := by
  rw [va_up_ne _ _ hq]
  exact h
theorem th_P1 {D : va_G} {ws : Nat × va_E} {H H1 : Heap} (h : va_P D vwCl [ws] H) (hq : H1[ws.1]? = H[ws.1]?) : va_P D vwCl [ws] H1 := h.kept (fun k q hk => by
  have hz : k < 1 := (List.getElem?_eq_some_iff.mp hk).1
  rw [show k = 0 by omega] at hk
  cases hk
  exact hq)
theorem th_P1i {D : va_G} {q : Nat × va_E} {H : Heap} (h : va_at D vwCl q H) : va_P D vwCl [q] H := fun k x hk => by
  have hz : k < 1 := (List.getElem?_eq_some_iff.mp hk).1
  rw [show k = 0 by omega] at hk
  cases hk
  exact h
section TM
variable {p : Program} {l : Launch} {e : Env} {R : Room} {s : State} {m : MethodId} {args : Array Value} {below : List Frame} {meth : Method} {c : Code} {H : Heap} {locs : List Loc} {cells slots : Nat} {Q : State → Prop}
variable {cc : ByteArray} {pc : Nat} {ls : Array Slot} {rest : List Value} {D : va_G} {A : Nat → Prop} {a k0 : Nat} {tys : List (ClassId × FieldType)} {H0 : Heap} {cA : Nat → ClassId} {τ : th_t} {gi : th_i} {gr : th_r}
theorem th_newI (hexec : p.tables.exec = Jvm.exec) (hb : c.code = cc) {atype : ArrayType} (harr : (Cond.arrayClass (newarray.typeOf atype)).before args s = true) (hK : va_K D vwCl tys s) (t0 : Nat) {cI : ClassId} (hty : tys[t0]? = some (cI, newarray.typeOf atype)) (hra : va_RA s cI (newarray.typeOf atype) → s.vm.findClass ("[" ++ (newarray.typeOf atype).toString) = some cI) (hH : th_H D cA τ gi gr H) (hS : va_S A H0 H locs) (hA : ∀ q, H0.size ≤ q → A q) (k0 : Nat)
    {n : Int32} {N' : Nat} (hn : ¬ n < 0) (hN : n.toNatClampNeg = N') (hbytes : N' * componentBytes (newarray.typeOf atype) ≤ 536870912) (hcells : cells + 1 ≤ R.cells) (hslots : slots + N' ≤ R.slots) (hd : defaultValue (newarray.typeOf atype) = .int 0) (he : ∀ r, th_E cA k0 (fun _ => 0) r = .inl (cI, N', .inl (fun _ => 0))) (hI : ∀ τ' r, th_I k0 τ' (fun _ => 0) r) (hdg : decode cc pc = .ok (.newarray atype, 2))
    (kk : ∀ (q : Nat) (H1 : Heap), H.size = q → H1.size = q + 1 → τ q = 0 → (∀ x, x < q → H1[x]? = H[x]?) → th_H D cA (va_up τ q k0) (va_up gi q (fun _ => 0)) gr H1 → va_S A H0 H1 locs → W p l e R s m args below meth c H1 locs (cells + 1) (slots + N') Q (F0 m (pc + 2) ls (.ref q :: rest))) : W p l e R s m args below meth c H locs cells slots Q (F0 m pc ls (.int n :: rest)) := by
  refine va_newaK hexec hb harr rfl hdg rfl hn hN hbytes hcells hslots rfl fun H1 cA' e1 z1 o1 hAr hNm => ?_
  have hc : cA' = cI := Option.some.inj (hNm.symm.trans (hra (hK.2 t0 _ hty).2))
  subst hc
  have hq := th_fresh hH (Nat.le_refl H.size)
  have h1 := hH.push (k0 := k0) (f := fun _ => 0) (r := gr H.size) (H1 := H1) hq (by rw [he]; show H1[H.size]? = some (vp_cell _ _); rw [e1, hd]; rfl) (hI _ _) (fun b hb => o1 b (hH b hb).1.lt)
  rw [th_upid gr H.size] at h1
  exact kk H.size H1 rfl z1 hq o1 h1 ⟨Nat.le_trans hS.1 (by omega), fun x h1 h2 => (o1 x (Nat.lt_of_lt_of_le h1 hS.1)).trans (hS.2.1 x h1 h2), hS.2.2⟩
theorem th_newR (hexec : p.tables.exec = Jvm.exec) (hb : c.code = cc) {own C : String} {index : Nat} (hown : s.vm.findClass own = some m.cls) (hclink : (Cond.classLink own index C).before args s = true) (hover : va_AO C s) (hK : va_K D vwCl tys s) (t0 : Nat) {cI : ClassId} (hty : tys[t0]? = some (cI, .object C)) (hH : th_H D cA τ gi gr H) (hS : va_S A H0 H locs) (hA : ∀ q, H0.size ≤ q → A q) (k0 : Nat)
    {n : Int32} {N' : Nat} (hn : ¬ n < 0) (hN : n.toNatClampNeg = N') (hbytes : N' * 4 ≤ 536870912) (hcells : cells + 1 ≤ R.cells) (hslots : slots + N' ≤ R.slots) (he : ∀ f, th_E cA k0 f (fun _ => none) = .inl (cI, N', .inr (.inr (.inr (.inr (fun _ => none)))))) (hI : ∀ τ' f, th_I k0 τ' f (fun _ => none)) (hdg : decode cc pc = .ok (.anewarray index, 3))
    (kk : ∀ (q : Nat) (H1 : Heap), H.size = q → H1.size = q + 1 → τ q = 0 → (∀ x, x < q → H1[x]? = H[x]?) → th_H D cA (va_up τ q k0) gi (va_up gr q (fun _ => none)) H1 → va_S A H0 H1 locs → W p l e R s m args below meth c H1 locs (cells + 1) (slots + N') Q (F0 m (pc + 3) ls (.ref q :: rest))) : W p l e R s m args below meth c H locs cells slots Q (F0 m pc ls (.int n :: rest)) := by
  subst hN
  refine W.anew hexec hb hown hclink (va_AO.use hover) rfl hdg rfl hn hbytes hcells hslots fun cA' kA comp f1 f2 f3 f4 => ?_
  generalize hH1 : H.push ({ cls := cA', slots := Array.replicate n.toNatClampNeg .null, vm := .none } : Cell) = H1
  have z1 : H1.size = H.size + 1 := by rw [← hH1, Array.size_push]
  have e1 : H1[H.size]? = some (arrV cA' n.toNatClampNeg (fun _ => .null)) := by rw [← hH1, Array.getElem?_push_size, ← arrV_new]
  have o1 : ∀ q : Nat, q < H.size → H1[q]? = H[q]? := fun q hq => by rw [← hH1, Array.getElem?_push, if_neg (Nat.ne_of_lt hq)]
  obtain ⟨kA2, comp2, g1, g2, g3, g4⟩ := (hK.2 t0 _ hty).2
  have hc : cA' = cI := Option.some.inj (f1.symm.trans g4)
  subst hc
  have hq := th_fresh hH (Nat.le_refl H.size)
  have h1 := hH.push (k0 := k0) (f := gi H.size) (r := fun _ => none) (H1 := H1) hq (by rw [he]; show H1[H.size]? = some (vp_cell _ _); rw [e1]; rfl) (hI _ _) (fun b hb => o1 b (hH b hb).1.lt)
  rw [th_upid gi H.size] at h1
  exact kk H.size H1 rfl z1 hq o1 h1 ⟨Nat.le_trans hS.1 (by omega), fun x h1 h2 => (o1 x (Nat.lt_of_lt_of_le h1 hS.1)).trans (hS.2.1 x h1 h2), hS.2.2⟩
theorem th_newO {c0 : Code} (hexec : p.tables.exec = Jvm.exec) (hb : c0.code = cc) {own C : String} {T : u_T} {N ci index : Nat} {Ts : List Cond} (hts : ∀ w ∈ Ts, w.before args s = true) (hin : ∀ w ∈ u_ws C T N, w ∈ Ts) (ty : Nat → FieldType) (hty : ∀ k, k < N → parseFieldDescriptor (T k).2.2.1 = some (ty k)) (hown : s.vm.findClass own = some m.cls) (hcl : (Cond.classLink own index C).before args s = true) (hinst : (Cond.instantiable C N).before args s = true) (hini : (Cond.initialized C).before args s = true)
    (hK : va_K D vwCl tys s) (hH : th_H D cA τ gi gr H) (hS : va_S A H0 H locs) (hA : ∀ q, H0.size ≤ q → A q) (hc : vwCl[ci]? = some (C, T, N)) {fs : List Value} (hfs : ∀ j, j < N → defaultValue (ty j) = vp_V fs j) (hcells : cells + 1 ≤ R.cells) (hslots : slots + N ≤ R.slots) (hdg : decode cc pc = .ok (.new index, 3))
    (kk : ∀ (q : Nat) (H1 : Heap), H.size = q → H1.size = q + 1 → τ q = 0 → (∀ x, x < q → H1[x]? = H[x]?) → va_P D vwCl [(q, .inr (ci, fs))] H1 → th_H D cA τ gi gr H1 → va_S A H0 H1 locs → W p l e R s m args below meth c0 H1 locs (cells + 1) (slots + N) Q (F0 m (pc + 3) ls (.ref q :: rest))) : W p l e R s m args below meth c0 H locs cells slots Q (F0 m pc ls rest) := by
  have hKn := hK.1 ci _ hc
  refine W.newcK hexec hb hown hcl hinst hini rfl hdg hcells hslots hKn.2.1 rfl fun H1 kC hkC e1 z1 o1 => ?_
  refine kk H.size H1 rfl z1 (th_fresh hH (Nat.le_refl H.size)) o1 (th_P1i ⟨_, hc, (u_born ty hts hin hKn hkC e1 hty).to hfs⟩) (fun b hb => ⟨(hH b hb).1.kept (o1 b (hH b hb).1.lt), (hH b hb).2⟩) ⟨Nat.le_trans hS.1 (by omega), fun x h1 h2 => (o1 x (Nat.lt_of_lt_of_le h1 hS.1)).trans (hS.2.1 x h1 h2), hS.2.2⟩
/-- a field of an object that has no code yet -/
theorem th_rputF (hexec : p.tables.exec = Jvm.exec) (hb : c.code = cc) {own ref C : String} {T : u_T} {N ci index : Nat} {Ts : List Cond} (hts : ∀ w ∈ Ts, w.before args s = true) (hin : ∀ w ∈ u_ws C T N, w ∈ Ts) (ty0 : Nat → FieldType) (hty : ∀ k, k < N → parseFieldDescriptor (T k).2.2.1 = some (ty0 k)) (hnm : ∀ a, a < N → ∀ b, b < N → a ≠ b → (T a).2.1 ≠ (T b).2.1) (hown : s.vm.findClass own = some m.cls) (hK : va_K D vwCl tys s) (hH : th_H D cA τ gi gr H) (hS0 : va_S A H0 H locs) (h0 : τ a = 0) (hAa : A a) {fs : List Value} (hR : va_P D vwCl [(a, .inr (ci, fs))] H) (hc : vwCl[ci]? = some (C, T, N)) (k : Nat) (hk : k < N) (hlink : (Cond.fieldLink own index ref (T k).2.1 (T k).2.2.1).before args s = true) (hsame : ∀ x, s.fieldFound? (T k).1 (T k).2.1 (T k).2.2.1 = some x → s.fieldFound? ref (T k).2.1 (T k).2.2.1 = some x) (hfin : (T k).2.2.2 = true) (hin2 : meth.name = "<init>") (hdecl : (T k).1 = own) {ty : FieldType} {v : Value} (hd : parseFieldDescriptor (T k).2.2.1 = some ty) (hn : narrow ty v = v) (hfit : fits ty v = true) (hl : k < fs.length)
    (hdg : decode cc pc = .ok (.putfield index, 3)) (kk : ∀ (H1 : Heap) (locs1 : List Loc), va_P D vwCl [(a, .inr (ci, fs.set k v))] H1 → th_H D cA τ gi gr H1 → va_S A H0 H1 locs1 → H1.size = H.size → (∀ q, q ≠ a → H1[q]? = H[q]?) → W p l e R s m args below meth c H1 locs1 cells slots Q (F0 m (pc + 3) ls rest)) : W p l e R s m args below meth c H locs cells slots Q (F0 m pc ls (v :: .ref a :: rest)) := by
  have hap := va_apart (own := own) hts hin ty0 hty hnm hK hc
  obtain ⟨r, h1, cell, q1, q2, q3, q4⟩ := hR 0 _ rfl
  have hr : r = (C, T, N) := Option.some.inj (h1.symm.trans hc)
  subst hr
  obtain ⟨hS, hfc, kC, hkC, hkind⟩ := hK.1 ci _ hc
  obtain ⟨cf, kf, fi, f, hi, hsl⟩ := hS k hk
  have hlay := hts _ (hin _ (u_in_lay hk))
  unfold u_lay at hlay
  rw [if_pos hfin] at hlay
  have hst := (u_facts hfc hkC (u_lays hts hin hk) hi).1
  have hcf : m.cls = cf := by
    obtain ⟨_, _, c', _, _, _, -, -, hf', -, -, -, hown2, -⟩ := Cond.laysFinal_spec hlay
    have e1 : c' = cf := by have := hi.symm.trans hf'; simp at this; exact this.1.symm
    rw [hdecl] at hown2
    rw [← e1]; exact Option.some.inj (hown.symm.trans hown2)
  have h6 := u_fits hfc hkC hkind (Or.inr hlay) hi hd hn hfit
  refine W.putFinK hexec hb hown hlink (hsame _ hi) hst hcf hin2 (by rw [q2]; exact h6) q1 q3 (by rw [hsl]; exact k2_hasslot (q4 k hk)) rfl rfl hdg fun H' e1 e2 e3 => ?_
  rw [hsl] at e1 ⊢
  exact kk H' _ (th_P1i ⟨_, hc, t_OB.to (V := updV (vp_V fs) k v) ⟨_, e1, q2, q3, t_set q4 hap hk v⟩ (fun j _ => vp_updV_set hl v j)⟩) (hH.off h0 e3) (hS0.put e2 e3 hAa) e2 e3
theorem th_rput (hexec : p.tables.exec = Jvm.exec) (hb : c.code = cc) {own ref C : String} {T : u_T} {N ci index : Nat} {Ts : List Cond} (hts : ∀ w ∈ Ts, w.before args s = true) (hin : ∀ w ∈ u_ws C T N, w ∈ Ts) (ty0 : Nat → FieldType) (hty : ∀ k, k < N → parseFieldDescriptor (T k).2.2.1 = some (ty0 k)) (hnm : ∀ a, a < N → ∀ b, b < N → a ≠ b → (T a).2.1 ≠ (T b).2.1) (hown : s.vm.findClass own = some m.cls) (hK : va_K D vwCl tys s) (hH : th_H D cA τ gi gr H) (hS0 : va_S A H0 H locs) (h0 : τ a = 0) (hAa : A a) {fs : List Value} (hR : va_P D vwCl [(a, .inr (ci, fs))] H) (hc : vwCl[ci]? = some (C, T, N)) (k : Nat) (hk : k < N) (hlink : (Cond.fieldLink own index ref (T k).2.1 (T k).2.2.1).before args s = true) (hsame : ∀ x, s.fieldFound? (T k).1 (T k).2.1 (T k).2.2.1 = some x → s.fieldFound? ref (T k).2.1 (T k).2.2.1 = some x) (hfin : (T k).2.2.2 = false) {ty : FieldType} {v : Value} (hd : parseFieldDescriptor (T k).2.2.1 = some ty) (hn : narrow ty v = v) (hfit : fits ty v = true) (hl : k < fs.length)
    (hdg : decode cc pc = .ok (.putfield index, 3)) (kk : ∀ (H1 : Heap) (locs1 : List Loc), va_P D vwCl [(a, .inr (ci, fs.set k v))] H1 → th_H D cA τ gi gr H1 → va_S A H0 H1 locs1 → H1.size = H.size → (∀ q, q ≠ a → H1[q]? = H[q]?) → W p l e R s m args below meth c H1 locs1 cells slots Q (F0 m (pc + 3) ls rest)) : W p l e R s m args below meth c H locs cells slots Q (F0 m pc ls (v :: .ref a :: rest)) := by
  have hap := va_apart (own := own) hts hin ty0 hty hnm hK hc
  obtain ⟨r, h1, cell, q1, q2, q3, q4⟩ := hR 0 _ rfl
  have hr : r = (C, T, N) := Option.some.inj (h1.symm.trans hc)
  subst hr
  obtain ⟨hS, hfc, kC, hkC, hkind⟩ := hK.1 ci _ hc
  obtain ⟨cf, kf, fi, f, hi, hsl⟩ := hS k hk
  have hlay := hts _ (hin _ (u_in_lay hk))
  unfold u_lay at hlay
  rw [if_neg (by rw [hfin]; decide)] at hlay
  have hst := (u_facts hfc hkC (u_lays hts hin hk) hi).1
  have h6 := u_store hfc hkC hkind hlay hi hd hn hfit
  refine W.putK hexec hb (f := f) ⟨hown, hlink, ⟨_, _, _, hsame _ hi⟩, hst⟩ (by rw [q2]; exact h6) q1 q3 (by rw [hsl]; exact k2_hasslot (q4 k hk)) rfl rfl hdg fun H' e1 e2 e3 => ?_
  rw [hsl] at e1 ⊢
  exact kk H' _ (th_P1i ⟨_, hc, t_OB.to (V := updV (vp_V fs) k v) ⟨_, e1, q2, q3, t_set q4 hap hk v⟩ (fun j _ => vp_updV_set hl v j)⟩) (hH.off h0 e3) (hS0.put e2 e3 hAa) e2 e3
/-- references into an array: of the array's class, or of a class under it -/
theorem th_aast (hexec : p.tables.exec = Jvm.exec) (hb : c.code = cc) (hK : va_K D vwCl tys s) (hH : th_H D cA τ gi gr H) (hS : va_S A H0 H locs) (ht : τ a = k0) (h0 : k0 ≠ 0) (hAa : A a) (t0 : Nat) {E : String} {cI : ClassId} {n v kv ci : Nat} {r : vw_C} {vs : List Value} (he : ∀ g : Nat → Option Nat, th_E cA k0 (gi a) g = .inl (cI, n, .inr (.inr (.inr (.inr g))))) (hty : tys[t0]? = some (cI, .object E)) (htv : τ v = kv) (hv0 : kv ≠ 0) (hev : th_E cA kv (gi v) (gr v) = .inr (ci, vs)) (hc : vwCl[ci]? = some r) (hca : r.1 = E ∨ va_Nw (.castable r.1 E) s) {i : Int32} (hin : vp_in i n) (hI : th_I k0 τ (gi a) (va_up (gr a) i.toNatClampNeg (some v))) (hdg : decode cc pc = .ok (.aastore, 1))
    (kk : ∀ (gr' : th_r) (H1 : Heap) (locs1 : List Loc), gr' a i.toNatClampNeg = some v → (∀ b j, b ≠ a ∨ j ≠ i.toNatClampNeg → gr' b j = gr b j) → th_H D cA τ gi gr' H1 → va_S A H0 H1 locs1 → W p l e R s m args below meth c H1 locs1 cells slots Q (F0 m (pc + 1) ls rest)) : W p l e R s m args below meth c H locs cells slots Q (F0 m pc ls (.ref v :: .int i :: .ref a :: rest)) := by
  have hlt : i.toNatClampNeg < n := Nat.not_le.mp fun q => hin (Or.inr q)
  have hi0 : ¬ i < 0 := fun q => hin (Or.inl q)
  have hP := hH.P ht h0 (he _)
  obtain ⟨r', hr', cellV, g1, g2, g3, -⟩ := hH.P htv hv0 hev 0 _ rfl
  have hcls := (hK.1 ci r hc).2
  obtain ⟨kA, comp, k1, k2, k3, -⟩ := (hK.2 t0 _ hty).2
  obtain ⟨kE, hkE, -⟩ := Vm.findClass_spec k3
  obtain ⟨kC, hkC, -⟩ := hcls.2
  have hasg : s.vm.assignable (D.1 ci) comp = true := by
    rcases hca with h | h
    · rw [h] at hcls
      have hcomp : comp = D.1 ci := Option.some.inj (k3.symm.trans hcls.1)
      rw [hcomp]
      exact va_assign hcls
    · obtain ⟨c0, t1, f1, f2, f3⟩ := Cond.castable_spec (va_Nw.use (A := args) rfl h)
      cases hcls.1.symm.trans f1
      cases k3.symm.trans f2
      exact f3
  refine W.aast hexec hb (hP 0 _ rfl) (fun q h => by cases h) (fun h => by cases h) k1 k2 rfl hkE ⟨hi0, by show _ < (arrV _ _ _).slots.size; rw [arrV_size]; exact hlt⟩ g1 (fun q h => by rw [g3] at h; cases h) (by rw [g2]; exact hkC) (by rw [g2]; exact hasg) rfl rfl hdg fun H1 e z oq => ?_
  refine kk (va_up gr a (va_up (gr a) i.toNatClampNeg (some v))) H1 _ th_upR.1 th_upR.2 (hH.set ht ?_ (by rw [va_up_self]; exact hI) oq (fun b hb => ⟨rfl, va_up_ne _ _ hb⟩)) (hS.put z oq hAa)
  rw [va_up_self, he]
  show H1[a]? = some (vp_cell _ _)
  rw [e, vp_cell_q, vp_cell_q, arrV_store]
  congr 2
  funext q
  by_cases hq : q = i.toNatClampNeg
  · subst hq
    simp [updV, va_up, va_rf]
  · simp [updV, va_up, hq]
end TM
end
section
theorem th_nA {τ : th_t} {sz q : Nat} (z : τ q = 0) (h : q < sz) : ¬ th_A τ sz q := fun x => x.elim (fun y => y z) (fun y => absurd h (Nat.not_lt.mpr y))
theorem th_nAC {τ : th_t} {sz q a : Nat} (z : τ a = 0) (ne : a ≠ q) (h : a < sz) : ¬ th_AC τ sz q a := fun x => x.elim ne (th_nA z h)
theorem th_zx {M : List Nat} {τ : th_t} {gi : th_i} {gr : th_r} {sz q a : Nat} {τ1 : th_t} {gi1 : th_i} {gr1 : th_r} (h : th_Ext M τ gi gr sz q τ1 gi1 gr1) (z : τ a = 0) (ne : a ≠ q) (hl : a < sz) : τ1 a = 0 := by
  by_cases h0 : τ1 a = 0
  · exact h0
  · rcases h.2.1 a h0 with h1 | h1 | h1
    · exact absurd z h1
    · exact absurd h1 ne
    · exact absurd hl (Nat.not_lt.mpr h1)
theorem th_AE {M : List Nat} {τ : th_t} {gi : th_i} {gr : th_r} {H0 H : Heap} {locs : List Loc} {A : Nat → Prop} {h0 : Nat} {τ1 : th_t} {gi1 : th_i} {gr1 : th_r} (h : th_Ext M τ gi gr H0.size h0 τ1 gi1 gr1) (hS : va_S A H0 H locs) : ∀ q, th_A τ1 H.size q → th_AC τ H0.size h0 q := fun q hq => by
  rcases hq with h1 | h1
  · rcases h.2.1 q h1 with h2 | h2 | h2
    · exact Or.inr (Or.inl h2)
    · exact Or.inl h2
    · exact Or.inr (Or.inr h2)
  · exact Or.inr (Or.inr (Nat.le_trans hS.1 h1))
theorem th_AEa {M : List Nat} {τ : th_t} {gi : th_i} {gr : th_r} {H0 H : Heap} {locs : List Loc} {A : Nat → Prop} {τ1 : th_t} {gi1 : th_i} {gr1 : th_r} (h : th_Ext M τ gi gr H0.size H0.size τ1 gi1 gr1) (hS : va_S A H0 H locs) : ∀ q, th_A τ1 H.size q → th_A τ H0.size q := fun q hq => by
  rcases th_AE h hS q hq with h1 | h1
  · exact Or.inr (Nat.le_of_eq h1.symm)
  · exact h1
theorem th_ACo {M : List Nat} {τ : th_t} {gi : th_i} {gr : th_r} {H0 H : Heap} {locs : List Loc} {A : Nat → Prop} {h0 : Nat} {τ1 : th_t} {gi1 : th_i} {gr1 : th_r} (h : th_Ext M τ gi gr H0.size h0 τ1 gi1 gr1) (hS : va_S A H0 H locs) : ∀ q, th_AC τ1 H.size h0 q → th_AC τ H0.size h0 q := fun q hq => hq.elim Or.inl (th_AE h hS q)
theorem th_ACn {M : List Nat} {τ : th_t} {gi : th_i} {gr : th_r} {H0 H : Heap} {locs : List Loc} {A : Nat → Prop} {h0 a : Nat} {τ1 : th_t} {gi1 : th_i} {gr1 : th_r} (h : th_Ext M τ gi gr H0.size h0 τ1 gi1 gr1) (hS : va_S A H0 H locs) (ha : H0.size ≤ a) : ∀ q, th_AC τ1 H.size a q → th_AC τ H0.size h0 q := fun q hq => hq.elim (fun e => Or.inr (Or.inr (by rw [e]; exact ha))) (th_AE h hS q)
theorem th_ACa {M : List Nat} {τ : th_t} {gi : th_i} {gr : th_r} {H0 H : Heap} {locs : List Loc} {A : Nat → Prop} {a : Nat} {τ1 : th_t} {gi1 : th_i} {gr1 : th_r} (h : th_Ext M τ gi gr H0.size H0.size τ1 gi1 gr1) (hS : va_S A H0 H locs) (ha : H0.size ≤ a) : ∀ q, th_AC τ1 H.size a q → th_A τ H0.size q := fun q hq => hq.elim (fun e => Or.inr (by rw [e]; exact ha)) (th_AEa h hS q)
theorem rg_iw {lo hi : Int} {x l h : Int32} (hl : l.toInt = lo) (hh : h.toInt = hi) (f : rg lo hi x) : l ≤ x ∧ x ≤ h := by
  obtain ⟨p1, p2⟩ := f
  exact ⟨Int32.le_iff_toInt_le.mpr (by omega), Int32.le_iff_toInt_le.mpr (by omega)⟩
/-- a setter: in range it answers the old value and keeps the new one, else it answers the finding and keeps the old one -/
def se_post (lo hi : Int) (old new v r : Int32) : Prop := (rg lo hi v → r = old ∧ new = v) ∧ (¬ rg lo hi v → r = -1000001 ∧ new = old)
theorem se_yes {lo hi : Int} {old new v r : Int32} (f : rg lo hi v) (h1 : r = old) (h2 : new = v) : se_post lo hi old new v r := ⟨fun _ => ⟨h1, h2⟩, fun q => absurd f q⟩
theorem se_no {lo hi : Int} {old new v r : Int32} (f : ¬ rg lo hi v) (h1 : r = -1000001) (h2 : new = old) : se_post lo hi old new v r := ⟨fun q => absurd q f, fun _ => ⟨h1, h2⟩⟩
theorem se_same {lo hi : Int} {o1 n1 r1 o2 n2 r2 v : Int32} (h1 : se_post lo hi o1 n1 v r1) (h2 : se_post lo hi o2 n2 v r2) (e : o1 = o2) : r1 = r2 ∧ n1 = n2 := by
  by_cases f : rg lo hi v
  · exact ⟨((h1.1 f).1.trans e).trans (h2.1 f).1.symm, (h1.1 f).2.trans (h2.1 f).2.symm⟩
  · exact ⟨(h1.2 f).1.trans (h2.2 f).1.symm, ((h1.2 f).2.trans e).trans (h2.2 f).2.symm⟩
theorem th_Mod.a {M : List Nat} {τ : th_t} {gi gi1 gi2 : th_i} {gr gr1 : th_r} (h1 : th_Mod M τ gi gr gi1 gr1) {a c : Nat} (ht : τ a = c) (hc : ∀ k, th_key c k ∈ M) (h : ∀ b, b ≠ a → gi2 b = gi1 b) : th_Mod M τ gi gr gi2 gr1 := fun b j hb hk => by
  have e1 := h1 b j hb hk
  have hba : b ≠ a := fun e => hk (by rw [e, ht]; exact hc j)
  exact ⟨by rw [h b hba]; exact e1.1, e1.2⟩
section TCP
variable {p : Program} {l : Launch} {e : Env} {R : Room} {s : State} {m : MethodId} {args : Array Value} {below : List Frame} {meth : Method} {c : Code} {H : Heap} {locs : List Loc} {cells slots : Nat} {Q : State → Prop}
variable {cc : ByteArray} {pc : Nat} {ls : Array Slot} {rest : List Value} {D : va_G} {A : Nat → Prop} {a a0 k0 k1 : Nat} {tys : List (ClassId × FieldType)} {H0 : Heap} {cA : Nat → ClassId} {τ : th_t} {gi : th_i} {gr : th_r}
/-- System.arraycopy of numbers from one row to another: what the other holds behind it is left open -/
theorem th_copy (hexec : p.tables.exec = Jvm.exec) (hb : c.code = cc) (hml : c.maxLocals = ls.size) {own : String} {index : Nat} (hown : s.vm.findClass own = some m.cls) (hlink : (Cond.methodLink own index arraycopyName).before args s = true) (hnat : (Cond.native arraycopyName).before args s = true) (hstat : (Cond.static arraycopyName).before args s = true) (hini : (Cond.initialized "java/lang/System").before args s = true)
    (hK : va_K D vwCl tys s) (hH : th_H D cA τ gi gr H) (hS : va_S A H0 H locs) (ht0 : τ a0 = k0) (ht1 : τ a = k1) (h00 : k0 ≠ 0) (h01 : k1 ≠ 0) (hAa : A a) (t0 : Nat) {cI : ClassId} {n0 n1 : Nat} (hty : tys[t0]? = some (cI, .int)) (he0 : th_E cA k0 (gi a0) (gr a0) = .inl (cI, n0, .inl (gi a0))) (he1 : ∀ f : Nat → Int32, th_E cA k1 f (gr a) = .inl (cI, n1, .inl f))
    {sp dp n : Int32} (h1 : ¬ sp < 0) (h2 : ¬ dp < 0) (h3 : ¬ n < 0) (h4 : sp.toNatClampNeg + n.toNatClampNeg ≤ n0) (h5 : dp.toNatClampNeg + n.toNatClampNeg ≤ n1) (hI : ∀ f, th_I k1 τ f (gr a))
    (hframes : 1 ≤ R.frames) (hlocals : (rest.map fun v => v.category).sum + (nativeFrameWords "java/lang/System" "arraycopy" 5 + 11) ≤ R.locals) (hdg : decode cc pc = .ok (.invokestatic index, 3))
    (kk : ∀ (gi' : th_i) (H1 : Heap) (locs1 : List Loc), gi' = va_up gi a (va_cpy (gi a0) (gi a) sp.toNatClampNeg dp.toNatClampNeg n.toNatClampNeg) → (∀ b, b ≠ a → gi' b = gi b) → th_H D cA τ gi' gr H1 → va_S A H0 H1 locs1 → W p l e R s m args below meth c H1 locs1 cells slots Q (F0 m (pc + 3) ls rest)) : W p l e R s m args below meth c H locs cells slots Q (F0 m pc ls (.int n :: .int dp :: .ref a :: .int sp :: .ref a0 :: rest)) := by
  have nn : ∀ z : Int32, ¬ z < 0 → z.toInt = (z.toNatClampNeg : Int) := by
    intro z hz
    have hz0 : (0 : Int) ≤ z.toInt := by
      have := Int32.not_lt.mp hz
      simpa using Int32.le_iff_toInt_le.mp this
    show z.toInt = ((z.toInt.toNat : Nat) : Int)
    omega
  intro T hT X
  have hc0 : H[a0]? = some (vp_cell cI (n0, .inl (gi a0))) := hH.P ht0 h00 he0 0 _ rfl
  have hc1 : H[a]? = some (vp_cell cI (n1, .inl (gi a))) := hH.P ht1 h01 (he1 _) 0 _ rfl
  obtain ⟨-, q0, hq0, cm0, hkk0⟩ := (hK.2 t0 _ hty).1 n0 (fun j => .int (gi a0 j))
  obtain ⟨-, q1, hq1, cm1, hkk1⟩ := (hK.2 t0 _ hty).1 n1 (fun j => .int (gi a j))
  obtain ⟨vm', X', step⟩ := X.arraycopy hexec hown hlink hnat hstat hini (src := a0) (dst := a) (cs := vp_cell cI (n0, .inl (gi a0))) (cd := vp_cell cI (n1, .inl (gi a))) (srcPos := sp) (destPos := dp) (n := n) (by rw [hT]; exact hc0) (by rw [hT]; exact hc1)
    (fun _ h => by cases h) (fun _ h => by cases h) (fun h => by cases h) (fun h => by cases h) hq0 hq1 hkk0 hkk1 (by simp [refKind]) h1 h2 h3
    (by rw [nn sp h1, nn n h3]; show ¬ _ > ((arrV cI n0 (fun j => .int (gi a0 j))).slots.size : Int); rw [arrV_size]; omega)
    (by rw [nn dp h2, nn n h3]; show ¬ _ > ((arrV cI n1 (fun j => .int (gi a j))).slots.size : Int); rw [arrV_size]; omega)
    (fun vm₁ _ i hi => by
      have e : (vp_cell cI (n0, .inl (gi a0))).slots.getD (sp.toNatClampNeg + i) .null = .int (gi a0 (sp.toNatClampNeg + i)) := by
        show (arrV cI n0 (fun j => .int (gi a0 j))).slots.getD _ _ = _
        rw [Array.getD_eq_getD_getElem?, arrV_read _ _ (by omega)]
        rfl
      refine ⟨?_, ?_⟩
      · rw [e]
        rfl
      · rw [e]
        exact trivial)
    (g := F0 m pc ls (.int n :: .int dp :: .ref a :: .int sp :: .ref a0 :: rest)) rfl (by rw [hml]) (rest := rest) rfl (by rw [hb]; exact hdg) hframes (by show 2 * 0 + _ + _ ≤ _; omega)
  have e1 : copied (vp_cell cI (n0, .inl (gi a0))) (vp_cell cI (n1, .inl (gi a))) sp dp n = vp_cell cI (n1, .inl (va_cpy (gi a0) (gi a) sp.toNatClampNeg dp.toNatClampNeg n.toNatClampNeg)) := va_copied (fun z => .int z) cI cI (gi a0) (gi a) h4
  rw [e1] at X' step
  have hl : a < H.size := (Array.getElem?_eq_some_iff.mp hc1).1
  obtain ⟨fn, efn⟩ : ∃ f, f = va_cpy (gi a0) (gi a) sp.toNatClampNeg dp.toNatClampNeg n.toNatClampNeg := ⟨_, rfl⟩
  rw [← efn] at X' step
  have hheap : ((T.setVm vm').setCell a (vp_cell cI (n1, .inl fn))).heap = H.setIfInBounds a (vp_cell cI (n1, .inl fn)) := by rw [← hT]; rfl
  have oq : ∀ q : Nat, q ≠ a → (H.setIfInBounds a (vp_cell cI (n1, .inl fn)))[q]? = H[q]? := fun q hq => by simp [Array.getElem?_setIfInBounds, Ne.symm hq]
  obtain ⟨t, a1, b1⟩ := kk (va_up gi a fn) _ _ (by rw [efn]) (fun b hb => va_up_ne _ _ hb) (hH.set (gr' := gr) ht1 (by rw [va_up_self, he1]; show (H.setIfInBounds a _)[a]? = some _; simp [Array.getElem?_setIfInBounds, hl]) (by rw [va_up_self]; exact hI _) oq (fun b hb => ⟨va_up_ne _ _ hb, rfl⟩)) ⟨by simp; exact hS.1, fun q g1 g2 => by
      rw [oq q (fun e => g2 (by rw [e]; exact hAa))]
      exact hS.2.1 q g1 g2, fun q hq => by
      rcases List.mem_append.mp hq with h | h
      · exact hS.2.2 q h
      · obtain ⟨z, -, hz⟩ := List.mem_map.mp h
        rw [← hz]
        exact hAa⟩ _ hheap X'
  exact ⟨t, step t a1, b1⟩
end TCP
/-! ===== functions of methods: what their rows rest on ===== -/
theorem th_upE {g g2 : th_i} {a k : Nat} {v : Int32} (hu : g2 a k = v) (ho : ∀ b j, b ≠ a ∨ j ≠ k → g2 b j = g b j) : g2 = va_up g a (upd (g a) k v) := by
  funext b j
  by_cases hb : b = a
  · subst hb
    by_cases hj : j = k
    · subst hj
      rw [hu]
      simp [va_up, upd]
    · rw [ho b j (Or.inr hj)]
      simp [va_up, upd, hj]
  · rw [ho b j (Or.inl hb)]
    simp [va_up, hb]
theorem th_upF {g g2 : th_r} {a k : Nat} {v : Option Nat} (hu : g2 a k = v) (ho : ∀ b j, b ≠ a ∨ j ≠ k → g2 b j = g b j) : g2 = va_up g a (va_up (g a) k v) := by
  funext b j
  by_cases hb : b = a
  · subst hb
    by_cases hj : j = k
    · subst hj
      rw [hu]
      simp [va_up]
    · rw [ho b j (Or.inr hj)]
      simp [va_up, hj]
  · rw [ho b j (Or.inl hb)]
    simp [va_up, hb]
def th_mn (x y : Int32) : Int32 := if y < x then y else x
def th_mx (x y : Int32) : Int32 := if x < y then y else x
def th_ab (x : Int32) : Int32 := if 0 ≤ x then x else 0 - x
theorem th_runi {p : Program} {l : Launch} {e : Env} {R : Room} {s : State} {m : MethodId} {args : Array Value} {below : List Frame} {meth : Method} {c : Code} {H : Heap} {locs : List Loc} {cells slots mc ms : Nat} {g : JFrame} {rest : List Value} {free : Addr → Prop} {S : Type} {post post' : Int32 → S → Prop} {B : S → State → Prop} {A : Nat → Prop} {a : Array Value} (h : va_Run p l e R s m args below meth c H locs cells slots mc ms g rest (va_Qi post B A a) free) (hp : ∀ r u, post r u → post' r u) : va_Run p l e R s m args below meth c H locs cells slots mc ms g rest (va_Qi post' B A a) free := by
  intro T hT X
  obtain ⟨v, st0, t, T', L, h1, h2, h3, h4, h5, ⟨⟨r, u, k1, k2, k3⟩, k4⟩, h7⟩ := h T hT X
  exact ⟨v, st0, t, T', L, h1, h2, h3, h4, h5, ⟨⟨r, u, k1, hp r u k2, k3⟩, k4⟩, h7⟩
/-- the ways of the WINDS -/
def th_wX : Nat → Int32 := fun j => match j with | 0 => 0 | 1 => 1 | 2 => 1 | 3 => 1 | 4 => 0 | 5 => -1 | 6 => -1 | _ => -1
def th_wY : Nat → Int32 := fun j => match j with | 0 => -1 | 1 => -1 | 2 => 0 | 3 => 1 | 4 => 1 | 5 => 1 | 6 => 0 | _ => -1
end
