/-! ===== what every method asks of its start: the typed heap, the classes, the nest's links, the two static rows ===== -/
abbrev th_Zt : Type := (Nat × Nat) × (Nat → Int32) × (Nat → Int32)
def th_Z (Z : th_Zt) (A : Nat → Prop) (U : State) (H : Heap) : Prop := va_Z "BayMoorings" "WIND_X" "[I" (.ref Z.1.1) A U H ∧ va_T .int Z.1.1 8 (fun j => .int (Z.2.1 j)) A U H ∧ va_Z "BayMoorings" "WIND_Y" "[I" (.ref Z.1.2) A U H ∧ va_T .int Z.1.2 8 (fun j => .int (Z.2.2 j)) A U H
theorem th_Z.moved {Z : th_Zt} {A : Nat → Prop} {u U : State} {H : Heap} (hvm : u.vm.Alike U.vm) (h : th_Z Z A u H) : th_Z Z A U H := ⟨h.1.moved hvm, h.2.1.moved hvm, h.2.2.1.moved hvm, h.2.2.2.moved hvm⟩
theorem th_Z.kept {Z : th_Zt} {A : Nat → Prop} {U : State} {H H1 : Heap} (h : th_Z Z A U H) (hq : ∀ a : Nat, a < H.size → ¬ A a → H1[a]? = H[a]?) : th_Z Z A U H1 := ⟨h.1.kept hq, h.2.1.kept hq, h.2.2.1.kept hq, h.2.2.2.kept hq⟩
theorem th_Z.narrow {Z : th_Zt} {A B : Nat → Prop} {U : State} {H : Heap} (h : th_Z Z A U H) (hAB : ∀ q, B q → A q) : th_Z Z B U H := ⟨h.1.narrow hAB, h.2.1.narrow hAB, h.2.2.1.narrow hAB, h.2.2.2.narrow hAB⟩
def th_N (U : State) : Prop := va_Nw (.methodLinkNest RX3 37 yX11_isHour RX11) U ∧ va_Nw (.methodLinkNest RX0 51 yX11_within RX11) U ∧ va_Nw (.methodLinkNest RX0 77 yX11_isHour RX11) U ∧ va_Nw (.methodLinkNest RX1 24 yX11_within RX11) U ∧ va_Nw (.methodLinkNest RX10 23 yX11_within RX11) U ∧ va_Nw (.methodLinkNest RX7 64 yX11_within RX11) U ∧ va_Nw (.methodLinkNest RX2 39 yX11_within RX11) U ∧ va_Nw (.methodLinkNest RX6 26 yX11_within RX11) U ∧ va_Nw (.fieldLinkNest RX0 159 "BayMoorings" "WIND_X" "[I" RX11) U ∧ va_Nw (.fieldLinkNest RX0 162 "BayMoorings" "WIND_Y" "[I" RX11) U ∧ va_Nw (.declares ⟨"BayMoorings$Boat", "kindNumber", "()I"⟩) U ∧ va_Nw (.declares ⟨"BayMoorings$Boat", "plainFee", "(I)I"⟩) U ∧ va_AO "BayMoorings$Boat" U ∧ va_AO "BayMoorings$Buoy" U ∧ va_Nw (.castable RX4 "BayMoorings$Boat") U ∧ va_Nw (.castable RX8 "BayMoorings$Boat") U ∧ va_Nw (.castable RX9 "BayMoorings$Boat") U
theorem th_N.warm {s U : State} (hW : s.WarmedH U.vm) (h : th_N s) : th_N U := by
  obtain ⟨h1, h2, h3, h4, h5, h6, h7, h8, h9, h10, h11, h12, h13, h14, h15, h16, h17⟩ := h
  exact ⟨va_Nw.warmM hW h1, va_Nw.warmM hW h2, va_Nw.warmM hW h3, va_Nw.warmM hW h4, va_Nw.warmM hW h5, va_Nw.warmM hW h6, va_Nw.warmM hW h7, va_Nw.warmM hW h8, va_Nw.warmF hW h9, va_Nw.warmF hW h10, va_Nw.warmD hW h11, va_Nw.warmD hW h12, h13.moved hW.alike, h14.moved hW.alike, va_Nw.warmC hW h15, va_Nw.warmC hW h16, va_Nw.warmC hW h17⟩
theorem th_N.same {u U : State} (hv : u.vm = U.vm) (h : th_N u) : th_N U := by
  obtain ⟨h1, h2, h3, h4, h5, h6, h7, h8, h9, h10, h11, h12, h13, h14, h15, h16, h17⟩ := h
  have ha : u.vm.Alike U.vm := hv ▸ Vm.Alike.refl u.vm
  exact ⟨va_Nw.same rfl hv h1, va_Nw.same rfl hv h2, va_Nw.same rfl hv h3, va_Nw.same rfl hv h4, va_Nw.same rfl hv h5, va_Nw.same rfl hv h6, va_Nw.same rfl hv h7, va_Nw.same rfl hv h8, va_Nw.same rfl hv h9, va_Nw.same rfl hv h10, va_Nw.same rfl hv h11, va_Nw.same rfl hv h12, h13.moved ha, h14.moved ha, va_Nw.same rfl hv h15, va_Nw.same rfl hv h16, va_Nw.same rfl hv h17⟩
def th_Pre (D : va_G) (cA : Nat → ClassId) (Z : th_Zt) (τ : th_t) (gi : th_i) (gr : th_r) (sz : Nat) (U : State) : Prop := U.heap.size = sz ∧ th_H D cA τ gi gr U.heap ∧ va_K D vwCl (th_tys cA) U ∧ th_N U ∧ th_Z Z (th_A τ sz) U U.heap
theorem th_blind {D : va_G} {cA : Nat → ClassId} {Z : th_Zt} {τ : th_t} {gi : th_i} {gr : th_r} {sz : Nat} {av : List Value} : FrameBlind (va_Pc av (th_Pre D cA Z τ gi gr sz)) := fun a U g mk q => by
  obtain ⟨q0, q1, q2, q3, q4, q5⟩ := q
  exact ⟨q0, q1, q2, va_K.moved (u := U) (U := U.calling g mk a) (Vm.Alike.refl U.vm) q3, th_N.same (u := U) (U := U.calling g mk a) rfl q4, th_Z.moved (u := U) (U := U.calling g mk a) (Vm.Alike.refl U.vm) q5⟩
theorem th_pre {D : va_G} {cA : Nat → ClassId} {Z : th_Zt} {τ : th_t} {gi : th_i} {gr : th_r} {s : State} {H : Heap} {A0 : Nat → Prop} {locs : List Loc} {av : List Value} (hH : th_H D cA τ gi gr H) (hK : va_K D vwCl (th_tys cA) s) (hN : th_N s) (hZ : th_Z Z A0 s s.heap) (hS : va_S A0 s.heap H locs) (hA : ∀ q, th_A τ H.size q → A0 q) : ∀ U : State, U.heap = H → s.WarmedH U.vm → va_Pc av (th_Pre D cA Z τ gi gr H.size) av.toArray U := fun U hU hW =>
  ⟨rfl, by rw [hU], by rw [hU]; exact hH, va_K.moved hW.alike hK, th_N.warm hW hN, by rw [hU]; exact ((hZ.kept hS.2.1).narrow hA).moved hW.alike⟩
theorem th_recv {D : va_G} {cA : Nat → ClassId} {τ : th_t} {gi : th_i} {gr : th_r} {s : State} {H : Heap} {tys : List (ClassId × FieldType)} {b c ci : Nat} {q : vw_C} {fs : List Value} (hK : va_K D vwCl tys s) (hH : th_H D cA τ gi gr H) (ht : τ b = c) (h0 : c ≠ 0) (he : th_E cA c (gi b) (gr b) = .inr (ci, fs)) (hc : vwCl[ci]? = some q) : ∃ cell : Cell, H[b]? = some cell ∧ cell.vm.isStatics = false ∧ s.vm.findClass q.1 = some cell.cls := va_recv hK (hH.P ht h0 he) (q0 := 0) hc rfl
theorem th_Asub {τ : th_t} {H0 H : Heap} {locs : List Loc} {A : Nat → Prop} (hS : va_S A H0 H locs) : ∀ q, th_A τ H.size q → th_A τ H0.size q := fun _ h => h.imp id (fun h => Nat.le_trans hS.1 h)
section TN
variable {p : Program} {l : Launch} {e : Env} {R : Room} {s : State} {m : MethodId} {args : Array Value} {below : List Frame} {meth : Method} {c : Code} {H : Heap} {locs : List Loc} {cells slots : Nat} {Q : State → Prop}
variable {cc : ByteArray} {pc : Nat} {ls : Array Slot} {rest : List Value}
/-- loads and stores of what may be null, and the tests -/
theorem th_aloadq_n (hexec : p.tables.exec = Jvm.exec) (hb : c.code = cc) {k : Fin 4} {i : Nat} {r : Option Nat} (hdg : decode cc pc = .ok (.aload_n k, 1)) (hi : (k : Nat) = i) (hl : ls[i]? = some (.val (va_rf r))) (kk : W p l e R s m args below meth c H locs cells slots Q (F0 m (pc + 1) ls (va_rf r :: rest))) : W p l e R s m args below meth c H locs cells slots Q (F0 m pc ls rest) := by
  cases r with
  | none => exact lv_aload_nN hexec hb hdg hi hl kk
  | some x => exact lv_aload_n hexec hb hdg hi hl kk
theorem th_aloadq (hexec : p.tables.exec = Jvm.exec) (hb : c.code = cc) {i : Nat} {r : Option Nat} (hdg : decode cc pc = .ok (.aload i, 2)) (hl : ls[i]? = some (.val (va_rf r))) (kk : W p l e R s m args below meth c H locs cells slots Q (F0 m (pc + 2) ls (va_rf r :: rest))) : W p l e R s m args below meth c H locs cells slots Q (F0 m pc ls rest) := by
  cases r with
  | none => exact lv_aloadN hexec hb hdg hl kk
  | some x => exact lv_aload hexec hb hdg hl kk
theorem th_cat (r : Option Nat) : (va_rf r).category = 1 := by cases r <;> rfl
theorem th_astoreq_n (hexec : p.tables.exec = Jvm.exec) (hb : c.code = cc) {k : Fin 4} {i nL : Nat} {r : Option Nat} {lv lv' : List (Nat × Value)} (hdg : decode cc pc = .ok (.astore_n k, 1)) (hi : (k : Nat) = i) (h : lv_has ls nL lv) (hn : i < nL) (hl : (i, va_rf r) :: lv.filter (fun q => !(q.1 == i) && !(q.1 + 1 == i && q.2.category == 2)) = lv') (kk : ∀ ls' : Array Slot, lv_has ls' nL lv' → W p l e R s m args below meth c H locs cells slots Q (F0 m (pc + 1) ls' rest)) : W p l e R s m args below meth c H locs cells slots Q (F0 m pc ls (va_rf r :: rest)) := by
  cases r with
  | none => exact lv_astore_nN hexec hb hdg hi h hn hl kk
  | some x => exact lv_astore_n hexec hb hdg hi h hn hl kk
theorem th_astoreq (hexec : p.tables.exec = Jvm.exec) (hb : c.code = cc) {i nL : Nat} {r : Option Nat} {lv lv' : List (Nat × Value)} (hdg : decode cc pc = .ok (.astore i, 2)) (h : lv_has ls nL lv) (hn : i < nL) (hl : (i, va_rf r) :: lv.filter (fun q => !(q.1 == i) && !(q.1 + 1 == i && q.2.category == 2)) = lv') (kk : ∀ ls' : Array Slot, lv_has ls' nL lv' → W p l e R s m args below meth c H locs cells slots Q (F0 m (pc + 2) ls' rest)) : W p l e R s m args below meth c H locs cells slots Q (F0 m pc ls (va_rf r :: rest)) := by
  cases r with
  | none => exact lv_astoreN hexec hb hdg h hn hl kk
  | some x => exact lv_astore hexec hb hdg h hn hl kk
theorem th_ifnull (hexec : p.tables.exec = Jvm.exec) (hb : c.code = cc) {r : Option Nat} {off : Int} {tgt : Nat} (hdg : decode cc pc = .ok (.ifnull off, 3)) (ht : (pc : Int) + off = (tgt : Int)) (kn : r = none → W p l e R s m args below meth c H locs cells slots Q (F0 m tgt ls rest)) (ks : ∀ q, r = some q → W p l e R s m args below meth c H locs cells slots Q (F0 m (pc + 3) ls rest)) : W p l e R s m args below meth c H locs cells slots Q (F0 m pc ls (va_rf r :: rest)) := by
  cases r with
  | none => exact lv_ifnullN hexec hb hdg ht (kn rfl)
  | some x => exact lv_ifnull hexec hb hdg (ks x rfl)
theorem th_ifnonnull (hexec : p.tables.exec = Jvm.exec) (hb : c.code = cc) {r : Option Nat} {off : Int} {tgt : Nat} (hdg : decode cc pc = .ok (.ifnonnull off, 3)) (ht : (pc : Int) + off = (tgt : Int)) (ks : ∀ q, r = some q → W p l e R s m args below meth c H locs cells slots Q (F0 m tgt ls rest)) (kn : r = none → W p l e R s m args below meth c H locs cells slots Q (F0 m (pc + 3) ls rest)) : W p l e R s m args below meth c H locs cells slots Q (F0 m pc ls (va_rf r :: rest)) := by
  cases r with
  | none => exact lv_ifnonnullN hexec hb hdg (kn rfl)
  | some x => exact lv_ifnonnull hexec hb hdg ht (ks x rfl)
theorem th_topq {r0 : Option Nat} (k : ∀ r : Option Nat, r = r0 → W p l e R s m args below meth c H locs cells slots Q (F0 m pc ls (va_rf r :: rest))) : W p l e R s m args below meth c H locs cells slots Q (F0 m pc ls (va_rf r0 :: rest)) := k r0 rfl
end TN
