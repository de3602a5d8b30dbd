noncomputable def F_X2_reach (τ : th_t) (Z : th_Zt) (gi : th_i) (gr : th_r) (h0 : Nat) : Int32 :=
  let x1 : Int32 := gi h0 1
  x1
set_option maxHeartbeats 8000000 in
set_option maxRecDepth 100000 in
theorem k_X2_reach (l : Launch) (D : va_G) (cA : Nat → ClassId) (Z : th_Zt) (τ : th_t) (gi : th_i) (gr : th_r) (sz : Nat) (h0 : Nat) (t_h0 : τ h0 = 8 ∨ τ h0 = 9 ∨ τ h0 = 4) : Met l yX2_reach wsX2_reach ({ frames := 0, cells := 0, slots := 0, locals := 0 }) (va_Pc [.ref h0] (th_Pre D cA Z τ gi gr sz)) (va_Qi (fun (r : Int32) (_ : Unit) => (F_X2_reach τ Z gi gr h0 = r)) (fun (_ : Unit) t => th_H D cA τ gi gr t.heap) (th_A τ sz)) 0 0 (th_A τ sz) := by
  refine Met.ofW (cc := cX2_reach) (maxL := 1) (ret := (some .int)) (by decide) rfl ?_
  intro p e s m args below meth c s₁ B hml hv
  obtain ⟨rfl, hsz, hH, hK, hN, hZ⟩ := hv
  have hx := B.exec
  have hb := B.bytes
  have hr := B.returns
  have hts := atoms_spec (ws := wsX2_reach) B.pre
  have hown : s.vm.findClass RX2 = some m.cls := findClass_of_methodNamed B.named
  have hlocks := B.notSynchronized
  subst hsz
  have hS : va_S (th_A τ s.heap.size) s.heap s.heap [] := va_S.rf
  have hl := lv_entry ([.ref h0]) (n := 1) (Nat.le_of_ble_eq_true rfl)
  rw [lg_entry_eq]
  generalize (lg_sl ([.ref h0]) ++ List.replicate (1 - (lg_sl ([.ref h0])).length) Slot.unset).toArray = ls at hl ⊢
  have hl : lv_has ls 1 [(0, .ref h0)] := hl
  have hF : F_X2_reach τ Z gi gr h0 = F_X2_reach τ Z gi gr h0 := rfl
  refine lv_aload_n hx hb dX2_reach_0 rfl (lv_at hl 0 rfl) ?_
  obtain ⟨x1, e1⟩ : ∃ y : Int32, y = gi h0 1 := ⟨_, rfl⟩
  refine th_any3 t_h0 (fun t9 k9 => th_get (ci := 7) (v := .int x1) (T := TX8) (C := RX8) (N := 6) hx hb hts (fun w h => List.mem_cons_of_mem _ (List.mem_append_left _ (List.mem_append_right _ h))) hown hK hH t9 (th_nz rfl) rfl rfl 1 (th_ltN rfl) (hts (.fieldLink RX2 25 "BayMoorings$Boat" "length" "I") (List.mem_cons_of_mem _ (List.mem_append_left _ (List.mem_append_left _ (List.mem_append_left _ (List.mem_of_getElem? (i := 0) rfl)))))) (fun _ h9 => h9) (th_fI e1 rfl) dX2_reach_1 k9) (fun t9 k9 => th_get (ci := 8) (v := .int x1) (T := TX9) (C := RX9) (N := 6) hx hb hts (fun w h => List.mem_cons_of_mem _ (List.mem_append_right _ h)) hown hK hH t9 (th_nz rfl) rfl rfl 1 (th_ltN rfl) (hts (.fieldLink RX2 25 "BayMoorings$Boat" "length" "I") (List.mem_cons_of_mem _ (List.mem_append_left _ (List.mem_append_left _ (List.mem_append_left _ (List.mem_of_getElem? (i := 0) rfl)))))) (fun _ h9 => h9) (th_fI e1 rfl) dX2_reach_1 k9) (fun t9 k9 => th_get (ci := 3) (v := .int x1) (T := TX4) (C := RX4) (N := 6) hx hb hts (fun w h => List.mem_cons_of_mem _ (List.mem_append_left _ (List.mem_append_left _ (List.mem_append_right _ h)))) hown hK hH t9 (th_nz rfl) rfl rfl 1 (th_ltN rfl) (hts (.fieldLink RX2 25 "BayMoorings$Boat" "length" "I") (List.mem_cons_of_mem _ (List.mem_append_left _ (List.mem_append_left _ (List.mem_append_left _ (List.mem_of_getElem? (i := 0) rfl)))))) (fun _ h9 => h9) (th_fI e1 rfl) dX2_reach_1 k9) ?_
  exact W.iret (v := x1) hx hb hr (fun t ht hW => ⟨⟨x1, (), rfl, (hF.trans (by simp only [F_X2_reach, ← e1])), th_Ht ht hH⟩, hS.F ht⟩) hS.2.2 dX2_reach_4

noncomputable def F_X2_need (τ : th_t) (Z : th_Zt) (gi : th_i) (gr : th_r) (h0 : Nat) : Int32 :=
  let x1 : Int32 := gi h0 2
  x1
set_option maxHeartbeats 8000000 in
set_option maxRecDepth 100000 in
theorem k_X2_need (l : Launch) (D : va_G) (cA : Nat → ClassId) (Z : th_Zt) (τ : th_t) (gi : th_i) (gr : th_r) (sz : Nat) (h0 : Nat) (t_h0 : τ h0 = 8 ∨ τ h0 = 9 ∨ τ h0 = 4) : Met l yX2_need wsX2_need ({ frames := 0, cells := 0, slots := 0, locals := 0 }) (va_Pc [.ref h0] (th_Pre D cA Z τ gi gr sz)) (va_Qi (fun (r : Int32) (_ : Unit) => (F_X2_need τ Z gi gr h0 = r)) (fun (_ : Unit) t => th_H D cA τ gi gr t.heap) (th_A τ sz)) 0 0 (th_A τ sz) := by
  refine Met.ofW (cc := cX2_need) (maxL := 1) (ret := (some .int)) (by decide) rfl ?_
  intro p e s m args below meth c s₁ B hml hv
  obtain ⟨rfl, hsz, hH, hK, hN, hZ⟩ := hv
  have hx := B.exec
  have hb := B.bytes
  have hr := B.returns
  have hts := atoms_spec (ws := wsX2_need) B.pre
  have hown : s.vm.findClass RX2 = some m.cls := findClass_of_methodNamed B.named
  have hlocks := B.notSynchronized
  subst hsz
  have hS : va_S (th_A τ s.heap.size) s.heap s.heap [] := va_S.rf
  have hl := lv_entry ([.ref h0]) (n := 1) (Nat.le_of_ble_eq_true rfl)
  rw [lg_entry_eq]
  generalize (lg_sl ([.ref h0]) ++ List.replicate (1 - (lg_sl ([.ref h0])).length) Slot.unset).toArray = ls at hl ⊢
  have hl : lv_has ls 1 [(0, .ref h0)] := hl
  have hF : F_X2_need τ Z gi gr h0 = F_X2_need τ Z gi gr h0 := rfl
  refine lv_aload_n hx hb dX2_need_0 rfl (lv_at hl 0 rfl) ?_
  obtain ⟨x1, e1⟩ : ∃ y : Int32, y = gi h0 2 := ⟨_, rfl⟩
  refine th_any3 t_h0 (fun t9 k9 => th_get (ci := 7) (v := .int x1) (T := TX8) (C := RX8) (N := 6) hx hb hts (fun w h => List.mem_cons_of_mem _ (List.mem_append_left _ (List.mem_append_right _ h))) hown hK hH t9 (th_nz rfl) rfl rfl 2 (th_ltN rfl) (hts (.fieldLink RX2 28 "BayMoorings$Boat" "draught" "I") (List.mem_cons_of_mem _ (List.mem_append_left _ (List.mem_append_left _ (List.mem_append_left _ (List.mem_of_getElem? (i := 0) rfl)))))) (fun _ h9 => h9) (th_fI e1 rfl) dX2_need_1 k9) (fun t9 k9 => th_get (ci := 8) (v := .int x1) (T := TX9) (C := RX9) (N := 6) hx hb hts (fun w h => List.mem_cons_of_mem _ (List.mem_append_right _ h)) hown hK hH t9 (th_nz rfl) rfl rfl 2 (th_ltN rfl) (hts (.fieldLink RX2 28 "BayMoorings$Boat" "draught" "I") (List.mem_cons_of_mem _ (List.mem_append_left _ (List.mem_append_left _ (List.mem_append_left _ (List.mem_of_getElem? (i := 0) rfl)))))) (fun _ h9 => h9) (th_fI e1 rfl) dX2_need_1 k9) (fun t9 k9 => th_get (ci := 3) (v := .int x1) (T := TX4) (C := RX4) (N := 6) hx hb hts (fun w h => List.mem_cons_of_mem _ (List.mem_append_left _ (List.mem_append_left _ (List.mem_append_right _ h)))) hown hK hH t9 (th_nz rfl) rfl rfl 2 (th_ltN rfl) (hts (.fieldLink RX2 28 "BayMoorings$Boat" "draught" "I") (List.mem_cons_of_mem _ (List.mem_append_left _ (List.mem_append_left _ (List.mem_append_left _ (List.mem_of_getElem? (i := 0) rfl)))))) (fun _ h9 => h9) (th_fI e1 rfl) dX2_need_1 k9) ?_
  exact W.iret (v := x1) hx hb hr (fun t ht hW => ⟨⟨x1, (), rfl, (hF.trans (by simp only [F_X2_need, ← e1])), th_Ht ht hH⟩, hS.F ht⟩) hS.2.2 dX2_need_4

noncomputable def F_X2_plainFee (τ : th_t) (Z : th_Zt) (gi : th_i) (gr : th_r) (h0 : Nat) (p1 : Int32) : Int32 :=
  let x1 : Int32 := gi h0 1
  let x2 : Int32 := x1 * p1
  let x3 : Int32 := x2 + 9
  let x4 : Int32 := x3 / 10
  x4
set_option maxHeartbeats 8000000 in
set_option maxRecDepth 100000 in
theorem k_X2_plainFee (l : Launch) (D : va_G) (cA : Nat → ClassId) (Z : th_Zt) (τ : th_t) (gi : th_i) (gr : th_r) (sz : Nat) (h0 : Nat) (t_h0 : τ h0 = 8 ∨ τ h0 = 9 ∨ τ h0 = 4) (p1 : Int32) : Met l yX2_plainFee wsX2_plainFee ({ frames := 0, cells := 0, slots := 0, locals := 0 }) (va_Pc [.ref h0, .int p1] (th_Pre D cA Z τ gi gr sz)) (va_Qi (fun (r : Int32) (_ : Unit) => (F_X2_plainFee τ Z gi gr h0 p1 = r)) (fun (_ : Unit) t => th_H D cA τ gi gr t.heap) (th_A τ sz)) 0 0 (th_A τ sz) := by
  refine Met.ofW (cc := cX2_plainFee) (maxL := 2) (ret := (some .int)) (by decide) rfl ?_
  intro p e s m args below meth c s₁ B hml hv
  obtain ⟨rfl, hsz, hH, hK, hN, hZ⟩ := hv
  have hx := B.exec
  have hb := B.bytes
  have hr := B.returns
  have hts := atoms_spec (ws := wsX2_plainFee) B.pre
  have hown : s.vm.findClass RX2 = some m.cls := findClass_of_methodNamed B.named
  have hlocks := B.notSynchronized
  subst hsz
  have hS : va_S (th_A τ s.heap.size) s.heap s.heap [] := va_S.rf
  have hl := lv_entry ([.ref h0, .int p1]) (n := 2) (Nat.le_of_ble_eq_true rfl)
  rw [lg_entry_eq]
  generalize (lg_sl ([.ref h0, .int p1]) ++ List.replicate (2 - (lg_sl ([.ref h0, .int p1])).length) Slot.unset).toArray = ls at hl ⊢
  have hl : lv_has ls 2 [(0, .ref h0), (1, .int p1)] := hl
  have hF : F_X2_plainFee τ Z gi gr h0 p1 = F_X2_plainFee τ Z gi gr h0 p1 := rfl
  refine lv_aload_n hx hb dX2_plainFee_0 rfl (lv_at hl 0 rfl) ?_
  obtain ⟨x1, e1⟩ : ∃ y : Int32, y = gi h0 1 := ⟨_, rfl⟩
  refine th_any3 t_h0 (fun t9 k9 => th_get (ci := 7) (v := .int x1) (T := TX8) (C := RX8) (N := 6) hx hb hts (fun w h => List.mem_cons_of_mem _ (List.mem_append_left _ (List.mem_append_right _ h))) hown hK hH t9 (th_nz rfl) rfl rfl 1 (th_ltN rfl) (hts (.fieldLink RX2 25 "BayMoorings$Boat" "length" "I") (List.mem_cons_of_mem _ (List.mem_append_left _ (List.mem_append_left _ (List.mem_append_left _ (List.mem_of_getElem? (i := 0) rfl)))))) (fun _ h9 => h9) (th_fI e1 rfl) dX2_plainFee_1 k9) (fun t9 k9 => th_get (ci := 8) (v := .int x1) (T := TX9) (C := RX9) (N := 6) hx hb hts (fun w h => List.mem_cons_of_mem _ (List.mem_append_right _ h)) hown hK hH t9 (th_nz rfl) rfl rfl 1 (th_ltN rfl) (hts (.fieldLink RX2 25 "BayMoorings$Boat" "length" "I") (List.mem_cons_of_mem _ (List.mem_append_left _ (List.mem_append_left _ (List.mem_append_left _ (List.mem_of_getElem? (i := 0) rfl)))))) (fun _ h9 => h9) (th_fI e1 rfl) dX2_plainFee_1 k9) (fun t9 k9 => th_get (ci := 3) (v := .int x1) (T := TX4) (C := RX4) (N := 6) hx hb hts (fun w h => List.mem_cons_of_mem _ (List.mem_append_left _ (List.mem_append_left _ (List.mem_append_right _ h)))) hown hK hH t9 (th_nz rfl) rfl rfl 1 (th_ltN rfl) (hts (.fieldLink RX2 25 "BayMoorings$Boat" "length" "I") (List.mem_cons_of_mem _ (List.mem_append_left _ (List.mem_append_left _ (List.mem_append_left _ (List.mem_of_getElem? (i := 0) rfl)))))) (fun _ h9 => h9) (th_fI e1 rfl) dX2_plainFee_1 k9) ?_
  refine lv_iload_n hx hb dX2_plainFee_4 rfl (lv_at hl 1 rfl) ?_
  refine lv_imul hx hb dX2_plainFee_5 ?_
  refine lv_topi (fun x2 e2 => ?_)
  refine lv_bipush (v := 9) hx hb dX2_plainFee_6 bp_9 ?_
  refine lv_iadd hx hb dX2_plainFee_8 ?_
  refine lv_topi (fun x3 e3 => ?_)
  refine lv_bipush (v := 10) hx hb dX2_plainFee_9 bp_10 ?_
  refine lv_idiv hx hb dX2_plainFee_11 (rg_ne0 rgc_10 (Or.inl (th_ltI rfl))) ?_
  refine lv_topi (fun x4 e4 => ?_)
  exact W.iret (v := x4) hx hb hr (fun t ht hW => ⟨⟨x4, (), rfl, (hF.trans (by simp only [F_X2_plainFee, ← e1, ← e2, ← e3, ← e4])), th_Ht ht hH⟩, hS.F ht⟩) hS.2.2 dX2_plainFee_12

noncomputable def F_X2_fee (τ : th_t) (Z : th_Zt) (gi : th_i) (gr : th_r) (h0 : Nat) (p1 : Int32) : Int32 :=
  let x2 : Int32 := F_X2_plainFee τ Z gi gr h0 p1
  x2
set_option maxHeartbeats 8000000 in
set_option maxRecDepth 100000 in
theorem k_X2_fee (l : Launch) (D : va_G) (cA : Nat → ClassId) (Z : th_Zt) (τ : th_t) (gi : th_i) (gr : th_r) (sz : Nat) (h0 : Nat) (t_h0 : τ h0 = 8 ∨ τ h0 = 9 ∨ τ h0 = 4) (p1 : Int32) : Met l yX2_fee wsX2_fee ({ frames := 1, cells := 0, slots := 0, locals := 21 }) (va_Pc [.ref h0, .int p1] (th_Pre D cA Z τ gi gr sz)) (va_Qi (fun (r : Int32) (_ : Unit) => (F_X2_fee τ Z gi gr h0 p1 = r)) (fun (_ : Unit) t => th_H D cA τ gi gr t.heap) (th_A τ sz)) 0 0 (th_A τ sz) := by
  refine Met.ofW (cc := cX2_fee) (maxL := 2) (ret := (some .int)) (by decide) rfl ?_
  intro p e s m args below meth c s₁ B hml hv
  obtain ⟨rfl, hsz, hH, hK, hN, hZ⟩ := hv
  have hx := B.exec
  have hb := B.bytes
  have hr := B.returns
  have hts := atoms_spec (ws := wsX2_fee) B.pre
  have hown : s.vm.findClass RX2 = some m.cls := findClass_of_methodNamed B.named
  have hlocks := B.notSynchronized
  subst hsz
  have hS : va_S (th_A τ s.heap.size) s.heap s.heap [] := va_S.rf
  have hl := lv_entry ([.ref h0, .int p1]) (n := 2) (Nat.le_of_ble_eq_true rfl)
  rw [lg_entry_eq]
  generalize (lg_sl ([.ref h0, .int p1]) ++ List.replicate (2 - (lg_sl ([.ref h0, .int p1])).length) Slot.unset).toArray = ls at hl ⊢
  have hl : lv_has ls 2 [(0, .ref h0), (1, .int p1)] := hl
  have hF : F_X2_fee τ Z gi gr h0 p1 = F_X2_fee τ Z gi gr h0 p1 := rfl
  refine lv_aload_n hx hb dX2_fee_0 rfl (lv_at hl 0 rfl) ?_
  refine lv_iload_n hx hb dX2_fee_1 rfl (lv_at hl 1 rfl) ?_
  have hA1 := th_Asub (τ := τ) hS
  refine va_calli (th_or3 t_h0 (fun t9 => va_runU (As := [.int p1]) (rest := []) ⟨hx, hb, hml, hown, hts⟩ (k_X2_plainFee l D cA Z τ gi gr _ h0 (Or.inl t9) p1) (va_cwU 1 hts gX2_fee_X2_plainFee_u31X8 rfl rfl rfl rfl (by decide +kernel) ⟨Nat.le_of_ble_eq_true rfl, Nat.le_of_ble_eq_true rfl⟩) ⟨th_blind, th_recv hK hH t9 (ci := 7) (th_nz rfl) rfl rfl, (th_pre hH hK hN hZ hS hA1)⟩ rfl rfl hl.1 rfl (lv_room (Nat.le_of_ble_eq_true rfl)) dX2_fee_2 ⟨Nat.le_of_ble_eq_true rfl, Nat.le_of_ble_eq_true rfl⟩) (fun t9 => va_runU (As := [.int p1]) (rest := []) ⟨hx, hb, hml, hown, hts⟩ (k_X2_plainFee l D cA Z τ gi gr _ h0 (Or.inr (Or.inl t9)) p1) (va_cwU 1 hts gX2_fee_X2_plainFee_u31X9 rfl rfl rfl rfl (by decide +kernel) ⟨Nat.le_of_ble_eq_true rfl, Nat.le_of_ble_eq_true rfl⟩) ⟨th_blind, th_recv hK hH t9 (ci := 8) (th_nz rfl) rfl rfl, (th_pre hH hK hN hZ hS hA1)⟩ rfl rfl hl.1 rfl (lv_room (Nat.le_of_ble_eq_true rfl)) dX2_fee_2 ⟨Nat.le_of_ble_eq_true rfl, Nat.le_of_ble_eq_true rfl⟩) (fun t9 => va_runU (As := [.int p1]) (rest := []) ⟨hx, hb, hml, hown, hts⟩ (k_X2_plainFee l D cA Z τ gi gr _ h0 (Or.inr (Or.inr t9)) p1) (va_cwU 1 hts gX2_fee_X2_plainFee_u31X4 rfl rfl rfl rfl (by decide +kernel) ⟨Nat.le_of_ble_eq_true rfl, Nat.le_of_ble_eq_true rfl⟩) ⟨th_blind, th_recv hK hH t9 (ci := 3) (th_nz rfl) rfl rfl, (th_pre hH hK hN hZ hS hA1)⟩ rfl rfl hl.1 rfl (lv_room (Nat.le_of_ble_eq_true rfl)) dX2_fee_2 ⟨Nat.le_of_ble_eq_true rfl, Nat.le_of_ble_eq_true rfl⟩)) hS (fun q _ h => hA1 q h) hA1 (fun x2 u t H locs ht hvm hw2 hB hz1 hk1 hS => ?_)
  try dsimp only at hw2 hB
  rw [ht] at hB
  have hH := hB
  exact W.iret (v := x2) hx hb hr (fun t ht hW => ⟨⟨x2, (), rfl, (hF.trans (by simp only [F_X2_fee, hw2])), th_Ht ht hH⟩, hS.F ht⟩) hS.2.2 dX2_fee_5

noncomputable def F_X2_hasRefused (τ : th_t) (Z : th_Zt) (gi : th_i) (gr : th_r) (h0 : Nat) (p1 : Int32) : Int32 :=
  let x1 : Int32 := gi h0 5
  let x2 : Int32 := x1 >>> (p1 &&& 31)
  let x3 : Int32 := x2 &&& 1
  if x3 = (0 : Int32) then (
    0) else (
    1)
set_option maxHeartbeats 8000000 in
set_option maxRecDepth 100000 in
theorem k_X2_hasRefused (l : Launch) (D : va_G) (cA : Nat → ClassId) (Z : th_Zt) (τ : th_t) (gi : th_i) (gr : th_r) (sz : Nat) (h0 : Nat) (t_h0 : τ h0 = 8 ∨ τ h0 = 9 ∨ τ h0 = 4) (p1 : Int32) : Met l yX2_hasRefused wsX2_hasRefused ({ frames := 0, cells := 0, slots := 0, locals := 0 }) (va_Pc [.ref h0, .int p1] (th_Pre D cA Z τ gi gr sz)) (va_Qi (fun (r : Int32) (_ : Unit) => rg 0 1 r ∧ (F_X2_hasRefused τ Z gi gr h0 p1 = r)) (fun (_ : Unit) t => th_H D cA τ gi gr t.heap) (th_A τ sz)) 0 0 (th_A τ sz) := by
  refine Met.ofW (cc := cX2_hasRefused) (maxL := 2) (ret := (some .boolean)) (by decide) rfl ?_
  intro p e s m args below meth c s₁ B hml hv
  obtain ⟨rfl, hsz, hH, hK, hN, hZ⟩ := hv
  have hx := B.exec
  have hb := B.bytes
  have hr := B.returns
  have hts := atoms_spec (ws := wsX2_hasRefused) B.pre
  have hown : s.vm.findClass RX2 = some m.cls := findClass_of_methodNamed B.named
  have hlocks := B.notSynchronized
  subst hsz
  have hS : va_S (th_A τ s.heap.size) s.heap s.heap [] := va_S.rf
  have hl := lv_entry ([.ref h0, .int p1]) (n := 2) (Nat.le_of_ble_eq_true rfl)
  rw [lg_entry_eq]
  generalize (lg_sl ([.ref h0, .int p1]) ++ List.replicate (2 - (lg_sl ([.ref h0, .int p1])).length) Slot.unset).toArray = ls at hl ⊢
  have hl : lv_has ls 2 [(0, .ref h0), (1, .int p1)] := hl
  have hF : F_X2_hasRefused τ Z gi gr h0 p1 = F_X2_hasRefused τ Z gi gr h0 p1 := rfl
  refine lv_aload_n hx hb dX2_hasRefused_0 rfl (lv_at hl 0 rfl) ?_
  obtain ⟨x1, e1⟩ : ∃ y : Int32, y = gi h0 5 := ⟨_, rfl⟩
  refine th_any3 t_h0 (fun t9 k9 => th_get (ci := 7) (v := .int x1) (T := TX8) (C := RX8) (N := 6) hx hb hts (fun w h => List.mem_cons_of_mem _ (List.mem_append_left _ (List.mem_append_right _ h))) hown hK hH t9 (th_nz rfl) rfl rfl 5 (th_ltN rfl) (hts (.fieldLink RX2 19 "BayMoorings$Boat" "refused" "I") (List.mem_cons_of_mem _ (List.mem_append_left _ (List.mem_append_left _ (List.mem_append_left _ (List.mem_of_getElem? (i := 0) rfl)))))) (fun _ h9 => h9) (th_fI e1 rfl) dX2_hasRefused_1 k9) (fun t9 k9 => th_get (ci := 8) (v := .int x1) (T := TX9) (C := RX9) (N := 6) hx hb hts (fun w h => List.mem_cons_of_mem _ (List.mem_append_right _ h)) hown hK hH t9 (th_nz rfl) rfl rfl 5 (th_ltN rfl) (hts (.fieldLink RX2 19 "BayMoorings$Boat" "refused" "I") (List.mem_cons_of_mem _ (List.mem_append_left _ (List.mem_append_left _ (List.mem_append_left _ (List.mem_of_getElem? (i := 0) rfl)))))) (fun _ h9 => h9) (th_fI e1 rfl) dX2_hasRefused_1 k9) (fun t9 k9 => th_get (ci := 3) (v := .int x1) (T := TX4) (C := RX4) (N := 6) hx hb hts (fun w h => List.mem_cons_of_mem _ (List.mem_append_left _ (List.mem_append_left _ (List.mem_append_right _ h)))) hown hK hH t9 (th_nz rfl) rfl rfl 5 (th_ltN rfl) (hts (.fieldLink RX2 19 "BayMoorings$Boat" "refused" "I") (List.mem_cons_of_mem _ (List.mem_append_left _ (List.mem_append_left _ (List.mem_append_left _ (List.mem_of_getElem? (i := 0) rfl)))))) (fun _ h9 => h9) (th_fI e1 rfl) dX2_hasRefused_1 k9) ?_
  refine lv_iload_n hx hb dX2_hasRefused_4 rfl (lv_at hl 1 rfl) ?_
  refine lv_ishr hx hb dX2_hasRefused_5 ?_
  refine lv_topi (fun x2 e2 => ?_)
  refine lv_iconst (v := 1) hx hb dX2_hasRefused_6 ic_1 ?_
  refine lv_iand hx hb dX2_hasRefused_7 ?_
  refine lv_topi (fun x3 e3 => ?_)
  have f3 : rg 0 1 x3 := rg_e e3 (rg_and 1 (by decide) (th_leN rfl) (th_eqI rfl))
  refine lv_if_eq (tgt := 15) hx hb dX2_hasRefused_8 (th_eqI rfl) (fun c4 => ?_) (fun c4 => ?_)
  · skip
    have f5 : rg 0 0 x3 := rg_w (rg_eq f3 rgc_0 c4).1 (th_leI rfl) (th_leI rfl)
    refine lv_iconst (v := 0) hx hb dX2_hasRefused_15 ic_0 ?_
    exact W.zret (v := 0) hx hb hr (rg_nb (rg_w rgc_0 (th_leI rfl) (th_leI rfl))) (fun t ht hW => ⟨⟨0, (), rfl, ⟨(rg_w rgc_0 (th_leI rfl) (th_leI rfl)), (hF.trans (by simp only [↓reduceIte, F_X2_hasRefused, ← e1, ← e2, ← e3, eq_true c4]))⟩, th_Ht ht hH⟩, hS.F ht⟩) hS.2.2 dX2_hasRefused_16
  · skip
    have f6 : rg 1 1 x3 := rg_w (rg_neL f3 rgc_0 c4) (th_leI rfl) (th_leI rfl)
    refine lv_iconst (v := 1) hx hb dX2_hasRefused_11 ic_1 ?_
    refine lv_goto (tgt := 16) hx hb dX2_hasRefused_12 (th_eqI rfl) ?_
    exact W.zret (v := 1) hx hb hr (rg_nb (rg_w rgc_1 (th_leI rfl) (th_leI rfl))) (fun t ht hW => ⟨⟨1, (), rfl, ⟨(rg_w rgc_1 (th_leI rfl) (th_leI rfl)), (hF.trans (by simp only [↓reduceIte, F_X2_hasRefused, ← e1, ← e2, ← e3, eq_false c4]))⟩, th_Ht ht hH⟩, hS.F ht⟩) hS.2.2 dX2_hasRefused_16

noncomputable def F_X2_wishAt (τ : th_t) (Z : th_Zt) (gi : th_i) (gr : th_r) (h0 : Nat) (p1 : Int32) : Int32 :=
  let x1 : Int32 := gi h0 4
  let x2 : Int32 := x1 - 1
  let x4 : Int32 := F_X11_within τ Z gi gr p1 0 x2
  if x4 = (0 : Int32) then (
    (-1)) else (
    if (4 : Int32) ≤ p1 then (
      0) else (
      let q14 : Nat := (gr h0 3).getD 0
      let x15 : Int32 := gi q14 p1.toNatClampNeg
      x15))
set_option maxHeartbeats 8000000 in
set_option maxRecDepth 100000 in
theorem k_X2_wishAt (l : Launch) (D : va_G) (cA : Nat → ClassId) (Z : th_Zt) (τ : th_t) (gi : th_i) (gr : th_r) (sz : Nat) (h0 : Nat) (t_h0 : τ h0 = 8 ∨ τ h0 = 9 ∨ τ h0 = 4) (p1 : Int32) : Met l yX2_wishAt wsX2_wishAt ({ frames := 1, cells := 0, slots := 0, locals := 22 }) (va_Pc [.ref h0, .int p1] (th_Pre D cA Z τ gi gr sz)) (va_Qi (fun (r : Int32) (_ : Unit) => (F_X2_wishAt τ Z gi gr h0 p1 = r)) (fun (_ : Unit) t => th_H D cA τ gi gr t.heap) (th_A τ sz)) 0 0 (th_A τ sz) := by
  refine Met.ofW (cc := cX2_wishAt) (maxL := 2) (ret := (some .int)) (by decide) rfl ?_
  intro p e s m args below meth c s₁ B hml hv
  obtain ⟨rfl, hsz, hH, hK, hN, hZ⟩ := hv
  have hx := B.exec
  have hb := B.bytes
  have hr := B.returns
  have hts := atoms_spec (ws := wsX2_wishAt) B.pre
  have hown : s.vm.findClass RX2 = some m.cls := findClass_of_methodNamed B.named
  have hlocks := B.notSynchronized
  subst hsz
  have hS : va_S (th_A τ s.heap.size) s.heap s.heap [] := va_S.rf
  have hl := lv_entry ([.ref h0, .int p1]) (n := 2) (Nat.le_of_ble_eq_true rfl)
  rw [lg_entry_eq]
  generalize (lg_sl ([.ref h0, .int p1]) ++ List.replicate (2 - (lg_sl ([.ref h0, .int p1])).length) Slot.unset).toArray = ls at hl ⊢
  have hl : lv_has ls 2 [(0, .ref h0), (1, .int p1)] := hl
  have hF : F_X2_wishAt τ Z gi gr h0 p1 = F_X2_wishAt τ Z gi gr h0 p1 := rfl
  refine lv_iload_n hx hb dX2_wishAt_0 rfl (lv_at hl 1 rfl) ?_
  refine lv_iconst (v := 0) hx hb dX2_wishAt_1 ic_0 ?_
  refine lv_aload_n hx hb dX2_wishAt_2 rfl (lv_at hl 0 rfl) ?_
  obtain ⟨x1, e1⟩ : ∃ y : Int32, y = gi h0 4 := ⟨_, rfl⟩
  refine th_any3 t_h0 (fun t9 k9 => th_get (ci := 7) (v := .int x1) (T := TX8) (C := RX8) (N := 6) hx hb hts (fun w h => List.mem_cons_of_mem _ (List.mem_append_left _ (List.mem_append_right _ h))) hown hK hH t9 (th_nz rfl) rfl rfl 4 (th_ltN rfl) (hts (.fieldLink RX2 15 "BayMoorings$Boat" "wishCount" "I") (List.mem_cons_of_mem _ (List.mem_append_left _ (List.mem_append_left _ (List.mem_append_left _ (List.mem_of_getElem? (i := 0) rfl)))))) (fun _ h9 => h9) (th_fI e1 rfl) dX2_wishAt_3 k9) (fun t9 k9 => th_get (ci := 8) (v := .int x1) (T := TX9) (C := RX9) (N := 6) hx hb hts (fun w h => List.mem_cons_of_mem _ (List.mem_append_right _ h)) hown hK hH t9 (th_nz rfl) rfl rfl 4 (th_ltN rfl) (hts (.fieldLink RX2 15 "BayMoorings$Boat" "wishCount" "I") (List.mem_cons_of_mem _ (List.mem_append_left _ (List.mem_append_left _ (List.mem_append_left _ (List.mem_of_getElem? (i := 0) rfl)))))) (fun _ h9 => h9) (th_fI e1 rfl) dX2_wishAt_3 k9) (fun t9 k9 => th_get (ci := 3) (v := .int x1) (T := TX4) (C := RX4) (N := 6) hx hb hts (fun w h => List.mem_cons_of_mem _ (List.mem_append_left _ (List.mem_append_left _ (List.mem_append_right _ h)))) hown hK hH t9 (th_nz rfl) rfl rfl 4 (th_ltN rfl) (hts (.fieldLink RX2 15 "BayMoorings$Boat" "wishCount" "I") (List.mem_cons_of_mem _ (List.mem_append_left _ (List.mem_append_left _ (List.mem_append_left _ (List.mem_of_getElem? (i := 0) rfl)))))) (fun _ h9 => h9) (th_fI e1 rfl) dX2_wishAt_3 k9) ?_
  have f1 : rg 0 4 x1 := rg_e e1 (th_or3 t_h0 (fun t9 => (hH.at t9 (th_nz rfl)).2.2) (fun t9 => (hH.at t9 (th_nz rfl)).2.2) (fun t9 => (hH.at t9 (th_nz rfl)).2.2))
  refine lv_iconst (v := 1) hx hb dX2_wishAt_6 ic_1 ?_
  refine lv_isub hx hb dX2_wishAt_7 ?_
  refine lv_topi (fun x2 e2 => ?_)
  have f2 : rg (-1) 3 x2 := rg_e e2 (rg_w (rg_sub f1 rgc_1 (th_leI rfl) (th_leI rfl)) (th_leI rfl) (th_leI rfl))
  have hA3 := th_Asub (τ := τ) hS
  refine va_calli (va_runSN (As := [.int p1, .int 0, .int x2]) (rest := []) ⟨hx, hb, hml, hown, hts⟩ (k_X11_within l D cA Z τ gi gr _ p1 0 x2) ⟨va_cnB (host := RX11) 3 hts gX2_wishAt_X11_within_n39 rfl rfl rfl hN.2.2.2.2.2.2.1 (hts (.initialized RX11) (List.mem_cons_of_mem _ (List.mem_append_left _ (List.mem_append_left _ (List.mem_append_left _ (List.mem_of_getElem? (i := 3) rfl)))))) (by decide +kernel) ⟨Nat.le_of_ble_eq_true rfl, Nat.le_of_ble_eq_true rfl⟩, (hts (.static yX11_within) (List.mem_cons_of_mem _ (List.mem_append_left _ (List.mem_append_left _ (List.mem_append_left _ (List.mem_of_getElem? (i := 2) rfl)))))), trivial⟩ ⟨th_blind, (th_pre hH hK hN hZ hS hA3)⟩ rfl rfl hl.1 rfl (lv_room (Nat.le_of_ble_eq_true rfl)) dX2_wishAt_8 ⟨Nat.le_of_ble_eq_true rfl, Nat.le_of_ble_eq_true rfl⟩) hS (fun q _ h => hA3 q h) hA3 (fun x4 u t H locs ht hvm hw4 hB hz1 hk1 hS => ?_)
  try dsimp only at hw4 hB
  rw [ht] at hB
  have hH := hB
  refine lv_if_eq (tgt := 28) hx hb dX2_wishAt_11 (th_eqI rfl) (fun c5 => ?_) (fun c5 => ?_)
  · skip
    have f6 : rg 0 0 x4 := rg_w (rg_eq hw4.1 rgc_0 c5).1 (th_leI rfl) (th_leI rfl)
    refine lv_iconst (v := (-1)) hx hb dX2_wishAt_28 ic_m1 ?_
    exact W.iret (v := (-1)) hx hb hr (fun t ht hW => ⟨⟨(-1), (), rfl, (hF.trans (by simp only [↓reduceIte, F_X2_wishAt, ← e1, ← e2, hw4.2.2.1, eq_true c5])), th_Ht ht hH⟩, hS.F ht⟩) hS.2.2 dX2_wishAt_29
  · skip
    have f7 : rg 1 1 x4 := rg_w (rg_neL hw4.1 rgc_0 c5) (th_leI rfl) (th_leI rfl)
    have g8 := hw4.2.1 c5
    have f9 : rg 0 2147483647 p1 := rg_w (rg_le rgc_0 (rg_any p1) g8.1).2 (th_leI rfl) (th_leI rfl)
    have f10 : rg 0 3 p1 := rg_w (rg_le f9 f2 g8.2).1 (th_leI rfl) (th_leI rfl)
    have f11 : rg 0 3 x2 := rg_w (rg_le f10 f2 g8.2).2 (th_leI rfl) (th_leI rfl)
    have f12 : rg 1 4 x1 := rg_back (rg_dS e2 f1 rgc_1 (th_leI rfl) (th_leI rfl)) f1 f11 (by decide) (by decide)
    refine lv_iload_n hx hb dX2_wishAt_14 rfl (lv_at hl 1 rfl) ?_
    refine lv_iconst (v := 4) hx hb dX2_wishAt_15 ic_4 ?_
    refine lv_icmp_ge (tgt := 28) hx hb dX2_wishAt_16 (th_eqI rfl) (fun c13 => ?_) (fun c13 => ?_)
    · skip
      exact absurd (rg_le rgc_4 f10 c13).1 (rg_no (th_ltI rfl))
    · skip
      refine lv_aload_n hx hb dX2_wishAt_19 rfl (lv_at hl 0 rfl) ?_
      obtain ⟨q14, r14, t14⟩ : ∃ q, gr h0 3 = some q ∧ τ q = 27 := th_or3 t_h0 (fun t9 => (hH.at t9 (th_nz rfl)).2.1) (fun t9 => (hH.at t9 (th_nz rfl)).2.1) (fun t9 => (hH.at t9 (th_nz rfl)).2.1)
      refine th_any3 t_h0 (fun t9 k9 => th_get (ci := 7) (v := .ref q14) (T := TX8) (C := RX8) (N := 6) hx hb hts (fun w h => List.mem_cons_of_mem _ (List.mem_append_left _ (List.mem_append_right _ h))) hown hK hH t9 (th_nz rfl) rfl rfl 3 (th_ltN rfl) (hts (.fieldLink RX2 9 "BayMoorings$Boat" "wishes" "[I") (List.mem_cons_of_mem _ (List.mem_append_left _ (List.mem_append_left _ (List.mem_append_left _ (List.mem_of_getElem? (i := 1) rfl)))))) (fun _ h9 => h9) (th_fR r14 rfl) dX2_wishAt_20 k9) (fun t9 k9 => th_get (ci := 8) (v := .ref q14) (T := TX9) (C := RX9) (N := 6) hx hb hts (fun w h => List.mem_cons_of_mem _ (List.mem_append_right _ h)) hown hK hH t9 (th_nz rfl) rfl rfl 3 (th_ltN rfl) (hts (.fieldLink RX2 9 "BayMoorings$Boat" "wishes" "[I") (List.mem_cons_of_mem _ (List.mem_append_left _ (List.mem_append_left _ (List.mem_append_left _ (List.mem_of_getElem? (i := 1) rfl)))))) (fun _ h9 => h9) (th_fR r14 rfl) dX2_wishAt_20 k9) (fun t9 k9 => th_get (ci := 3) (v := .ref q14) (T := TX4) (C := RX4) (N := 6) hx hb hts (fun w h => List.mem_cons_of_mem _ (List.mem_append_left _ (List.mem_append_left _ (List.mem_append_right _ h)))) hown hK hH t9 (th_nz rfl) rfl rfl 3 (th_ltN rfl) (hts (.fieldLink RX2 9 "BayMoorings$Boat" "wishes" "[I") (List.mem_cons_of_mem _ (List.mem_append_left _ (List.mem_append_left _ (List.mem_append_left _ (List.mem_of_getElem? (i := 1) rfl)))))) (fun _ h9 => h9) (th_fR r14 rfl) dX2_wishAt_20 k9) ?_
      refine lv_iload_n hx hb dX2_wishAt_23 rfl (lv_at hl 1 rfl) ?_
      refine th_iald hx hb hK hH t14 (th_nz rfl) 0 rfl rfl (rg_in (n := 4) f10 (th_leI rfl) (th_ltI rfl)) dX2_wishAt_24 ?_
      refine lv_topi (fun x15 e15 => ?_)
      refine lv_goto (tgt := 29) hx hb dX2_wishAt_25 (th_eqI rfl) ?_
      exact W.iret (v := x15) hx hb hr (fun t ht hW => ⟨⟨x15, (), rfl, (hF.trans (by simp only [↓reduceIte, F_X2_wishAt, ← e1, ← e2, hw4.2.2.1, eq_false c5, eq_false c13, r14, Option.getD_some, ← e15])), th_Ht ht hH⟩, hS.F ht⟩) hS.2.2 dX2_wishAt_29

noncomputable def f_X2_wishesFor_2 (τ : th_t) (Z : th_Zt) (gi : th_i) (gr : th_r) (h0 : Nat) (p1 : Int32) : Nat → Int32 → Int32
  | 0, y2_2 => 0
  | n2 + 1, y2_2 =>
    let x1 : Int32 := gi h0 4
    if x1 ≤ y2_2 then (
      0) else (
      let x6 : Int32 := F_X2_wishAt τ Z gi gr h0 y2_2
      if x6 = p1 then (
        1) else (
        let x8 : Int32 := y2_2 + 1
        (f_X2_wishesFor_2 τ Z gi gr h0 p1 n2) x8))
noncomputable def F_X2_wishesFor (τ : th_t) (Z : th_Zt) (gi : th_i) (gr : th_r) (h0 : Nat) (p1 : Int32) : Int32 :=
  f_X2_wishesFor_2 τ Z gi gr h0 p1 ((4 - (0 : Int32).toInt).toNat + 1) 0
set_option maxHeartbeats 8000000 in
set_option maxRecDepth 100000 in
theorem k_X2_wishesFor (l : Launch) (D : va_G) (cA : Nat → ClassId) (Z : th_Zt) (τ : th_t) (gi : th_i) (gr : th_r) (sz : Nat) (h0 : Nat) (t_h0 : τ h0 = 8 ∨ τ h0 = 9 ∨ τ h0 = 4) (p1 : Int32) : Met l yX2_wishesFor wsX2_wishesFor ({ frames := 2, cells := 0, slots := 0, locals := 43 }) (va_Pc [.ref h0, .int p1] (th_Pre D cA Z τ gi gr sz)) (va_Qi (fun (r : Int32) (_ : Unit) => rg 0 1 r ∧ (F_X2_wishesFor τ Z gi gr h0 p1 = r)) (fun (_ : Unit) t => th_H D cA τ gi gr t.heap) (th_A τ sz)) 0 0 (th_A τ sz) := by
  refine Met.ofW (cc := cX2_wishesFor) (maxL := 3) (ret := (some .boolean)) (by decide) rfl ?_
  intro p e s m args below meth c s₁ B hml hv
  obtain ⟨rfl, hsz, hH, hK, hN, hZ⟩ := hv
  have hx := B.exec
  have hb := B.bytes
  have hr := B.returns
  have hts := atoms_spec (ws := wsX2_wishesFor) B.pre
  have hown : s.vm.findClass RX2 = some m.cls := findClass_of_methodNamed B.named
  have hlocks := B.notSynchronized
  subst hsz
  have J2 : ∀ (n2 : Nat) (H : Heap) (locs : List Loc) (ls : Array Slot) (y2_2 : Int32), (4 - y2_2.toInt).toNat < n2 → th_H D cA τ gi gr H → va_S (th_A τ s.heap.size) s.heap H locs → lv_has ls 3 [(0, .ref h0), (1, .int p1), (2, .int y2_2)] → rg 0 4 y2_2 → F_X2_wishesFor τ Z gi gr h0 p1 = f_X2_wishesFor_2 τ Z gi gr h0 p1 n2 y2_2 → W p l e (headSpec wsX2_wishesFor ({ frames := 2, cells := 0, slots := 0, locals := 43 })).room s m [.ref h0, .int p1].toArray below meth c H locs 0 0 (MQ below (va_Qi (fun (r : Int32) (_ : Unit) => rg 0 1 r ∧ (F_X2_wishesFor τ Z gi gr h0 p1 = r)) (fun (_ : Unit) t => th_H D cA τ gi gr t.heap) (th_A τ s.heap.size)) [.ref h0, .int p1].toArray s 0 0 (th_A τ s.heap.size)) (F0 m 2 ls []) := by
    intro n2
    induction n2 with
    | zero =>
      intro H locs ls y2_2 hn
      exact absurd hn (Nat.not_lt_zero _)
    | succ n2 ih2 =>
      intro H locs ls y2_2 hn2 hH hS hl fy2_2 hF
      refine lv_iload_n hx hb dX2_wishesFor_2 rfl (lv_at hl 2 rfl) ?_
      refine lv_aload_n hx hb dX2_wishesFor_3 rfl (lv_at hl 0 rfl) ?_
      obtain ⟨x1, e1⟩ : ∃ y : Int32, y = gi h0 4 := ⟨_, rfl⟩
      refine th_any3 t_h0 (fun t9 k9 => th_get (ci := 7) (v := .int x1) (T := TX8) (C := RX8) (N := 6) hx hb hts (fun w h => List.mem_cons_of_mem _ (List.mem_append_left _ (List.mem_append_right _ h))) hown hK hH t9 (th_nz rfl) rfl rfl 4 (th_ltN rfl) (hts (.fieldLink RX2 15 "BayMoorings$Boat" "wishCount" "I") (List.mem_cons_of_mem _ (List.mem_append_left _ (List.mem_append_left _ (List.mem_append_left _ (List.mem_of_getElem? (i := 0) rfl)))))) (fun _ h9 => h9) (th_fI e1 rfl) dX2_wishesFor_4 k9) (fun t9 k9 => th_get (ci := 8) (v := .int x1) (T := TX9) (C := RX9) (N := 6) hx hb hts (fun w h => List.mem_cons_of_mem _ (List.mem_append_right _ h)) hown hK hH t9 (th_nz rfl) rfl rfl 4 (th_ltN rfl) (hts (.fieldLink RX2 15 "BayMoorings$Boat" "wishCount" "I") (List.mem_cons_of_mem _ (List.mem_append_left _ (List.mem_append_left _ (List.mem_append_left _ (List.mem_of_getElem? (i := 0) rfl)))))) (fun _ h9 => h9) (th_fI e1 rfl) dX2_wishesFor_4 k9) (fun t9 k9 => th_get (ci := 3) (v := .int x1) (T := TX4) (C := RX4) (N := 6) hx hb hts (fun w h => List.mem_cons_of_mem _ (List.mem_append_left _ (List.mem_append_left _ (List.mem_append_right _ h)))) hown hK hH t9 (th_nz rfl) rfl rfl 4 (th_ltN rfl) (hts (.fieldLink RX2 15 "BayMoorings$Boat" "wishCount" "I") (List.mem_cons_of_mem _ (List.mem_append_left _ (List.mem_append_left _ (List.mem_append_left _ (List.mem_of_getElem? (i := 0) rfl)))))) (fun _ h9 => h9) (th_fI e1 rfl) dX2_wishesFor_4 k9) ?_
      have f1 : rg 0 4 x1 := rg_e e1 (th_or3 t_h0 (fun t9 => (hH.at t9 (th_nz rfl)).2.2) (fun t9 => (hH.at t9 (th_nz rfl)).2.2) (fun t9 => (hH.at t9 (th_nz rfl)).2.2))
      refine lv_icmp_ge (tgt := 27) hx hb dX2_wishesFor_7 (th_eqI rfl) (fun c2 => ?_) (fun c2 => ?_)
      · skip
        refine lv_iconst (v := 0) hx hb dX2_wishesFor_27 ic_0 ?_
        exact W.zret (v := 0) hx hb hr (rg_nb (rg_w rgc_0 (th_leI rfl) (th_leI rfl))) (fun t ht hW => ⟨⟨0, (), rfl, ⟨(rg_w rgc_0 (th_leI rfl) (th_leI rfl)), (hF.trans (by simp only [↓reduceIte, f_X2_wishesFor_2, ← e1, eq_true c2]))⟩, th_Ht ht hH⟩, hS.F ht⟩) hS.2.2 dX2_wishesFor_28
      · skip
        have f3 : rg 1 4 x1 := rg_w (rg_nle f1 fy2_2 c2).1 (th_leI rfl) (th_leI rfl)
        have f4 : rg 0 3 y2_2 := rg_w (rg_nle f1 fy2_2 c2).2 (th_leI rfl) (th_leI rfl)
        refine lv_aload_n hx hb dX2_wishesFor_10 rfl (lv_at hl 0 rfl) ?_
        refine lv_iload_n hx hb dX2_wishesFor_11 rfl (lv_at hl 2 rfl) ?_
        have hA5 := th_Asub (τ := τ) hS
        refine va_calli (th_or3 t_h0 (fun t9 => va_runU (As := [.int y2_2]) (rest := []) ⟨hx, hb, hml, hown, hts⟩ (k_X2_wishAt l D cA Z τ gi gr _ h0 (Or.inl t9) y2_2) (va_cwU 1 hts gX2_wishesFor_X2_wishAt_u43X8 rfl rfl rfl rfl (by decide +kernel) ⟨Nat.le_of_ble_eq_true rfl, Nat.le_of_ble_eq_true rfl⟩) ⟨th_blind, th_recv hK hH t9 (ci := 7) (th_nz rfl) rfl rfl, (th_pre hH hK hN hZ hS hA5)⟩ rfl rfl hl.1 rfl (lv_room (Nat.le_of_ble_eq_true rfl)) dX2_wishesFor_12 ⟨Nat.le_of_ble_eq_true rfl, Nat.le_of_ble_eq_true rfl⟩) (fun t9 => va_runU (As := [.int y2_2]) (rest := []) ⟨hx, hb, hml, hown, hts⟩ (k_X2_wishAt l D cA Z τ gi gr _ h0 (Or.inr (Or.inl t9)) y2_2) (va_cwU 1 hts gX2_wishesFor_X2_wishAt_u43X9 rfl rfl rfl rfl (by decide +kernel) ⟨Nat.le_of_ble_eq_true rfl, Nat.le_of_ble_eq_true rfl⟩) ⟨th_blind, th_recv hK hH t9 (ci := 8) (th_nz rfl) rfl rfl, (th_pre hH hK hN hZ hS hA5)⟩ rfl rfl hl.1 rfl (lv_room (Nat.le_of_ble_eq_true rfl)) dX2_wishesFor_12 ⟨Nat.le_of_ble_eq_true rfl, Nat.le_of_ble_eq_true rfl⟩) (fun t9 => va_runU (As := [.int y2_2]) (rest := []) ⟨hx, hb, hml, hown, hts⟩ (k_X2_wishAt l D cA Z τ gi gr _ h0 (Or.inr (Or.inr t9)) y2_2) (va_cwU 1 hts gX2_wishesFor_X2_wishAt_u43X4 rfl rfl rfl rfl (by decide +kernel) ⟨Nat.le_of_ble_eq_true rfl, Nat.le_of_ble_eq_true rfl⟩) ⟨th_blind, th_recv hK hH t9 (ci := 3) (th_nz rfl) rfl rfl, (th_pre hH hK hN hZ hS hA5)⟩ rfl rfl hl.1 rfl (lv_room (Nat.le_of_ble_eq_true rfl)) dX2_wishesFor_12 ⟨Nat.le_of_ble_eq_true rfl, Nat.le_of_ble_eq_true rfl⟩)) hS (fun q _ h => hA5 q h) hA5 (fun x6 u t H locs ht hvm hw6 hB hz1 hk1 hS => ?_)
        try dsimp only at hw6 hB
        rw [ht] at hB
        have hH := hB
        refine lv_iload_n hx hb dX2_wishesFor_15 rfl (lv_at hl 1 rfl) ?_
        refine lv_icmp_ne (tgt := 21) hx hb dX2_wishesFor_16 (th_eqI rfl) (fun c7 => ?_) (fun c7 => ?_)
        · skip
          obtain ⟨x8, e8⟩ : ∃ y : Int32, y = y2_2 + 1 := ⟨_, rfl⟩
          have f8 : rg 1 4 x8 := rg_e e8 (rg_w (rg_add f4 rgc_1 (th_leI rfl) (th_leI rfl)) (th_leI rfl) (th_leI rfl))
          refine lv_iinc (v := x8) (lv' := [(2, .int x8), (0, .ref h0), (1, .int p1)]) hx hb dX2_wishesFor_21 hl (k := 2) rfl (by rw [e8]; rfl) (th_ltN rfl) rfl (fun ls hl => ?_)
          refine lv_goto (tgt := 2) hx hb dX2_wishesFor_24 (th_eqI rfl) ?_
          exact ih2 _ _ _ x8 (th_up (rg_dA e8 f4 rgc_1 (th_leI rfl) (th_leI rfl)) f4 hn2 (th_ltI rfl)) hH hS (lv_sub hl [1, 2, 0] rfl) (rg_w f8 (th_leI rfl) (th_leI rfl)) (hF.trans (by simp only [↓reduceIte, f_X2_wishesFor_2, ← e1, eq_false c2, hw6, eq_false c7, ← e8]))
        · skip
          refine lv_iconst (v := 1) hx hb dX2_wishesFor_19 ic_1 ?_
          exact W.zret (v := 1) hx hb hr (rg_nb (rg_w rgc_1 (th_leI rfl) (th_leI rfl))) (fun t ht hW => ⟨⟨1, (), rfl, ⟨(rg_w rgc_1 (th_leI rfl) (th_leI rfl)), (hF.trans (by simp only [↓reduceIte, f_X2_wishesFor_2, ← e1, eq_false c2, hw6, eq_true c7]))⟩, th_Ht ht hH⟩, hS.F ht⟩) hS.2.2 dX2_wishesFor_20
  have hS : va_S (th_A τ s.heap.size) s.heap s.heap [] := va_S.rf
  have hl := lv_entry ([.ref h0, .int p1]) (n := 3) (Nat.le_of_ble_eq_true rfl)
  rw [lg_entry_eq]
  generalize (lg_sl ([.ref h0, .int p1]) ++ List.replicate (3 - (lg_sl ([.ref h0, .int p1])).length) Slot.unset).toArray = ls at hl ⊢
  have hl : lv_has ls 3 [(0, .ref h0), (1, .int p1)] := hl
  have hF : F_X2_wishesFor τ Z gi gr h0 p1 = F_X2_wishesFor τ Z gi gr h0 p1 := rfl
  refine lv_iconst (v := 0) hx hb dX2_wishesFor_0 ic_0 ?_
  refine lv_istore_n (i := 2) (lv' := [(2, .int 0), (0, .ref h0), (1, .int p1)]) hx hb dX2_wishesFor_1 rfl hl (th_ltN rfl) rfl (fun ls hl => ?_)
  exact J2 _ _ _ _ 0 (Nat.lt_add_one _) hH hS (lv_sub hl [1, 2, 0] rfl) (rg_w rgc_0 (th_leI rfl) (th_leI rfl)) (hF.trans (by simp only [F_X2_wishesFor]))

noncomputable def F_X2_addWish (τ : th_t) (Z : th_Zt) (gi : th_i) (gr : th_r) (h0 : Nat) (p1 : Int32) : th_i :=
  let x1 : Int32 := gi h0 4
  if (4 : Int32) ≤ x1 then (
    (gi)) else (
    let q5 : Nat := (gr h0 3).getD 0
    let gi7 : th_i := va_up gi q5 (upd (gi q5) x1.toNatClampNeg p1)
    let x10 : Int32 := x1 + 1
    let gi11 : th_i := va_up gi7 h0 (upd (gi7 h0) 4 x10)
    (gi11))
set_option maxHeartbeats 8000000 in
set_option maxRecDepth 100000 in
theorem k_X2_addWish (l : Launch) (D : va_G) (cA : Nat → ClassId) (Z : th_Zt) (τ : th_t) (gi : th_i) (gr : th_r) (sz : Nat) (h0 : Nat) (t_h0 : τ h0 = 8 ∨ τ h0 = 9 ∨ τ h0 = 4) (p1 : Int32) : Met l yX2_addWish wsX2_addWish ({ frames := 0, cells := 0, slots := 0, locals := 0 }) (va_Pc [.ref h0, .int p1] (th_Pre D cA Z τ gi gr sz)) (va_Qv (fun (u : th_i × th_r) => th_Mod [404, 804, 904, 2700] τ gi gr u.1 u.2 ∧ u.2 = gr ∧ (F_X2_addWish τ Z gi gr h0 p1 = u.1)) (fun (u : th_i × th_r) t => th_H D cA τ u.1 u.2 t.heap) (th_A τ sz)) 0 0 (th_A τ sz) := by
  refine Met.ofW (cc := cX2_addWish) (maxL := 2) (ret := none) (by decide) rfl ?_
  intro p e s m args below meth c s₁ B hml hv
  obtain ⟨rfl, hsz, hH, hK, hN, hZ⟩ := hv
  have hx := B.exec
  have hb := B.bytes
  have hr := B.returns
  have hts := atoms_spec (ws := wsX2_addWish) B.pre
  have hown : s.vm.findClass RX2 = some m.cls := findClass_of_methodNamed B.named
  have hlocks := B.notSynchronized
  subst hsz
  have hM : th_Mod [404, 804, 904, 2700] τ gi gr gi gr := th_Mod.rf
  have hS : va_S (th_A τ s.heap.size) s.heap s.heap [] := va_S.rf
  have hl := lv_entry ([.ref h0, .int p1]) (n := 2) (Nat.le_of_ble_eq_true rfl)
  rw [lg_entry_eq]
  generalize (lg_sl ([.ref h0, .int p1]) ++ List.replicate (2 - (lg_sl ([.ref h0, .int p1])).length) Slot.unset).toArray = ls at hl ⊢
  have hl : lv_has ls 2 [(0, .ref h0), (1, .int p1)] := hl
  have hF : F_X2_addWish τ Z gi gr h0 p1 = F_X2_addWish τ Z gi gr h0 p1 := rfl
  refine lv_aload_n hx hb dX2_addWish_0 rfl (lv_at hl 0 rfl) ?_
  obtain ⟨x1, e1⟩ : ∃ y : Int32, y = gi h0 4 := ⟨_, rfl⟩
  refine th_any3 t_h0 (fun t9 k9 => th_get (ci := 7) (v := .int x1) (T := TX8) (C := RX8) (N := 6) hx hb hts (fun w h => List.mem_cons_of_mem _ (List.mem_append_left _ (List.mem_append_right _ h))) hown hK hH t9 (th_nz rfl) rfl rfl 4 (th_ltN rfl) (hts (.fieldLink RX2 15 "BayMoorings$Boat" "wishCount" "I") (List.mem_cons_of_mem _ (List.mem_append_left _ (List.mem_append_left _ (List.mem_append_left _ (List.mem_of_getElem? (i := 0) rfl)))))) (fun _ h9 => h9) (th_fI e1 rfl) dX2_addWish_1 k9) (fun t9 k9 => th_get (ci := 8) (v := .int x1) (T := TX9) (C := RX9) (N := 6) hx hb hts (fun w h => List.mem_cons_of_mem _ (List.mem_append_right _ h)) hown hK hH t9 (th_nz rfl) rfl rfl 4 (th_ltN rfl) (hts (.fieldLink RX2 15 "BayMoorings$Boat" "wishCount" "I") (List.mem_cons_of_mem _ (List.mem_append_left _ (List.mem_append_left _ (List.mem_append_left _ (List.mem_of_getElem? (i := 0) rfl)))))) (fun _ h9 => h9) (th_fI e1 rfl) dX2_addWish_1 k9) (fun t9 k9 => th_get (ci := 3) (v := .int x1) (T := TX4) (C := RX4) (N := 6) hx hb hts (fun w h => List.mem_cons_of_mem _ (List.mem_append_left _ (List.mem_append_left _ (List.mem_append_right _ h)))) hown hK hH t9 (th_nz rfl) rfl rfl 4 (th_ltN rfl) (hts (.fieldLink RX2 15 "BayMoorings$Boat" "wishCount" "I") (List.mem_cons_of_mem _ (List.mem_append_left _ (List.mem_append_left _ (List.mem_append_left _ (List.mem_of_getElem? (i := 0) rfl)))))) (fun _ h9 => h9) (th_fI e1 rfl) dX2_addWish_1 k9) ?_
  have f1 : rg 0 4 x1 := rg_e e1 (th_or3 t_h0 (fun t9 => (hH.at t9 (th_nz rfl)).2.2) (fun t9 => (hH.at t9 (th_nz rfl)).2.2) (fun t9 => (hH.at t9 (th_nz rfl)).2.2))
  refine lv_iconst (v := 4) hx hb dX2_addWish_4 ic_4 ?_
  refine lv_icmp_ge (tgt := 28) hx hb dX2_addWish_5 (th_eqI rfl) (fun c2 => ?_) (fun c2 => ?_)
  · skip
    have f3 : rg 4 4 x1 := rg_w (rg_le rgc_4 f1 c2).2 (th_leI rfl) (th_leI rfl)
    exact W.vret hx hb hr (fun t ht hW => ⟨⟨(gi, gr), rfl, ⟨hM, rfl, (hF.trans (by simp only [↓reduceIte, F_X2_addWish, ← e1, eq_true c2]))⟩, th_Ht ht hH⟩, hS.F ht⟩) hS.2.2 dX2_addWish_28
  · skip
    have f4 : rg 0 3 x1 := rg_w (rg_nle rgc_4 f1 c2).2 (th_leI rfl) (th_leI rfl)
    refine lv_aload_n hx hb dX2_addWish_8 rfl (lv_at hl 0 rfl) ?_
    obtain ⟨q5, r5, t5⟩ : ∃ q, gr h0 3 = some q ∧ τ q = 27 := th_or3 t_h0 (fun t9 => (hH.at t9 (th_nz rfl)).2.1) (fun t9 => (hH.at t9 (th_nz rfl)).2.1) (fun t9 => (hH.at t9 (th_nz rfl)).2.1)
    refine th_any3 t_h0 (fun t9 k9 => th_get (ci := 7) (v := .ref q5) (T := TX8) (C := RX8) (N := 6) hx hb hts (fun w h => List.mem_cons_of_mem _ (List.mem_append_left _ (List.mem_append_right _ h))) hown hK hH t9 (th_nz rfl) rfl rfl 3 (th_ltN rfl) (hts (.fieldLink RX2 9 "BayMoorings$Boat" "wishes" "[I") (List.mem_cons_of_mem _ (List.mem_append_left _ (List.mem_append_left _ (List.mem_append_left _ (List.mem_of_getElem? (i := 1) rfl)))))) (fun _ h9 => h9) (th_fR r5 rfl) dX2_addWish_9 k9) (fun t9 k9 => th_get (ci := 8) (v := .ref q5) (T := TX9) (C := RX9) (N := 6) hx hb hts (fun w h => List.mem_cons_of_mem _ (List.mem_append_right _ h)) hown hK hH t9 (th_nz rfl) rfl rfl 3 (th_ltN rfl) (hts (.fieldLink RX2 9 "BayMoorings$Boat" "wishes" "[I") (List.mem_cons_of_mem _ (List.mem_append_left _ (List.mem_append_left _ (List.mem_append_left _ (List.mem_of_getElem? (i := 1) rfl)))))) (fun _ h9 => h9) (th_fR r5 rfl) dX2_addWish_9 k9) (fun t9 k9 => th_get (ci := 3) (v := .ref q5) (T := TX4) (C := RX4) (N := 6) hx hb hts (fun w h => List.mem_cons_of_mem _ (List.mem_append_left _ (List.mem_append_left _ (List.mem_append_right _ h)))) hown hK hH t9 (th_nz rfl) rfl rfl 3 (th_ltN rfl) (hts (.fieldLink RX2 9 "BayMoorings$Boat" "wishes" "[I") (List.mem_cons_of_mem _ (List.mem_append_left _ (List.mem_append_left _ (List.mem_append_left _ (List.mem_of_getElem? (i := 1) rfl)))))) (fun _ h9 => h9) (th_fR r5 rfl) dX2_addWish_9 k9) ?_
    refine lv_aload_n hx hb dX2_addWish_12 rfl (lv_at hl 0 rfl) ?_
    refine th_any3 t_h0 (fun t9 k9 => th_get (ci := 7) (v := .int x1) (T := TX8) (C := RX8) (N := 6) hx hb hts (fun w h => List.mem_cons_of_mem _ (List.mem_append_left _ (List.mem_append_right _ h))) hown hK hH t9 (th_nz rfl) rfl rfl 4 (th_ltN rfl) (hts (.fieldLink RX2 15 "BayMoorings$Boat" "wishCount" "I") (List.mem_cons_of_mem _ (List.mem_append_left _ (List.mem_append_left _ (List.mem_append_left _ (List.mem_of_getElem? (i := 0) rfl)))))) (fun _ h9 => h9) (th_fI e1 rfl) dX2_addWish_13 k9) (fun t9 k9 => th_get (ci := 8) (v := .int x1) (T := TX9) (C := RX9) (N := 6) hx hb hts (fun w h => List.mem_cons_of_mem _ (List.mem_append_right _ h)) hown hK hH t9 (th_nz rfl) rfl rfl 4 (th_ltN rfl) (hts (.fieldLink RX2 15 "BayMoorings$Boat" "wishCount" "I") (List.mem_cons_of_mem _ (List.mem_append_left _ (List.mem_append_left _ (List.mem_append_left _ (List.mem_of_getElem? (i := 0) rfl)))))) (fun _ h9 => h9) (th_fI e1 rfl) dX2_addWish_13 k9) (fun t9 k9 => th_get (ci := 3) (v := .int x1) (T := TX4) (C := RX4) (N := 6) hx hb hts (fun w h => List.mem_cons_of_mem _ (List.mem_append_left _ (List.mem_append_left _ (List.mem_append_right _ h)))) hown hK hH t9 (th_nz rfl) rfl rfl 4 (th_ltN rfl) (hts (.fieldLink RX2 15 "BayMoorings$Boat" "wishCount" "I") (List.mem_cons_of_mem _ (List.mem_append_left _ (List.mem_append_left _ (List.mem_append_left _ (List.mem_of_getElem? (i := 0) rfl)))))) (fun _ h9 => h9) (th_fI e1 rfl) dX2_addWish_13 k9) ?_
    refine lv_iload_n hx hb dX2_addWish_16 rfl (lv_at hl 1 rfl) ?_
    refine th_iast hx hb hK hH hS t5 (th_nz rfl) (Or.inl (th_nzE t5 rfl)) 0 (fun _ => rfl) rfl (rg_in (n := 4) f4 (th_leI rfl) (th_ltI rfl)) (trivial) dX2_addWish_17 (fun gi7 H locs hu7 ho7 hH hS => ?_)
    have eg7 : gi7 = va_up gi q5 (upd (gi q5) x1.toNatClampNeg p1) := th_upE hu7 ho7
    have e8 : x1 = gi7 h0 4 := Eq.trans e1 (Eq.symm (ho7 _ _ (Or.inl (th_or3 t_h0 (fun t9 => th_ne t9 t5 (th_nz rfl)) (fun t9 => th_ne t9 t5 (th_nz rfl)) (fun t9 => th_ne t9 t5 (th_nz rfl))))))
    have hM := hM.i t5 (th_mem (a := 2700) rfl) ho7
    refine lv_aload_n hx hb dX2_addWish_18 rfl (lv_at hl 0 rfl) ?_
    refine lv_dup hx hb dX2_addWish_19 rfl ?_
    refine th_any3 t_h0 (fun t9 k9 => th_get (ci := 7) (v := .int x1) (T := TX8) (C := RX8) (N := 6) hx hb hts (fun w h => List.mem_cons_of_mem _ (List.mem_append_left _ (List.mem_append_right _ h))) hown hK hH t9 (th_nz rfl) rfl rfl 4 (th_ltN rfl) (hts (.fieldLink RX2 15 "BayMoorings$Boat" "wishCount" "I") (List.mem_cons_of_mem _ (List.mem_append_left _ (List.mem_append_left _ (List.mem_append_left _ (List.mem_of_getElem? (i := 0) rfl)))))) (fun _ h9 => h9) (th_fI e8 rfl) dX2_addWish_20 k9) (fun t9 k9 => th_get (ci := 8) (v := .int x1) (T := TX9) (C := RX9) (N := 6) hx hb hts (fun w h => List.mem_cons_of_mem _ (List.mem_append_right _ h)) hown hK hH t9 (th_nz rfl) rfl rfl 4 (th_ltN rfl) (hts (.fieldLink RX2 15 "BayMoorings$Boat" "wishCount" "I") (List.mem_cons_of_mem _ (List.mem_append_left _ (List.mem_append_left _ (List.mem_append_left _ (List.mem_of_getElem? (i := 0) rfl)))))) (fun _ h9 => h9) (th_fI e8 rfl) dX2_addWish_20 k9) (fun t9 k9 => th_get (ci := 3) (v := .int x1) (T := TX4) (C := RX4) (N := 6) hx hb hts (fun w h => List.mem_cons_of_mem _ (List.mem_append_left _ (List.mem_append_left _ (List.mem_append_right _ h)))) hown hK hH t9 (th_nz rfl) rfl rfl 4 (th_ltN rfl) (hts (.fieldLink RX2 15 "BayMoorings$Boat" "wishCount" "I") (List.mem_cons_of_mem _ (List.mem_append_left _ (List.mem_append_left _ (List.mem_append_left _ (List.mem_of_getElem? (i := 0) rfl)))))) (fun _ h9 => h9) (th_fI e8 rfl) dX2_addWish_20 k9) ?_
    refine lv_iconst (v := 1) hx hb dX2_addWish_23 ic_1 ?_
    refine lv_iadd hx hb dX2_addWish_24 ?_
    refine lv_topi (fun x10 e10 => ?_)
    have f10 : rg 1 4 x10 := rg_e e10 (rg_w (rg_add f4 rgc_1 (th_leI rfl) (th_leI rfl)) (th_leI rfl) (th_leI rfl))
    refine th_any3 t_h0 (fun t9 k9 => th_put (ci := 7) (v := .int x10) (T := TX8) (C := RX8) (N := 6) (ty := .int) (gi' := va_up gi7 h0 (upd (gi7 h0) 4 x10)) (gr' := gr) hx hb hts (fun w h => List.mem_cons_of_mem _ (List.mem_append_left _ (List.mem_append_right _ h))) tyX8 tyX8_ok nmX8 hown hK hH hS t9 (th_nz rfl) (Or.inl (th_nzE t9 rfl)) rfl rfl 4 (th_ltN rfl) (hts (.fieldLink RX2 15 "BayMoorings$Boat" "wishCount" "I") (List.mem_cons_of_mem _ (List.mem_append_left _ (List.mem_append_left _ (List.mem_append_left _ (List.mem_of_getElem? (i := 0) rfl)))))) (fun _ h9 => h9) rfl (by decide +kernel) rfl rfl (Nat.le_of_ble_eq_true rfl) (by rw [va_up_self]; rfl) (by rw [va_up_self]; show (∃ q, gr h0 3 = some q ∧ τ q = 27) ∧ rg 0 4 x10; exact ⟨(hH.at t9 (th_nz rfl)).2.1, (rg_w f10 (th_leI rfl) (th_leI rfl))⟩) (fun b hb => ⟨va_up_ne _ _ hb, rfl⟩) dX2_addWish_25 k9) (fun t9 k9 => th_put (ci := 8) (v := .int x10) (T := TX9) (C := RX9) (N := 6) (ty := .int) (gi' := va_up gi7 h0 (upd (gi7 h0) 4 x10)) (gr' := gr) hx hb hts (fun w h => List.mem_cons_of_mem _ (List.mem_append_right _ h)) tyX9 tyX9_ok nmX9 hown hK hH hS t9 (th_nz rfl) (Or.inl (th_nzE t9 rfl)) rfl rfl 4 (th_ltN rfl) (hts (.fieldLink RX2 15 "BayMoorings$Boat" "wishCount" "I") (List.mem_cons_of_mem _ (List.mem_append_left _ (List.mem_append_left _ (List.mem_append_left _ (List.mem_of_getElem? (i := 0) rfl)))))) (fun _ h9 => h9) rfl (by decide +kernel) rfl rfl (Nat.le_of_ble_eq_true rfl) (by rw [va_up_self]; rfl) (by rw [va_up_self]; show (∃ q, gr h0 3 = some q ∧ τ q = 27) ∧ rg 0 4 x10; exact ⟨(hH.at t9 (th_nz rfl)).2.1, (rg_w f10 (th_leI rfl) (th_leI rfl))⟩) (fun b hb => ⟨va_up_ne _ _ hb, rfl⟩) dX2_addWish_25 k9) (fun t9 k9 => th_put (ci := 3) (v := .int x10) (T := TX4) (C := RX4) (N := 6) (ty := .int) (gi' := va_up gi7 h0 (upd (gi7 h0) 4 x10)) (gr' := gr) hx hb hts (fun w h => List.mem_cons_of_mem _ (List.mem_append_left _ (List.mem_append_left _ (List.mem_append_right _ h)))) tyX4 tyX4_ok nmX4 hown hK hH hS t9 (th_nz rfl) (Or.inl (th_nzE t9 rfl)) rfl rfl 4 (th_ltN rfl) (hts (.fieldLink RX2 15 "BayMoorings$Boat" "wishCount" "I") (List.mem_cons_of_mem _ (List.mem_append_left _ (List.mem_append_left _ (List.mem_append_left _ (List.mem_of_getElem? (i := 0) rfl)))))) (fun _ h9 => h9) rfl (by decide +kernel) rfl rfl (Nat.le_of_ble_eq_true rfl) (by rw [va_up_self]; rfl) (by rw [va_up_self]; show (∃ q, gr h0 3 = some q ∧ τ q = 27) ∧ rg 0 4 x10; exact ⟨(hH.at t9 (th_nz rfl)).2.1, (rg_w f10 (th_leI rfl) (th_leI rfl))⟩) (fun b hb => ⟨va_up_ne _ _ hb, rfl⟩) dX2_addWish_25 k9) (fun H locs hH hS => ?_)
    obtain ⟨gi11, eg11⟩ : ∃ g, g = va_up gi7 h0 (upd (gi7 h0) 4 x10) := ⟨_, rfl⟩
    rw [← eg11] at hH
    have hu11 : gi11 h0 4 = x10 := (th_uI eg11).1
    have ho11 : ∀ b j, b ≠ h0 ∨ j ≠ 4 → gi11 b j = gi7 b j := (th_uI eg11).2
    have hM := th_or3 t_h0 (fun t9 => hM.i t9 (th_mem rfl) ho11) (fun t9 => hM.i t9 (th_mem rfl) ho11) (fun t9 => hM.i t9 (th_mem rfl) ho11)
    exact W.vret hx hb hr (fun t ht hW => ⟨⟨(gi11, gr), rfl, ⟨hM, rfl, (hF.trans (by simp only [↓reduceIte, F_X2_addWish, ← e1, eq_false c2, r5, Option.getD_some, ← eg7, ← e10, ← eg11]))⟩, th_Ht ht hH⟩, hS.F ht⟩) hS.2.2 dX2_addWish_28

noncomputable def F_X8_kindNumber (τ : th_t) (Z : th_Zt) (gi : th_i) (gr : th_r) (h0 : Nat) : Int32 :=
  0
set_option maxHeartbeats 8000000 in
set_option maxRecDepth 100000 in
theorem k_X8_kindNumber (l : Launch) (D : va_G) (cA : Nat → ClassId) (Z : th_Zt) (τ : th_t) (gi : th_i) (gr : th_r) (sz : Nat) (h0 : Nat) (t_h0 : τ h0 = 8) : Met l yX8_kindNumber wsX8_kindNumber ({ frames := 0, cells := 0, slots := 0, locals := 0 }) (va_Pc [.ref h0] (th_Pre D cA Z τ gi gr sz)) (va_Qi (fun (r : Int32) (_ : Unit) => (F_X8_kindNumber τ Z gi gr h0 = r)) (fun (_ : Unit) t => th_H D cA τ gi gr t.heap) (th_A τ sz)) 0 0 (th_A τ sz) := by
  refine Met.ofW (cc := cX8_kindNumber) (maxL := 1) (ret := (some .int)) (by decide) rfl ?_
  intro p e s m args below meth c s₁ B hml hv
  obtain ⟨rfl, hsz, hH, hK, hN, hZ⟩ := hv
  have hx := B.exec
  have hb := B.bytes
  have hr := B.returns
  have hts := atoms_spec (ws := wsX8_kindNumber) B.pre
  have hown : s.vm.findClass RX8 = some m.cls := findClass_of_methodNamed B.named
  have hlocks := B.notSynchronized
  subst hsz
  have hS : va_S (th_A τ s.heap.size) s.heap s.heap [] := va_S.rf
  have hl := lv_entry ([.ref h0]) (n := 1) (Nat.le_of_ble_eq_true rfl)
  rw [lg_entry_eq]
  generalize (lg_sl ([.ref h0]) ++ List.replicate (1 - (lg_sl ([.ref h0])).length) Slot.unset).toArray = ls at hl ⊢
  have hl : lv_has ls 1 [(0, .ref h0)] := hl
  have hF : F_X8_kindNumber τ Z gi gr h0 = F_X8_kindNumber τ Z gi gr h0 := rfl
  refine lv_iconst (v := 0) hx hb dX8_kindNumber_0 ic_0 ?_
  exact W.iret (v := 0) hx hb hr (fun t ht hW => ⟨⟨0, (), rfl, (hF.trans (by simp only [F_X8_kindNumber])), th_Ht ht hH⟩, hS.F ht⟩) hS.2.2 dX8_kindNumber_1

noncomputable def F_X9_kindNumber (τ : th_t) (Z : th_Zt) (gi : th_i) (gr : th_r) (h0 : Nat) : Int32 :=
  1
set_option maxHeartbeats 8000000 in
set_option maxRecDepth 100000 in
theorem k_X9_kindNumber (l : Launch) (D : va_G) (cA : Nat → ClassId) (Z : th_Zt) (τ : th_t) (gi : th_i) (gr : th_r) (sz : Nat) (h0 : Nat) (t_h0 : τ h0 = 9) : Met l yX9_kindNumber wsX9_kindNumber ({ frames := 0, cells := 0, slots := 0, locals := 0 }) (va_Pc [.ref h0] (th_Pre D cA Z τ gi gr sz)) (va_Qi (fun (r : Int32) (_ : Unit) => (F_X9_kindNumber τ Z gi gr h0 = r)) (fun (_ : Unit) t => th_H D cA τ gi gr t.heap) (th_A τ sz)) 0 0 (th_A τ sz) := by
  refine Met.ofW (cc := cX9_kindNumber) (maxL := 1) (ret := (some .int)) (by decide) rfl ?_
  intro p e s m args below meth c s₁ B hml hv
  obtain ⟨rfl, hsz, hH, hK, hN, hZ⟩ := hv
  have hx := B.exec
  have hb := B.bytes
  have hr := B.returns
  have hts := atoms_spec (ws := wsX9_kindNumber) B.pre
  have hown : s.vm.findClass RX9 = some m.cls := findClass_of_methodNamed B.named
  have hlocks := B.notSynchronized
  subst hsz
  have hS : va_S (th_A τ s.heap.size) s.heap s.heap [] := va_S.rf
  have hl := lv_entry ([.ref h0]) (n := 1) (Nat.le_of_ble_eq_true rfl)
  rw [lg_entry_eq]
  generalize (lg_sl ([.ref h0]) ++ List.replicate (1 - (lg_sl ([.ref h0])).length) Slot.unset).toArray = ls at hl ⊢
  have hl : lv_has ls 1 [(0, .ref h0)] := hl
  have hF : F_X9_kindNumber τ Z gi gr h0 = F_X9_kindNumber τ Z gi gr h0 := rfl
  refine lv_iconst (v := 1) hx hb dX9_kindNumber_0 ic_1 ?_
  exact W.iret (v := 1) hx hb hr (fun t ht hW => ⟨⟨1, (), rfl, (hF.trans (by simp only [F_X9_kindNumber])), th_Ht ht hH⟩, hS.F ht⟩) hS.2.2 dX9_kindNumber_1

noncomputable def F_X4_kindNumber (τ : th_t) (Z : th_Zt) (gi : th_i) (gr : th_r) (h0 : Nat) : Int32 :=
  2
set_option maxHeartbeats 8000000 in
set_option maxRecDepth 100000 in
theorem k_X4_kindNumber (l : Launch) (D : va_G) (cA : Nat → ClassId) (Z : th_Zt) (τ : th_t) (gi : th_i) (gr : th_r) (sz : Nat) (h0 : Nat) (t_h0 : τ h0 = 4) : Met l yX4_kindNumber wsX4_kindNumber ({ frames := 0, cells := 0, slots := 0, locals := 0 }) (va_Pc [.ref h0] (th_Pre D cA Z τ gi gr sz)) (va_Qi (fun (r : Int32) (_ : Unit) => (F_X4_kindNumber τ Z gi gr h0 = r)) (fun (_ : Unit) t => th_H D cA τ gi gr t.heap) (th_A τ sz)) 0 0 (th_A τ sz) := by
  refine Met.ofW (cc := cX4_kindNumber) (maxL := 1) (ret := (some .int)) (by decide) rfl ?_
  intro p e s m args below meth c s₁ B hml hv
  obtain ⟨rfl, hsz, hH, hK, hN, hZ⟩ := hv
  have hx := B.exec
  have hb := B.bytes
  have hr := B.returns
  have hts := atoms_spec (ws := wsX4_kindNumber) B.pre
  have hown : s.vm.findClass RX4 = some m.cls := findClass_of_methodNamed B.named
  have hlocks := B.notSynchronized
  subst hsz
  have hS : va_S (th_A τ s.heap.size) s.heap s.heap [] := va_S.rf
  have hl := lv_entry ([.ref h0]) (n := 1) (Nat.le_of_ble_eq_true rfl)
  rw [lg_entry_eq]
  generalize (lg_sl ([.ref h0]) ++ List.replicate (1 - (lg_sl ([.ref h0])).length) Slot.unset).toArray = ls at hl ⊢
  have hl : lv_has ls 1 [(0, .ref h0)] := hl
  have hF : F_X4_kindNumber τ Z gi gr h0 = F_X4_kindNumber τ Z gi gr h0 := rfl
  refine lv_iconst (v := 2) hx hb dX4_kindNumber_0 ic_2 ?_
  exact W.iret (v := 2) hx hb hr (fun t ht hW => ⟨⟨2, (), rfl, (hF.trans (by simp only [F_X4_kindNumber])), th_Ht ht hH⟩, hS.F ht⟩) hS.2.2 dX4_kindNumber_1

noncomputable def F_X9_reach (τ : th_t) (Z : th_Zt) (gi : th_i) (gr : th_r) (h0 : Nat) : Int32 :=
  let x1 : Int32 := gi h0 1
  let x3 : Int32 := x1 / 2
  let x4 : Int32 := x1 + x3
  x4
set_option maxHeartbeats 8000000 in
set_option maxRecDepth 100000 in
theorem k_X9_reach (l : Launch) (D : va_G) (cA : Nat → ClassId) (Z : th_Zt) (τ : th_t) (gi : th_i) (gr : th_r) (sz : Nat) (h0 : Nat) (t_h0 : τ h0 = 9) : Met l yX9_reach wsX9_reach ({ frames := 0, cells := 0, slots := 0, locals := 0 }) (va_Pc [.ref h0] (th_Pre D cA Z τ gi gr sz)) (va_Qi (fun (r : Int32) (_ : Unit) => (F_X9_reach τ Z gi gr h0 = r)) (fun (_ : Unit) t => th_H D cA τ gi gr t.heap) (th_A τ sz)) 0 0 (th_A τ sz) := by
  refine Met.ofW (cc := cX9_reach) (maxL := 1) (ret := (some .int)) (by decide) rfl ?_
  intro p e s m args below meth c s₁ B hml hv
  obtain ⟨rfl, hsz, hH, hK, hN, hZ⟩ := hv
  have hx := B.exec
  have hb := B.bytes
  have hr := B.returns
  have hts := atoms_spec (ws := wsX9_reach) B.pre
  have hown : s.vm.findClass RX9 = some m.cls := findClass_of_methodNamed B.named
  have hlocks := B.notSynchronized
  subst hsz
  have hS : va_S (th_A τ s.heap.size) s.heap s.heap [] := va_S.rf
  have hl := lv_entry ([.ref h0]) (n := 1) (Nat.le_of_ble_eq_true rfl)
  rw [lg_entry_eq]
  generalize (lg_sl ([.ref h0]) ++ List.replicate (1 - (lg_sl ([.ref h0])).length) Slot.unset).toArray = ls at hl ⊢
  have hl : lv_has ls 1 [(0, .ref h0)] := hl
  have hF : F_X9_reach τ Z gi gr h0 = F_X9_reach τ Z gi gr h0 := rfl
  refine lv_aload_n hx hb dX9_reach_0 rfl (lv_at hl 0 rfl) ?_
  obtain ⟨x1, e1⟩ : ∃ y : Int32, y = gi h0 1 := ⟨_, rfl⟩
  refine th_get (ci := 8) (v := .int x1) (T := TX9) (C := RX9) (N := 6) hx hb hts (fun w h => List.mem_cons_of_mem _ (List.mem_append_right _ h)) hown hK hH t_h0 (th_nz rfl) rfl rfl 1 (th_ltN rfl) (hts (.fieldLink RX9 9 "BayMoorings$Twin" "length" "I") (List.mem_cons_of_mem _ (List.mem_append_left _ (List.mem_append_left _ (List.mem_append_left _ (List.mem_of_getElem? (i := 0) rfl)))))) (fun x9 h9 => u_same (hts (.sameField "BayMoorings$Twin" "BayMoorings$Boat" "length" "I") (List.mem_cons_of_mem _ (List.mem_append_left _ (List.mem_append_left _ (List.mem_append_left _ (List.mem_of_getElem? (i := 1) rfl)))))) x9 h9) (th_fI e1 rfl) dX9_reach_1 ?_
  refine lv_aload_n hx hb dX9_reach_4 rfl (lv_at hl 0 rfl) ?_
  refine th_get (ci := 8) (v := .int x1) (T := TX9) (C := RX9) (N := 6) hx hb hts (fun w h => List.mem_cons_of_mem _ (List.mem_append_right _ h)) hown hK hH t_h0 (th_nz rfl) rfl rfl 1 (th_ltN rfl) (hts (.fieldLink RX9 9 "BayMoorings$Twin" "length" "I") (List.mem_cons_of_mem _ (List.mem_append_left _ (List.mem_append_left _ (List.mem_append_left _ (List.mem_of_getElem? (i := 0) rfl)))))) (fun x9 h9 => u_same (hts (.sameField "BayMoorings$Twin" "BayMoorings$Boat" "length" "I") (List.mem_cons_of_mem _ (List.mem_append_left _ (List.mem_append_left _ (List.mem_append_left _ (List.mem_of_getElem? (i := 1) rfl)))))) x9 h9) (th_fI e1 rfl) dX9_reach_5 ?_
  refine lv_iconst (v := 2) hx hb dX9_reach_8 ic_2 ?_
  refine lv_idiv hx hb dX9_reach_9 (rg_ne0 rgc_2 (Or.inl (th_ltI rfl))) ?_
  refine lv_topi (fun x3 e3 => ?_)
  refine lv_iadd hx hb dX9_reach_10 ?_
  refine lv_topi (fun x4 e4 => ?_)
  exact W.iret (v := x4) hx hb hr (fun t ht hW => ⟨⟨x4, (), rfl, (hF.trans (by simp only [F_X9_reach, ← e1, ← e3, ← e4])), th_Ht ht hH⟩, hS.F ht⟩) hS.2.2 dX9_reach_11

noncomputable def F_X9_fee (τ : th_t) (Z : th_Zt) (gi : th_i) (gr : th_r) (h0 : Nat) (p1 : Int32) : Int32 :=
  let x2 : Int32 := F_X2_plainFee τ Z gi gr h0 p1
  let x3 : Int32 := x2 / 2
  let x4 : Int32 := x2 + x3
  x4
set_option maxHeartbeats 8000000 in
set_option maxRecDepth 100000 in
theorem k_X9_fee (l : Launch) (D : va_G) (cA : Nat → ClassId) (Z : th_Zt) (τ : th_t) (gi : th_i) (gr : th_r) (sz : Nat) (h0 : Nat) (t_h0 : τ h0 = 9) (p1 : Int32) : Met l yX9_fee wsX9_fee ({ frames := 1, cells := 0, slots := 0, locals := 21 }) (va_Pc [.ref h0, .int p1] (th_Pre D cA Z τ gi gr sz)) (va_Qi (fun (r : Int32) (_ : Unit) => (F_X9_fee τ Z gi gr h0 p1 = r)) (fun (_ : Unit) t => th_H D cA τ gi gr t.heap) (th_A τ sz)) 0 0 (th_A τ sz) := by
  refine Met.ofW (cc := cX9_fee) (maxL := 3) (ret := (some .int)) (by decide) rfl ?_
  intro p e s m args below meth c s₁ B hml hv
  obtain ⟨rfl, hsz, hH, hK, hN, hZ⟩ := hv
  have hx := B.exec
  have hb := B.bytes
  have hr := B.returns
  have hts := atoms_spec (ws := wsX9_fee) B.pre
  have hown : s.vm.findClass RX9 = some m.cls := findClass_of_methodNamed B.named
  have hlocks := B.notSynchronized
  subst hsz
  have hS : va_S (th_A τ s.heap.size) s.heap s.heap [] := va_S.rf
  have hl := lv_entry ([.ref h0, .int p1]) (n := 3) (Nat.le_of_ble_eq_true rfl)
  rw [lg_entry_eq]
  generalize (lg_sl ([.ref h0, .int p1]) ++ List.replicate (3 - (lg_sl ([.ref h0, .int p1])).length) Slot.unset).toArray = ls at hl ⊢
  have hl : lv_has ls 3 [(0, .ref h0), (1, .int p1)] := hl
  have hF : F_X9_fee τ Z gi gr h0 p1 = F_X9_fee τ Z gi gr h0 p1 := rfl
  refine lv_aload_n hx hb dX9_fee_0 rfl (lv_at hl 0 rfl) ?_
  refine lv_iload_n hx hb dX9_fee_1 rfl (lv_at hl 1 rfl) ?_
  have hA1 := th_Asub (τ := τ) hS
  refine va_calli (va_runU (As := [.int p1]) (rest := []) ⟨hx, hb, hml, hown, hts⟩ (k_X2_plainFee l D cA Z τ gi gr _ h0 (Or.inr (Or.inl t_h0)) p1) (va_cwU 1 hts gX9_fee_X2_plainFee_u15X9 rfl rfl rfl rfl (by decide +kernel) ⟨Nat.le_of_ble_eq_true rfl, Nat.le_of_ble_eq_true rfl⟩) ⟨th_blind, th_recv hK hH t_h0 (ci := 8) (th_nz rfl) rfl rfl, (th_pre hH hK hN hZ hS hA1)⟩ rfl rfl hl.1 rfl (lv_room (Nat.le_of_ble_eq_true rfl)) dX9_fee_2 ⟨Nat.le_of_ble_eq_true rfl, Nat.le_of_ble_eq_true rfl⟩) hS (fun q _ h => hA1 q h) hA1 (fun x2 u t H locs ht hvm hw2 hB hz1 hk1 hS => ?_)
  try dsimp only at hw2 hB
  rw [ht] at hB
  have hH := hB
  refine lv_istore_n (i := 2) (lv' := [(2, .int x2), (0, .ref h0), (1, .int p1)]) hx hb dX9_fee_5 rfl hl (th_ltN rfl) rfl (fun ls hl => ?_)
  refine lv_iload_n hx hb dX9_fee_6 rfl (lv_at hl 0 rfl) ?_
  refine lv_iload_n hx hb dX9_fee_7 rfl (lv_at hl 0 rfl) ?_
  refine lv_iconst (v := 2) hx hb dX9_fee_8 ic_2 ?_
  refine lv_idiv hx hb dX9_fee_9 (rg_ne0 rgc_2 (Or.inl (th_ltI rfl))) ?_
  refine lv_topi (fun x3 e3 => ?_)
  refine lv_iadd hx hb dX9_fee_10 ?_
  refine lv_topi (fun x4 e4 => ?_)
  exact W.iret (v := x4) hx hb hr (fun t ht hW => ⟨⟨x4, (), rfl, (hF.trans (by simp only [F_X9_fee, hw2, ← e3, ← e4])), th_Ht ht hH⟩, hS.F ht⟩) hS.2.2 dX9_fee_11

noncomputable def F_X4_need (τ : th_t) (Z : th_Zt) (gi : th_i) (gr : th_r) (h0 : Nat) : Int32 :=
  let x1 : Int32 := gi h0 2
  let x2 : Int32 := x1 / 2
  x2
set_option maxHeartbeats 8000000 in
set_option maxRecDepth 100000 in
theorem k_X4_need (l : Launch) (D : va_G) (cA : Nat → ClassId) (Z : th_Zt) (τ : th_t) (gi : th_i) (gr : th_r) (sz : Nat) (h0 : Nat) (t_h0 : τ h0 = 4) : Met l yX4_need wsX4_need ({ frames := 0, cells := 0, slots := 0, locals := 0 }) (va_Pc [.ref h0] (th_Pre D cA Z τ gi gr sz)) (va_Qi (fun (r : Int32) (_ : Unit) => (F_X4_need τ Z gi gr h0 = r)) (fun (_ : Unit) t => th_H D cA τ gi gr t.heap) (th_A τ sz)) 0 0 (th_A τ sz) := by
  refine Met.ofW (cc := cX4_need) (maxL := 1) (ret := (some .int)) (by decide) rfl ?_
  intro p e s m args below meth c s₁ B hml hv
  obtain ⟨rfl, hsz, hH, hK, hN, hZ⟩ := hv
  have hx := B.exec
  have hb := B.bytes
  have hr := B.returns
  have hts := atoms_spec (ws := wsX4_need) B.pre
  have hown : s.vm.findClass RX4 = some m.cls := findClass_of_methodNamed B.named
  have hlocks := B.notSynchronized
  subst hsz
  have hS : va_S (th_A τ s.heap.size) s.heap s.heap [] := va_S.rf
  have hl := lv_entry ([.ref h0]) (n := 1) (Nat.le_of_ble_eq_true rfl)
  rw [lg_entry_eq]
  generalize (lg_sl ([.ref h0]) ++ List.replicate (1 - (lg_sl ([.ref h0])).length) Slot.unset).toArray = ls at hl ⊢
  have hl : lv_has ls 1 [(0, .ref h0)] := hl
  have hF : F_X4_need τ Z gi gr h0 = F_X4_need τ Z gi gr h0 := rfl
  refine lv_aload_n hx hb dX4_need_0 rfl (lv_at hl 0 rfl) ?_
  obtain ⟨x1, e1⟩ : ∃ y : Int32, y = gi h0 2 := ⟨_, rfl⟩
  refine th_get (ci := 3) (v := .int x1) (T := TX4) (C := RX4) (N := 6) hx hb hts (fun w h => List.mem_cons_of_mem _ (List.mem_append_left _ (List.mem_append_left _ (List.mem_append_right _ h)))) hown hK hH t_h0 (th_nz rfl) rfl rfl 2 (th_ltN rfl) (hts (.fieldLink RX4 9 "BayMoorings$Dry" "draught" "I") (List.mem_cons_of_mem _ (List.mem_append_left _ (List.mem_append_left _ (List.mem_append_left _ (List.mem_of_getElem? (i := 0) rfl)))))) (fun x9 h9 => u_same (hts (.sameField "BayMoorings$Dry" "BayMoorings$Boat" "draught" "I") (List.mem_cons_of_mem _ (List.mem_append_left _ (List.mem_append_left _ (List.mem_append_left _ (List.mem_of_getElem? (i := 1) rfl)))))) x9 h9) (th_fI e1 rfl) dX4_need_1 ?_
  refine lv_iconst (v := 2) hx hb dX4_need_4 ic_2 ?_
  refine lv_idiv hx hb dX4_need_5 (rg_ne0 rgc_2 (Or.inl (th_ltI rfl))) ?_
  refine lv_topi (fun x2 e2 => ?_)
  exact W.iret (v := x2) hx hb hr (fun t ht hW => ⟨⟨x2, (), rfl, (hF.trans (by simp only [F_X4_need, ← e1, ← e2])), th_Ht ht hH⟩, hS.F ht⟩) hS.2.2 dX4_need_6

noncomputable def FV_kindNumber (τ : th_t) (Z : th_Zt) (gi : th_i) (gr : th_r) (h0 : Nat) : Int32 := if τ h0 = 8 then F_X8_kindNumber τ Z gi gr h0 else if τ h0 = 9 then F_X9_kindNumber τ Z gi gr h0 else F_X4_kindNumber τ Z gi gr h0
theorem FV_kindNumber_8 {τ : th_t} {Z : th_Zt} {gi : th_i} {gr : th_r} {h0 : Nat} (t : τ h0 = 8) : FV_kindNumber τ Z gi gr h0 = F_X8_kindNumber τ Z gi gr h0 := by
  unfold FV_kindNumber
  rw [if_pos t]
theorem FV_kindNumber_9 {τ : th_t} {Z : th_Zt} {gi : th_i} {gr : th_r} {h0 : Nat} (t : τ h0 = 9) : FV_kindNumber τ Z gi gr h0 = F_X9_kindNumber τ Z gi gr h0 := by
  unfold FV_kindNumber
  rw [if_neg (by rw [t]; decide), if_pos t]
theorem FV_kindNumber_4 {τ : th_t} {Z : th_Zt} {gi : th_i} {gr : th_r} {h0 : Nat} (t : τ h0 = 4) : FV_kindNumber τ Z gi gr h0 = F_X4_kindNumber τ Z gi gr h0 := by
  unfold FV_kindNumber
  rw [if_neg (by rw [t]; decide), if_neg (by rw [t]; decide)]
noncomputable def F_X2_isOf (τ : th_t) (Z : th_Zt) (gi : th_i) (gr : th_r) (h0 : Nat) (p1 : Int32) : Int32 :=
  if p1 = (0 : Int32) then (
    1) else (
    let x4 : Int32 := FV_kindNumber τ Z gi gr h0
    if p1 = x4 then (
      1) else (
      0))
set_option maxHeartbeats 8000000 in
set_option maxRecDepth 100000 in
theorem k_X2_isOf (l : Launch) (D : va_G) (cA : Nat → ClassId) (Z : th_Zt) (τ : th_t) (gi : th_i) (gr : th_r) (sz : Nat) (h0 : Nat) (t_h0 : τ h0 = 8 ∨ τ h0 = 9 ∨ τ h0 = 4) (p1 : Int32) : Met l yX2_isOf wsX2_isOf ({ frames := 1, cells := 0, slots := 0, locals := 20 }) (va_Pc [.ref h0, .int p1] (th_Pre D cA Z τ gi gr sz)) (va_Qi (fun (r : Int32) (_ : Unit) => rg 0 1 r ∧ (F_X2_isOf τ Z gi gr h0 p1 = r)) (fun (_ : Unit) t => th_H D cA τ gi gr t.heap) (th_A τ sz)) 0 0 (th_A τ sz) := by
  refine Met.ofW (cc := cX2_isOf) (maxL := 2) (ret := (some .boolean)) (by decide) rfl ?_
  intro p e s m args below meth c s₁ B hml hv
  obtain ⟨rfl, hsz, hH, hK, hN, hZ⟩ := hv
  have hx := B.exec
  have hb := B.bytes
  have hr := B.returns
  have hts := atoms_spec (ws := wsX2_isOf) B.pre
  have hown : s.vm.findClass RX2 = some m.cls := findClass_of_methodNamed B.named
  have hlocks := B.notSynchronized
  subst hsz
  have hS : va_S (th_A τ s.heap.size) s.heap s.heap [] := va_S.rf
  have hl := lv_entry ([.ref h0, .int p1]) (n := 2) (Nat.le_of_ble_eq_true rfl)
  rw [lg_entry_eq]
  generalize (lg_sl ([.ref h0, .int p1]) ++ List.replicate (2 - (lg_sl ([.ref h0, .int p1])).length) Slot.unset).toArray = ls at hl ⊢
  have hl : lv_has ls 2 [(0, .ref h0), (1, .int p1)] := hl
  have hF : F_X2_isOf τ Z gi gr h0 p1 = F_X2_isOf τ Z gi gr h0 p1 := rfl
  refine lv_iload_n hx hb dX2_isOf_0 rfl (lv_at hl 1 rfl) ?_
  refine lv_if_eq (tgt := 12) hx hb dX2_isOf_1 (th_eqI rfl) (fun c1 => ?_) (fun c1 => ?_)
  · skip
    have f2 : rg 0 0 p1 := rg_w (rg_eq (rg_any p1) rgc_0 c1).1 (th_leI rfl) (th_leI rfl)
    refine lv_iconst (v := 1) hx hb dX2_isOf_12 ic_1 ?_
    refine lv_goto (tgt := 17) hx hb dX2_isOf_13 (th_eqI rfl) ?_
    exact W.zret (v := 1) hx hb hr (rg_nb (rg_w rgc_1 (th_leI rfl) (th_leI rfl))) (fun t ht hW => ⟨⟨1, (), rfl, ⟨(rg_w rgc_1 (th_leI rfl) (th_leI rfl)), (hF.trans (by simp only [↓reduceIte, F_X2_isOf, eq_true c1]))⟩, th_Ht ht hH⟩, hS.F ht⟩) hS.2.2 dX2_isOf_17
  · skip
    refine lv_iload_n hx hb dX2_isOf_4 rfl (lv_at hl 1 rfl) ?_
    refine lv_aload_n hx hb dX2_isOf_5 rfl (lv_at hl 0 rfl) ?_
    have hA3 := th_Asub (τ := τ) hS
    refine va_calli (th_or3 t_h0 (fun t9 => th_runi (post' := (fun (r : Int32) (_ : Unit) => (FV_kindNumber τ Z gi gr h0 = r))) (va_runU (As := []) (rest := [.int p1]) ⟨hx, hb, hml, hown, hts⟩ (k_X8_kindNumber l D cA Z τ gi gr _ h0 t9) (va_cwA 0 hts gX2_isOf_X8_kindNumber_u35X8 rfl rfl rfl hN.2.2.2.2.2.2.2.2.2.2.1 (by decide +kernel) ⟨Nat.le_of_ble_eq_true rfl, Nat.le_of_ble_eq_true rfl⟩) ⟨th_blind, th_recv hK hH t9 (ci := 7) (th_nz rfl) rfl rfl, (th_pre hH hK hN hZ hS hA3)⟩ rfl rfl hl.1 rfl (lv_room (Nat.le_of_ble_eq_true rfl)) dX2_isOf_6 ⟨Nat.le_of_ble_eq_true rfl, Nat.le_of_ble_eq_true rfl⟩) (fun _ _ h9 => ((FV_kindNumber_8 t9).trans h9))) (fun t9 => th_runi (post' := (fun (r : Int32) (_ : Unit) => (FV_kindNumber τ Z gi gr h0 = r))) (va_runU (As := []) (rest := [.int p1]) ⟨hx, hb, hml, hown, hts⟩ (k_X9_kindNumber l D cA Z τ gi gr _ h0 t9) (va_cwA 0 hts gX2_isOf_X9_kindNumber_u35X9 rfl rfl rfl hN.2.2.2.2.2.2.2.2.2.2.1 (by decide +kernel) ⟨Nat.le_of_ble_eq_true rfl, Nat.le_of_ble_eq_true rfl⟩) ⟨th_blind, th_recv hK hH t9 (ci := 8) (th_nz rfl) rfl rfl, (th_pre hH hK hN hZ hS hA3)⟩ rfl rfl hl.1 rfl (lv_room (Nat.le_of_ble_eq_true rfl)) dX2_isOf_6 ⟨Nat.le_of_ble_eq_true rfl, Nat.le_of_ble_eq_true rfl⟩) (fun _ _ h9 => ((FV_kindNumber_9 t9).trans h9))) (fun t9 => th_runi (post' := (fun (r : Int32) (_ : Unit) => (FV_kindNumber τ Z gi gr h0 = r))) (va_runU (As := []) (rest := [.int p1]) ⟨hx, hb, hml, hown, hts⟩ (k_X4_kindNumber l D cA Z τ gi gr _ h0 t9) (va_cwA 0 hts gX2_isOf_X4_kindNumber_u35X4 rfl rfl rfl hN.2.2.2.2.2.2.2.2.2.2.1 (by decide +kernel) ⟨Nat.le_of_ble_eq_true rfl, Nat.le_of_ble_eq_true rfl⟩) ⟨th_blind, th_recv hK hH t9 (ci := 3) (th_nz rfl) rfl rfl, (th_pre hH hK hN hZ hS hA3)⟩ rfl rfl hl.1 rfl (lv_room (Nat.le_of_ble_eq_true rfl)) dX2_isOf_6 ⟨Nat.le_of_ble_eq_true rfl, Nat.le_of_ble_eq_true rfl⟩) (fun _ _ h9 => ((FV_kindNumber_4 t9).trans h9)))) hS (fun q _ h => hA3 q h) hA3 (fun x4 u t H locs ht hvm hw4 hB hz1 hk1 hS => ?_)
    try dsimp only at hw4 hB
    rw [ht] at hB
    have hH := hB
    refine lv_icmp_ne (tgt := 16) hx hb dX2_isOf_9 (th_eqI rfl) (fun c5 => ?_) (fun c5 => ?_)
    · skip
      refine lv_iconst (v := 0) hx hb dX2_isOf_16 ic_0 ?_
      exact W.zret (v := 0) hx hb hr (rg_nb (rg_w rgc_0 (th_leI rfl) (th_leI rfl))) (fun t ht hW => ⟨⟨0, (), rfl, ⟨(rg_w rgc_0 (th_leI rfl) (th_leI rfl)), (hF.trans (by simp only [↓reduceIte, F_X2_isOf, eq_false c1, hw4, eq_false c5]))⟩, th_Ht ht hH⟩, hS.F ht⟩) hS.2.2 dX2_isOf_17
    · skip
      refine lv_iconst (v := 1) hx hb dX2_isOf_12 ic_1 ?_
      refine lv_goto (tgt := 17) hx hb dX2_isOf_13 (th_eqI rfl) ?_
      exact W.zret (v := 1) hx hb hr (rg_nb (rg_w rgc_1 (th_leI rfl) (th_leI rfl))) (fun t ht hW => ⟨⟨1, (), rfl, ⟨(rg_w rgc_1 (th_leI rfl) (th_leI rfl)), (hF.trans (by simp only [↓reduceIte, F_X2_isOf, eq_false c1, hw4, eq_true c5]))⟩, th_Ht ht hH⟩, hS.F ht⟩) hS.2.2 dX2_isOf_17
