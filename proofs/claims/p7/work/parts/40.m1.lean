noncomputable def F_X12_within (τ : th_t) (Z : th_Zt) (gi : th_i) (gr : th_r) (p0 : Int32) (p1 : Int32) (p2 : Int32) : Int32 :=
  if p0 < p1 then (
    0) else (
    if p2 < p0 then (
      0) else (
      1))
set_option maxHeartbeats 8000000 in
set_option maxRecDepth 100000 in
theorem k_X12_within (l : Launch) (D : va_G) (cA : Nat → ClassId) (Z : th_Zt) (τ : th_t) (gi : th_i) (gr : th_r) (sz : Nat) (p0 : Int32) (p1 : Int32) (p2 : Int32) : Met l yX12_within wsX12_within ({ frames := 0, cells := 0, slots := 0, locals := 0 }) (va_Pc [.int p0, .int p1, .int p2] (th_Pre D cA Z τ gi gr sz)) (va_Qi (fun (r : Int32) (_ : Unit) => rg 0 1 r ∧ (¬ r = 0 → p1 ≤ p0 ∧ p0 ≤ p2) ∧ (F_X12_within τ Z gi gr p0 p1 p2 = r) ∧ (r = 0 → ¬ (p1 ≤ p0 ∧ p0 ≤ p2))) (fun (_ : Unit) t => th_H D cA τ gi gr t.heap) (th_A τ sz)) 0 0 (th_A τ sz) := by
  refine Met.ofW (cc := cX12_within) (maxL := 3) (ret := (some .boolean)) (by decide) rfl ?_
  intro p e s m args below meth c s₁ B hml hv
  obtain ⟨rfl, hsz, hH, hK, hN, hZ⟩ := hv
  have hx := B.exec
  have hb := B.bytes
  have hr := B.returns
  have hts := atoms_spec (ws := wsX12_within) B.pre
  have hown : s.vm.findClass RX12 = some m.cls := findClass_of_methodNamed B.named
  have hlocks := B.notSynchronized
  subst hsz
  have hS : va_S (th_A τ s.heap.size) s.heap s.heap [] := va_S.rf
  have hl := lv_entry ([.int p0, .int p1, .int p2]) (n := 3) (Nat.le_of_ble_eq_true rfl)
  rw [lg_entry_eq]
  generalize (lg_sl ([.int p0, .int p1, .int p2]) ++ List.replicate (3 - (lg_sl ([.int p0, .int p1, .int p2])).length) Slot.unset).toArray = ls at hl ⊢
  have hl : lv_has ls 3 [(0, .int p0), (1, .int p1), (2, .int p2)] := hl
  have hF : F_X12_within τ Z gi gr p0 p1 p2 = F_X12_within τ Z gi gr p0 p1 p2 := rfl
  refine lv_iload_n hx hb dX12_within_0 rfl (lv_at hl 0 rfl) ?_
  refine lv_iload_n hx hb dX12_within_1 rfl (lv_at hl 1 rfl) ?_
  refine lv_icmp_lt (tgt := 14) hx hb dX12_within_2 (th_eqI rfl) (fun c1 => ?_) (fun c1 => ?_)
  · skip
    refine lv_iconst (v := 0) hx hb dX12_within_14 ic_0 ?_
    exact W.zret (v := 0) hx hb hr (rg_nb (rg_w rgc_0 (th_leI rfl) (th_leI rfl))) (fun t ht hW => ⟨⟨0, (), rfl, ⟨(rg_w rgc_0 (th_leI rfl) (th_leI rfl)), (fun h9 => absurd rfl h9), (hF.trans (by simp only [↓reduceIte, F_X12_within, eq_true c1])), (fun _ h9 => (Int32.not_lt.mpr h9.1) c1)⟩, th_Ht ht hH⟩, hS.F ht⟩) hS.2.2 dX12_within_15
  · skip
    refine lv_iload_n hx hb dX12_within_5 rfl (lv_at hl 0 rfl) ?_
    refine lv_iload_n hx hb dX12_within_6 rfl (lv_at hl 2 rfl) ?_
    refine lv_icmp_gt (tgt := 14) hx hb dX12_within_7 (th_eqI rfl) (fun c2 => ?_) (fun c2 => ?_)
    · skip
      refine lv_iconst (v := 0) hx hb dX12_within_14 ic_0 ?_
      exact W.zret (v := 0) hx hb hr (rg_nb (rg_w rgc_0 (th_leI rfl) (th_leI rfl))) (fun t ht hW => ⟨⟨0, (), rfl, ⟨(rg_w rgc_0 (th_leI rfl) (th_leI rfl)), (fun h9 => absurd rfl h9), (hF.trans (by simp only [↓reduceIte, F_X12_within, eq_false c1, eq_true c2])), (fun _ h9 => (Int32.not_lt.mpr h9.2) c2)⟩, th_Ht ht hH⟩, hS.F ht⟩) hS.2.2 dX12_within_15
    · skip
      refine lv_iconst (v := 1) hx hb dX12_within_10 ic_1 ?_
      refine lv_goto (tgt := 15) hx hb dX12_within_11 (th_eqI rfl) ?_
      exact W.zret (v := 1) hx hb hr (rg_nb (rg_w rgc_1 (th_leI rfl) (th_leI rfl))) (fun t ht hW => ⟨⟨1, (), rfl, ⟨(rg_w rgc_1 (th_leI rfl) (th_leI rfl)), (fun _ => ⟨Int32.not_lt.mp c1, Int32.not_lt.mp c2⟩), (hF.trans (by simp only [↓reduceIte, F_X12_within, eq_false c1, eq_false c2])), (fun h9 => absurd h9 (by decide))⟩, th_Ht ht hH⟩, hS.F ht⟩) hS.2.2 dX12_within_15

noncomputable def F_X12_finding (τ : th_t) (Z : th_Zt) (gi : th_i) (gr : th_r) (h0 : Nat) (p1 : Int32) : Int32 × th_i :=
  let q1 : Nat := (gr h0 26).getD 0
  let x2 : Int32 := (-1000000) - p1
  let x3 : Int32 := gi q1 x2.toNatClampNeg
  let x4 : Int32 := x3 + 1
  let gi5 : th_i := va_up gi q1 (upd (gi q1) x2.toNatClampNeg x4)
  (p1, gi5)
set_option maxHeartbeats 8000000 in
set_option maxRecDepth 100000 in
theorem k_X12_finding (l : Launch) (D : va_G) (cA : Nat → ClassId) (Z : th_Zt) (τ : th_t) (gi : th_i) (gr : th_r) (sz : Nat) (h0 : Nat) (t_h0 : τ h0 = 12) (p1 : Int32) (f_p1 : rg (-1000005) (-1000001) p1) : Met l yX12_finding wsX12_finding ({ frames := 0, cells := 0, slots := 0, locals := 0 }) (va_Pc [.ref h0, .int p1] (th_Pre D cA Z τ gi gr sz)) (va_Qi (fun (r : Int32) (u : th_i × th_r) => th_Mod [5900] τ gi gr u.1 u.2 ∧ u.2 = gr ∧ (F_X12_finding τ Z gi gr h0 p1 = (r, u.1)) ∧ (r = p1)) (fun (u : th_i × th_r) t => th_H D cA τ u.1 u.2 t.heap) (th_A τ sz)) 0 0 (th_A τ sz) := by
  refine Met.ofW (cc := cX12_finding) (maxL := 2) (ret := (some .int)) (by decide) rfl ?_
  intro p e s m args below meth c s₁ B hml hv
  obtain ⟨rfl, hsz, hH, hK, hN, hZ⟩ := hv
  have hx := B.exec
  have hb := B.bytes
  have hr := B.returns
  have hts := atoms_spec (ws := wsX12_finding) B.pre
  have hown : s.vm.findClass RX12 = some m.cls := findClass_of_methodNamed B.named
  have hlocks := B.notSynchronized
  subst hsz
  have hM : th_Mod [5900] τ gi gr gi gr := th_Mod.rf
  have hS : va_S (th_A τ s.heap.size) s.heap s.heap [] := va_S.rf
  have hl := lv_entry ([.ref h0, .int p1]) (n := 2) (Nat.le_of_ble_eq_true rfl)
  rw [lg_entry_eq]
  generalize (lg_sl ([.ref h0, .int p1]) ++ List.replicate (2 - (lg_sl ([.ref h0, .int p1])).length) Slot.unset).toArray = ls at hl ⊢
  have hl : lv_has ls 2 [(0, .ref h0), (1, .int p1)] := hl
  have hF : F_X12_finding τ Z gi gr h0 p1 = F_X12_finding τ Z gi gr h0 p1 := rfl
  refine lv_aload_n hx hb dX12_finding_0 rfl (lv_at hl 0 rfl) ?_
  obtain ⟨q1, r1, t1⟩ : ∃ q, gr h0 26 = some q ∧ τ q = 59 := (thI_12 hH t_h0).2.2.2.2.2.2.2.2.2.2.2.2.2.2.2.2.2.2.2.2.2.2.2.1
  refine th_get (ci := 11) (v := .ref q1) (T := TX12) (C := RX12) (N := 38) hx hb hts (fun w h => List.mem_cons_of_mem _ (List.mem_append_right _ h)) hown hK hH t_h0 (th_nz rfl) (thE_12 _ _ _) rfl 26 (th_ltN rfl) (hts (.fieldLink RX12 77 "BayMooringsModel" "findings" "[I") (List.mem_cons_of_mem _ (List.mem_append_left _ (List.mem_of_getElem? (i := 0) rfl)))) (fun _ h9 => h9) (th_fR r1 rfl) dX12_finding_1 ?_
  refine lv_ldc (v := (-1000000)) hx hb hown (hts (.constant RX12 108 (-1000000)) (List.mem_cons_of_mem _ (List.mem_append_left _ (List.mem_of_getElem? (i := 1) rfl)))) dX12_finding_4 ?_
  refine lv_iload_n hx hb dX12_finding_6 rfl (lv_at hl 1 rfl) ?_
  refine lv_isub hx hb dX12_finding_7 ?_
  refine lv_topi (fun x2 e2 => ?_)
  have f2 : rg 1 5 x2 := rg_e e2 (rg_w (rg_sub rgc_m1000000 f_p1 (th_leI rfl) (th_leI rfl)) (th_leI rfl) (th_leI rfl))
  refine lv_dup2_11 hx hb dX12_finding_8 rfl rfl ?_
  refine th_iald hx hb hK hH t1 (th_nz rfl) 0 (thE_59 _ _ _) rfl (rg_in (n := 6) f2 (th_leI rfl) (th_ltI rfl)) dX12_finding_9 ?_
  refine lv_topi (fun x3 e3 => ?_)
  refine lv_iconst (v := 1) hx hb dX12_finding_10 ic_1 ?_
  refine lv_iadd hx hb dX12_finding_11 ?_
  refine lv_topi (fun x4 e4 => ?_)
  refine th_iast hx hb hK hH hS t1 (th_nz rfl) (Or.inl (th_nzE t1 rfl)) 0 (fun _ => thE_59 _ _ _) rfl (rg_in (n := 6) f2 (th_leI rfl) (th_ltI rfl)) (trivial) dX12_finding_12 (fun gi5 H locs hu5 ho5 hH hS => ?_)
  have eg5 : gi5 = va_up gi q1 (upd (gi q1) x2.toNatClampNeg x4) := th_upE hu5 ho5
  have hM := hM.i t1 (th_mem (a := 5900) rfl) ho5
  refine lv_iload_n hx hb dX12_finding_13 rfl (lv_at hl 1 rfl) ?_
  exact W.iret (v := p1) hx hb hr (fun t ht hW => ⟨⟨p1, (gi5, gr), rfl, ⟨hM, rfl, (hF.trans (by simp only [F_X12_finding, r1, Option.getD_some, ← e2, ← e3, ← e4, ← eg5])), rfl⟩, th_Ht ht hH⟩, hS.F ht⟩) hS.2.2 dX12_finding_14

noncomputable def F_X12_isBuoy (τ : th_t) (Z : th_Zt) (gi : th_i) (gr : th_r) (h0 : Nat) (p1 : Int32) : Int32 :=
  let x1 : Int32 := gi h0 0
  let x2 : Int32 := x1 - 1
  let x4 : Int32 := F_X12_within τ Z gi gr p1 0 x2
  x4
set_option maxHeartbeats 8000000 in
set_option maxRecDepth 100000 in
theorem k_X12_isBuoy (l : Launch) (D : va_G) (cA : Nat → ClassId) (Z : th_Zt) (τ : th_t) (gi : th_i) (gr : th_r) (sz : Nat) (h0 : Nat) (t_h0 : τ h0 = 12) (p1 : Int32) : Met l yX12_isBuoy wsX12_isBuoy ({ frames := 1, cells := 0, slots := 0, locals := 22 }) (va_Pc [.ref h0, .int p1] (th_Pre D cA Z τ gi gr sz)) (va_Qi (fun (r : Int32) (_ : Unit) => rg 0 1 r ∧ (¬ r = 0 → rg 0 11 p1) ∧ (F_X12_isBuoy τ Z gi gr h0 p1 = r)) (fun (_ : Unit) t => th_H D cA τ gi gr t.heap) (th_A τ sz)) 0 0 (th_A τ sz) := by
  refine Met.ofW (cc := cX12_isBuoy) (maxL := 2) (ret := (some .boolean)) (by decide) rfl ?_
  intro p e s m args below meth c s₁ B hml hv
  obtain ⟨rfl, hsz, hH, hK, hN, hZ⟩ := hv
  have hx := B.exec
  have hb := B.bytes
  have hr := B.returns
  have hts := atoms_spec (ws := wsX12_isBuoy) B.pre
  have hown : s.vm.findClass RX12 = some m.cls := findClass_of_methodNamed B.named
  have hlocks := B.notSynchronized
  subst hsz
  have hS : va_S (th_A τ s.heap.size) s.heap s.heap [] := va_S.rf
  have hl := lv_entry ([.ref h0, .int p1]) (n := 2) (Nat.le_of_ble_eq_true rfl)
  rw [lg_entry_eq]
  generalize (lg_sl ([.ref h0, .int p1]) ++ List.replicate (2 - (lg_sl ([.ref h0, .int p1])).length) Slot.unset).toArray = ls at hl ⊢
  have hl : lv_has ls 2 [(0, .ref h0), (1, .int p1)] := hl
  have hF : F_X12_isBuoy τ Z gi gr h0 p1 = F_X12_isBuoy τ Z gi gr h0 p1 := rfl
  refine lv_iload_n hx hb dX12_isBuoy_0 rfl (lv_at hl 1 rfl) ?_
  refine lv_iconst (v := 0) hx hb dX12_isBuoy_1 ic_0 ?_
  refine lv_aload_n hx hb dX12_isBuoy_2 rfl (lv_at hl 0 rfl) ?_
  obtain ⟨x1, e1⟩ : ∃ y : Int32, y = gi h0 0 := ⟨_, rfl⟩
  refine th_get (ci := 11) (v := .int x1) (T := TX12) (C := RX12) (N := 38) hx hb hts (fun w h => List.mem_cons_of_mem _ (List.mem_append_right _ h)) hown hK hH t_h0 (th_nz rfl) (thE_12 _ _ _) rfl 0 (th_ltN rfl) (hts (.fieldLink RX12 109 "BayMooringsModel" "buoys" "I") (List.mem_cons_of_mem _ (List.mem_append_left _ (List.mem_of_getElem? (i := 0) rfl)))) (fun _ h9 => h9) (th_fI e1 rfl) dX12_isBuoy_3 ?_
  have f1 : rg 0 12 x1 := rg_e e1 ((thI_12 hH t_h0).1)
  refine lv_iconst (v := 1) hx hb dX12_isBuoy_6 ic_1 ?_
  refine lv_isub hx hb dX12_isBuoy_7 ?_
  refine lv_topi (fun x2 e2 => ?_)
  have f2 : rg (-1) 11 x2 := rg_e e2 (rg_w (rg_sub f1 rgc_1 (th_leI rfl) (th_leI rfl)) (th_leI rfl) (th_leI rfl))
  have hA3 := th_Asub (τ := τ) hS
  refine va_calli (va_runS (As := [.int p1, .int 0, .int x2]) (rest := []) ⟨hx, hb, hml, hown, hts⟩ (k_X12_within l D cA Z τ gi gr _ p1 0 x2) (va_cwS 3 hts gX12_isBuoy_X12_within rfl rfl rfl (by decide +kernel) ⟨Nat.le_of_ble_eq_true rfl, Nat.le_of_ble_eq_true rfl⟩) ⟨th_blind, (th_pre hH hK hN hZ hS hA3)⟩ rfl rfl hl.1 rfl (lv_room (Nat.le_of_ble_eq_true rfl)) dX12_isBuoy_8 ⟨Nat.le_of_ble_eq_true rfl, Nat.le_of_ble_eq_true rfl⟩) hS (fun q _ h => hA3 q h) hA3 (fun x4 u t H locs ht hvm hw4 hB hz1 hk1 hS => ?_)
  try dsimp only at hw4 hB
  rw [ht] at hB
  have hH := hB
  exact W.zret (v := x4) hx hb hr (rg_nb hw4.1) (fun t ht hW => ⟨⟨x4, (), rfl, ⟨hw4.1, (fun h9 => rg_wi rgc_0 f2 (hw4.2.1 h9)), (hF.trans (by simp only [F_X12_isBuoy, ← e1, ← e2, hw4.2.2.1]))⟩, th_Ht ht hH⟩, hS.F ht⟩) hS.2.2 dX12_isBuoy_11

noncomputable def F_X12_isBoat (τ : th_t) (Z : th_Zt) (gi : th_i) (gr : th_r) (h0 : Nat) (p1 : Int32) : Int32 :=
  let x1 : Int32 := gi h0 8
  let x2 : Int32 := x1 - 1
  let x4 : Int32 := F_X12_within τ Z gi gr p1 0 x2
  x4
set_option maxHeartbeats 8000000 in
set_option maxRecDepth 100000 in
theorem k_X12_isBoat (l : Launch) (D : va_G) (cA : Nat → ClassId) (Z : th_Zt) (τ : th_t) (gi : th_i) (gr : th_r) (sz : Nat) (h0 : Nat) (t_h0 : τ h0 = 12) (p1 : Int32) : Met l yX12_isBoat wsX12_isBoat ({ frames := 1, cells := 0, slots := 0, locals := 22 }) (va_Pc [.ref h0, .int p1] (th_Pre D cA Z τ gi gr sz)) (va_Qi (fun (r : Int32) (_ : Unit) => rg 0 1 r ∧ (¬ r = 0 → rg 0 15 p1) ∧ (F_X12_isBoat τ Z gi gr h0 p1 = r)) (fun (_ : Unit) t => th_H D cA τ gi gr t.heap) (th_A τ sz)) 0 0 (th_A τ sz) := by
  refine Met.ofW (cc := cX12_isBoat) (maxL := 2) (ret := (some .boolean)) (by decide) rfl ?_
  intro p e s m args below meth c s₁ B hml hv
  obtain ⟨rfl, hsz, hH, hK, hN, hZ⟩ := hv
  have hx := B.exec
  have hb := B.bytes
  have hr := B.returns
  have hts := atoms_spec (ws := wsX12_isBoat) B.pre
  have hown : s.vm.findClass RX12 = some m.cls := findClass_of_methodNamed B.named
  have hlocks := B.notSynchronized
  subst hsz
  have hS : va_S (th_A τ s.heap.size) s.heap s.heap [] := va_S.rf
  have hl := lv_entry ([.ref h0, .int p1]) (n := 2) (Nat.le_of_ble_eq_true rfl)
  rw [lg_entry_eq]
  generalize (lg_sl ([.ref h0, .int p1]) ++ List.replicate (2 - (lg_sl ([.ref h0, .int p1])).length) Slot.unset).toArray = ls at hl ⊢
  have hl : lv_has ls 2 [(0, .ref h0), (1, .int p1)] := hl
  have hF : F_X12_isBoat τ Z gi gr h0 p1 = F_X12_isBoat τ Z gi gr h0 p1 := rfl
  refine lv_iload_n hx hb dX12_isBoat_0 rfl (lv_at hl 1 rfl) ?_
  refine lv_iconst (v := 0) hx hb dX12_isBoat_1 ic_0 ?_
  refine lv_aload_n hx hb dX12_isBoat_2 rfl (lv_at hl 0 rfl) ?_
  obtain ⟨x1, e1⟩ : ∃ y : Int32, y = gi h0 8 := ⟨_, rfl⟩
  refine th_get (ci := 11) (v := .int x1) (T := TX12) (C := RX12) (N := 38) hx hb hts (fun w h => List.mem_cons_of_mem _ (List.mem_append_right _ h)) hown hK hH t_h0 (th_nz rfl) (thE_12 _ _ _) rfl 8 (th_ltN rfl) (hts (.fieldLink RX12 116 "BayMooringsModel" "boats" "I") (List.mem_cons_of_mem _ (List.mem_append_left _ (List.mem_of_getElem? (i := 0) rfl)))) (fun _ h9 => h9) (th_fI e1 rfl) dX12_isBoat_3 ?_
  have f1 : rg 0 16 x1 := rg_e e1 ((thI_12 hH t_h0).2.2.2.2.2.2.2.2.1)
  refine lv_iconst (v := 1) hx hb dX12_isBoat_6 ic_1 ?_
  refine lv_isub hx hb dX12_isBoat_7 ?_
  refine lv_topi (fun x2 e2 => ?_)
  have f2 : rg (-1) 15 x2 := rg_e e2 (rg_w (rg_sub f1 rgc_1 (th_leI rfl) (th_leI rfl)) (th_leI rfl) (th_leI rfl))
  have hA3 := th_Asub (τ := τ) hS
  refine va_calli (va_runS (As := [.int p1, .int 0, .int x2]) (rest := []) ⟨hx, hb, hml, hown, hts⟩ (k_X12_within l D cA Z τ gi gr _ p1 0 x2) (va_cwS 3 hts gX12_isBoat_X12_within rfl rfl rfl (by decide +kernel) ⟨Nat.le_of_ble_eq_true rfl, Nat.le_of_ble_eq_true rfl⟩) ⟨th_blind, (th_pre hH hK hN hZ hS hA3)⟩ rfl rfl hl.1 rfl (lv_room (Nat.le_of_ble_eq_true rfl)) dX12_isBoat_8 ⟨Nat.le_of_ble_eq_true rfl, Nat.le_of_ble_eq_true rfl⟩) hS (fun q _ h => hA3 q h) hA3 (fun x4 u t H locs ht hvm hw4 hB hz1 hk1 hS => ?_)
  try dsimp only at hw4 hB
  rw [ht] at hB
  have hH := hB
  exact W.zret (v := x4) hx hb hr (rg_nb hw4.1) (fun t ht hW => ⟨⟨x4, (), rfl, ⟨hw4.1, (fun h9 => rg_wi rgc_0 f2 (hw4.2.1 h9)), (hF.trans (by simp only [F_X12_isBoat, ← e1, ← e2, hw4.2.2.1]))⟩, th_Ht ht hH⟩, hS.F ht⟩) hS.2.2 dX12_isBoat_11

noncomputable def f_X12_buoy_46 (τ : th_t) (Z : th_Zt) (gi : th_i) (gr : th_r) (h0 : Nat) (p1 : Int32) (p2 : Int32) (p3 : Int32) (p4 : Int32) (gi_46 : th_i) : Int32 × th_i :=
  let u2 : Int32 × th_i := F_X12_finding τ Z gi_46 gr h0 (-1000001)
  let x2 : Int32 := u2.1
  let gi2 : th_i := u2.2
  (x2, gi2)
noncomputable def F_X12_buoy (τ : th_t) (Z : th_Zt) (gi : th_i) (gr : th_r) (h0 : Nat) (p1 : Int32) (p2 : Int32) (p3 : Int32) (p4 : Int32) : Int32 × th_i :=
  let x4 : Int32 := F_X12_within τ Z gi gr p1 0 999
  if x4 = (0 : Int32) then (
    f_X12_buoy_46 τ Z gi gr h0 p1 p2 p3 p4 gi) else (
    let x12 : Int32 := F_X12_within τ Z gi gr p2 0 999
    if x12 = (0 : Int32) then (
      f_X12_buoy_46 τ Z gi gr h0 p1 p2 p3 p4 gi) else (
      let x20 : Int32 := F_X12_within τ Z gi gr p3 0 300
      if x20 = (0 : Int32) then (
        f_X12_buoy_46 τ Z gi gr h0 p1 p2 p3 p4 gi) else (
        let x28 : Int32 := F_X12_within τ Z gi gr p4 10 400
        if x28 = (0 : Int32) then (
          f_X12_buoy_46 τ Z gi gr h0 p1 p2 p3 p4 gi) else (
          let x34 : Int32 := gi h0 0
          if x34 = (12 : Int32) then (
            let u80 : Int32 × th_i := F_X12_finding τ Z gi gr h0 (-1000004)
            let x80 : Int32 := u80.1
            let gi80 : th_i := u80.2
            (x80, gi80)) else (
            let q37 : Nat := (gr h0 1).getD 0
            let gi39 : th_i := va_up gi q37 (upd (gi q37) x34.toNatClampNeg p1)
            let q41 : Nat := (gr h0 2).getD 0
            let gi43 : th_i := va_up gi39 q41 (upd (gi39 q41) x34.toNatClampNeg p2)
            let q46 : Nat := (gr h0 3).getD 0
            let gi48 : th_i := va_up gi43 q46 (upd (gi43 q46) x34.toNatClampNeg p3)
            let q52 : Nat := (gr h0 4).getD 0
            let gi54 : th_i := va_up gi48 q52 (upd (gi48 q52) x34.toNatClampNeg p4)
            let q59 : Nat := (gr h0 7).getD 0
            let gi61 : th_i := va_up gi54 q59 (upd (gi54 q59) x34.toNatClampNeg (-1))
            let x68 : Int32 := x34 + 1
            let gi69 : th_i := va_up gi61 h0 (upd (gi61 h0) 0 x68)
            let x77 : Int32 := x68 - 1
            (x77, gi69))))))
set_option maxHeartbeats 8000000 in
set_option maxRecDepth 100000 in
theorem k_X12_buoy (l : Launch) (D : va_G) (cA : Nat → ClassId) (Z : th_Zt) (τ : th_t) (gi : th_i) (gr : th_r) (sz : Nat) (h0 : Nat) (t_h0 : τ h0 = 12) (p1 : Int32) (p2 : Int32) (p3 : Int32) (p4 : Int32) : Met l yX12_buoy wsX12_buoy ({ frames := 1, cells := 0, slots := 0, locals := 22 }) (va_Pc [.ref h0, .int p1, .int p2, .int p3, .int p4] (th_Pre D cA Z τ gi gr sz)) (va_Qi (fun (r : Int32) (u : th_i × th_r) => th_Mod [1200, 4000, 4100, 4200, 4300, 4600, 5900] τ gi gr u.1 u.2 ∧ u.2 = gr ∧ (F_X12_buoy τ Z gi gr h0 p1 p2 p3 p4 = (r, u.1))) (fun (u : th_i × th_r) t => th_H D cA τ u.1 u.2 t.heap) (th_A τ sz)) 0 0 (th_A τ sz) := by
  refine Met.ofW (cc := cX12_buoy) (maxL := 5) (ret := (some .int)) (by decide) rfl ?_
  intro p e s m args below meth c s₁ B hml hv
  obtain ⟨rfl, hsz, hH, hK, hN, hZ⟩ := hv
  have hx := B.exec
  have hb := B.bytes
  have hr := B.returns
  have hts := atoms_spec (ws := wsX12_buoy) B.pre
  have hown : s.vm.findClass RX12 = some m.cls := findClass_of_methodNamed B.named
  have hlocks := B.notSynchronized
  subst hsz
  have hM : th_Mod [1200, 4000, 4100, 4200, 4300, 4600, 5900] τ gi gr gi gr := th_Mod.rf
  have J46 : ∀ (gi_46 : th_i) (H : Heap) (locs : List Loc) (ls : Array Slot), th_H D cA τ gi_46 gr H → va_S (th_A τ s.heap.size) s.heap H locs → th_Mod [1200, 4000, 4100, 4200, 4300, 4600, 5900] τ gi gr gi_46 gr → lv_has ls 5 [(0, .ref h0)] → F_X12_buoy τ Z gi gr h0 p1 p2 p3 p4 = f_X12_buoy_46 τ Z gi gr h0 p1 p2 p3 p4 gi_46 → W p l e (headSpec wsX12_buoy ({ frames := 1, cells := 0, slots := 0, locals := 22 })).room s m [.ref h0, .int p1, .int p2, .int p3, .int p4].toArray below meth c H locs 0 0 (MQ below (va_Qi (fun (r : Int32) (u : th_i × th_r) => th_Mod [1200, 4000, 4100, 4200, 4300, 4600, 5900] τ gi gr u.1 u.2 ∧ u.2 = gr ∧ (F_X12_buoy τ Z gi gr h0 p1 p2 p3 p4 = (r, u.1))) (fun (u : th_i × th_r) t => th_H D cA τ u.1 u.2 t.heap) (th_A τ s.heap.size)) [.ref h0, .int p1, .int p2, .int p3, .int p4].toArray s 0 0 (th_A τ s.heap.size)) (F0 m 46 ls []) := by
    intro gi_46 H locs ls hH hS hM hl hF
    refine lv_aload_n hx hb dX12_buoy_46 rfl (lv_at hl 0 rfl) ?_
    refine lv_ldc (v := (-1000001)) hx hb hown (hts (.constant RX12 119 (-1000001)) (List.mem_cons_of_mem _ (List.mem_append_left _ (List.mem_of_getElem? (i := 0) rfl)))) dX12_buoy_47 ?_
    have hA1 := th_Asub (τ := τ) hS
    refine va_calli (va_runV (As := [.int (-1000001)]) (rest := []) ⟨hx, hb, hml, hown, hts⟩ (k_X12_finding l D cA Z τ gi_46 gr _ h0 t_h0 (-1000001) (rg_w rgc_m1000001 (th_leI rfl) (th_leI rfl))) (cwV 1 hts gX12_buoy_X12_finding rfl rfl rfl hd_X12_finding__1 ⟨Nat.le_of_ble_eq_true rfl, Nat.le_of_ble_eq_true rfl⟩) ⟨th_blind, tr_12 hK hH t_h0, (th_pre hH hK hN hZ hS hA1)⟩ rfl rfl hl.1 rfl (lv_room (Nat.le_of_ble_eq_true rfl)) dX12_buoy_49 ⟨Nat.le_of_ble_eq_true rfl, Nat.le_of_ble_eq_true rfl⟩) hS (fun q _ h => hA1 q h) hA1 (fun x2 u t H locs ht hvm hw2 hB hz1 hk1 hS => ?_)
    try dsimp only at hw2 hB
    rw [ht] at hB
    have hH := hB
    obtain ⟨gi2, gr2⟩ := u
    try dsimp only at hw2 hH
    obtain rfl : gr = gr2 := (hw2.2.1).symm
    have hM := hM.tr hw2.1 (fun _ h => h) (th_sub rfl)
    exact W.iret (v := x2) hx hb hr (fun t ht hW => ⟨⟨x2, (gi2, gr), rfl, ⟨hM, rfl, (hF.trans (by simp only [f_X12_buoy_46, hw2.2.2.1]))⟩, th_Ht ht hH⟩, hS.F ht⟩) hS.2.2 dX12_buoy_52
  have hS : va_S (th_A τ s.heap.size) s.heap s.heap [] := va_S.rf
  have hl := lv_entry ([.ref h0, .int p1, .int p2, .int p3, .int p4]) (n := 5) (Nat.le_of_ble_eq_true rfl)
  rw [lg_entry_eq]
  generalize (lg_sl ([.ref h0, .int p1, .int p2, .int p3, .int p4]) ++ List.replicate (5 - (lg_sl ([.ref h0, .int p1, .int p2, .int p3, .int p4])).length) Slot.unset).toArray = ls at hl ⊢
  have hl : lv_has ls 5 [(0, .ref h0), (1, .int p1), (2, .int p2), (3, .int p3), (4, .int p4)] := hl
  have hF : F_X12_buoy τ Z gi gr h0 p1 p2 p3 p4 = F_X12_buoy τ Z gi gr h0 p1 p2 p3 p4 := rfl
  refine lv_iload_n hx hb dX12_buoy_0 rfl (lv_at hl 1 rfl) ?_
  refine lv_iconst (v := 0) hx hb dX12_buoy_1 ic_0 ?_
  refine lv_sipush (v := 999) hx hb dX12_buoy_2 sp_999 ?_
  have hA3 := th_Asub (τ := τ) hS
  refine va_calli (va_runS (As := [.int p1, .int 0, .int 999]) (rest := []) ⟨hx, hb, hml, hown, hts⟩ (k_X12_within l D cA Z τ gi gr _ p1 0 999) (va_cwS 3 hts gX12_buoy_X12_within rfl rfl rfl (by decide +kernel) ⟨Nat.le_of_ble_eq_true rfl, Nat.le_of_ble_eq_true rfl⟩) ⟨th_blind, (th_pre hH hK hN hZ hS hA3)⟩ rfl rfl hl.1 rfl (lv_room (Nat.le_of_ble_eq_true rfl)) dX12_buoy_5 ⟨Nat.le_of_ble_eq_true rfl, Nat.le_of_ble_eq_true rfl⟩) hS (fun q _ h => hA3 q h) hA3 (fun x4 u t H locs ht hvm hw4 hB hz1 hk1 hS => ?_)
  try dsimp only at hw4 hB
  rw [ht] at hB
  have hH := hB
  refine lv_if_eq (tgt := 46) hx hb dX12_buoy_8 (th_eqI rfl) (fun c5 => ?_) (fun c5 => ?_)
  · skip
    have f6 : rg 0 0 x4 := rg_w (rg_eq hw4.1 rgc_0 c5).1 (th_leI rfl) (th_leI rfl)
    exact J46 gi _ _ _ hH hS hM (lv_sub hl [0] rfl) (hF.trans (by simp only [↓reduceIte, F_X12_buoy, hw4.2.2.1, eq_true c5]))
  · skip
    have f7 : rg 1 1 x4 := rg_w (rg_neL hw4.1 rgc_0 c5) (th_leI rfl) (th_leI rfl)
    have g8 := hw4.2.1 c5
    have f9 : rg 0 2147483647 p1 := rg_w (rg_le rgc_0 (rg_any p1) g8.1).2 (th_leI rfl) (th_leI rfl)
    have f10 : rg 0 999 p1 := rg_w (rg_le f9 rgc_999 g8.2).1 (th_leI rfl) (th_leI rfl)
    refine lv_iload_n hx hb dX12_buoy_11 rfl (lv_at hl 2 rfl) ?_
    refine lv_iconst (v := 0) hx hb dX12_buoy_12 ic_0 ?_
    refine lv_sipush (v := 999) hx hb dX12_buoy_13 sp_999 ?_
    have hA11 := th_Asub (τ := τ) hS
    refine va_calli (va_runS (As := [.int p2, .int 0, .int 999]) (rest := []) ⟨hx, hb, hml, hown, hts⟩ (k_X12_within l D cA Z τ gi gr _ p2 0 999) (va_cwS 3 hts gX12_buoy_X12_within rfl rfl rfl (by decide +kernel) ⟨Nat.le_of_ble_eq_true rfl, Nat.le_of_ble_eq_true rfl⟩) ⟨th_blind, (th_pre hH hK hN hZ hS hA11)⟩ rfl rfl hl.1 rfl (lv_room (Nat.le_of_ble_eq_true rfl)) dX12_buoy_16 ⟨Nat.le_of_ble_eq_true rfl, Nat.le_of_ble_eq_true rfl⟩) hS (fun q _ h => hA11 q h) hA11 (fun x12 u t H locs ht hvm hw12 hB hz1 hk1 hS => ?_)
    try dsimp only at hw12 hB
    rw [ht] at hB
    have hH := hB
    refine lv_if_eq (tgt := 46) hx hb dX12_buoy_19 (th_eqI rfl) (fun c13 => ?_) (fun c13 => ?_)
    · skip
      have f14 : rg 0 0 x12 := rg_w (rg_eq hw12.1 rgc_0 c13).1 (th_leI rfl) (th_leI rfl)
      exact J46 gi _ _ _ hH hS hM (lv_sub hl [0] rfl) (hF.trans (by simp only [↓reduceIte, F_X12_buoy, hw4.2.2.1, eq_false c5, hw12.2.2.1, eq_true c13]))
    · skip
      have f15 : rg 1 1 x12 := rg_w (rg_neL hw12.1 rgc_0 c13) (th_leI rfl) (th_leI rfl)
      have g16 := hw12.2.1 c13
      have f17 : rg 0 2147483647 p2 := rg_w (rg_le rgc_0 (rg_any p2) g16.1).2 (th_leI rfl) (th_leI rfl)
      have f18 : rg 0 999 p2 := rg_w (rg_le f17 rgc_999 g16.2).1 (th_leI rfl) (th_leI rfl)
      refine lv_iload_n hx hb dX12_buoy_22 rfl (lv_at hl 3 rfl) ?_
      refine lv_iconst (v := 0) hx hb dX12_buoy_23 ic_0 ?_
      refine lv_sipush (v := 300) hx hb dX12_buoy_24 sp_300 ?_
      have hA19 := th_Asub (τ := τ) hS
      refine va_calli (va_runS (As := [.int p3, .int 0, .int 300]) (rest := []) ⟨hx, hb, hml, hown, hts⟩ (k_X12_within l D cA Z τ gi gr _ p3 0 300) (va_cwS 3 hts gX12_buoy_X12_within rfl rfl rfl (by decide +kernel) ⟨Nat.le_of_ble_eq_true rfl, Nat.le_of_ble_eq_true rfl⟩) ⟨th_blind, (th_pre hH hK hN hZ hS hA19)⟩ rfl rfl hl.1 rfl (lv_room (Nat.le_of_ble_eq_true rfl)) dX12_buoy_27 ⟨Nat.le_of_ble_eq_true rfl, Nat.le_of_ble_eq_true rfl⟩) hS (fun q _ h => hA19 q h) hA19 (fun x20 u t H locs ht hvm hw20 hB hz1 hk1 hS => ?_)
      try dsimp only at hw20 hB
      rw [ht] at hB
      have hH := hB
      refine lv_if_eq (tgt := 46) hx hb dX12_buoy_30 (th_eqI rfl) (fun c21 => ?_) (fun c21 => ?_)
      · skip
        have f22 : rg 0 0 x20 := rg_w (rg_eq hw20.1 rgc_0 c21).1 (th_leI rfl) (th_leI rfl)
        exact J46 gi _ _ _ hH hS hM (lv_sub hl [0] rfl) (hF.trans (by simp only [↓reduceIte, F_X12_buoy, hw4.2.2.1, eq_false c5, hw12.2.2.1, eq_false c13, hw20.2.2.1, eq_true c21]))
      · skip
        have f23 : rg 1 1 x20 := rg_w (rg_neL hw20.1 rgc_0 c21) (th_leI rfl) (th_leI rfl)
        have g24 := hw20.2.1 c21
        have f25 : rg 0 2147483647 p3 := rg_w (rg_le rgc_0 (rg_any p3) g24.1).2 (th_leI rfl) (th_leI rfl)
        have f26 : rg 0 300 p3 := rg_w (rg_le f25 rgc_300 g24.2).1 (th_leI rfl) (th_leI rfl)
        refine lv_iload hx hb dX12_buoy_33 (lv_at hl 4 rfl) ?_
        refine lv_bipush (v := 10) hx hb dX12_buoy_35 bp_10 ?_
        refine lv_sipush (v := 400) hx hb dX12_buoy_37 sp_400 ?_
        have hA27 := th_Asub (τ := τ) hS
        refine va_calli (va_runS (As := [.int p4, .int 10, .int 400]) (rest := []) ⟨hx, hb, hml, hown, hts⟩ (k_X12_within l D cA Z τ gi gr _ p4 10 400) (va_cwS 3 hts gX12_buoy_X12_within rfl rfl rfl (by decide +kernel) ⟨Nat.le_of_ble_eq_true rfl, Nat.le_of_ble_eq_true rfl⟩) ⟨th_blind, (th_pre hH hK hN hZ hS hA27)⟩ rfl rfl hl.1 rfl (lv_room (Nat.le_of_ble_eq_true rfl)) dX12_buoy_40 ⟨Nat.le_of_ble_eq_true rfl, Nat.le_of_ble_eq_true rfl⟩) hS (fun q _ h => hA27 q h) hA27 (fun x28 u t H locs ht hvm hw28 hB hz1 hk1 hS => ?_)
        try dsimp only at hw28 hB
        rw [ht] at hB
        have hH := hB
        refine lv_if_ne (tgt := 53) hx hb dX12_buoy_43 (th_eqI rfl) (fun c29 => ?_) (fun c29 => ?_)
        · skip
          have f30 : rg 1 1 x28 := rg_w (rg_neL hw28.1 rgc_0 c29) (th_leI rfl) (th_leI rfl)
          have g31 := hw28.2.1 c29
          have f32 : rg 10 2147483647 p4 := rg_w (rg_le rgc_10 (rg_any p4) g31.1).2 (th_leI rfl) (th_leI rfl)
          have f33 : rg 10 400 p4 := rg_w (rg_le f32 rgc_400 g31.2).1 (th_leI rfl) (th_leI rfl)
          refine lv_aload_n hx hb dX12_buoy_53 rfl (lv_at hl 0 rfl) ?_
          obtain ⟨x34, e34⟩ : ∃ y : Int32, y = gi h0 0 := ⟨_, rfl⟩
          refine th_get (ci := 11) (v := .int x34) (T := TX12) (C := RX12) (N := 38) hx hb hts (fun w h => List.mem_cons_of_mem _ (List.mem_append_right _ h)) hown hK hH t_h0 (th_nz rfl) (thE_12 _ _ _) rfl 0 (th_ltN rfl) (hts (.fieldLink RX12 109 "BayMooringsModel" "buoys" "I") (List.mem_cons_of_mem _ (List.mem_append_left _ (List.mem_of_getElem? (i := 1) rfl)))) (fun _ h9 => h9) (th_fI e34 rfl) dX12_buoy_54 ?_
          have f34 : rg 0 12 x34 := rg_e e34 ((thI_12 hH t_h0).1)
          refine lv_bipush (v := 12) hx hb dX12_buoy_57 bp_12 ?_
          refine lv_icmp_ne (tgt := 69) hx hb dX12_buoy_59 (th_eqI rfl) (fun c35 => ?_) (fun c35 => ?_)
          · skip
            have f36 : rg 0 11 x34 := rg_w (rg_neR f34 rgc_12 c35) (th_leI rfl) (th_leI rfl)
            refine lv_aload_n hx hb dX12_buoy_69 rfl (lv_at hl 0 rfl) ?_
            obtain ⟨q37, r37, t37⟩ : ∃ q, gr h0 1 = some q ∧ τ q = 40 := (thI_12 hH t_h0).2.1
            refine th_get (ci := 11) (v := .ref q37) (T := TX12) (C := RX12) (N := 38) hx hb hts (fun w h => List.mem_cons_of_mem _ (List.mem_append_right _ h)) hown hK hH t_h0 (th_nz rfl) (thE_12 _ _ _) rfl 1 (th_ltN rfl) (hts (.fieldLink RX12 9 "BayMooringsModel" "atX" "[I") (List.mem_cons_of_mem _ (List.mem_append_left _ (List.mem_of_getElem? (i := 3) rfl)))) (fun _ h9 => h9) (th_fR r37 rfl) dX12_buoy_70 ?_
            refine lv_aload_n hx hb dX12_buoy_73 rfl (lv_at hl 0 rfl) ?_
            refine th_get (ci := 11) (v := .int x34) (T := TX12) (C := RX12) (N := 38) hx hb hts (fun w h => List.mem_cons_of_mem _ (List.mem_append_right _ h)) hown hK hH t_h0 (th_nz rfl) (thE_12 _ _ _) rfl 0 (th_ltN rfl) (hts (.fieldLink RX12 109 "BayMooringsModel" "buoys" "I") (List.mem_cons_of_mem _ (List.mem_append_left _ (List.mem_of_getElem? (i := 1) rfl)))) (fun _ h9 => h9) (th_fI e34 rfl) dX12_buoy_74 ?_
            refine lv_iload_n hx hb dX12_buoy_77 rfl (lv_at hl 1 rfl) ?_
            refine th_iast hx hb hK hH hS t37 (th_nz rfl) (Or.inl (th_nzE t37 rfl)) 0 (fun _ => thE_40 _ _ _) rfl (rg_in (n := 12) f36 (th_leI rfl) (th_ltI rfl)) (trivial) dX12_buoy_78 (fun gi39 H locs hu39 ho39 hH hS => ?_)
            have eg39 : gi39 = va_up gi q37 (upd (gi q37) x34.toNatClampNeg p1) := th_upE hu39 ho39
            have e40 : x34 = gi39 h0 0 := Eq.trans e34 (Eq.symm (ho39 _ _ (Or.inl (th_ne t_h0 t37 (th_nz rfl)))))
            have hM := hM.i t37 (th_mem (a := 4000) rfl) ho39
            refine lv_aload_n hx hb dX12_buoy_79 rfl (lv_at hl 0 rfl) ?_
            obtain ⟨q41, r41, t41⟩ : ∃ q, gr h0 2 = some q ∧ τ q = 41 := (thI_12 hH t_h0).2.2.1
            refine th_get (ci := 11) (v := .ref q41) (T := TX12) (C := RX12) (N := 38) hx hb hts (fun w h => List.mem_cons_of_mem _ (List.mem_append_right _ h)) hown hK hH t_h0 (th_nz rfl) (thE_12 _ _ _) rfl 2 (th_ltN rfl) (hts (.fieldLink RX12 13 "BayMooringsModel" "atY" "[I") (List.mem_cons_of_mem _ (List.mem_append_left _ (List.mem_of_getElem? (i := 4) rfl)))) (fun _ h9 => h9) (th_fR r41 rfl) dX12_buoy_80 ?_
            refine lv_aload_n hx hb dX12_buoy_83 rfl (lv_at hl 0 rfl) ?_
            refine th_get (ci := 11) (v := .int x34) (T := TX12) (C := RX12) (N := 38) hx hb hts (fun w h => List.mem_cons_of_mem _ (List.mem_append_right _ h)) hown hK hH t_h0 (th_nz rfl) (thE_12 _ _ _) rfl 0 (th_ltN rfl) (hts (.fieldLink RX12 109 "BayMooringsModel" "buoys" "I") (List.mem_cons_of_mem _ (List.mem_append_left _ (List.mem_of_getElem? (i := 1) rfl)))) (fun _ h9 => h9) (th_fI e40 rfl) dX12_buoy_84 ?_
            refine lv_iload_n hx hb dX12_buoy_87 rfl (lv_at hl 2 rfl) ?_
            refine th_iast hx hb hK hH hS t41 (th_nz rfl) (Or.inl (th_nzE t41 rfl)) 0 (fun _ => thE_41 _ _ _) rfl (rg_in (n := 12) f36 (th_leI rfl) (th_ltI rfl)) (trivial) dX12_buoy_88 (fun gi43 H locs hu43 ho43 hH hS => ?_)
            have eg43 : gi43 = va_up gi39 q41 (upd (gi39 q41) x34.toNatClampNeg p2) := th_upE hu43 ho43
            have e44 : x34 = gi43 h0 0 := Eq.trans e40 (Eq.symm (ho43 _ _ (Or.inl (th_ne t_h0 t41 (th_nz rfl)))))
            have e45 : p1 = gi43 q37 (x34.toNatClampNeg) := Eq.trans hu39.symm (Eq.symm (ho43 _ _ (Or.inl (th_ne t37 t41 (th_nz rfl)))))
            have hM := hM.i t41 (th_mem (a := 4100) rfl) ho43
            refine lv_aload_n hx hb dX12_buoy_89 rfl (lv_at hl 0 rfl) ?_
            obtain ⟨q46, r46, t46⟩ : ∃ q, gr h0 3 = some q ∧ τ q = 42 := (thI_12 hH t_h0).2.2.2.1
            refine th_get (ci := 11) (v := .ref q46) (T := TX12) (C := RX12) (N := 38) hx hb hts (fun w h => List.mem_cons_of_mem _ (List.mem_append_right _ h)) hown hK hH t_h0 (th_nz rfl) (thE_12 _ _ _) rfl 3 (th_ltN rfl) (hts (.fieldLink RX12 16 "BayMooringsModel" "depth" "[I") (List.mem_cons_of_mem _ (List.mem_append_left _ (List.mem_of_getElem? (i := 5) rfl)))) (fun _ h9 => h9) (th_fR r46 rfl) dX12_buoy_90 ?_
            refine lv_aload_n hx hb dX12_buoy_93 rfl (lv_at hl 0 rfl) ?_
            refine th_get (ci := 11) (v := .int x34) (T := TX12) (C := RX12) (N := 38) hx hb hts (fun w h => List.mem_cons_of_mem _ (List.mem_append_right _ h)) hown hK hH t_h0 (th_nz rfl) (thE_12 _ _ _) rfl 0 (th_ltN rfl) (hts (.fieldLink RX12 109 "BayMooringsModel" "buoys" "I") (List.mem_cons_of_mem _ (List.mem_append_left _ (List.mem_of_getElem? (i := 1) rfl)))) (fun _ h9 => h9) (th_fI e44 rfl) dX12_buoy_94 ?_
            refine lv_iload_n hx hb dX12_buoy_97 rfl (lv_at hl 3 rfl) ?_
            refine th_iast hx hb hK hH hS t46 (th_nz rfl) (Or.inl (th_nzE t46 rfl)) 0 (fun _ => thE_42 _ _ _) rfl (rg_in (n := 12) f36 (th_leI rfl) (th_ltI rfl)) (th_ai (P := rg 0 300) (thI_42 hH t46) f26) dX12_buoy_98 (fun gi48 H locs hu48 ho48 hH hS => ?_)
            have eg48 : gi48 = va_up gi43 q46 (upd (gi43 q46) x34.toNatClampNeg p3) := th_upE hu48 ho48
            have e49 : x34 = gi48 h0 0 := Eq.trans e44 (Eq.symm (ho48 _ _ (Or.inl (th_ne t_h0 t46 (th_nz rfl)))))
            have e50 : p1 = gi48 q37 (x34.toNatClampNeg) := Eq.trans e45 (Eq.symm (ho48 _ _ (Or.inl (th_ne t37 t46 (th_nz rfl)))))
            have e51 : p2 = gi48 q41 (x34.toNatClampNeg) := Eq.trans hu43.symm (Eq.symm (ho48 _ _ (Or.inl (th_ne t41 t46 (th_nz rfl)))))
            have hM := hM.i t46 (th_mem (a := 4200) rfl) ho48
            refine lv_aload_n hx hb dX12_buoy_99 rfl (lv_at hl 0 rfl) ?_
            obtain ⟨q52, r52, t52⟩ : ∃ q, gr h0 4 = some q ∧ τ q = 43 := (thI_12 hH t_h0).2.2.2.2.1
            refine th_get (ci := 11) (v := .ref q52) (T := TX12) (C := RX12) (N := 38) hx hb hts (fun w h => List.mem_cons_of_mem _ (List.mem_append_right _ h)) hown hK hH t_h0 (th_nz rfl) (thE_12 _ _ _) rfl 4 (th_ltN rfl) (hts (.fieldLink RX12 19 "BayMooringsModel" "chain" "[I") (List.mem_cons_of_mem _ (List.mem_append_left _ (List.mem_of_getElem? (i := 6) rfl)))) (fun _ h9 => h9) (th_fR r52 rfl) dX12_buoy_100 ?_
            refine lv_aload_n hx hb dX12_buoy_103 rfl (lv_at hl 0 rfl) ?_
            refine th_get (ci := 11) (v := .int x34) (T := TX12) (C := RX12) (N := 38) hx hb hts (fun w h => List.mem_cons_of_mem _ (List.mem_append_right _ h)) hown hK hH t_h0 (th_nz rfl) (thE_12 _ _ _) rfl 0 (th_ltN rfl) (hts (.fieldLink RX12 109 "BayMooringsModel" "buoys" "I") (List.mem_cons_of_mem _ (List.mem_append_left _ (List.mem_of_getElem? (i := 1) rfl)))) (fun _ h9 => h9) (th_fI e49 rfl) dX12_buoy_104 ?_
            refine lv_iload hx hb dX12_buoy_107 (lv_at hl 4 rfl) ?_
            refine th_iast hx hb hK hH hS t52 (th_nz rfl) (Or.inl (th_nzE t52 rfl)) 0 (fun _ => thE_43 _ _ _) rfl (rg_in (n := 12) f36 (th_leI rfl) (th_ltI rfl)) (th_ai (P := rg 0 400) (thI_43 hH t52) (rg_w f33 (th_leI rfl) (th_leI rfl))) dX12_buoy_109 (fun gi54 H locs hu54 ho54 hH hS => ?_)
            have eg54 : gi54 = va_up gi48 q52 (upd (gi48 q52) x34.toNatClampNeg p4) := th_upE hu54 ho54
            have e55 : x34 = gi54 h0 0 := Eq.trans e49 (Eq.symm (ho54 _ _ (Or.inl (th_ne t_h0 t52 (th_nz rfl)))))
            have e56 : p1 = gi54 q37 (x34.toNatClampNeg) := Eq.trans e50 (Eq.symm (ho54 _ _ (Or.inl (th_ne t37 t52 (th_nz rfl)))))
            have e57 : p2 = gi54 q41 (x34.toNatClampNeg) := Eq.trans e51 (Eq.symm (ho54 _ _ (Or.inl (th_ne t41 t52 (th_nz rfl)))))
            have e58 : p3 = gi54 q46 (x34.toNatClampNeg) := Eq.trans hu48.symm (Eq.symm (ho54 _ _ (Or.inl (th_ne t46 t52 (th_nz rfl)))))
            have hM := hM.i t52 (th_mem (a := 4300) rfl) ho54
            refine lv_aload_n hx hb dX12_buoy_110 rfl (lv_at hl 0 rfl) ?_
            obtain ⟨q59, r59, t59⟩ : ∃ q, gr h0 7 = some q ∧ τ q = 46 := (thI_12 hH t_h0).2.2.2.2.2.2.2.1
            refine th_get (ci := 11) (v := .ref q59) (T := TX12) (C := RX12) (N := 38) hx hb hts (fun w h => List.mem_cons_of_mem _ (List.mem_append_right _ h)) hown hK hH t_h0 (th_nz rfl) (thE_12 _ _ _) rfl 7 (th_ltN rfl) (hts (.fieldLink RX12 28 "BayMooringsModel" "boatAt" "[I") (List.mem_cons_of_mem _ (List.mem_append_left _ (List.mem_of_getElem? (i := 7) rfl)))) (fun _ h9 => h9) (th_fR r59 rfl) dX12_buoy_111 ?_
            refine lv_aload_n hx hb dX12_buoy_114 rfl (lv_at hl 0 rfl) ?_
            refine th_get (ci := 11) (v := .int x34) (T := TX12) (C := RX12) (N := 38) hx hb hts (fun w h => List.mem_cons_of_mem _ (List.mem_append_right _ h)) hown hK hH t_h0 (th_nz rfl) (thE_12 _ _ _) rfl 0 (th_ltN rfl) (hts (.fieldLink RX12 109 "BayMooringsModel" "buoys" "I") (List.mem_cons_of_mem _ (List.mem_append_left _ (List.mem_of_getElem? (i := 1) rfl)))) (fun _ h9 => h9) (th_fI e55 rfl) dX12_buoy_115 ?_
            refine lv_iconst (v := (-1)) hx hb dX12_buoy_118 ic_m1 ?_
            refine th_iast hx hb hK hH hS t59 (th_nz rfl) (Or.inl (th_nzE t59 rfl)) 0 (fun _ => thE_46 _ _ _) rfl (rg_in (n := 12) f36 (th_leI rfl) (th_ltI rfl)) (th_ai (P := rg (-1) 15) (thI_46 hH t59) (rg_w rgc_m1 (th_leI rfl) (th_leI rfl))) dX12_buoy_119 (fun gi61 H locs hu61 ho61 hH hS => ?_)
            have eg61 : gi61 = va_up gi54 q59 (upd (gi54 q59) x34.toNatClampNeg (-1)) := th_upE hu61 ho61
            have e62 : x34 = gi61 h0 0 := Eq.trans e55 (Eq.symm (ho61 _ _ (Or.inl (th_ne t_h0 t59 (th_nz rfl)))))
            have e63 : p1 = gi61 q37 (x34.toNatClampNeg) := Eq.trans e56 (Eq.symm (ho61 _ _ (Or.inl (th_ne t37 t59 (th_nz rfl)))))
            have e64 : p2 = gi61 q41 (x34.toNatClampNeg) := Eq.trans e57 (Eq.symm (ho61 _ _ (Or.inl (th_ne t41 t59 (th_nz rfl)))))
            have e65 : p3 = gi61 q46 (x34.toNatClampNeg) := Eq.trans e58 (Eq.symm (ho61 _ _ (Or.inl (th_ne t46 t59 (th_nz rfl)))))
            have e66 : p4 = gi61 q52 (x34.toNatClampNeg) := Eq.trans hu54.symm (Eq.symm (ho61 _ _ (Or.inl (th_ne t52 t59 (th_nz rfl)))))
            have hM := hM.i t59 (th_mem (a := 4600) rfl) ho61
            refine lv_aload_n hx hb dX12_buoy_120 rfl (lv_at hl 0 rfl) ?_
            refine lv_dup hx hb dX12_buoy_121 rfl ?_
            refine th_get (ci := 11) (v := .int x34) (T := TX12) (C := RX12) (N := 38) hx hb hts (fun w h => List.mem_cons_of_mem _ (List.mem_append_right _ h)) hown hK hH t_h0 (th_nz rfl) (thE_12 _ _ _) rfl 0 (th_ltN rfl) (hts (.fieldLink RX12 109 "BayMooringsModel" "buoys" "I") (List.mem_cons_of_mem _ (List.mem_append_left _ (List.mem_of_getElem? (i := 1) rfl)))) (fun _ h9 => h9) (th_fI e62 rfl) dX12_buoy_122 ?_
            refine lv_iconst (v := 1) hx hb dX12_buoy_125 ic_1 ?_
            refine lv_iadd hx hb dX12_buoy_126 ?_
            refine lv_topi (fun x68 e68 => ?_)
            have f68 : rg 1 12 x68 := rg_e e68 (rg_w (rg_add f36 rgc_1 (th_leI rfl) (th_leI rfl)) (th_leI rfl) (th_leI rfl))
            refine th_put (ci := 11) (v := .int x68) (T := TX12) (C := RX12) (N := 38) (ty := .int) (gi' := va_up gi61 h0 (upd (gi61 h0) 0 x68)) (gr' := gr) hx hb hts (fun w h => List.mem_cons_of_mem _ (List.mem_append_right _ h)) tyX12 tyX12_ok nmX12 hown hK hH hS t_h0 (th_nz rfl) (Or.inl (th_nzE t_h0 rfl)) rfl rfl 0 (th_ltN rfl) (hts (.fieldLink RX12 109 "BayMooringsModel" "buoys" "I") (List.mem_cons_of_mem _ (List.mem_append_left _ (List.mem_of_getElem? (i := 1) rfl)))) (fun _ h9 => h9) rfl (by decide +kernel) rfl rfl (Nat.le_of_ble_eq_true rfl) (by rw [va_up_self]; rfl) (by rw [va_up_self]; show rg 0 12 x68 ∧ (∃ q, gr h0 1 = some q ∧ τ q = 40) ∧ (∃ q, gr h0 2 = some q ∧ τ q = 41) ∧ (∃ q, gr h0 3 = some q ∧ τ q = 42) ∧ (∃ q, gr h0 4 = some q ∧ τ q = 43) ∧ (∃ q, gr h0 5 = some q ∧ τ q = 44) ∧ (∃ q, gr h0 6 = some q ∧ τ q = 45) ∧ (∃ q, gr h0 7 = some q ∧ τ q = 46) ∧ rg 0 16 (gi61 h0 8) ∧ (∃ q, gr h0 9 = some q ∧ τ q = 47) ∧ (∃ q, gr h0 10 = some q ∧ τ q = 48) ∧ (∃ q, gr h0 11 = some q ∧ τ q = 49) ∧ (∃ q, gr h0 12 = some q ∧ τ q = 50) ∧ (∃ q, gr h0 13 = some q ∧ τ q = 51) ∧ (∃ q, gr h0 15 = some q ∧ τ q = 52) ∧ (∃ q, gr h0 16 = some q ∧ τ q = 53) ∧ rg 0 10 (gi61 h0 17) ∧ (∃ q, gr h0 18 = some q ∧ τ q = 54) ∧ (∃ q, gr h0 19 = some q ∧ τ q = 55) ∧ (∃ q, gr h0 21 = some q ∧ τ q = 56) ∧ (∃ q, gr h0 22 = some q ∧ τ q = 57) ∧ rg 0 24 (gi61 h0 24) ∧ (∃ q, gr h0 25 = some q ∧ τ q = 58) ∧ (∃ q, gr h0 26 = some q ∧ τ q = 59) ∧ rg 0 5 (gi61 h0 27) ∧ (∃ q, gr h0 28 = some q ∧ τ q = 60) ∧ (∃ q, gr h0 29 = some q ∧ τ q = 61) ∧ (∃ q, gr h0 30 = some q ∧ τ q = 62) ∧ (∃ q, gr h0 31 = some q ∧ τ q = 63) ∧ (∃ q, gr h0 32 = some q ∧ τ q = 64) ∧ (∃ q, gr h0 34 = some q ∧ τ q = 65) ∧ (∃ q, gr h0 35 = some q ∧ τ q = 66) ∧ (∃ q, gr h0 36 = some q ∧ τ q = 67) ∧ (∃ q, gr h0 37 = some q ∧ τ q = 68); exact ⟨(rg_w f68 (th_leI rfl) (th_leI rfl)), (thI_12 hH t_h0).2.1, (thI_12 hH t_h0).2.2.1, (thI_12 hH t_h0).2.2.2.1, (thI_12 hH t_h0).2.2.2.2.1, (thI_12 hH t_h0).2.2.2.2.2.1, (thI_12 hH t_h0).2.2.2.2.2.2.1, (thI_12 hH t_h0).2.2.2.2.2.2.2.1, (thI_12 hH t_h0).2.2.2.2.2.2.2.2.1, (thI_12 hH t_h0).2.2.2.2.2.2.2.2.2.1, (thI_12 hH t_h0).2.2.2.2.2.2.2.2.2.2.1, (thI_12 hH t_h0).2.2.2.2.2.2.2.2.2.2.2.1, (thI_12 hH t_h0).2.2.2.2.2.2.2.2.2.2.2.2.1, (thI_12 hH t_h0).2.2.2.2.2.2.2.2.2.2.2.2.2.1, (thI_12 hH t_h0).2.2.2.2.2.2.2.2.2.2.2.2.2.2.1, (thI_12 hH t_h0).2.2.2.2.2.2.2.2.2.2.2.2.2.2.2.1, (thI_12 hH t_h0).2.2.2.2.2.2.2.2.2.2.2.2.2.2.2.2.1, (thI_12 hH t_h0).2.2.2.2.2.2.2.2.2.2.2.2.2.2.2.2.2.1, (thI_12 hH t_h0).2.2.2.2.2.2.2.2.2.2.2.2.2.2.2.2.2.2.1, (thI_12 hH t_h0).2.2.2.2.2.2.2.2.2.2.2.2.2.2.2.2.2.2.2.1, (thI_12 hH t_h0).2.2.2.2.2.2.2.2.2.2.2.2.2.2.2.2.2.2.2.2.1, (thI_12 hH t_h0).2.2.2.2.2.2.2.2.2.2.2.2.2.2.2.2.2.2.2.2.2.1, (thI_12 hH t_h0).2.2.2.2.2.2.2.2.2.2.2.2.2.2.2.2.2.2.2.2.2.2.1, (thI_12 hH t_h0).2.2.2.2.2.2.2.2.2.2.2.2.2.2.2.2.2.2.2.2.2.2.2.1, (thI_12 hH t_h0).2.2.2.2.2.2.2.2.2.2.2.2.2.2.2.2.2.2.2.2.2.2.2.2.1, (thI_12 hH t_h0).2.2.2.2.2.2.2.2.2.2.2.2.2.2.2.2.2.2.2.2.2.2.2.2.2.1, (thI_12 hH t_h0).2.2.2.2.2.2.2.2.2.2.2.2.2.2.2.2.2.2.2.2.2.2.2.2.2.2.1, (thI_12 hH t_h0).2.2.2.2.2.2.2.2.2.2.2.2.2.2.2.2.2.2.2.2.2.2.2.2.2.2.2.1, (thI_12 hH t_h0).2.2.2.2.2.2.2.2.2.2.2.2.2.2.2.2.2.2.2.2.2.2.2.2.2.2.2.2.1, (thI_12 hH t_h0).2.2.2.2.2.2.2.2.2.2.2.2.2.2.2.2.2.2.2.2.2.2.2.2.2.2.2.2.2.1, (thI_12 hH t_h0).2.2.2.2.2.2.2.2.2.2.2.2.2.2.2.2.2.2.2.2.2.2.2.2.2.2.2.2.2.2.1, (thI_12 hH t_h0).2.2.2.2.2.2.2.2.2.2.2.2.2.2.2.2.2.2.2.2.2.2.2.2.2.2.2.2.2.2.2.1, (thI_12 hH t_h0).2.2.2.2.2.2.2.2.2.2.2.2.2.2.2.2.2.2.2.2.2.2.2.2.2.2.2.2.2.2.2.2.1, (thI_12 hH t_h0).2.2.2.2.2.2.2.2.2.2.2.2.2.2.2.2.2.2.2.2.2.2.2.2.2.2.2.2.2.2.2.2.2⟩) (fun b hb => ⟨va_up_ne _ _ hb, rfl⟩) dX12_buoy_127 (fun H locs hH hS => ?_)
            obtain ⟨gi69, eg69⟩ : ∃ g, g = va_up gi61 h0 (upd (gi61 h0) 0 x68) := ⟨_, rfl⟩
            rw [← eg69] at hH
            have hu69 : gi69 h0 0 = x68 := (th_uI eg69).1
            have ho69 : ∀ b j, b ≠ h0 ∨ j ≠ 0 → gi69 b j = gi61 b j := (th_uI eg69).2
            have e71 : p1 = gi69 q37 (x34.toNatClampNeg) := Eq.trans e63 (Eq.symm (ho69 _ _ (Or.inl (th_ne t37 t_h0 (th_nz rfl)))))
            have e72 : p2 = gi69 q41 (x34.toNatClampNeg) := Eq.trans e64 (Eq.symm (ho69 _ _ (Or.inl (th_ne t41 t_h0 (th_nz rfl)))))
            have e73 : p3 = gi69 q46 (x34.toNatClampNeg) := Eq.trans e65 (Eq.symm (ho69 _ _ (Or.inl (th_ne t46 t_h0 (th_nz rfl)))))
            have e74 : p4 = gi69 q52 (x34.toNatClampNeg) := Eq.trans e66 (Eq.symm (ho69 _ _ (Or.inl (th_ne t52 t_h0 (th_nz rfl)))))
            have e75 : (-1) = gi69 q59 (x34.toNatClampNeg) := Eq.trans hu61.symm (Eq.symm (ho69 _ _ (Or.inl (th_ne t59 t_h0 (th_nz rfl)))))
            have hM := hM.i t_h0 (th_mem (a := 1200) rfl) ho69
            refine lv_aload_n hx hb dX12_buoy_130 rfl (lv_at hl 0 rfl) ?_
            refine th_get (ci := 11) (v := .int x68) (T := TX12) (C := RX12) (N := 38) hx hb hts (fun w h => List.mem_cons_of_mem _ (List.mem_append_right _ h)) hown hK hH t_h0 (th_nz rfl) (thE_12 _ _ _) rfl 0 (th_ltN rfl) (hts (.fieldLink RX12 109 "BayMooringsModel" "buoys" "I") (List.mem_cons_of_mem _ (List.mem_append_left _ (List.mem_of_getElem? (i := 1) rfl)))) (fun _ h9 => h9) (th_fI hu69.symm rfl) dX12_buoy_131 ?_
            refine lv_iconst (v := 1) hx hb dX12_buoy_134 ic_1 ?_
            refine lv_isub hx hb dX12_buoy_135 ?_
            refine lv_topi (fun x77 e77 => ?_)
            have f77 : rg 0 11 x77 := rg_e e77 (rg_w (rg_sub f68 rgc_1 (th_leI rfl) (th_leI rfl)) (th_leI rfl) (th_leI rfl))
            exact W.iret (v := x77) hx hb hr (fun t ht hW => ⟨⟨x77, (gi69, gr), rfl, ⟨hM, rfl, (hF.trans (by simp only [↓reduceIte, F_X12_buoy, hw4.2.2.1, eq_false c5, hw12.2.2.1, eq_false c13, hw20.2.2.1, eq_false c21, hw28.2.2.1, eq_false c29, ← e34, eq_false c35, r37, Option.getD_some, ← eg39, r41, ← eg43, r46, ← eg48, r52, ← eg54, r59, ← eg61, ← e68, ← eg69, ← e77]))⟩, th_Ht ht hH⟩, hS.F ht⟩) hS.2.2 dX12_buoy_136
          · skip
            have f78 : rg 12 12 x34 := rg_w (rg_eq f34 rgc_12 c35).1 (th_leI rfl) (th_leI rfl)
            refine lv_aload_n hx hb dX12_buoy_62 rfl (lv_at hl 0 rfl) ?_
            refine lv_ldc (v := (-1000004)) hx hb hown (hts (.constant RX12 124 (-1000004)) (List.mem_cons_of_mem _ (List.mem_append_left _ (List.mem_of_getElem? (i := 2) rfl)))) dX12_buoy_63 ?_
            have hA79 := th_Asub (τ := τ) hS
            refine va_calli (va_runV (As := [.int (-1000004)]) (rest := []) ⟨hx, hb, hml, hown, hts⟩ (k_X12_finding l D cA Z τ gi gr _ h0 t_h0 (-1000004) (rg_w rgc_m1000004 (th_leI rfl) (th_leI rfl))) (cwV 1 hts gX12_buoy_X12_finding rfl rfl rfl hd_X12_finding__1 ⟨Nat.le_of_ble_eq_true rfl, Nat.le_of_ble_eq_true rfl⟩) ⟨th_blind, tr_12 hK hH t_h0, (th_pre hH hK hN hZ hS hA79)⟩ rfl rfl hl.1 rfl (lv_room (Nat.le_of_ble_eq_true rfl)) dX12_buoy_65 ⟨Nat.le_of_ble_eq_true rfl, Nat.le_of_ble_eq_true rfl⟩) hS (fun q _ h => hA79 q h) hA79 (fun x80 u t H locs ht hvm hw80 hB hz1 hk1 hS => ?_)
            try dsimp only at hw80 hB
            rw [ht] at hB
            have hH := hB
            obtain ⟨gi80, gr80⟩ := u
            try dsimp only at hw80 hH
            obtain rfl : gr = gr80 := (hw80.2.1).symm
            have hM := hM.tr hw80.1 (fun _ h => h) (th_sub rfl)
            have e81 : x34 = gi80 h0 0 := Eq.trans e34 (Eq.symm (hw80.1 h0 0 (th_nzE t_h0 rfl) (th_nmE (key := 1200) t_h0 rfl rfl)).1)
            exact W.iret (v := x80) hx hb hr (fun t ht hW => ⟨⟨x80, (gi80, gr), rfl, ⟨hM, rfl, (hF.trans (by simp only [↓reduceIte, F_X12_buoy, hw4.2.2.1, eq_false c5, hw12.2.2.1, eq_false c13, hw20.2.2.1, eq_false c21, hw28.2.2.1, eq_false c29, ← e34, eq_true c35, hw80.2.2.1]))⟩, th_Ht ht hH⟩, hS.F ht⟩) hS.2.2 dX12_buoy_68
        · skip
          have f82 : rg 0 0 x28 := rg_w (rg_eq hw28.1 rgc_0 c29).1 (th_leI rfl) (th_leI rfl)
          exact J46 gi _ _ _ hH hS hM (lv_sub hl [0] rfl) (hF.trans (by simp only [↓reduceIte, F_X12_buoy, hw4.2.2.1, eq_false c5, hw12.2.2.1, eq_false c13, hw20.2.2.1, eq_false c21, hw28.2.2.1, eq_true c29]))

noncomputable def f_X12_boat_31 (τ : th_t) (Z : th_Zt) (gi : th_i) (gr : th_r) (h0 : Nat) (p1 : Int32) (p2 : Int32) (p3 : Int32) (gi_31 : th_i) : Int32 × th_i :=
  let u2 : Int32 × th_i := F_X12_finding τ Z gi_31 gr h0 (-1000001)
  let x2 : Int32 := u2.1
  let gi2 : th_i := u2.2
  (x2, gi2)
noncomputable def F_X12_boat (τ : th_t) (Z : th_Zt) (gi : th_i) (gr : th_r) (h0 : Nat) (p1 : Int32) (p2 : Int32) (p3 : Int32) : Int32 × th_i :=
  let x4 : Int32 := F_X12_within τ Z gi gr p1 0 2
  if x4 = (0 : Int32) then (
    f_X12_boat_31 τ Z gi gr h0 p1 p2 p3 gi) else (
    let x12 : Int32 := F_X12_within τ Z gi gr p2 10 300
    if x12 = (0 : Int32) then (
      f_X12_boat_31 τ Z gi gr h0 p1 p2 p3 gi) else (
      let x20 : Int32 := F_X12_within τ Z gi gr p3 0 100
      if x20 = (0 : Int32) then (
        f_X12_boat_31 τ Z gi gr h0 p1 p2 p3 gi) else (
        let x26 : Int32 := gi h0 8
        if x26 = (16 : Int32) then (
          let u63 : Int32 × th_i := F_X12_finding τ Z gi gr h0 (-1000004)
          let x63 : Int32 := u63.1
          let gi63 : th_i := u63.2
          (x63, gi63)) else (
          let q29 : Nat := (gr h0 9).getD 0
          let gi31 : th_i := va_up gi q29 (upd (gi q29) x26.toNatClampNeg p1)
          let q33 : Nat := (gr h0 10).getD 0
          let gi35 : th_i := va_up gi31 q33 (upd (gi31 q33) x26.toNatClampNeg p2)
          let q38 : Nat := (gr h0 11).getD 0
          let gi40 : th_i := va_up gi35 q38 (upd (gi35 q38) x26.toNatClampNeg p3)
          let q44 : Nat := (gr h0 12).getD 0
          let gi46 : th_i := va_up gi40 q44 (upd (gi40 q44) x26.toNatClampNeg (-1))
          let x52 : Int32 := x26 + 1
          let gi53 : th_i := va_up gi46 h0 (upd (gi46 h0) 8 x52)
          let x60 : Int32 := x52 - 1
          (x60, gi53)))))
set_option maxHeartbeats 8000000 in
set_option maxRecDepth 100000 in
theorem k_X12_boat (l : Launch) (D : va_G) (cA : Nat → ClassId) (Z : th_Zt) (τ : th_t) (gi : th_i) (gr : th_r) (sz : Nat) (h0 : Nat) (t_h0 : τ h0 = 12) (p1 : Int32) (p2 : Int32) (p3 : Int32) : Met l yX12_boat wsX12_boat ({ frames := 1, cells := 0, slots := 0, locals := 22 }) (va_Pc [.ref h0, .int p1, .int p2, .int p3] (th_Pre D cA Z τ gi gr sz)) (va_Qi (fun (r : Int32) (u : th_i × th_r) => th_Mod [1208, 4700, 4800, 4900, 5000, 5900] τ gi gr u.1 u.2 ∧ u.2 = gr ∧ (F_X12_boat τ Z gi gr h0 p1 p2 p3 = (r, u.1))) (fun (u : th_i × th_r) t => th_H D cA τ u.1 u.2 t.heap) (th_A τ sz)) 0 0 (th_A τ sz) := by
  refine Met.ofW (cc := cX12_boat) (maxL := 4) (ret := (some .int)) (by decide) rfl ?_
  intro p e s m args below meth c s₁ B hml hv
  obtain ⟨rfl, hsz, hH, hK, hN, hZ⟩ := hv
  have hx := B.exec
  have hb := B.bytes
  have hr := B.returns
  have hts := atoms_spec (ws := wsX12_boat) B.pre
  have hown : s.vm.findClass RX12 = some m.cls := findClass_of_methodNamed B.named
  have hlocks := B.notSynchronized
  subst hsz
  have hM : th_Mod [1208, 4700, 4800, 4900, 5000, 5900] τ gi gr gi gr := th_Mod.rf
  have J31 : ∀ (gi_31 : th_i) (H : Heap) (locs : List Loc) (ls : Array Slot), th_H D cA τ gi_31 gr H → va_S (th_A τ s.heap.size) s.heap H locs → th_Mod [1208, 4700, 4800, 4900, 5000, 5900] τ gi gr gi_31 gr → lv_has ls 4 [(0, .ref h0)] → F_X12_boat τ Z gi gr h0 p1 p2 p3 = f_X12_boat_31 τ Z gi gr h0 p1 p2 p3 gi_31 → W p l e (headSpec wsX12_boat ({ frames := 1, cells := 0, slots := 0, locals := 22 })).room s m [.ref h0, .int p1, .int p2, .int p3].toArray below meth c H locs 0 0 (MQ below (va_Qi (fun (r : Int32) (u : th_i × th_r) => th_Mod [1208, 4700, 4800, 4900, 5000, 5900] τ gi gr u.1 u.2 ∧ u.2 = gr ∧ (F_X12_boat τ Z gi gr h0 p1 p2 p3 = (r, u.1))) (fun (u : th_i × th_r) t => th_H D cA τ u.1 u.2 t.heap) (th_A τ s.heap.size)) [.ref h0, .int p1, .int p2, .int p3].toArray s 0 0 (th_A τ s.heap.size)) (F0 m 31 ls []) := by
    intro gi_31 H locs ls hH hS hM hl hF
    refine lv_aload_n hx hb dX12_boat_31 rfl (lv_at hl 0 rfl) ?_
    refine lv_ldc (v := (-1000001)) hx hb hown (hts (.constant RX12 119 (-1000001)) (List.mem_cons_of_mem _ (List.mem_append_left _ (List.mem_of_getElem? (i := 0) rfl)))) dX12_boat_32 ?_
    have hA1 := th_Asub (τ := τ) hS
    refine va_calli (va_runV (As := [.int (-1000001)]) (rest := []) ⟨hx, hb, hml, hown, hts⟩ (k_X12_finding l D cA Z τ gi_31 gr _ h0 t_h0 (-1000001) (rg_w rgc_m1000001 (th_leI rfl) (th_leI rfl))) (cwV 1 hts gX12_boat_X12_finding rfl rfl rfl hd_X12_finding__1 ⟨Nat.le_of_ble_eq_true rfl, Nat.le_of_ble_eq_true rfl⟩) ⟨th_blind, tr_12 hK hH t_h0, (th_pre hH hK hN hZ hS hA1)⟩ rfl rfl hl.1 rfl (lv_room (Nat.le_of_ble_eq_true rfl)) dX12_boat_34 ⟨Nat.le_of_ble_eq_true rfl, Nat.le_of_ble_eq_true rfl⟩) hS (fun q _ h => hA1 q h) hA1 (fun x2 u t H locs ht hvm hw2 hB hz1 hk1 hS => ?_)
    try dsimp only at hw2 hB
    rw [ht] at hB
    have hH := hB
    obtain ⟨gi2, gr2⟩ := u
    try dsimp only at hw2 hH
    obtain rfl : gr = gr2 := (hw2.2.1).symm
    have hM := hM.tr hw2.1 (fun _ h => h) (th_sub rfl)
    exact W.iret (v := x2) hx hb hr (fun t ht hW => ⟨⟨x2, (gi2, gr), rfl, ⟨hM, rfl, (hF.trans (by simp only [f_X12_boat_31, hw2.2.2.1]))⟩, th_Ht ht hH⟩, hS.F ht⟩) hS.2.2 dX12_boat_37
  have hS : va_S (th_A τ s.heap.size) s.heap s.heap [] := va_S.rf
  have hl := lv_entry ([.ref h0, .int p1, .int p2, .int p3]) (n := 4) (Nat.le_of_ble_eq_true rfl)
  rw [lg_entry_eq]
  generalize (lg_sl ([.ref h0, .int p1, .int p2, .int p3]) ++ List.replicate (4 - (lg_sl ([.ref h0, .int p1, .int p2, .int p3])).length) Slot.unset).toArray = ls at hl ⊢
  have hl : lv_has ls 4 [(0, .ref h0), (1, .int p1), (2, .int p2), (3, .int p3)] := hl
  have hF : F_X12_boat τ Z gi gr h0 p1 p2 p3 = F_X12_boat τ Z gi gr h0 p1 p2 p3 := rfl
  refine lv_iload_n hx hb dX12_boat_0 rfl (lv_at hl 1 rfl) ?_
  refine lv_iconst (v := 0) hx hb dX12_boat_1 ic_0 ?_
  refine lv_iconst (v := 2) hx hb dX12_boat_2 ic_2 ?_
  have hA3 := th_Asub (τ := τ) hS
  refine va_calli (va_runS (As := [.int p1, .int 0, .int 2]) (rest := []) ⟨hx, hb, hml, hown, hts⟩ (k_X12_within l D cA Z τ gi gr _ p1 0 2) (va_cwS 3 hts gX12_boat_X12_within rfl rfl rfl (by decide +kernel) ⟨Nat.le_of_ble_eq_true rfl, Nat.le_of_ble_eq_true rfl⟩) ⟨th_blind, (th_pre hH hK hN hZ hS hA3)⟩ rfl rfl hl.1 rfl (lv_room (Nat.le_of_ble_eq_true rfl)) dX12_boat_3 ⟨Nat.le_of_ble_eq_true rfl, Nat.le_of_ble_eq_true rfl⟩) hS (fun q _ h => hA3 q h) hA3 (fun x4 u t H locs ht hvm hw4 hB hz1 hk1 hS => ?_)
  try dsimp only at hw4 hB
  rw [ht] at hB
  have hH := hB
  refine lv_if_eq (tgt := 31) hx hb dX12_boat_6 (th_eqI rfl) (fun c5 => ?_) (fun c5 => ?_)
  · skip
    have f6 : rg 0 0 x4 := rg_w (rg_eq hw4.1 rgc_0 c5).1 (th_leI rfl) (th_leI rfl)
    exact J31 gi _ _ _ hH hS hM (lv_sub hl [0] rfl) (hF.trans (by simp only [↓reduceIte, F_X12_boat, hw4.2.2.1, eq_true c5]))
  · skip
    have f7 : rg 1 1 x4 := rg_w (rg_neL hw4.1 rgc_0 c5) (th_leI rfl) (th_leI rfl)
    have g8 := hw4.2.1 c5
    have f9 : rg 0 2147483647 p1 := rg_w (rg_le rgc_0 (rg_any p1) g8.1).2 (th_leI rfl) (th_leI rfl)
    have f10 : rg 0 2 p1 := rg_w (rg_le f9 rgc_2 g8.2).1 (th_leI rfl) (th_leI rfl)
    refine lv_iload_n hx hb dX12_boat_9 rfl (lv_at hl 2 rfl) ?_
    refine lv_bipush (v := 10) hx hb dX12_boat_10 bp_10 ?_
    refine lv_sipush (v := 300) hx hb dX12_boat_12 sp_300 ?_
    have hA11 := th_Asub (τ := τ) hS
    refine va_calli (va_runS (As := [.int p2, .int 10, .int 300]) (rest := []) ⟨hx, hb, hml, hown, hts⟩ (k_X12_within l D cA Z τ gi gr _ p2 10 300) (va_cwS 3 hts gX12_boat_X12_within rfl rfl rfl (by decide +kernel) ⟨Nat.le_of_ble_eq_true rfl, Nat.le_of_ble_eq_true rfl⟩) ⟨th_blind, (th_pre hH hK hN hZ hS hA11)⟩ rfl rfl hl.1 rfl (lv_room (Nat.le_of_ble_eq_true rfl)) dX12_boat_15 ⟨Nat.le_of_ble_eq_true rfl, Nat.le_of_ble_eq_true rfl⟩) hS (fun q _ h => hA11 q h) hA11 (fun x12 u t H locs ht hvm hw12 hB hz1 hk1 hS => ?_)
    try dsimp only at hw12 hB
    rw [ht] at hB
    have hH := hB
    refine lv_if_eq (tgt := 31) hx hb dX12_boat_18 (th_eqI rfl) (fun c13 => ?_) (fun c13 => ?_)
    · skip
      have f14 : rg 0 0 x12 := rg_w (rg_eq hw12.1 rgc_0 c13).1 (th_leI rfl) (th_leI rfl)
      exact J31 gi _ _ _ hH hS hM (lv_sub hl [0] rfl) (hF.trans (by simp only [↓reduceIte, F_X12_boat, hw4.2.2.1, eq_false c5, hw12.2.2.1, eq_true c13]))
    · skip
      have f15 : rg 1 1 x12 := rg_w (rg_neL hw12.1 rgc_0 c13) (th_leI rfl) (th_leI rfl)
      have g16 := hw12.2.1 c13
      have f17 : rg 10 2147483647 p2 := rg_w (rg_le rgc_10 (rg_any p2) g16.1).2 (th_leI rfl) (th_leI rfl)
      have f18 : rg 10 300 p2 := rg_w (rg_le f17 rgc_300 g16.2).1 (th_leI rfl) (th_leI rfl)
      refine lv_iload_n hx hb dX12_boat_21 rfl (lv_at hl 3 rfl) ?_
      refine lv_iconst (v := 0) hx hb dX12_boat_22 ic_0 ?_
      refine lv_bipush (v := 100) hx hb dX12_boat_23 bp_100 ?_
      have hA19 := th_Asub (τ := τ) hS
      refine va_calli (va_runS (As := [.int p3, .int 0, .int 100]) (rest := []) ⟨hx, hb, hml, hown, hts⟩ (k_X12_within l D cA Z τ gi gr _ p3 0 100) (va_cwS 3 hts gX12_boat_X12_within rfl rfl rfl (by decide +kernel) ⟨Nat.le_of_ble_eq_true rfl, Nat.le_of_ble_eq_true rfl⟩) ⟨th_blind, (th_pre hH hK hN hZ hS hA19)⟩ rfl rfl hl.1 rfl (lv_room (Nat.le_of_ble_eq_true rfl)) dX12_boat_25 ⟨Nat.le_of_ble_eq_true rfl, Nat.le_of_ble_eq_true rfl⟩) hS (fun q _ h => hA19 q h) hA19 (fun x20 u t H locs ht hvm hw20 hB hz1 hk1 hS => ?_)
      try dsimp only at hw20 hB
      rw [ht] at hB
      have hH := hB
      refine lv_if_ne (tgt := 38) hx hb dX12_boat_28 (th_eqI rfl) (fun c21 => ?_) (fun c21 => ?_)
      · skip
        have f22 : rg 1 1 x20 := rg_w (rg_neL hw20.1 rgc_0 c21) (th_leI rfl) (th_leI rfl)
        have g23 := hw20.2.1 c21
        have f24 : rg 0 2147483647 p3 := rg_w (rg_le rgc_0 (rg_any p3) g23.1).2 (th_leI rfl) (th_leI rfl)
        have f25 : rg 0 100 p3 := rg_w (rg_le f24 rgc_100 g23.2).1 (th_leI rfl) (th_leI rfl)
        refine lv_aload_n hx hb dX12_boat_38 rfl (lv_at hl 0 rfl) ?_
        obtain ⟨x26, e26⟩ : ∃ y : Int32, y = gi h0 8 := ⟨_, rfl⟩
        refine th_get (ci := 11) (v := .int x26) (T := TX12) (C := RX12) (N := 38) hx hb hts (fun w h => List.mem_cons_of_mem _ (List.mem_append_right _ h)) hown hK hH t_h0 (th_nz rfl) (thE_12 _ _ _) rfl 8 (th_ltN rfl) (hts (.fieldLink RX12 116 "BayMooringsModel" "boats" "I") (List.mem_cons_of_mem _ (List.mem_append_left _ (List.mem_of_getElem? (i := 1) rfl)))) (fun _ h9 => h9) (th_fI e26 rfl) dX12_boat_39 ?_
        have f26 : rg 0 16 x26 := rg_e e26 ((thI_12 hH t_h0).2.2.2.2.2.2.2.2.1)
        refine lv_bipush (v := 16) hx hb dX12_boat_42 bp_16 ?_
        refine lv_icmp_ne (tgt := 54) hx hb dX12_boat_44 (th_eqI rfl) (fun c27 => ?_) (fun c27 => ?_)
        · skip
          have f28 : rg 0 15 x26 := rg_w (rg_neR f26 rgc_16 c27) (th_leI rfl) (th_leI rfl)
          refine lv_aload_n hx hb dX12_boat_54 rfl (lv_at hl 0 rfl) ?_
          obtain ⟨q29, r29, t29⟩ : ∃ q, gr h0 9 = some q ∧ τ q = 47 := (thI_12 hH t_h0).2.2.2.2.2.2.2.2.2.1
          refine th_get (ci := 11) (v := .ref q29) (T := TX12) (C := RX12) (N := 38) hx hb hts (fun w h => List.mem_cons_of_mem _ (List.mem_append_right _ h)) hown hK hH t_h0 (th_nz rfl) (thE_12 _ _ _) rfl 9 (th_ltN rfl) (hts (.fieldLink RX12 31 "BayMooringsModel" "kindOf" "[I") (List.mem_cons_of_mem _ (List.mem_append_left _ (List.mem_of_getElem? (i := 3) rfl)))) (fun _ h9 => h9) (th_fR r29 rfl) dX12_boat_55 ?_
          refine lv_aload_n hx hb dX12_boat_58 rfl (lv_at hl 0 rfl) ?_
          refine th_get (ci := 11) (v := .int x26) (T := TX12) (C := RX12) (N := 38) hx hb hts (fun w h => List.mem_cons_of_mem _ (List.mem_append_right _ h)) hown hK hH t_h0 (th_nz rfl) (thE_12 _ _ _) rfl 8 (th_ltN rfl) (hts (.fieldLink RX12 116 "BayMooringsModel" "boats" "I") (List.mem_cons_of_mem _ (List.mem_append_left _ (List.mem_of_getElem? (i := 1) rfl)))) (fun _ h9 => h9) (th_fI e26 rfl) dX12_boat_59 ?_
          refine lv_iload_n hx hb dX12_boat_62 rfl (lv_at hl 1 rfl) ?_
          refine th_iast hx hb hK hH hS t29 (th_nz rfl) (Or.inl (th_nzE t29 rfl)) 0 (fun _ => thE_47 _ _ _) rfl (rg_in (n := 16) f28 (th_leI rfl) (th_ltI rfl)) (trivial) dX12_boat_63 (fun gi31 H locs hu31 ho31 hH hS => ?_)
          have eg31 : gi31 = va_up gi q29 (upd (gi q29) x26.toNatClampNeg p1) := th_upE hu31 ho31
          have e32 : x26 = gi31 h0 8 := Eq.trans e26 (Eq.symm (ho31 _ _ (Or.inl (th_ne t_h0 t29 (th_nz rfl)))))
          have hM := hM.i t29 (th_mem (a := 4700) rfl) ho31
          refine lv_aload_n hx hb dX12_boat_64 rfl (lv_at hl 0 rfl) ?_
          obtain ⟨q33, r33, t33⟩ : ∃ q, gr h0 10 = some q ∧ τ q = 48 := (thI_12 hH t_h0).2.2.2.2.2.2.2.2.2.2.1
          refine th_get (ci := 11) (v := .ref q33) (T := TX12) (C := RX12) (N := 38) hx hb hts (fun w h => List.mem_cons_of_mem _ (List.mem_append_right _ h)) hown hK hH t_h0 (th_nz rfl) (thE_12 _ _ _) rfl 10 (th_ltN rfl) (hts (.fieldLink RX12 34 "BayMooringsModel" "lengthOf" "[I") (List.mem_cons_of_mem _ (List.mem_append_left _ (List.mem_of_getElem? (i := 4) rfl)))) (fun _ h9 => h9) (th_fR r33 rfl) dX12_boat_65 ?_
          refine lv_aload_n hx hb dX12_boat_68 rfl (lv_at hl 0 rfl) ?_
          refine th_get (ci := 11) (v := .int x26) (T := TX12) (C := RX12) (N := 38) hx hb hts (fun w h => List.mem_cons_of_mem _ (List.mem_append_right _ h)) hown hK hH t_h0 (th_nz rfl) (thE_12 _ _ _) rfl 8 (th_ltN rfl) (hts (.fieldLink RX12 116 "BayMooringsModel" "boats" "I") (List.mem_cons_of_mem _ (List.mem_append_left _ (List.mem_of_getElem? (i := 1) rfl)))) (fun _ h9 => h9) (th_fI e32 rfl) dX12_boat_69 ?_
          refine lv_iload_n hx hb dX12_boat_72 rfl (lv_at hl 2 rfl) ?_
          refine th_iast hx hb hK hH hS t33 (th_nz rfl) (Or.inl (th_nzE t33 rfl)) 0 (fun _ => thE_48 _ _ _) rfl (rg_in (n := 16) f28 (th_leI rfl) (th_ltI rfl)) (trivial) dX12_boat_73 (fun gi35 H locs hu35 ho35 hH hS => ?_)
          have eg35 : gi35 = va_up gi31 q33 (upd (gi31 q33) x26.toNatClampNeg p2) := th_upE hu35 ho35
          have e36 : x26 = gi35 h0 8 := Eq.trans e32 (Eq.symm (ho35 _ _ (Or.inl (th_ne t_h0 t33 (th_nz rfl)))))
          have e37 : p1 = gi35 q29 (x26.toNatClampNeg) := Eq.trans hu31.symm (Eq.symm (ho35 _ _ (Or.inl (th_ne t29 t33 (th_nz rfl)))))
          have hM := hM.i t33 (th_mem (a := 4800) rfl) ho35
          refine lv_aload_n hx hb dX12_boat_74 rfl (lv_at hl 0 rfl) ?_
          obtain ⟨q38, r38, t38⟩ : ∃ q, gr h0 11 = some q ∧ τ q = 49 := (thI_12 hH t_h0).2.2.2.2.2.2.2.2.2.2.2.1
          refine th_get (ci := 11) (v := .ref q38) (T := TX12) (C := RX12) (N := 38) hx hb hts (fun w h => List.mem_cons_of_mem _ (List.mem_append_right _ h)) hown hK hH t_h0 (th_nz rfl) (thE_12 _ _ _) rfl 11 (th_ltN rfl) (hts (.fieldLink RX12 37 "BayMooringsModel" "draughtOf" "[I") (List.mem_cons_of_mem _ (List.mem_append_left _ (List.mem_of_getElem? (i := 5) rfl)))) (fun _ h9 => h9) (th_fR r38 rfl) dX12_boat_75 ?_
          refine lv_aload_n hx hb dX12_boat_78 rfl (lv_at hl 0 rfl) ?_
          refine th_get (ci := 11) (v := .int x26) (T := TX12) (C := RX12) (N := 38) hx hb hts (fun w h => List.mem_cons_of_mem _ (List.mem_append_right _ h)) hown hK hH t_h0 (th_nz rfl) (thE_12 _ _ _) rfl 8 (th_ltN rfl) (hts (.fieldLink RX12 116 "BayMooringsModel" "boats" "I") (List.mem_cons_of_mem _ (List.mem_append_left _ (List.mem_of_getElem? (i := 1) rfl)))) (fun _ h9 => h9) (th_fI e36 rfl) dX12_boat_79 ?_
          refine lv_iload_n hx hb dX12_boat_82 rfl (lv_at hl 3 rfl) ?_
          refine th_iast hx hb hK hH hS t38 (th_nz rfl) (Or.inl (th_nzE t38 rfl)) 0 (fun _ => thE_49 _ _ _) rfl (rg_in (n := 16) f28 (th_leI rfl) (th_ltI rfl)) (trivial) dX12_boat_83 (fun gi40 H locs hu40 ho40 hH hS => ?_)
          have eg40 : gi40 = va_up gi35 q38 (upd (gi35 q38) x26.toNatClampNeg p3) := th_upE hu40 ho40
          have e41 : x26 = gi40 h0 8 := Eq.trans e36 (Eq.symm (ho40 _ _ (Or.inl (th_ne t_h0 t38 (th_nz rfl)))))
          have e42 : p1 = gi40 q29 (x26.toNatClampNeg) := Eq.trans e37 (Eq.symm (ho40 _ _ (Or.inl (th_ne t29 t38 (th_nz rfl)))))
          have e43 : p2 = gi40 q33 (x26.toNatClampNeg) := Eq.trans hu35.symm (Eq.symm (ho40 _ _ (Or.inl (th_ne t33 t38 (th_nz rfl)))))
          have hM := hM.i t38 (th_mem (a := 4900) rfl) ho40
          refine lv_aload_n hx hb dX12_boat_84 rfl (lv_at hl 0 rfl) ?_
          obtain ⟨q44, r44, t44⟩ : ∃ q, gr h0 12 = some q ∧ τ q = 50 := (thI_12 hH t_h0).2.2.2.2.2.2.2.2.2.2.2.2.1
          refine th_get (ci := 11) (v := .ref q44) (T := TX12) (C := RX12) (N := 38) hx hb hts (fun w h => List.mem_cons_of_mem _ (List.mem_append_right _ h)) hown hK hH t_h0 (th_nz rfl) (thE_12 _ _ _) rfl 12 (th_ltN rfl) (hts (.fieldLink RX12 40 "BayMooringsModel" "buoyOf" "[I") (List.mem_cons_of_mem _ (List.mem_append_left _ (List.mem_of_getElem? (i := 6) rfl)))) (fun _ h9 => h9) (th_fR r44 rfl) dX12_boat_85 ?_
          refine lv_aload_n hx hb dX12_boat_88 rfl (lv_at hl 0 rfl) ?_
          refine th_get (ci := 11) (v := .int x26) (T := TX12) (C := RX12) (N := 38) hx hb hts (fun w h => List.mem_cons_of_mem _ (List.mem_append_right _ h)) hown hK hH t_h0 (th_nz rfl) (thE_12 _ _ _) rfl 8 (th_ltN rfl) (hts (.fieldLink RX12 116 "BayMooringsModel" "boats" "I") (List.mem_cons_of_mem _ (List.mem_append_left _ (List.mem_of_getElem? (i := 1) rfl)))) (fun _ h9 => h9) (th_fI e41 rfl) dX12_boat_89 ?_
          refine lv_iconst (v := (-1)) hx hb dX12_boat_92 ic_m1 ?_
          refine th_iast hx hb hK hH hS t44 (th_nz rfl) (Or.inl (th_nzE t44 rfl)) 0 (fun _ => thE_50 _ _ _) rfl (rg_in (n := 16) f28 (th_leI rfl) (th_ltI rfl)) (th_ai (P := rg (-1) 11) (thI_50 hH t44) (rg_w rgc_m1 (th_leI rfl) (th_leI rfl))) dX12_boat_93 (fun gi46 H locs hu46 ho46 hH hS => ?_)
          have eg46 : gi46 = va_up gi40 q44 (upd (gi40 q44) x26.toNatClampNeg (-1)) := th_upE hu46 ho46
          have e47 : x26 = gi46 h0 8 := Eq.trans e41 (Eq.symm (ho46 _ _ (Or.inl (th_ne t_h0 t44 (th_nz rfl)))))
          have e48 : p1 = gi46 q29 (x26.toNatClampNeg) := Eq.trans e42 (Eq.symm (ho46 _ _ (Or.inl (th_ne t29 t44 (th_nz rfl)))))
          have e49 : p2 = gi46 q33 (x26.toNatClampNeg) := Eq.trans e43 (Eq.symm (ho46 _ _ (Or.inl (th_ne t33 t44 (th_nz rfl)))))
          have e50 : p3 = gi46 q38 (x26.toNatClampNeg) := Eq.trans hu40.symm (Eq.symm (ho46 _ _ (Or.inl (th_ne t38 t44 (th_nz rfl)))))
          have hM := hM.i t44 (th_mem (a := 5000) rfl) ho46
          refine lv_aload_n hx hb dX12_boat_94 rfl (lv_at hl 0 rfl) ?_
          refine lv_dup hx hb dX12_boat_95 rfl ?_
          refine th_get (ci := 11) (v := .int x26) (T := TX12) (C := RX12) (N := 38) hx hb hts (fun w h => List.mem_cons_of_mem _ (List.mem_append_right _ h)) hown hK hH t_h0 (th_nz rfl) (thE_12 _ _ _) rfl 8 (th_ltN rfl) (hts (.fieldLink RX12 116 "BayMooringsModel" "boats" "I") (List.mem_cons_of_mem _ (List.mem_append_left _ (List.mem_of_getElem? (i := 1) rfl)))) (fun _ h9 => h9) (th_fI e47 rfl) dX12_boat_96 ?_
          refine lv_iconst (v := 1) hx hb dX12_boat_99 ic_1 ?_
          refine lv_iadd hx hb dX12_boat_100 ?_
          refine lv_topi (fun x52 e52 => ?_)
          have f52 : rg 1 16 x52 := rg_e e52 (rg_w (rg_add f28 rgc_1 (th_leI rfl) (th_leI rfl)) (th_leI rfl) (th_leI rfl))
          refine th_put (ci := 11) (v := .int x52) (T := TX12) (C := RX12) (N := 38) (ty := .int) (gi' := va_up gi46 h0 (upd (gi46 h0) 8 x52)) (gr' := gr) hx hb hts (fun w h => List.mem_cons_of_mem _ (List.mem_append_right _ h)) tyX12 tyX12_ok nmX12 hown hK hH hS t_h0 (th_nz rfl) (Or.inl (th_nzE t_h0 rfl)) rfl rfl 8 (th_ltN rfl) (hts (.fieldLink RX12 116 "BayMooringsModel" "boats" "I") (List.mem_cons_of_mem _ (List.mem_append_left _ (List.mem_of_getElem? (i := 1) rfl)))) (fun _ h9 => h9) rfl (by decide +kernel) rfl rfl (Nat.le_of_ble_eq_true rfl) (by rw [va_up_self]; rfl) (by rw [va_up_self]; show rg 0 12 (gi46 h0 0) ∧ (∃ q, gr h0 1 = some q ∧ τ q = 40) ∧ (∃ q, gr h0 2 = some q ∧ τ q = 41) ∧ (∃ q, gr h0 3 = some q ∧ τ q = 42) ∧ (∃ q, gr h0 4 = some q ∧ τ q = 43) ∧ (∃ q, gr h0 5 = some q ∧ τ q = 44) ∧ (∃ q, gr h0 6 = some q ∧ τ q = 45) ∧ (∃ q, gr h0 7 = some q ∧ τ q = 46) ∧ rg 0 16 x52 ∧ (∃ q, gr h0 9 = some q ∧ τ q = 47) ∧ (∃ q, gr h0 10 = some q ∧ τ q = 48) ∧ (∃ q, gr h0 11 = some q ∧ τ q = 49) ∧ (∃ q, gr h0 12 = some q ∧ τ q = 50) ∧ (∃ q, gr h0 13 = some q ∧ τ q = 51) ∧ (∃ q, gr h0 15 = some q ∧ τ q = 52) ∧ (∃ q, gr h0 16 = some q ∧ τ q = 53) ∧ rg 0 10 (gi46 h0 17) ∧ (∃ q, gr h0 18 = some q ∧ τ q = 54) ∧ (∃ q, gr h0 19 = some q ∧ τ q = 55) ∧ (∃ q, gr h0 21 = some q ∧ τ q = 56) ∧ (∃ q, gr h0 22 = some q ∧ τ q = 57) ∧ rg 0 24 (gi46 h0 24) ∧ (∃ q, gr h0 25 = some q ∧ τ q = 58) ∧ (∃ q, gr h0 26 = some q ∧ τ q = 59) ∧ rg 0 5 (gi46 h0 27) ∧ (∃ q, gr h0 28 = some q ∧ τ q = 60) ∧ (∃ q, gr h0 29 = some q ∧ τ q = 61) ∧ (∃ q, gr h0 30 = some q ∧ τ q = 62) ∧ (∃ q, gr h0 31 = some q ∧ τ q = 63) ∧ (∃ q, gr h0 32 = some q ∧ τ q = 64) ∧ (∃ q, gr h0 34 = some q ∧ τ q = 65) ∧ (∃ q, gr h0 35 = some q ∧ τ q = 66) ∧ (∃ q, gr h0 36 = some q ∧ τ q = 67) ∧ (∃ q, gr h0 37 = some q ∧ τ q = 68); exact ⟨(thI_12 hH t_h0).1, (thI_12 hH t_h0).2.1, (thI_12 hH t_h0).2.2.1, (thI_12 hH t_h0).2.2.2.1, (thI_12 hH t_h0).2.2.2.2.1, (thI_12 hH t_h0).2.2.2.2.2.1, (thI_12 hH t_h0).2.2.2.2.2.2.1, (thI_12 hH t_h0).2.2.2.2.2.2.2.1, (rg_w f52 (th_leI rfl) (th_leI rfl)), (thI_12 hH t_h0).2.2.2.2.2.2.2.2.2.1, (thI_12 hH t_h0).2.2.2.2.2.2.2.2.2.2.1, (thI_12 hH t_h0).2.2.2.2.2.2.2.2.2.2.2.1, (thI_12 hH t_h0).2.2.2.2.2.2.2.2.2.2.2.2.1, (thI_12 hH t_h0).2.2.2.2.2.2.2.2.2.2.2.2.2.1, (thI_12 hH t_h0).2.2.2.2.2.2.2.2.2.2.2.2.2.2.1, (thI_12 hH t_h0).2.2.2.2.2.2.2.2.2.2.2.2.2.2.2.1, (thI_12 hH t_h0).2.2.2.2.2.2.2.2.2.2.2.2.2.2.2.2.1, (thI_12 hH t_h0).2.2.2.2.2.2.2.2.2.2.2.2.2.2.2.2.2.1, (thI_12 hH t_h0).2.2.2.2.2.2.2.2.2.2.2.2.2.2.2.2.2.2.1, (thI_12 hH t_h0).2.2.2.2.2.2.2.2.2.2.2.2.2.2.2.2.2.2.2.1, (thI_12 hH t_h0).2.2.2.2.2.2.2.2.2.2.2.2.2.2.2.2.2.2.2.2.1, (thI_12 hH t_h0).2.2.2.2.2.2.2.2.2.2.2.2.2.2.2.2.2.2.2.2.2.1, (thI_12 hH t_h0).2.2.2.2.2.2.2.2.2.2.2.2.2.2.2.2.2.2.2.2.2.2.1, (thI_12 hH t_h0).2.2.2.2.2.2.2.2.2.2.2.2.2.2.2.2.2.2.2.2.2.2.2.1, (thI_12 hH t_h0).2.2.2.2.2.2.2.2.2.2.2.2.2.2.2.2.2.2.2.2.2.2.2.2.1, (thI_12 hH t_h0).2.2.2.2.2.2.2.2.2.2.2.2.2.2.2.2.2.2.2.2.2.2.2.2.2.1, (thI_12 hH t_h0).2.2.2.2.2.2.2.2.2.2.2.2.2.2.2.2.2.2.2.2.2.2.2.2.2.2.1, (thI_12 hH t_h0).2.2.2.2.2.2.2.2.2.2.2.2.2.2.2.2.2.2.2.2.2.2.2.2.2.2.2.1, (thI_12 hH t_h0).2.2.2.2.2.2.2.2.2.2.2.2.2.2.2.2.2.2.2.2.2.2.2.2.2.2.2.2.1, (thI_12 hH t_h0).2.2.2.2.2.2.2.2.2.2.2.2.2.2.2.2.2.2.2.2.2.2.2.2.2.2.2.2.2.1, (thI_12 hH t_h0).2.2.2.2.2.2.2.2.2.2.2.2.2.2.2.2.2.2.2.2.2.2.2.2.2.2.2.2.2.2.1, (thI_12 hH t_h0).2.2.2.2.2.2.2.2.2.2.2.2.2.2.2.2.2.2.2.2.2.2.2.2.2.2.2.2.2.2.2.1, (thI_12 hH t_h0).2.2.2.2.2.2.2.2.2.2.2.2.2.2.2.2.2.2.2.2.2.2.2.2.2.2.2.2.2.2.2.2.1, (thI_12 hH t_h0).2.2.2.2.2.2.2.2.2.2.2.2.2.2.2.2.2.2.2.2.2.2.2.2.2.2.2.2.2.2.2.2.2⟩) (fun b hb => ⟨va_up_ne _ _ hb, rfl⟩) dX12_boat_101 (fun H locs hH hS => ?_)
          obtain ⟨gi53, eg53⟩ : ∃ g, g = va_up gi46 h0 (upd (gi46 h0) 8 x52) := ⟨_, rfl⟩
          rw [← eg53] at hH
          have hu53 : gi53 h0 8 = x52 := (th_uI eg53).1
          have ho53 : ∀ b j, b ≠ h0 ∨ j ≠ 8 → gi53 b j = gi46 b j := (th_uI eg53).2
          have e55 : p1 = gi53 q29 (x26.toNatClampNeg) := Eq.trans e48 (Eq.symm (ho53 _ _ (Or.inl (th_ne t29 t_h0 (th_nz rfl)))))
          have e56 : p2 = gi53 q33 (x26.toNatClampNeg) := Eq.trans e49 (Eq.symm (ho53 _ _ (Or.inl (th_ne t33 t_h0 (th_nz rfl)))))
          have e57 : p3 = gi53 q38 (x26.toNatClampNeg) := Eq.trans e50 (Eq.symm (ho53 _ _ (Or.inl (th_ne t38 t_h0 (th_nz rfl)))))
          have e58 : (-1) = gi53 q44 (x26.toNatClampNeg) := Eq.trans hu46.symm (Eq.symm (ho53 _ _ (Or.inl (th_ne t44 t_h0 (th_nz rfl)))))
          have hM := hM.i t_h0 (th_mem (a := 1208) rfl) ho53
          refine lv_aload_n hx hb dX12_boat_104 rfl (lv_at hl 0 rfl) ?_
          refine th_get (ci := 11) (v := .int x52) (T := TX12) (C := RX12) (N := 38) hx hb hts (fun w h => List.mem_cons_of_mem _ (List.mem_append_right _ h)) hown hK hH t_h0 (th_nz rfl) (thE_12 _ _ _) rfl 8 (th_ltN rfl) (hts (.fieldLink RX12 116 "BayMooringsModel" "boats" "I") (List.mem_cons_of_mem _ (List.mem_append_left _ (List.mem_of_getElem? (i := 1) rfl)))) (fun _ h9 => h9) (th_fI hu53.symm rfl) dX12_boat_105 ?_
          refine lv_iconst (v := 1) hx hb dX12_boat_108 ic_1 ?_
          refine lv_isub hx hb dX12_boat_109 ?_
          refine lv_topi (fun x60 e60 => ?_)
          have f60 : rg 0 15 x60 := rg_e e60 (rg_w (rg_sub f52 rgc_1 (th_leI rfl) (th_leI rfl)) (th_leI rfl) (th_leI rfl))
          exact W.iret (v := x60) hx hb hr (fun t ht hW => ⟨⟨x60, (gi53, gr), rfl, ⟨hM, rfl, (hF.trans (by simp only [↓reduceIte, F_X12_boat, hw4.2.2.1, eq_false c5, hw12.2.2.1, eq_false c13, hw20.2.2.1, eq_false c21, ← e26, eq_false c27, r29, Option.getD_some, ← eg31, r33, ← eg35, r38, ← eg40, r44, ← eg46, ← e52, ← eg53, ← e60]))⟩, th_Ht ht hH⟩, hS.F ht⟩) hS.2.2 dX12_boat_110
        · skip
          have f61 : rg 16 16 x26 := rg_w (rg_eq f26 rgc_16 c27).1 (th_leI rfl) (th_leI rfl)
          refine lv_aload_n hx hb dX12_boat_47 rfl (lv_at hl 0 rfl) ?_
          refine lv_ldc (v := (-1000004)) hx hb hown (hts (.constant RX12 124 (-1000004)) (List.mem_cons_of_mem _ (List.mem_append_left _ (List.mem_of_getElem? (i := 2) rfl)))) dX12_boat_48 ?_
          have hA62 := th_Asub (τ := τ) hS
          refine va_calli (va_runV (As := [.int (-1000004)]) (rest := []) ⟨hx, hb, hml, hown, hts⟩ (k_X12_finding l D cA Z τ gi gr _ h0 t_h0 (-1000004) (rg_w rgc_m1000004 (th_leI rfl) (th_leI rfl))) (cwV 1 hts gX12_boat_X12_finding rfl rfl rfl hd_X12_finding__1 ⟨Nat.le_of_ble_eq_true rfl, Nat.le_of_ble_eq_true rfl⟩) ⟨th_blind, tr_12 hK hH t_h0, (th_pre hH hK hN hZ hS hA62)⟩ rfl rfl hl.1 rfl (lv_room (Nat.le_of_ble_eq_true rfl)) dX12_boat_50 ⟨Nat.le_of_ble_eq_true rfl, Nat.le_of_ble_eq_true rfl⟩) hS (fun q _ h => hA62 q h) hA62 (fun x63 u t H locs ht hvm hw63 hB hz1 hk1 hS => ?_)
          try dsimp only at hw63 hB
          rw [ht] at hB
          have hH := hB
          obtain ⟨gi63, gr63⟩ := u
          try dsimp only at hw63 hH
          obtain rfl : gr = gr63 := (hw63.2.1).symm
          have hM := hM.tr hw63.1 (fun _ h => h) (th_sub rfl)
          have e64 : x26 = gi63 h0 8 := Eq.trans e26 (Eq.symm (hw63.1 h0 8 (th_nzE t_h0 rfl) (th_nmE (key := 1208) t_h0 rfl rfl)).1)
          exact W.iret (v := x63) hx hb hr (fun t ht hW => ⟨⟨x63, (gi63, gr), rfl, ⟨hM, rfl, (hF.trans (by simp only [↓reduceIte, F_X12_boat, hw4.2.2.1, eq_false c5, hw12.2.2.1, eq_false c13, hw20.2.2.1, eq_false c21, ← e26, eq_true c27, hw63.2.2.1]))⟩, th_Ht ht hH⟩, hS.F ht⟩) hS.2.2 dX12_boat_53
      · skip
        have f65 : rg 0 0 x20 := rg_w (rg_eq hw20.1 rgc_0 c21).1 (th_leI rfl) (th_leI rfl)
        exact J31 gi _ _ _ hH hS hM (lv_sub hl [0] rfl) (hF.trans (by simp only [↓reduceIte, F_X12_boat, hw4.2.2.1, eq_false c5, hw12.2.2.1, eq_false c13, hw20.2.2.1, eq_true c21]))

noncomputable def F_X12_duesOf (τ : th_t) (Z : th_Zt) (gi : th_i) (gr : th_r) (h0 : Nat) (p1 : Int32) : Int32 :=
  let q1 : Nat := (gr h0 10).getD 0
  let x2 : Int32 := gi q1 p1.toNatClampNeg
  let x3 : Int32 := gi h0 23
  let x4 : Int32 := x2 * x3
  let x5 : Int32 := x4 + 9
  let x6 : Int32 := x5 / 10
  let q7 : Nat := (gr h0 9).getD 0
  let x8 : Int32 := gi q7 p1.toNatClampNeg
  if x8 = (1 : Int32) then (
    let x11 : Int32 := x6 / 2
    let x12 : Int32 := x6 + x11
    x12) else (
    x6)
set_option maxHeartbeats 8000000 in
set_option maxRecDepth 100000 in
theorem k_X12_duesOf (l : Launch) (D : va_G) (cA : Nat → ClassId) (Z : th_Zt) (τ : th_t) (gi : th_i) (gr : th_r) (sz : Nat) (h0 : Nat) (t_h0 : τ h0 = 12) (p1 : Int32) (f_p1 : rg 0 15 p1) : Met l yX12_duesOf wsX12_duesOf ({ frames := 0, cells := 0, slots := 0, locals := 0 }) (va_Pc [.ref h0, .int p1] (th_Pre D cA Z τ gi gr sz)) (va_Qi (fun (r : Int32) (_ : Unit) => (F_X12_duesOf τ Z gi gr h0 p1 = r)) (fun (_ : Unit) t => th_H D cA τ gi gr t.heap) (th_A τ sz)) 0 0 (th_A τ sz) := by
  refine Met.ofW (cc := cX12_duesOf) (maxL := 3) (ret := (some .int)) (by decide) rfl ?_
  intro p e s m args below meth c s₁ B hml hv
  obtain ⟨rfl, hsz, hH, hK, hN, hZ⟩ := hv
  have hx := B.exec
  have hb := B.bytes
  have hr := B.returns
  have hts := atoms_spec (ws := wsX12_duesOf) B.pre
  have hown : s.vm.findClass RX12 = some m.cls := findClass_of_methodNamed B.named
  have hlocks := B.notSynchronized
  subst hsz
  have hS : va_S (th_A τ s.heap.size) s.heap s.heap [] := va_S.rf
  have hl := lv_entry ([.ref h0, .int p1]) (n := 3) (Nat.le_of_ble_eq_true rfl)
  rw [lg_entry_eq]
  generalize (lg_sl ([.ref h0, .int p1]) ++ List.replicate (3 - (lg_sl ([.ref h0, .int p1])).length) Slot.unset).toArray = ls at hl ⊢
  have hl : lv_has ls 3 [(0, .ref h0), (1, .int p1)] := hl
  have hF : F_X12_duesOf τ Z gi gr h0 p1 = F_X12_duesOf τ Z gi gr h0 p1 := rfl
  refine lv_aload_n hx hb dX12_duesOf_0 rfl (lv_at hl 0 rfl) ?_
  obtain ⟨q1, r1, t1⟩ : ∃ q, gr h0 10 = some q ∧ τ q = 48 := (thI_12 hH t_h0).2.2.2.2.2.2.2.2.2.2.1
  refine th_get (ci := 11) (v := .ref q1) (T := TX12) (C := RX12) (N := 38) hx hb hts (fun w h => List.mem_cons_of_mem _ (List.mem_append_right _ h)) hown hK hH t_h0 (th_nz rfl) (thE_12 _ _ _) rfl 10 (th_ltN rfl) (hts (.fieldLink RX12 34 "BayMooringsModel" "lengthOf" "[I") (List.mem_cons_of_mem _ (List.mem_append_left _ (List.mem_of_getElem? (i := 0) rfl)))) (fun _ h9 => h9) (th_fR r1 rfl) dX12_duesOf_1 ?_
  refine lv_iload_n hx hb dX12_duesOf_4 rfl (lv_at hl 1 rfl) ?_
  refine th_iald hx hb hK hH t1 (th_nz rfl) 0 (thE_48 _ _ _) rfl (rg_in (n := 16) f_p1 (th_leI rfl) (th_ltI rfl)) dX12_duesOf_5 ?_
  refine lv_topi (fun x2 e2 => ?_)
  refine lv_aload_n hx hb dX12_duesOf_6 rfl (lv_at hl 0 rfl) ?_
  obtain ⟨x3, e3⟩ : ∃ y : Int32, y = gi h0 23 := ⟨_, rfl⟩
  refine th_get (ci := 11) (v := .int x3) (T := TX12) (C := RX12) (N := 38) hx hb hts (fun w h => List.mem_cons_of_mem _ (List.mem_append_right _ h)) hown hK hH t_h0 (th_nz rfl) (thE_12 _ _ _) rfl 23 (th_ltN rfl) (hts (.fieldLink RX12 71 "BayMooringsModel" "rate" "I") (List.mem_cons_of_mem _ (List.mem_append_left _ (List.mem_of_getElem? (i := 1) rfl)))) (fun _ h9 => h9) (th_fI e3 rfl) dX12_duesOf_7 ?_
  refine lv_imul hx hb dX12_duesOf_10 ?_
  refine lv_topi (fun x4 e4 => ?_)
  refine lv_bipush (v := 9) hx hb dX12_duesOf_11 bp_9 ?_
  refine lv_iadd hx hb dX12_duesOf_13 ?_
  refine lv_topi (fun x5 e5 => ?_)
  refine lv_bipush (v := 10) hx hb dX12_duesOf_14 bp_10 ?_
  refine lv_idiv hx hb dX12_duesOf_16 (rg_ne0 rgc_10 (Or.inl (th_ltI rfl))) ?_
  refine lv_topi (fun x6 e6 => ?_)
  refine lv_istore_n (i := 2) (lv' := [(2, .int x6), (0, .ref h0), (1, .int p1)]) hx hb dX12_duesOf_17 rfl hl (th_ltN rfl) rfl (fun ls hl => ?_)
  refine lv_aload_n hx hb dX12_duesOf_18 rfl (lv_at hl 1 rfl) ?_
  obtain ⟨q7, r7, t7⟩ : ∃ q, gr h0 9 = some q ∧ τ q = 47 := (thI_12 hH t_h0).2.2.2.2.2.2.2.2.2.1
  refine th_get (ci := 11) (v := .ref q7) (T := TX12) (C := RX12) (N := 38) hx hb hts (fun w h => List.mem_cons_of_mem _ (List.mem_append_right _ h)) hown hK hH t_h0 (th_nz rfl) (thE_12 _ _ _) rfl 9 (th_ltN rfl) (hts (.fieldLink RX12 31 "BayMooringsModel" "kindOf" "[I") (List.mem_cons_of_mem _ (List.mem_append_left _ (List.mem_of_getElem? (i := 2) rfl)))) (fun _ h9 => h9) (th_fR r7 rfl) dX12_duesOf_19 ?_
  refine lv_iload_n hx hb dX12_duesOf_22 rfl (lv_at hl 2 rfl) ?_
  refine th_iald hx hb hK hH t7 (th_nz rfl) 0 (thE_47 _ _ _) rfl (rg_in (n := 16) f_p1 (th_leI rfl) (th_ltI rfl)) dX12_duesOf_23 ?_
  refine lv_topi (fun x8 e8 => ?_)
  refine lv_iconst (v := 1) hx hb dX12_duesOf_24 ic_1 ?_
  refine lv_icmp_ne (tgt := 36) hx hb dX12_duesOf_25 (th_eqI rfl) (fun c9 => ?_) (fun c9 => ?_)
  · skip
    refine lv_iload_n hx hb dX12_duesOf_36 rfl (lv_at hl 0 rfl) ?_
    exact W.iret (v := x6) hx hb hr (fun t ht hW => ⟨⟨x6, (), rfl, (hF.trans (by simp only [↓reduceIte, F_X12_duesOf, r1, Option.getD_some, ← e2, ← e3, ← e4, ← e5, ← e6, r7, ← e8, eq_false c9])), th_Ht ht hH⟩, hS.F ht⟩) hS.2.2 dX12_duesOf_37
  · skip
    have f10 : rg 1 1 x8 := rg_w (rg_eq (rg_any x8) rgc_1 c9).1 (th_leI rfl) (th_leI rfl)
    refine lv_iload_n hx hb dX12_duesOf_28 rfl (lv_at hl 0 rfl) ?_
    refine lv_iload_n hx hb dX12_duesOf_29 rfl (lv_at hl 0 rfl) ?_
    refine lv_iconst (v := 2) hx hb dX12_duesOf_30 ic_2 ?_
    refine lv_idiv hx hb dX12_duesOf_31 (rg_ne0 rgc_2 (Or.inl (th_ltI rfl))) ?_
    refine lv_topi (fun x11 e11 => ?_)
    refine lv_iadd hx hb dX12_duesOf_32 ?_
    refine lv_topi (fun x12 e12 => ?_)
    refine lv_goto (tgt := 37) hx hb dX12_duesOf_33 (th_eqI rfl) ?_
    exact W.iret (v := x12) hx hb hr (fun t ht hW => ⟨⟨x12, (), rfl, (hF.trans (by simp only [↓reduceIte, F_X12_duesOf, r1, Option.getD_some, ← e2, ← e3, ← e4, ← e5, ← e6, r7, ← e8, eq_true c9, ← e11, ← e12])), th_Ht ht hH⟩, hS.F ht⟩) hS.2.2 dX12_duesOf_37

noncomputable def f_X12_as_17 (τ : th_t) (Z : th_Zt) (gi : th_i) (gr : th_r) (h0 : Nat) (p1 : Int32) (p2 : Int32) (gi_17 : th_i) : Int32 × th_i :=
  let u4 : Int32 × th_i := F_X12_finding τ Z gi_17 gr h0 (-1000001)
  let x4 : Int32 := u4.1
  let gi4 : th_i := u4.2
  (x4, gi4)
noncomputable def f_X12_as_38 (τ : th_t) (Z : th_Zt) (gi : th_i) (gr : th_r) (h0 : Nat) (p1 : Int32) (p2 : Int32) (gi_38 : th_i) : Int32 × th_i :=
  let x2 : Int32 := F_X12_duesOf τ Z gi_38 gr h0 p1
  (x2, gi_38)
noncomputable def F_X12_as (τ : th_t) (Z : th_Zt) (gi : th_i) (gr : th_r) (h0 : Nat) (p1 : Int32) (p2 : Int32) : Int32 × th_i :=
  let x6 : Int32 := F_X12_isBoat τ Z gi gr h0 p1
  if x6 = (0 : Int32) then (
    f_X12_as_17 τ Z gi gr h0 p1 p2 gi) else (
    let x12 : Int32 := F_X12_within τ Z gi gr p2 0 2
    if x12 = (0 : Int32) then (
      f_X12_as_17 τ Z gi gr h0 p1 p2 gi) else (
      if p2 = (0 : Int32) then (
        f_X12_as_38 τ Z gi gr h0 p1 p2 gi) else (
        let q21 : Nat := (gr h0 9).getD 0
        let x22 : Int32 := gi q21 p1.toNatClampNeg
        if x22 = p2 then (
          f_X12_as_38 τ Z gi gr h0 p1 p2 gi) else (
          let u25 : Int32 × th_i := F_X12_finding τ Z gi gr h0 (-1000005)
          let x25 : Int32 := u25.1
          let gi25 : th_i := u25.2
          (x25, gi25)))))
set_option maxHeartbeats 8000000 in
set_option maxRecDepth 100000 in
theorem k_X12_as (l : Launch) (D : va_G) (cA : Nat → ClassId) (Z : th_Zt) (τ : th_t) (gi : th_i) (gr : th_r) (sz : Nat) (h0 : Nat) (t_h0 : τ h0 = 12) (p1 : Int32) (p2 : Int32) : Met l yX12_as wsX12_as ({ frames := 2, cells := 0, slots := 0, locals := 43 }) (va_Pc [.ref h0, .int p1, .int p2] (th_Pre D cA Z τ gi gr sz)) (va_Qi (fun (r : Int32) (u : th_i × th_r) => th_Mod [5900] τ gi gr u.1 u.2 ∧ u.2 = gr ∧ (F_X12_as τ Z gi gr h0 p1 p2 = (r, u.1))) (fun (u : th_i × th_r) t => th_H D cA τ u.1 u.2 t.heap) (th_A τ sz)) 0 0 (th_A τ sz) := by
  refine Met.ofW (cc := cX12_as) (maxL := 3) (ret := (some .int)) (by decide) rfl ?_
  intro p e s m args below meth c s₁ B hml hv
  obtain ⟨rfl, hsz, hH, hK, hN, hZ⟩ := hv
  have hx := B.exec
  have hb := B.bytes
  have hr := B.returns
  have hts := atoms_spec (ws := wsX12_as) B.pre
  have hown : s.vm.findClass RX12 = some m.cls := findClass_of_methodNamed B.named
  have hlocks := B.notSynchronized
  subst hsz
  have hM : th_Mod [5900] τ gi gr gi gr := th_Mod.rf
  have J38 : ∀ (gi_38 : th_i) (H : Heap) (locs : List Loc) (ls : Array Slot), th_H D cA τ gi_38 gr H → va_S (th_A τ s.heap.size) s.heap H locs → th_Mod [5900] τ gi gr gi_38 gr → lv_has ls 3 [(0, .ref h0), (1, .int p1)] → rg 0 15 p1 → F_X12_as τ Z gi gr h0 p1 p2 = f_X12_as_38 τ Z gi gr h0 p1 p2 gi_38 → W p l e (headSpec wsX12_as ({ frames := 2, cells := 0, slots := 0, locals := 43 })).room s m [.ref h0, .int p1, .int p2].toArray below meth c H locs 0 0 (MQ below (va_Qi (fun (r : Int32) (u : th_i × th_r) => th_Mod [5900] τ gi gr u.1 u.2 ∧ u.2 = gr ∧ (F_X12_as τ Z gi gr h0 p1 p2 = (r, u.1))) (fun (u : th_i × th_r) t => th_H D cA τ u.1 u.2 t.heap) (th_A τ s.heap.size)) [.ref h0, .int p1, .int p2].toArray s 0 0 (th_A τ s.heap.size)) (F0 m 38 ls []) := by
    intro gi_38 H locs ls hH hS hM hl fy38_1 hF
    refine lv_aload_n hx hb dX12_as_38 rfl (lv_at hl 0 rfl) ?_
    refine lv_iload_n hx hb dX12_as_39 rfl (lv_at hl 1 rfl) ?_
    have hA1 := th_Asub (τ := τ) hS
    refine va_calli (va_runV (As := [.int p1]) (rest := []) ⟨hx, hb, hml, hown, hts⟩ (k_X12_duesOf l D cA Z τ gi_38 gr _ h0 t_h0 p1 fy38_1) (cwV 1 hts gX12_as_X12_duesOf rfl rfl rfl hd_X12_duesOf__1 ⟨Nat.le_of_ble_eq_true rfl, Nat.le_of_ble_eq_true rfl⟩) ⟨th_blind, tr_12 hK hH t_h0, (th_pre hH hK hN hZ hS hA1)⟩ rfl rfl hl.1 rfl (lv_room (Nat.le_of_ble_eq_true rfl)) dX12_as_40 ⟨Nat.le_of_ble_eq_true rfl, Nat.le_of_ble_eq_true rfl⟩) hS (fun q _ h => hA1 q h) hA1 (fun x2 u t H locs ht hvm hw2 hB hz1 hk1 hS => ?_)
    try dsimp only at hw2 hB
    rw [ht] at hB
    have hH := hB
    refine lv_goto (tgt := 52) hx hb dX12_as_43 (th_eqI rfl) ?_
    exact W.iret (v := x2) hx hb hr (fun t ht hW => ⟨⟨x2, (gi_38, gr), rfl, ⟨hM, rfl, (hF.trans (by simp only [f_X12_as_38, hw2]))⟩, th_Ht ht hH⟩, hS.F ht⟩) hS.2.2 dX12_as_52
  have J17 : ∀ (gi_17 : th_i) (H : Heap) (locs : List Loc) (ls : Array Slot), th_H D cA τ gi_17 gr H → va_S (th_A τ s.heap.size) s.heap H locs → th_Mod [5900] τ gi gr gi_17 gr → lv_has ls 3 [(0, .ref h0)] → F_X12_as τ Z gi gr h0 p1 p2 = f_X12_as_17 τ Z gi gr h0 p1 p2 gi_17 → W p l e (headSpec wsX12_as ({ frames := 2, cells := 0, slots := 0, locals := 43 })).room s m [.ref h0, .int p1, .int p2].toArray below meth c H locs 0 0 (MQ below (va_Qi (fun (r : Int32) (u : th_i × th_r) => th_Mod [5900] τ gi gr u.1 u.2 ∧ u.2 = gr ∧ (F_X12_as τ Z gi gr h0 p1 p2 = (r, u.1))) (fun (u : th_i × th_r) t => th_H D cA τ u.1 u.2 t.heap) (th_A τ s.heap.size)) [.ref h0, .int p1, .int p2].toArray s 0 0 (th_A τ s.heap.size)) (F0 m 17 ls []) := by
    intro gi_17 H locs ls hH hS hM hl hF
    refine lv_aload_n hx hb dX12_as_17 rfl (lv_at hl 0 rfl) ?_
    refine lv_ldc (v := (-1000001)) hx hb hown (hts (.constant RX12 119 (-1000001)) (List.mem_cons_of_mem _ (List.mem_append_left _ (List.mem_of_getElem? (i := 0) rfl)))) dX12_as_18 ?_
    have hA3 := th_Asub (τ := τ) hS
    refine va_calli (va_runV (As := [.int (-1000001)]) (rest := []) ⟨hx, hb, hml, hown, hts⟩ (k_X12_finding l D cA Z τ gi_17 gr _ h0 t_h0 (-1000001) (rg_w rgc_m1000001 (th_leI rfl) (th_leI rfl))) (cwV 1 hts gX12_as_X12_finding rfl rfl rfl hd_X12_finding__1 ⟨Nat.le_of_ble_eq_true rfl, Nat.le_of_ble_eq_true rfl⟩) ⟨th_blind, tr_12 hK hH t_h0, (th_pre hH hK hN hZ hS hA3)⟩ rfl rfl hl.1 rfl (lv_room (Nat.le_of_ble_eq_true rfl)) dX12_as_20 ⟨Nat.le_of_ble_eq_true rfl, Nat.le_of_ble_eq_true rfl⟩) hS (fun q _ h => hA3 q h) hA3 (fun x4 u t H locs ht hvm hw4 hB hz1 hk1 hS => ?_)
    try dsimp only at hw4 hB
    rw [ht] at hB
    have hH := hB
    obtain ⟨gi4, gr4⟩ := u
    try dsimp only at hw4 hH
    obtain rfl : gr = gr4 := (hw4.2.1).symm
    have hM := hM.tr hw4.1 (fun _ h => h) (th_sub rfl)
    exact W.iret (v := x4) hx hb hr (fun t ht hW => ⟨⟨x4, (gi4, gr), rfl, ⟨hM, rfl, (hF.trans (by simp only [f_X12_as_17, hw4.2.2.1]))⟩, th_Ht ht hH⟩, hS.F ht⟩) hS.2.2 dX12_as_23
  have hS : va_S (th_A τ s.heap.size) s.heap s.heap [] := va_S.rf
  have hl := lv_entry ([.ref h0, .int p1, .int p2]) (n := 3) (Nat.le_of_ble_eq_true rfl)
  rw [lg_entry_eq]
  generalize (lg_sl ([.ref h0, .int p1, .int p2]) ++ List.replicate (3 - (lg_sl ([.ref h0, .int p1, .int p2])).length) Slot.unset).toArray = ls at hl ⊢
  have hl : lv_has ls 3 [(0, .ref h0), (1, .int p1), (2, .int p2)] := hl
  have hF : F_X12_as τ Z gi gr h0 p1 p2 = F_X12_as τ Z gi gr h0 p1 p2 := rfl
  refine lv_aload_n hx hb dX12_as_0 rfl (lv_at hl 0 rfl) ?_
  refine lv_iload_n hx hb dX12_as_1 rfl (lv_at hl 1 rfl) ?_
  have hA5 := th_Asub (τ := τ) hS
  refine va_calli (va_runV (As := [.int p1]) (rest := []) ⟨hx, hb, hml, hown, hts⟩ (k_X12_isBoat l D cA Z τ gi gr _ h0 t_h0 p1) (cwV 1 hts gX12_as_X12_isBoat rfl rfl rfl hd_X12_isBoat__1 ⟨Nat.le_of_ble_eq_true rfl, Nat.le_of_ble_eq_true rfl⟩) ⟨th_blind, tr_12 hK hH t_h0, (th_pre hH hK hN hZ hS hA5)⟩ rfl rfl hl.1 rfl (lv_room (Nat.le_of_ble_eq_true rfl)) dX12_as_2 ⟨Nat.le_of_ble_eq_true rfl, Nat.le_of_ble_eq_true rfl⟩) hS (fun q _ h => hA5 q h) hA5 (fun x6 u t H locs ht hvm hw6 hB hz1 hk1 hS => ?_)
  try dsimp only at hw6 hB
  rw [ht] at hB
  have hH := hB
  refine lv_if_eq (tgt := 17) hx hb dX12_as_5 (th_eqI rfl) (fun c7 => ?_) (fun c7 => ?_)
  · skip
    have f8 : rg 0 0 x6 := rg_w (rg_eq hw6.1 rgc_0 c7).1 (th_leI rfl) (th_leI rfl)
    exact J17 gi _ _ _ hH hS hM (lv_sub hl [0] rfl) (hF.trans (by simp only [↓reduceIte, F_X12_as, hw6.2.2, eq_true c7]))
  · skip
    have f9 : rg 1 1 x6 := rg_w (rg_neL hw6.1 rgc_0 c7) (th_leI rfl) (th_leI rfl)
    have f10 : rg 0 15 p1 := rg_w (hw6.2.1 c7) (th_leI rfl) (th_leI rfl)
    refine lv_iload_n hx hb dX12_as_8 rfl (lv_at hl 2 rfl) ?_
    refine lv_iconst (v := 0) hx hb dX12_as_9 ic_0 ?_
    refine lv_iconst (v := 2) hx hb dX12_as_10 ic_2 ?_
    have hA11 := th_Asub (τ := τ) hS
    refine va_calli (va_runS (As := [.int p2, .int 0, .int 2]) (rest := []) ⟨hx, hb, hml, hown, hts⟩ (k_X12_within l D cA Z τ gi gr _ p2 0 2) (va_cwS 3 hts gX12_as_X12_within rfl rfl rfl (by decide +kernel) ⟨Nat.le_of_ble_eq_true rfl, Nat.le_of_ble_eq_true rfl⟩) ⟨th_blind, (th_pre hH hK hN hZ hS hA11)⟩ rfl rfl hl.1 rfl (lv_room (Nat.le_of_ble_eq_true rfl)) dX12_as_11 ⟨Nat.le_of_ble_eq_true rfl, Nat.le_of_ble_eq_true rfl⟩) hS (fun q _ h => hA11 q h) hA11 (fun x12 u t H locs ht hvm hw12 hB hz1 hk1 hS => ?_)
    try dsimp only at hw12 hB
    rw [ht] at hB
    have hH := hB
    refine lv_if_ne (tgt := 24) hx hb dX12_as_14 (th_eqI rfl) (fun c13 => ?_) (fun c13 => ?_)
    · skip
      have f14 : rg 1 1 x12 := rg_w (rg_neL hw12.1 rgc_0 c13) (th_leI rfl) (th_leI rfl)
      have g15 := hw12.2.1 c13
      have f16 : rg 0 2147483647 p2 := rg_w (rg_le rgc_0 (rg_any p2) g15.1).2 (th_leI rfl) (th_leI rfl)
      have f17 : rg 0 2 p2 := rg_w (rg_le f16 rgc_2 g15.2).1 (th_leI rfl) (th_leI rfl)
      refine lv_iload_n hx hb dX12_as_24 rfl (lv_at hl 2 rfl) ?_
      refine lv_if_eq (tgt := 38) hx hb dX12_as_25 (th_eqI rfl) (fun c18 => ?_) (fun c18 => ?_)
      · skip
        have f19 : rg 0 0 p2 := rg_w (rg_eq f17 rgc_0 c18).1 (th_leI rfl) (th_leI rfl)
        exact J38 gi _ _ _ hH hS hM (lv_sub hl [0, 1] rfl) f10 (hF.trans (by simp only [↓reduceIte, F_X12_as, hw6.2.2, eq_false c7, hw12.2.2.1, eq_false c13, eq_true c18]))
      · skip
        have f20 : rg 1 2 p2 := rg_w (rg_neL f17 rgc_0 c18) (th_leI rfl) (th_leI rfl)
        refine lv_aload_n hx hb dX12_as_28 rfl (lv_at hl 0 rfl) ?_
        obtain ⟨q21, r21, t21⟩ : ∃ q, gr h0 9 = some q ∧ τ q = 47 := (thI_12 hH t_h0).2.2.2.2.2.2.2.2.2.1
        refine th_get (ci := 11) (v := .ref q21) (T := TX12) (C := RX12) (N := 38) hx hb hts (fun w h => List.mem_cons_of_mem _ (List.mem_append_right _ h)) hown hK hH t_h0 (th_nz rfl) (thE_12 _ _ _) rfl 9 (th_ltN rfl) (hts (.fieldLink RX12 31 "BayMooringsModel" "kindOf" "[I") (List.mem_cons_of_mem _ (List.mem_append_left _ (List.mem_of_getElem? (i := 1) rfl)))) (fun _ h9 => h9) (th_fR r21 rfl) dX12_as_29 ?_
        refine lv_iload_n hx hb dX12_as_32 rfl (lv_at hl 1 rfl) ?_
        refine th_iald hx hb hK hH t21 (th_nz rfl) 0 (thE_47 _ _ _) rfl (rg_in (n := 16) f10 (th_leI rfl) (th_ltI rfl)) dX12_as_33 ?_
        refine lv_topi (fun x22 e22 => ?_)
        refine lv_iload_n hx hb dX12_as_34 rfl (lv_at hl 2 rfl) ?_
        refine lv_icmp_ne (tgt := 46) hx hb dX12_as_35 (th_eqI rfl) (fun c23 => ?_) (fun c23 => ?_)
        · skip
          refine lv_aload_n hx hb dX12_as_46 rfl (lv_at hl 0 rfl) ?_
          refine lv_ldc (v := (-1000005)) hx hb hown (hts (.constant RX12 132 (-1000005)) (List.mem_cons_of_mem _ (List.mem_append_left _ (List.mem_of_getElem? (i := 2) rfl)))) dX12_as_47 ?_
          have hA24 := th_Asub (τ := τ) hS
          refine va_calli (va_runV (As := [.int (-1000005)]) (rest := []) ⟨hx, hb, hml, hown, hts⟩ (k_X12_finding l D cA Z τ gi gr _ h0 t_h0 (-1000005) (rg_w rgc_m1000005 (th_leI rfl) (th_leI rfl))) (cwV 1 hts gX12_as_X12_finding rfl rfl rfl hd_X12_finding__1 ⟨Nat.le_of_ble_eq_true rfl, Nat.le_of_ble_eq_true rfl⟩) ⟨th_blind, tr_12 hK hH t_h0, (th_pre hH hK hN hZ hS hA24)⟩ rfl rfl hl.1 rfl (lv_room (Nat.le_of_ble_eq_true rfl)) dX12_as_49 ⟨Nat.le_of_ble_eq_true rfl, Nat.le_of_ble_eq_true rfl⟩) hS (fun q _ h => hA24 q h) hA24 (fun x25 u t H locs ht hvm hw25 hB hz1 hk1 hS => ?_)
          try dsimp only at hw25 hB
          rw [ht] at hB
          have hH := hB
          obtain ⟨gi25, gr25⟩ := u
          try dsimp only at hw25 hH
          obtain rfl : gr = gr25 := (hw25.2.1).symm
          have hM := hM.tr hw25.1 (fun _ h => h) (th_sub rfl)
          have e26 : x22 = gi25 q21 (p1.toNatClampNeg) := Eq.trans e22 (Eq.symm (hw25.1 q21 (p1.toNatClampNeg) (th_nzE t21 rfl) (th_nmE (key := 4700) t21 rfl rfl)).1)
          exact W.iret (v := x25) hx hb hr (fun t ht hW => ⟨⟨x25, (gi25, gr), rfl, ⟨hM, rfl, (hF.trans (by simp only [↓reduceIte, F_X12_as, hw6.2.2, eq_false c7, hw12.2.2.1, eq_false c13, eq_false c18, r21, Option.getD_some, ← e22, eq_false c23, hw25.2.2.1]))⟩, th_Ht ht hH⟩, hS.F ht⟩) hS.2.2 dX12_as_52
        · skip
          have f27 : rg 1 2 x22 := rg_w (rg_eq (rg_any x22) f20 c23).1 (th_leI rfl) (th_leI rfl)
          exact J38 gi _ _ _ hH hS hM (lv_sub hl [0, 1] rfl) f10 (hF.trans (by simp only [↓reduceIte, F_X12_as, hw6.2.2, eq_false c7, hw12.2.2.1, eq_false c13, eq_false c18, r21, Option.getD_some, ← e22, eq_true c23]))
    · skip
      have f28 : rg 0 0 x12 := rg_w (rg_eq hw12.1 rgc_0 c13).1 (th_leI rfl) (th_leI rfl)
      exact J17 gi _ _ _ hH hS hM (lv_sub hl [0] rfl) (hF.trans (by simp only [↓reduceIte, F_X12_as, hw6.2.2, eq_false c7, hw12.2.2.1, eq_true c13]))

noncomputable def f_X12_tide_21 (τ : th_t) (Z : th_Zt) (gi : th_i) (gr : th_r) (h0 : Nat) (p1 : Int32) (p2 : Int32) (gi_21 : th_i) : Int32 × th_i :=
  let u2 : Int32 × th_i := F_X12_finding τ Z gi_21 gr h0 (-1000001)
  let x2 : Int32 := u2.1
  let gi2 : th_i := u2.2
  (x2, gi2)
noncomputable def F_X12_tide (τ : th_t) (Z : th_Zt) (gi : th_i) (gr : th_r) (h0 : Nat) (p1 : Int32) (p2 : Int32) : Int32 × th_i :=
  let x4 : Int32 := F_X12_within τ Z gi gr p1 0 23
  if x4 = (0 : Int32) then (
    f_X12_tide_21 τ Z gi gr h0 p1 p2 gi) else (
    let x12 : Int32 := F_X12_within τ Z gi gr p2 0 200
    if x12 = (0 : Int32) then (
      f_X12_tide_21 τ Z gi gr h0 p1 p2 gi) else (
      let q18 : Nat := (gr h0 13).getD 0
      let x19 : Int32 := gi q18 p1.toNatClampNeg
      let gi21 : th_i := va_up gi q18 (upd (gi q18) p1.toNatClampNeg p2)
      (x19, gi21)))
set_option maxHeartbeats 8000000 in
set_option maxRecDepth 100000 in
theorem k_X12_tide (l : Launch) (D : va_G) (cA : Nat → ClassId) (Z : th_Zt) (τ : th_t) (gi : th_i) (gr : th_r) (sz : Nat) (h0 : Nat) (t_h0 : τ h0 = 12) (p1 : Int32) (p2 : Int32) : Met l yX12_tide wsX12_tide ({ frames := 1, cells := 0, slots := 0, locals := 22 }) (va_Pc [.ref h0, .int p1, .int p2] (th_Pre D cA Z τ gi gr sz)) (va_Qi (fun (r : Int32) (u : th_i × th_r) => th_Mod [5100, 5900] τ gi gr u.1 u.2 ∧ u.2 = gr ∧ (F_X12_tide τ Z gi gr h0 p1 p2 = (r, u.1))) (fun (u : th_i × th_r) t => th_H D cA τ u.1 u.2 t.heap) (th_A τ sz)) 0 0 (th_A τ sz) := by
  refine Met.ofW (cc := cX12_tide) (maxL := 4) (ret := (some .int)) (by decide) rfl ?_
  intro p e s m args below meth c s₁ B hml hv
  obtain ⟨rfl, hsz, hH, hK, hN, hZ⟩ := hv
  have hx := B.exec
  have hb := B.bytes
  have hr := B.returns
  have hts := atoms_spec (ws := wsX12_tide) B.pre
  have hown : s.vm.findClass RX12 = some m.cls := findClass_of_methodNamed B.named
  have hlocks := B.notSynchronized
  subst hsz
  have hM : th_Mod [5100, 5900] τ gi gr gi gr := th_Mod.rf
  have J21 : ∀ (gi_21 : th_i) (H : Heap) (locs : List Loc) (ls : Array Slot), th_H D cA τ gi_21 gr H → va_S (th_A τ s.heap.size) s.heap H locs → th_Mod [5100, 5900] τ gi gr gi_21 gr → lv_has ls 4 [(0, .ref h0)] → F_X12_tide τ Z gi gr h0 p1 p2 = f_X12_tide_21 τ Z gi gr h0 p1 p2 gi_21 → W p l e (headSpec wsX12_tide ({ frames := 1, cells := 0, slots := 0, locals := 22 })).room s m [.ref h0, .int p1, .int p2].toArray below meth c H locs 0 0 (MQ below (va_Qi (fun (r : Int32) (u : th_i × th_r) => th_Mod [5100, 5900] τ gi gr u.1 u.2 ∧ u.2 = gr ∧ (F_X12_tide τ Z gi gr h0 p1 p2 = (r, u.1))) (fun (u : th_i × th_r) t => th_H D cA τ u.1 u.2 t.heap) (th_A τ s.heap.size)) [.ref h0, .int p1, .int p2].toArray s 0 0 (th_A τ s.heap.size)) (F0 m 21 ls []) := by
    intro gi_21 H locs ls hH hS hM hl hF
    refine lv_aload_n hx hb dX12_tide_21 rfl (lv_at hl 0 rfl) ?_
    refine lv_ldc (v := (-1000001)) hx hb hown (hts (.constant RX12 119 (-1000001)) (List.mem_cons_of_mem _ (List.mem_append_left _ (List.mem_of_getElem? (i := 0) rfl)))) dX12_tide_22 ?_
    have hA1 := th_Asub (τ := τ) hS
    refine va_calli (va_runV (As := [.int (-1000001)]) (rest := []) ⟨hx, hb, hml, hown, hts⟩ (k_X12_finding l D cA Z τ gi_21 gr _ h0 t_h0 (-1000001) (rg_w rgc_m1000001 (th_leI rfl) (th_leI rfl))) (cwV 1 hts gX12_tide_X12_finding rfl rfl rfl hd_X12_finding__1 ⟨Nat.le_of_ble_eq_true rfl, Nat.le_of_ble_eq_true rfl⟩) ⟨th_blind, tr_12 hK hH t_h0, (th_pre hH hK hN hZ hS hA1)⟩ rfl rfl hl.1 rfl (lv_room (Nat.le_of_ble_eq_true rfl)) dX12_tide_24 ⟨Nat.le_of_ble_eq_true rfl, Nat.le_of_ble_eq_true rfl⟩) hS (fun q _ h => hA1 q h) hA1 (fun x2 u t H locs ht hvm hw2 hB hz1 hk1 hS => ?_)
    try dsimp only at hw2 hB
    rw [ht] at hB
    have hH := hB
    obtain ⟨gi2, gr2⟩ := u
    try dsimp only at hw2 hH
    obtain rfl : gr = gr2 := (hw2.2.1).symm
    have hM := hM.tr hw2.1 (fun _ h => h) (th_sub rfl)
    exact W.iret (v := x2) hx hb hr (fun t ht hW => ⟨⟨x2, (gi2, gr), rfl, ⟨hM, rfl, (hF.trans (by simp only [f_X12_tide_21, hw2.2.2.1]))⟩, th_Ht ht hH⟩, hS.F ht⟩) hS.2.2 dX12_tide_27
  have hS : va_S (th_A τ s.heap.size) s.heap s.heap [] := va_S.rf
  have hl := lv_entry ([.ref h0, .int p1, .int p2]) (n := 4) (Nat.le_of_ble_eq_true rfl)
  rw [lg_entry_eq]
  generalize (lg_sl ([.ref h0, .int p1, .int p2]) ++ List.replicate (4 - (lg_sl ([.ref h0, .int p1, .int p2])).length) Slot.unset).toArray = ls at hl ⊢
  have hl : lv_has ls 4 [(0, .ref h0), (1, .int p1), (2, .int p2)] := hl
  have hF : F_X12_tide τ Z gi gr h0 p1 p2 = F_X12_tide τ Z gi gr h0 p1 p2 := rfl
  refine lv_iload_n hx hb dX12_tide_0 rfl (lv_at hl 1 rfl) ?_
  refine lv_iconst (v := 0) hx hb dX12_tide_1 ic_0 ?_
  refine lv_bipush (v := 23) hx hb dX12_tide_2 bp_23 ?_
  have hA3 := th_Asub (τ := τ) hS
  refine va_calli (va_runS (As := [.int p1, .int 0, .int 23]) (rest := []) ⟨hx, hb, hml, hown, hts⟩ (k_X12_within l D cA Z τ gi gr _ p1 0 23) (va_cwS 3 hts gX12_tide_X12_within rfl rfl rfl (by decide +kernel) ⟨Nat.le_of_ble_eq_true rfl, Nat.le_of_ble_eq_true rfl⟩) ⟨th_blind, (th_pre hH hK hN hZ hS hA3)⟩ rfl rfl hl.1 rfl (lv_room (Nat.le_of_ble_eq_true rfl)) dX12_tide_4 ⟨Nat.le_of_ble_eq_true rfl, Nat.le_of_ble_eq_true rfl⟩) hS (fun q _ h => hA3 q h) hA3 (fun x4 u t H locs ht hvm hw4 hB hz1 hk1 hS => ?_)
  try dsimp only at hw4 hB
  rw [ht] at hB
  have hH := hB
  refine lv_if_eq (tgt := 21) hx hb dX12_tide_7 (th_eqI rfl) (fun c5 => ?_) (fun c5 => ?_)
  · skip
    have f6 : rg 0 0 x4 := rg_w (rg_eq hw4.1 rgc_0 c5).1 (th_leI rfl) (th_leI rfl)
    exact J21 gi _ _ _ hH hS hM (lv_sub hl [0] rfl) (hF.trans (by simp only [↓reduceIte, F_X12_tide, hw4.2.2.1, eq_true c5]))
  · skip
    have f7 : rg 1 1 x4 := rg_w (rg_neL hw4.1 rgc_0 c5) (th_leI rfl) (th_leI rfl)
    have g8 := hw4.2.1 c5
    have f9 : rg 0 2147483647 p1 := rg_w (rg_le rgc_0 (rg_any p1) g8.1).2 (th_leI rfl) (th_leI rfl)
    have f10 : rg 0 23 p1 := rg_w (rg_le f9 rgc_23 g8.2).1 (th_leI rfl) (th_leI rfl)
    refine lv_iload_n hx hb dX12_tide_10 rfl (lv_at hl 2 rfl) ?_
    refine lv_iconst (v := 0) hx hb dX12_tide_11 ic_0 ?_
    refine lv_sipush (v := 200) hx hb dX12_tide_12 sp_200 ?_
    have hA11 := th_Asub (τ := τ) hS
    refine va_calli (va_runS (As := [.int p2, .int 0, .int 200]) (rest := []) ⟨hx, hb, hml, hown, hts⟩ (k_X12_within l D cA Z τ gi gr _ p2 0 200) (va_cwS 3 hts gX12_tide_X12_within rfl rfl rfl (by decide +kernel) ⟨Nat.le_of_ble_eq_true rfl, Nat.le_of_ble_eq_true rfl⟩) ⟨th_blind, (th_pre hH hK hN hZ hS hA11)⟩ rfl rfl hl.1 rfl (lv_room (Nat.le_of_ble_eq_true rfl)) dX12_tide_15 ⟨Nat.le_of_ble_eq_true rfl, Nat.le_of_ble_eq_true rfl⟩) hS (fun q _ h => hA11 q h) hA11 (fun x12 u t H locs ht hvm hw12 hB hz1 hk1 hS => ?_)
    try dsimp only at hw12 hB
    rw [ht] at hB
    have hH := hB
    refine lv_if_ne (tgt := 28) hx hb dX12_tide_18 (th_eqI rfl) (fun c13 => ?_) (fun c13 => ?_)
    · skip
      have f14 : rg 1 1 x12 := rg_w (rg_neL hw12.1 rgc_0 c13) (th_leI rfl) (th_leI rfl)
      have g15 := hw12.2.1 c13
      have f16 : rg 0 2147483647 p2 := rg_w (rg_le rgc_0 (rg_any p2) g15.1).2 (th_leI rfl) (th_leI rfl)
      have f17 : rg 0 200 p2 := rg_w (rg_le f16 rgc_200 g15.2).1 (th_leI rfl) (th_leI rfl)
      refine lv_aload_n hx hb dX12_tide_28 rfl (lv_at hl 0 rfl) ?_
      obtain ⟨q18, r18, t18⟩ : ∃ q, gr h0 13 = some q ∧ τ q = 51 := (thI_12 hH t_h0).2.2.2.2.2.2.2.2.2.2.2.2.2.1
      refine th_get (ci := 11) (v := .ref q18) (T := TX12) (C := RX12) (N := 38) hx hb hts (fun w h => List.mem_cons_of_mem _ (List.mem_append_right _ h)) hown hK hH t_h0 (th_nz rfl) (thE_12 _ _ _) rfl 13 (th_ltN rfl) (hts (.fieldLink RX12 43 "BayMooringsModel" "tides" "[I") (List.mem_cons_of_mem _ (List.mem_append_left _ (List.mem_of_getElem? (i := 1) rfl)))) (fun _ h9 => h9) (th_fR r18 rfl) dX12_tide_29 ?_
      refine lv_iload_n hx hb dX12_tide_32 rfl (lv_at hl 1 rfl) ?_
      refine th_iald hx hb hK hH t18 (th_nz rfl) 0 (thE_51 _ _ _) rfl (rg_in (n := 24) f10 (th_leI rfl) (th_ltI rfl)) dX12_tide_33 ?_
      refine lv_topi (fun x19 e19 => ?_)
      have f19 : rg 0 200 x19 := rg_e e19 ((thI_51 hH t18) _ (rg_cl (n := 24) f10 (th_leI rfl) (th_ltI rfl)))
      refine lv_istore_n (i := 3) (lv' := [(3, .int x19), (0, .ref h0), (1, .int p1), (2, .int p2)]) hx hb dX12_tide_34 rfl hl (th_ltN rfl) rfl (fun ls hl => ?_)
      refine lv_aload_n hx hb dX12_tide_35 rfl (lv_at hl 1 rfl) ?_
      refine th_get (ci := 11) (v := .ref q18) (T := TX12) (C := RX12) (N := 38) hx hb hts (fun w h => List.mem_cons_of_mem _ (List.mem_append_right _ h)) hown hK hH t_h0 (th_nz rfl) (thE_12 _ _ _) rfl 13 (th_ltN rfl) (hts (.fieldLink RX12 43 "BayMooringsModel" "tides" "[I") (List.mem_cons_of_mem _ (List.mem_append_left _ (List.mem_of_getElem? (i := 1) rfl)))) (fun _ h9 => h9) (th_fR r18 rfl) dX12_tide_36 ?_
      refine lv_iload_n hx hb dX12_tide_39 rfl (lv_at hl 2 rfl) ?_
      refine lv_iload_n hx hb dX12_tide_40 rfl (lv_at hl 3 rfl) ?_
      refine th_iast hx hb hK hH hS t18 (th_nz rfl) (Or.inl (th_nzE t18 rfl)) 0 (fun _ => thE_51 _ _ _) rfl (rg_in (n := 24) f10 (th_leI rfl) (th_ltI rfl)) (th_ai (P := rg 0 200) (thI_51 hH t18) f17) dX12_tide_41 (fun gi21 H locs hu21 ho21 hH hS => ?_)
      have eg21 : gi21 = va_up gi q18 (upd (gi q18) p1.toNatClampNeg p2) := th_upE hu21 ho21
      have hM := hM.i t18 (th_mem (a := 5100) rfl) ho21
      refine lv_iload_n hx hb dX12_tide_42 rfl (lv_at hl 0 rfl) ?_
      exact W.iret (v := x19) hx hb hr (fun t ht hW => ⟨⟨x19, (gi21, gr), rfl, ⟨hM, rfl, (hF.trans (by simp only [↓reduceIte, F_X12_tide, hw4.2.2.1, eq_false c5, hw12.2.2.1, eq_false c13, r18, Option.getD_some, ← e19, ← eg21]))⟩, th_Ht ht hH⟩, hS.F ht⟩) hS.2.2 dX12_tide_43
    · skip
      have f23 : rg 0 0 x12 := rg_w (rg_eq hw12.1 rgc_0 c13).1 (th_leI rfl) (th_leI rfl)
      exact J21 gi _ _ _ hH hS hM (lv_sub hl [0] rfl) (hF.trans (by simp only [↓reduceIte, F_X12_tide, hw4.2.2.1, eq_false c5, hw12.2.2.1, eq_true c13]))

noncomputable def F_X12_winds (τ : th_t) (Z : th_Zt) (gi : th_i) (gr : th_r) (h0 : Nat) (p1 : Int32) : Int32 × th_i :=
  let x2 : Int32 := F_X12_within τ Z gi gr p1 1 255
  if x2 = (0 : Int32) then (
    let u13 : Int32 × th_i := F_X12_finding τ Z gi gr h0 (-1000001)
    let x13 : Int32 := u13.1
    let gi13 : th_i := u13.2
    (x13, gi13)) else (
    let x8 : Int32 := gi h0 14
    let gi9 : th_i := va_up gi h0 (upd (gi h0) 14 p1)
    (x8, gi9))
set_option maxHeartbeats 8000000 in
set_option maxRecDepth 100000 in
theorem k_X12_winds (l : Launch) (D : va_G) (cA : Nat → ClassId) (Z : th_Zt) (τ : th_t) (gi : th_i) (gr : th_r) (sz : Nat) (h0 : Nat) (t_h0 : τ h0 = 12) (p1 : Int32) : Met l yX12_winds wsX12_winds ({ frames := 1, cells := 0, slots := 0, locals := 22 }) (va_Pc [.ref h0, .int p1] (th_Pre D cA Z τ gi gr sz)) (va_Qi (fun (r : Int32) (u : th_i × th_r) => th_Mod [1214, 5900] τ gi gr u.1 u.2 ∧ u.2 = gr ∧ (F_X12_winds τ Z gi gr h0 p1 = (r, u.1))) (fun (u : th_i × th_r) t => th_H D cA τ u.1 u.2 t.heap) (th_A τ sz)) 0 0 (th_A τ sz) := by
  refine Met.ofW (cc := cX12_winds) (maxL := 3) (ret := (some .int)) (by decide) rfl ?_
  intro p e s m args below meth c s₁ B hml hv
  obtain ⟨rfl, hsz, hH, hK, hN, hZ⟩ := hv
  have hx := B.exec
  have hb := B.bytes
  have hr := B.returns
  have hts := atoms_spec (ws := wsX12_winds) B.pre
  have hown : s.vm.findClass RX12 = some m.cls := findClass_of_methodNamed B.named
  have hlocks := B.notSynchronized
  subst hsz
  have hM : th_Mod [1214, 5900] τ gi gr gi gr := th_Mod.rf
  have hS : va_S (th_A τ s.heap.size) s.heap s.heap [] := va_S.rf
  have hl := lv_entry ([.ref h0, .int p1]) (n := 3) (Nat.le_of_ble_eq_true rfl)
  rw [lg_entry_eq]
  generalize (lg_sl ([.ref h0, .int p1]) ++ List.replicate (3 - (lg_sl ([.ref h0, .int p1])).length) Slot.unset).toArray = ls at hl ⊢
  have hl : lv_has ls 3 [(0, .ref h0), (1, .int p1)] := hl
  have hF : F_X12_winds τ Z gi gr h0 p1 = F_X12_winds τ Z gi gr h0 p1 := rfl
  refine lv_iload_n hx hb dX12_winds_0 rfl (lv_at hl 1 rfl) ?_
  refine lv_iconst (v := 1) hx hb dX12_winds_1 ic_1 ?_
  refine lv_sipush (v := 255) hx hb dX12_winds_2 sp_255 ?_
  have hA1 := th_Asub (τ := τ) hS
  refine va_calli (va_runS (As := [.int p1, .int 1, .int 255]) (rest := []) ⟨hx, hb, hml, hown, hts⟩ (k_X12_within l D cA Z τ gi gr _ p1 1 255) (va_cwS 3 hts gX12_winds_X12_within rfl rfl rfl (by decide +kernel) ⟨Nat.le_of_ble_eq_true rfl, Nat.le_of_ble_eq_true rfl⟩) ⟨th_blind, (th_pre hH hK hN hZ hS hA1)⟩ rfl rfl hl.1 rfl (lv_room (Nat.le_of_ble_eq_true rfl)) dX12_winds_5 ⟨Nat.le_of_ble_eq_true rfl, Nat.le_of_ble_eq_true rfl⟩) hS (fun q _ h => hA1 q h) hA1 (fun x2 u t H locs ht hvm hw2 hB hz1 hk1 hS => ?_)
  try dsimp only at hw2 hB
  rw [ht] at hB
  have hH := hB
  refine lv_if_ne (tgt := 18) hx hb dX12_winds_8 (th_eqI rfl) (fun c3 => ?_) (fun c3 => ?_)
  · skip
    have f4 : rg 1 1 x2 := rg_w (rg_neL hw2.1 rgc_0 c3) (th_leI rfl) (th_leI rfl)
    have g5 := hw2.2.1 c3
    have f6 : rg 1 2147483647 p1 := rg_w (rg_le rgc_1 (rg_any p1) g5.1).2 (th_leI rfl) (th_leI rfl)
    have f7 : rg 1 255 p1 := rg_w (rg_le f6 rgc_255 g5.2).1 (th_leI rfl) (th_leI rfl)
    refine lv_aload_n hx hb dX12_winds_18 rfl (lv_at hl 0 rfl) ?_
    obtain ⟨x8, e8⟩ : ∃ y : Int32, y = gi h0 14 := ⟨_, rfl⟩
    refine th_get (ci := 11) (v := .int x8) (T := TX12) (C := RX12) (N := 38) hx hb hts (fun w h => List.mem_cons_of_mem _ (List.mem_append_right _ h)) hown hK hH t_h0 (th_nz rfl) (thE_12 _ _ _) rfl 14 (th_ltN rfl) (hts (.fieldLink RX12 46 "BayMooringsModel" "winds" "I") (List.mem_cons_of_mem _ (List.mem_append_left _ (List.mem_of_getElem? (i := 1) rfl)))) (fun _ h9 => h9) (th_fI e8 rfl) dX12_winds_19 ?_
    refine lv_istore_n (i := 2) (lv' := [(2, .int x8), (0, .ref h0), (1, .int p1)]) hx hb dX12_winds_22 rfl hl (th_ltN rfl) rfl (fun ls hl => ?_)
    refine lv_aload_n hx hb dX12_winds_23 rfl (lv_at hl 1 rfl) ?_
    refine lv_iload_n hx hb dX12_winds_24 rfl (lv_at hl 2 rfl) ?_
    refine th_put (ci := 11) (v := .int p1) (T := TX12) (C := RX12) (N := 38) (ty := .int) (gi' := va_up gi h0 (upd (gi h0) 14 p1)) (gr' := gr) hx hb hts (fun w h => List.mem_cons_of_mem _ (List.mem_append_right _ h)) tyX12 tyX12_ok nmX12 hown hK hH hS t_h0 (th_nz rfl) (Or.inl (th_nzE t_h0 rfl)) rfl rfl 14 (th_ltN rfl) (hts (.fieldLink RX12 46 "BayMooringsModel" "winds" "I") (List.mem_cons_of_mem _ (List.mem_append_left _ (List.mem_of_getElem? (i := 1) rfl)))) (fun _ h9 => h9) rfl (by decide +kernel) rfl rfl (Nat.le_of_ble_eq_true rfl) (by rw [va_up_self]; rfl) (by rw [va_up_self]; show rg 0 12 (gi h0 0) ∧ (∃ q, gr h0 1 = some q ∧ τ q = 40) ∧ (∃ q, gr h0 2 = some q ∧ τ q = 41) ∧ (∃ q, gr h0 3 = some q ∧ τ q = 42) ∧ (∃ q, gr h0 4 = some q ∧ τ q = 43) ∧ (∃ q, gr h0 5 = some q ∧ τ q = 44) ∧ (∃ q, gr h0 6 = some q ∧ τ q = 45) ∧ (∃ q, gr h0 7 = some q ∧ τ q = 46) ∧ rg 0 16 (gi h0 8) ∧ (∃ q, gr h0 9 = some q ∧ τ q = 47) ∧ (∃ q, gr h0 10 = some q ∧ τ q = 48) ∧ (∃ q, gr h0 11 = some q ∧ τ q = 49) ∧ (∃ q, gr h0 12 = some q ∧ τ q = 50) ∧ (∃ q, gr h0 13 = some q ∧ τ q = 51) ∧ (∃ q, gr h0 15 = some q ∧ τ q = 52) ∧ (∃ q, gr h0 16 = some q ∧ τ q = 53) ∧ rg 0 10 (gi h0 17) ∧ (∃ q, gr h0 18 = some q ∧ τ q = 54) ∧ (∃ q, gr h0 19 = some q ∧ τ q = 55) ∧ (∃ q, gr h0 21 = some q ∧ τ q = 56) ∧ (∃ q, gr h0 22 = some q ∧ τ q = 57) ∧ rg 0 24 (gi h0 24) ∧ (∃ q, gr h0 25 = some q ∧ τ q = 58) ∧ (∃ q, gr h0 26 = some q ∧ τ q = 59) ∧ rg 0 5 (gi h0 27) ∧ (∃ q, gr h0 28 = some q ∧ τ q = 60) ∧ (∃ q, gr h0 29 = some q ∧ τ q = 61) ∧ (∃ q, gr h0 30 = some q ∧ τ q = 62) ∧ (∃ q, gr h0 31 = some q ∧ τ q = 63) ∧ (∃ q, gr h0 32 = some q ∧ τ q = 64) ∧ (∃ q, gr h0 34 = some q ∧ τ q = 65) ∧ (∃ q, gr h0 35 = some q ∧ τ q = 66) ∧ (∃ q, gr h0 36 = some q ∧ τ q = 67) ∧ (∃ q, gr h0 37 = some q ∧ τ q = 68); exact ⟨(thI_12 hH t_h0).1, (thI_12 hH t_h0).2.1, (thI_12 hH t_h0).2.2.1, (thI_12 hH t_h0).2.2.2.1, (thI_12 hH t_h0).2.2.2.2.1, (thI_12 hH t_h0).2.2.2.2.2.1, (thI_12 hH t_h0).2.2.2.2.2.2.1, (thI_12 hH t_h0).2.2.2.2.2.2.2.1, (thI_12 hH t_h0).2.2.2.2.2.2.2.2.1, (thI_12 hH t_h0).2.2.2.2.2.2.2.2.2.1, (thI_12 hH t_h0).2.2.2.2.2.2.2.2.2.2.1, (thI_12 hH t_h0).2.2.2.2.2.2.2.2.2.2.2.1, (thI_12 hH t_h0).2.2.2.2.2.2.2.2.2.2.2.2.1, (thI_12 hH t_h0).2.2.2.2.2.2.2.2.2.2.2.2.2.1, (thI_12 hH t_h0).2.2.2.2.2.2.2.2.2.2.2.2.2.2.1, (thI_12 hH t_h0).2.2.2.2.2.2.2.2.2.2.2.2.2.2.2.1, (thI_12 hH t_h0).2.2.2.2.2.2.2.2.2.2.2.2.2.2.2.2.1, (thI_12 hH t_h0).2.2.2.2.2.2.2.2.2.2.2.2.2.2.2.2.2.1, (thI_12 hH t_h0).2.2.2.2.2.2.2.2.2.2.2.2.2.2.2.2.2.2.1, (thI_12 hH t_h0).2.2.2.2.2.2.2.2.2.2.2.2.2.2.2.2.2.2.2.1, (thI_12 hH t_h0).2.2.2.2.2.2.2.2.2.2.2.2.2.2.2.2.2.2.2.2.1, (thI_12 hH t_h0).2.2.2.2.2.2.2.2.2.2.2.2.2.2.2.2.2.2.2.2.2.1, (thI_12 hH t_h0).2.2.2.2.2.2.2.2.2.2.2.2.2.2.2.2.2.2.2.2.2.2.1, (thI_12 hH t_h0).2.2.2.2.2.2.2.2.2.2.2.2.2.2.2.2.2.2.2.2.2.2.2.1, (thI_12 hH t_h0).2.2.2.2.2.2.2.2.2.2.2.2.2.2.2.2.2.2.2.2.2.2.2.2.1, (thI_12 hH t_h0).2.2.2.2.2.2.2.2.2.2.2.2.2.2.2.2.2.2.2.2.2.2.2.2.2.1, (thI_12 hH t_h0).2.2.2.2.2.2.2.2.2.2.2.2.2.2.2.2.2.2.2.2.2.2.2.2.2.2.1, (thI_12 hH t_h0).2.2.2.2.2.2.2.2.2.2.2.2.2.2.2.2.2.2.2.2.2.2.2.2.2.2.2.1, (thI_12 hH t_h0).2.2.2.2.2.2.2.2.2.2.2.2.2.2.2.2.2.2.2.2.2.2.2.2.2.2.2.2.1, (thI_12 hH t_h0).2.2.2.2.2.2.2.2.2.2.2.2.2.2.2.2.2.2.2.2.2.2.2.2.2.2.2.2.2.1, (thI_12 hH t_h0).2.2.2.2.2.2.2.2.2.2.2.2.2.2.2.2.2.2.2.2.2.2.2.2.2.2.2.2.2.2.1, (thI_12 hH t_h0).2.2.2.2.2.2.2.2.2.2.2.2.2.2.2.2.2.2.2.2.2.2.2.2.2.2.2.2.2.2.2.1, (thI_12 hH t_h0).2.2.2.2.2.2.2.2.2.2.2.2.2.2.2.2.2.2.2.2.2.2.2.2.2.2.2.2.2.2.2.2.1, (thI_12 hH t_h0).2.2.2.2.2.2.2.2.2.2.2.2.2.2.2.2.2.2.2.2.2.2.2.2.2.2.2.2.2.2.2.2.2⟩) (fun b hb => ⟨va_up_ne _ _ hb, rfl⟩) dX12_winds_25 (fun H locs hH hS => ?_)
    obtain ⟨gi9, eg9⟩ : ∃ g, g = va_up gi h0 (upd (gi h0) 14 p1) := ⟨_, rfl⟩
    rw [← eg9] at hH
    have hu9 : gi9 h0 14 = p1 := (th_uI eg9).1
    have ho9 : ∀ b j, b ≠ h0 ∨ j ≠ 14 → gi9 b j = gi b j := (th_uI eg9).2
    have hM := hM.i t_h0 (th_mem (a := 1214) rfl) ho9
    refine lv_iload_n hx hb dX12_winds_28 rfl (lv_at hl 0 rfl) ?_
    exact W.iret (v := x8) hx hb hr (fun t ht hW => ⟨⟨x8, (gi9, gr), rfl, ⟨hM, rfl, (hF.trans (by simp only [↓reduceIte, F_X12_winds, hw2.2.2.1, eq_false c3, ← e8, ← eg9]))⟩, th_Ht ht hH⟩, hS.F ht⟩) hS.2.2 dX12_winds_29
  · skip
    have f11 : rg 0 0 x2 := rg_w (rg_eq hw2.1 rgc_0 c3).1 (th_leI rfl) (th_leI rfl)
    refine lv_aload_n hx hb dX12_winds_11 rfl (lv_at hl 0 rfl) ?_
    refine lv_ldc (v := (-1000001)) hx hb hown (hts (.constant RX12 119 (-1000001)) (List.mem_cons_of_mem _ (List.mem_append_left _ (List.mem_of_getElem? (i := 0) rfl)))) dX12_winds_12 ?_
    have hA12 := th_Asub (τ := τ) hS
    refine va_calli (va_runV (As := [.int (-1000001)]) (rest := []) ⟨hx, hb, hml, hown, hts⟩ (k_X12_finding l D cA Z τ gi gr _ h0 t_h0 (-1000001) (rg_w rgc_m1000001 (th_leI rfl) (th_leI rfl))) (cwV 1 hts gX12_winds_X12_finding rfl rfl rfl hd_X12_finding__1 ⟨Nat.le_of_ble_eq_true rfl, Nat.le_of_ble_eq_true rfl⟩) ⟨th_blind, tr_12 hK hH t_h0, (th_pre hH hK hN hZ hS hA12)⟩ rfl rfl hl.1 rfl (lv_room (Nat.le_of_ble_eq_true rfl)) dX12_winds_14 ⟨Nat.le_of_ble_eq_true rfl, Nat.le_of_ble_eq_true rfl⟩) hS (fun q _ h => hA12 q h) hA12 (fun x13 u t H locs ht hvm hw13 hB hz1 hk1 hS => ?_)
    try dsimp only at hw13 hB
    rw [ht] at hB
    have hH := hB
    obtain ⟨gi13, gr13⟩ := u
    try dsimp only at hw13 hH
    obtain rfl : gr = gr13 := (hw13.2.1).symm
    have hM := hM.tr hw13.1 (fun _ h => h) (th_sub rfl)
    exact W.iret (v := x13) hx hb hr (fun t ht hW => ⟨⟨x13, (gi13, gr), rfl, ⟨hM, rfl, (hF.trans (by simp only [↓reduceIte, F_X12_winds, hw2.2.2.1, eq_true c3, hw13.2.2.1]))⟩, th_Ht ht hH⟩, hS.F ht⟩) hS.2.2 dX12_winds_17

noncomputable def f_X12_placeOnList_2 (τ : th_t) (Z : th_Zt) (gi : th_i) (gr : th_r) (h0 : Nat) (p1 : Int32) : Nat → Int32 → Int32
  | 0, y2_2 => 0
  | n2 + 1, y2_2 =>
    let x1 : Int32 := gi h0 17
    if x1 ≤ y2_2 then (
      (-1)) else (
      let q5 : Nat := (gr h0 18).getD 0
      let x6 : Int32 := gi q5 y2_2.toNatClampNeg
      if x6 = p1 then (
        y2_2) else (
        let x8 : Int32 := y2_2 + 1
        (f_X12_placeOnList_2 τ Z gi gr h0 p1 n2) x8))
noncomputable def F_X12_placeOnList (τ : th_t) (Z : th_Zt) (gi : th_i) (gr : th_r) (h0 : Nat) (p1 : Int32) : Int32 :=
  f_X12_placeOnList_2 τ Z gi gr h0 p1 ((10 - (0 : Int32).toInt).toNat + 1) 0
set_option maxHeartbeats 8000000 in
set_option maxRecDepth 100000 in
theorem k_X12_placeOnList (l : Launch) (D : va_G) (cA : Nat → ClassId) (Z : th_Zt) (τ : th_t) (gi : th_i) (gr : th_r) (sz : Nat) (h0 : Nat) (t_h0 : τ h0 = 12) (p1 : Int32) : Met l yX12_placeOnList wsX12_placeOnList ({ frames := 0, cells := 0, slots := 0, locals := 0 }) (va_Pc [.ref h0, .int p1] (th_Pre D cA Z τ gi gr sz)) (va_Qi (fun (r : Int32) (_ : Unit) => rg (-1) 9 r ∧ (F_X12_placeOnList τ Z gi gr h0 p1 = r) ∧ (pl_post gi gr h0 p1 r)) (fun (_ : Unit) t => th_H D cA τ gi gr t.heap) (th_A τ sz)) 0 0 (th_A τ sz) := by
  refine Met.ofW (cc := cX12_placeOnList) (maxL := 3) (ret := (some .int)) (by decide) rfl ?_
  intro p e s m args below meth c s₁ B hml hv
  obtain ⟨rfl, hsz, hH, hK, hN, hZ⟩ := hv
  have hx := B.exec
  have hb := B.bytes
  have hr := B.returns
  have hts := atoms_spec (ws := wsX12_placeOnList) B.pre
  have hown : s.vm.findClass RX12 = some m.cls := findClass_of_methodNamed B.named
  have hlocks := B.notSynchronized
  subst hsz
  have J2 : ∀ (n2 : Nat) (H : Heap) (locs : List Loc) (ls : Array Slot) (y2_2 : Int32), (10 - y2_2.toInt).toNat < n2 → th_H D cA τ gi gr H → va_S (th_A τ s.heap.size) s.heap H locs → lv_has ls 3 [(0, .ref h0), (1, .int p1), (2, .int y2_2)] → rg 0 10 y2_2 → (pl_no gi gr h0 y2_2.toInt p1) → F_X12_placeOnList τ Z gi gr h0 p1 = f_X12_placeOnList_2 τ Z gi gr h0 p1 n2 y2_2 → W p l e (headSpec wsX12_placeOnList ({ frames := 0, cells := 0, slots := 0, locals := 0 })).room s m [.ref h0, .int p1].toArray below meth c H locs 0 0 (MQ below (va_Qi (fun (r : Int32) (_ : Unit) => rg (-1) 9 r ∧ (F_X12_placeOnList τ Z gi gr h0 p1 = r) ∧ (pl_post gi gr h0 p1 r)) (fun (_ : Unit) t => th_H D cA τ gi gr t.heap) (th_A τ s.heap.size)) [.ref h0, .int p1].toArray s 0 0 (th_A τ s.heap.size)) (F0 m 2 ls []) := by
    intro n2
    induction n2 with
    | zero =>
      intro H locs ls y2_2 hn
      exact absurd hn (Nat.not_lt_zero _)
    | succ n2 ih2 =>
      intro H locs ls y2_2 hn2 hH hS hl fy2_2 ipl hF
      refine lv_iload_n hx hb dX12_placeOnList_2 rfl (lv_at hl 2 rfl) ?_
      refine lv_aload_n hx hb dX12_placeOnList_3 rfl (lv_at hl 0 rfl) ?_
      obtain ⟨x1, e1⟩ : ∃ y : Int32, y = gi h0 17 := ⟨_, rfl⟩
      refine th_get (ci := 11) (v := .int x1) (T := TX12) (C := RX12) (N := 38) hx hb hts (fun w h => List.mem_cons_of_mem _ (List.mem_append_right _ h)) hown hK hH t_h0 (th_nz rfl) (thE_12 _ _ _) rfl 17 (th_ltN rfl) (hts (.fieldLink RX12 133 "BayMooringsModel" "waiting" "I") (List.mem_cons_of_mem _ (List.mem_append_left _ (List.mem_of_getElem? (i := 0) rfl)))) (fun _ h9 => h9) (th_fI e1 rfl) dX12_placeOnList_4 ?_
      have f1 : rg 0 10 x1 := rg_e e1 ((thI_12 hH t_h0).2.2.2.2.2.2.2.2.2.2.2.2.2.2.2.2.1)
      refine lv_icmp_ge (tgt := 28) hx hb dX12_placeOnList_7 (th_eqI rfl) (fun c2 => ?_) (fun c2 => ?_)
      · skip
        refine lv_iconst (v := (-1)) hx hb dX12_placeOnList_28 ic_m1 ?_
        exact W.iret (v := (-1)) hx hb hr (fun t ht hW => ⟨⟨(-1), (), rfl, ⟨(rg_w rgc_m1 (th_leI rfl) (th_leI rfl)), (hF.trans (by simp only [↓reduceIte, f_X12_placeOnList_2, ← e1, eq_true c2])), (pl_end ipl e1 c2)⟩, th_Ht ht hH⟩, hS.F ht⟩) hS.2.2 dX12_placeOnList_29
      · skip
        have f3 : rg 1 10 x1 := rg_w (rg_nle f1 fy2_2 c2).1 (th_leI rfl) (th_leI rfl)
        have f4 : rg 0 9 y2_2 := rg_w (rg_nle f1 fy2_2 c2).2 (th_leI rfl) (th_leI rfl)
        refine lv_aload_n hx hb dX12_placeOnList_10 rfl (lv_at hl 0 rfl) ?_
        obtain ⟨q5, r5, t5⟩ : ∃ q, gr h0 18 = some q ∧ τ q = 54 := (thI_12 hH t_h0).2.2.2.2.2.2.2.2.2.2.2.2.2.2.2.2.2.1
        refine th_get (ci := 11) (v := .ref q5) (T := TX12) (C := RX12) (N := 38) hx hb hts (fun w h => List.mem_cons_of_mem _ (List.mem_append_right _ h)) hown hK hH t_h0 (th_nz rfl) (thE_12 _ _ _) rfl 18 (th_ltN rfl) (hts (.fieldLink RX12 56 "BayMooringsModel" "list" "[I") (List.mem_cons_of_mem _ (List.mem_append_left _ (List.mem_of_getElem? (i := 1) rfl)))) (fun _ h9 => h9) (th_fR r5 rfl) dX12_placeOnList_11 ?_
        refine lv_iload_n hx hb dX12_placeOnList_14 rfl (lv_at hl 2 rfl) ?_
        refine th_iald hx hb hK hH t5 (th_nz rfl) 0 (thE_54 _ _ _) rfl (rg_in (n := 10) f4 (th_leI rfl) (th_ltI rfl)) dX12_placeOnList_15 ?_
        refine lv_topi (fun x6 e6 => ?_)
        have f6 : rg 0 15 x6 := rg_e e6 ((thI_54 hH t5) _ (rg_cl (n := 10) f4 (th_leI rfl) (th_ltI rfl)))
        refine lv_iload_n hx hb dX12_placeOnList_16 rfl (lv_at hl 1 rfl) ?_
        refine lv_icmp_ne (tgt := 22) hx hb dX12_placeOnList_17 (th_eqI rfl) (fun c7 => ?_) (fun c7 => ?_)
        · skip
          obtain ⟨x8, e8⟩ : ∃ y : Int32, y = y2_2 + 1 := ⟨_, rfl⟩
          have f8 : rg 1 10 x8 := rg_e e8 (rg_w (rg_add f4 rgc_1 (th_leI rfl) (th_leI rfl)) (th_leI rfl) (th_leI rfl))
          refine lv_iinc (v := x8) (lv' := [(2, .int x8), (0, .ref h0), (1, .int p1)]) hx hb dX12_placeOnList_22 hl (k := 2) rfl (by rw [e8]; rfl) (th_ltN rfl) rfl (fun ls hl => ?_)
          refine lv_goto (tgt := 2) hx hb dX12_placeOnList_25 (th_eqI rfl) ?_
          exact ih2 _ _ _ x8 (th_up (rg_dA e8 f4 rgc_1 (th_leI rfl) (th_leI rfl)) f4 hn2 (th_ltI rfl)) hH hS (lv_sub hl [1, 2, 0] rfl) (rg_w f8 (th_leI rfl) (th_leI rfl)) (pl_s ipl (rg_dA e8 f4 rgc_1 (th_leI rfl) (th_leI rfl)) f4 r5 e6 c7 (by decide)) (hF.trans (by simp only [↓reduceIte, f_X12_placeOnList_2, ← e1, eq_false c2, r5, Option.getD_some, ← e6, eq_false c7, ← e8]))
        · skip
          have f9 : rg 0 15 p1 := rg_w (rg_eq f6 (rg_any p1) c7).2 (th_leI rfl) (th_leI rfl)
          refine lv_iload_n hx hb dX12_placeOnList_20 rfl (lv_at hl 2 rfl) ?_
          exact W.iret (v := y2_2) hx hb hr (fun t ht hW => ⟨⟨y2_2, (), rfl, ⟨(rg_w f4 (th_leI rfl) (th_leI rfl)), (hF.trans (by simp only [↓reduceIte, f_X12_placeOnList_2, ← e1, eq_false c2, r5, Option.getD_some, ← e6, eq_true c7])), (pl_hit f4 e1 c2 r5 e6 c7 (by decide))⟩, th_Ht ht hH⟩, hS.F ht⟩) hS.2.2 dX12_placeOnList_21
  have hS : va_S (th_A τ s.heap.size) s.heap s.heap [] := va_S.rf
  have hl := lv_entry ([.ref h0, .int p1]) (n := 3) (Nat.le_of_ble_eq_true rfl)
  rw [lg_entry_eq]
  generalize (lg_sl ([.ref h0, .int p1]) ++ List.replicate (3 - (lg_sl ([.ref h0, .int p1])).length) Slot.unset).toArray = ls at hl ⊢
  have hl : lv_has ls 3 [(0, .ref h0), (1, .int p1)] := hl
  have hF : F_X12_placeOnList τ Z gi gr h0 p1 = F_X12_placeOnList τ Z gi gr h0 p1 := rfl
  refine lv_iconst (v := 0) hx hb dX12_placeOnList_0 ic_0 ?_
  refine lv_istore_n (i := 2) (lv' := [(2, .int 0), (0, .ref h0), (1, .int p1)]) hx hb dX12_placeOnList_1 rfl hl (th_ltN rfl) rfl (fun ls hl => ?_)
  exact J2 _ _ _ _ 0 (Nat.lt_add_one _) hH hS (lv_sub hl [1, 2, 0] rfl) (rg_w rgc_0 (th_leI rfl) (th_leI rfl)) (pl_0 (by decide)) (hF.trans (by simp only [F_X12_placeOnList]))

noncomputable def F_X12_about (τ : th_t) (Z : th_Zt) (gi : th_i) (gr : th_r) (h0 : Nat) (p1 : Int32) (p2 : Int32) : Int32 × th_i :=
  let x2 : Int32 := F_X12_isBoat τ Z gi gr h0 p1
  if x2 = (0 : Int32) then (
    let u36 : Int32 × th_i := F_X12_finding τ Z gi gr h0 (-1000001)
    let x36 : Int32 := u36.1
    let gi36 : th_i := u36.2
    (x36, gi36)) else (
    if p2.toInt < 0 then (
      let u8 : Int32 × th_i := F_X12_finding τ Z gi gr h0 (-1000001)
      let x8 : Int32 := u8.1
      let gi8 : th_i := u8.2
      (x8, gi8)) else (
      if 5 < p2.toInt then (
        let u10 : Int32 × th_i := F_X12_finding τ Z gi gr h0 (-1000001)
        let x10 : Int32 := u10.1
        let gi10 : th_i := u10.2
        (x10, gi10)) else (
        if p2.toInt = 0 then (
          let q12 : Nat := (gr h0 9).getD 0
          let x13 : Int32 := gi q12 p1.toNatClampNeg
          (x13, gi)) else (
          if p2.toInt = 1 then (
            let q15 : Nat := (gr h0 10).getD 0
            let x16 : Int32 := gi q15 p1.toNatClampNeg
            (x16, gi)) else (
            if p2.toInt = 2 then (
              let q18 : Nat := (gr h0 11).getD 0
              let x19 : Int32 := gi q18 p1.toNatClampNeg
              (x19, gi)) else (
              if p2.toInt = 3 then (
                let q21 : Nat := (gr h0 12).getD 0
                let x22 : Int32 := gi q21 p1.toNatClampNeg
                (x22, gi)) else (
                if p2.toInt = 4 then (
                  let x25 : Int32 := F_X12_placeOnList τ Z gi gr h0 p1
                  (x25, gi)) else (
                  if p2.toInt = 5 then (
                    let q27 : Nat := (gr h0 12).getD 0
                    let x28 : Int32 := gi q27 p1.toNatClampNeg
                    if (0 : Int32) ≤ x28 then (
                      let x32 : Int32 := F_X12_duesOf τ Z gi gr h0 p1
                      (x32, gi)) else (
                      (0, gi))) else (
                    (0, gi))))))))))
set_option maxHeartbeats 8000000 in
set_option maxRecDepth 100000 in
theorem k_X12_about (l : Launch) (D : va_G) (cA : Nat → ClassId) (Z : th_Zt) (τ : th_t) (gi : th_i) (gr : th_r) (sz : Nat) (h0 : Nat) (t_h0 : τ h0 = 12) (p1 : Int32) (p2 : Int32) : Met l yX12_about wsX12_about ({ frames := 2, cells := 0, slots := 0, locals := 43 }) (va_Pc [.ref h0, .int p1, .int p2] (th_Pre D cA Z τ gi gr sz)) (va_Qi (fun (r : Int32) (u : th_i × th_r) => th_Mod [5900] τ gi gr u.1 u.2 ∧ u.2 = gr ∧ (F_X12_about τ Z gi gr h0 p1 p2 = (r, u.1))) (fun (u : th_i × th_r) t => th_H D cA τ u.1 u.2 t.heap) (th_A τ sz)) 0 0 (th_A τ sz) := by
  refine Met.ofW (cc := cX12_about) (maxL := 3) (ret := (some .int)) (by decide) rfl ?_
  intro p e s m args below meth c s₁ B hml hv
  obtain ⟨rfl, hsz, hH, hK, hN, hZ⟩ := hv
  have hx := B.exec
  have hb := B.bytes
  have hr := B.returns
  have hts := atoms_spec (ws := wsX12_about) B.pre
  have hown : s.vm.findClass RX12 = some m.cls := findClass_of_methodNamed B.named
  have hlocks := B.notSynchronized
  subst hsz
  have hM : th_Mod [5900] τ gi gr gi gr := th_Mod.rf
  have hS : va_S (th_A τ s.heap.size) s.heap s.heap [] := va_S.rf
  have hl := lv_entry ([.ref h0, .int p1, .int p2]) (n := 3) (Nat.le_of_ble_eq_true rfl)
  rw [lg_entry_eq]
  generalize (lg_sl ([.ref h0, .int p1, .int p2]) ++ List.replicate (3 - (lg_sl ([.ref h0, .int p1, .int p2])).length) Slot.unset).toArray = ls at hl ⊢
  have hl : lv_has ls 3 [(0, .ref h0), (1, .int p1), (2, .int p2)] := hl
  have hF : F_X12_about τ Z gi gr h0 p1 p2 = F_X12_about τ Z gi gr h0 p1 p2 := rfl
  refine lv_aload_n hx hb dX12_about_0 rfl (lv_at hl 0 rfl) ?_
  refine lv_iload_n hx hb dX12_about_1 rfl (lv_at hl 1 rfl) ?_
  have hA1 := th_Asub (τ := τ) hS
  refine va_calli (va_runV (As := [.int p1]) (rest := []) ⟨hx, hb, hml, hown, hts⟩ (k_X12_isBoat l D cA Z τ gi gr _ h0 t_h0 p1) (cwV 1 hts gX12_about_X12_isBoat rfl rfl rfl hd_X12_isBoat__1 ⟨Nat.le_of_ble_eq_true rfl, Nat.le_of_ble_eq_true rfl⟩) ⟨th_blind, tr_12 hK hH t_h0, (th_pre hH hK hN hZ hS hA1)⟩ rfl rfl hl.1 rfl (lv_room (Nat.le_of_ble_eq_true rfl)) dX12_about_2 ⟨Nat.le_of_ble_eq_true rfl, Nat.le_of_ble_eq_true rfl⟩) hS (fun q _ h => hA1 q h) hA1 (fun x2 u t H locs ht hvm hw2 hB hz1 hk1 hS => ?_)
  try dsimp only at hw2 hB
  rw [ht] at hB
  have hH := hB
  refine lv_if_ne (tgt := 15) hx hb dX12_about_5 (th_eqI rfl) (fun c3 => ?_) (fun c3 => ?_)
  · skip
    have f4 : rg 1 1 x2 := rg_w (rg_neL hw2.1 rgc_0 c3) (th_leI rfl) (th_leI rfl)
    have f5 : rg 0 15 p1 := rg_w (hw2.2.1 c3) (th_leI rfl) (th_leI rfl)
    refine lv_iload_n hx hb dX12_about_15 rfl (lv_at hl 2 rfl) ?_
    rcases Int.lt_or_le p2.toInt 0 with z6 | z6
    · refine lv_tableOut (tgt := 109) hx hb dX12_about_16 (Or.inl z6) (th_eqI rfl) ?_
      refine lv_aload_n hx hb dX12_about_109 rfl (lv_at hl 0 rfl) ?_
      refine lv_ldc (v := (-1000001)) hx hb hown (hts (.constant RX12 119 (-1000001)) (List.mem_cons_of_mem _ (List.mem_append_left _ (List.mem_append_left _ (List.mem_of_getElem? (i := 0) rfl))))) dX12_about_110 ?_
      have hA7 := th_Asub (τ := τ) hS
      refine va_calli (va_runV (As := [.int (-1000001)]) (rest := []) ⟨hx, hb, hml, hown, hts⟩ (k_X12_finding l D cA Z τ gi gr _ h0 t_h0 (-1000001) (rg_w rgc_m1000001 (th_leI rfl) (th_leI rfl))) (cwV 1 hts gX12_about_X12_finding rfl rfl rfl hd_X12_finding__1 ⟨Nat.le_of_ble_eq_true rfl, Nat.le_of_ble_eq_true rfl⟩) ⟨th_blind, tr_12 hK hH t_h0, (th_pre hH hK hN hZ hS hA7)⟩ rfl rfl hl.1 rfl (lv_room (Nat.le_of_ble_eq_true rfl)) dX12_about_112 ⟨Nat.le_of_ble_eq_true rfl, Nat.le_of_ble_eq_true rfl⟩) hS (fun q _ h => hA7 q h) hA7 (fun x8 u t H locs ht hvm hw8 hB hz1 hk1 hS => ?_)
      try dsimp only at hw8 hB
      rw [ht] at hB
      have hH := hB
      obtain ⟨gi8, gr8⟩ := u
      try dsimp only at hw8 hH
      obtain rfl : gr = gr8 := (hw8.2.1).symm
      have hM := hM.tr hw8.1 (fun _ h => h) (th_sub rfl)
      exact W.iret (v := x8) hx hb hr (fun t ht hW => ⟨⟨x8, (gi8, gr), rfl, ⟨hM, rfl, (hF.trans (by simp only [↓reduceIte, F_X12_about, hw2.2.2, eq_false c3, eq_true z6, hw8.2.2.1]))⟩, th_Ht ht hH⟩, hS.F ht⟩) hS.2.2 dX12_about_115
    rcases Int.lt_or_le 5 p2.toInt with y6 | y6
    · refine lv_tableOut (tgt := 109) hx hb dX12_about_16 (Or.inr y6) (th_eqI rfl) ?_
      refine lv_aload_n hx hb dX12_about_109 rfl (lv_at hl 0 rfl) ?_
      refine lv_ldc (v := (-1000001)) hx hb hown (hts (.constant RX12 119 (-1000001)) (List.mem_cons_of_mem _ (List.mem_append_left _ (List.mem_append_left _ (List.mem_of_getElem? (i := 0) rfl))))) dX12_about_110 ?_
      have hA9 := th_Asub (τ := τ) hS
      refine va_calli (va_runV (As := [.int (-1000001)]) (rest := []) ⟨hx, hb, hml, hown, hts⟩ (k_X12_finding l D cA Z τ gi gr _ h0 t_h0 (-1000001) (rg_w rgc_m1000001 (th_leI rfl) (th_leI rfl))) (cwV 1 hts gX12_about_X12_finding rfl rfl rfl hd_X12_finding__1 ⟨Nat.le_of_ble_eq_true rfl, Nat.le_of_ble_eq_true rfl⟩) ⟨th_blind, tr_12 hK hH t_h0, (th_pre hH hK hN hZ hS hA9)⟩ rfl rfl hl.1 rfl (lv_room (Nat.le_of_ble_eq_true rfl)) dX12_about_112 ⟨Nat.le_of_ble_eq_true rfl, Nat.le_of_ble_eq_true rfl⟩) hS (fun q _ h => hA9 q h) hA9 (fun x10 u t H locs ht hvm hw10 hB hz1 hk1 hS => ?_)
      try dsimp only at hw10 hB
      rw [ht] at hB
      have hH := hB
      obtain ⟨gi10, gr10⟩ := u
      try dsimp only at hw10 hH
      obtain rfl : gr = gr10 := (hw10.2.1).symm
      have hM := hM.tr hw10.1 (fun _ h => h) (th_sub rfl)
      exact W.iret (v := x10) hx hb hr (fun t ht hW => ⟨⟨x10, (gi10, gr), rfl, ⟨hM, rfl, (hF.trans (by simp only [↓reduceIte, F_X12_about, hw2.2.2, eq_false c3, eq_false (Int.not_lt.mpr z6), eq_true y6, hw10.2.2.1]))⟩, th_Ht ht hH⟩, hS.F ht⟩) hS.2.2 dX12_about_115
    rcases (show p2.toInt = 0 ∨ p2.toInt = 1 ∨ p2.toInt = 2 ∨ p2.toInt = 3 ∨ p2.toInt = 4 ∨ p2.toInt = 5 by omega) with w6 | w6 | w6 | w6 | w6 | w6
    · refine lv_tableIn (tgt := 56) hx hb dX12_about_16 (by omega) (by omega) (by rw [w6]; rfl) (th_eqI rfl) ?_
      have f11 : rg 0 0 p2 := ⟨by omega, by omega⟩
      refine lv_aload_n hx hb dX12_about_56 rfl (lv_at hl 0 rfl) ?_
      obtain ⟨q12, r12, t12⟩ : ∃ q, gr h0 9 = some q ∧ τ q = 47 := (thI_12 hH t_h0).2.2.2.2.2.2.2.2.2.1
      refine th_get (ci := 11) (v := .ref q12) (T := TX12) (C := RX12) (N := 38) hx hb hts (fun w h => List.mem_cons_of_mem _ (List.mem_append_right _ h)) hown hK hH t_h0 (th_nz rfl) (thE_12 _ _ _) rfl 9 (th_ltN rfl) (hts (.fieldLink RX12 31 "BayMooringsModel" "kindOf" "[I") (List.mem_cons_of_mem _ (List.mem_append_left _ (List.mem_append_left _ (List.mem_of_getElem? (i := 1) rfl))))) (fun _ h9 => h9) (th_fR r12 rfl) dX12_about_57 ?_
      refine lv_iload_n hx hb dX12_about_60 rfl (lv_at hl 1 rfl) ?_
      refine th_iald hx hb hK hH t12 (th_nz rfl) 0 (thE_47 _ _ _) rfl (rg_in (n := 16) f5 (th_leI rfl) (th_ltI rfl)) dX12_about_61 ?_
      refine lv_topi (fun x13 e13 => ?_)
      exact W.iret (v := x13) hx hb hr (fun t ht hW => ⟨⟨x13, (gi, gr), rfl, ⟨hM, rfl, (hF.trans (by simp only [↓reduceIte, F_X12_about, hw2.2.2, eq_false c3, eq_false (Int.not_lt.mpr z6), eq_false (Int.not_lt.mpr y6), eq_true w6, r12, Option.getD_some, ← e13]))⟩, th_Ht ht hH⟩, hS.F ht⟩) hS.2.2 dX12_about_62
    · refine lv_tableIn (tgt := 63) hx hb dX12_about_16 (by omega) (by omega) (by rw [w6]; rfl) (th_eqI rfl) ?_
      have f14 : rg 1 1 p2 := ⟨by omega, by omega⟩
      refine lv_aload_n hx hb dX12_about_63 rfl (lv_at hl 0 rfl) ?_
      obtain ⟨q15, r15, t15⟩ : ∃ q, gr h0 10 = some q ∧ τ q = 48 := (thI_12 hH t_h0).2.2.2.2.2.2.2.2.2.2.1
      refine th_get (ci := 11) (v := .ref q15) (T := TX12) (C := RX12) (N := 38) hx hb hts (fun w h => List.mem_cons_of_mem _ (List.mem_append_right _ h)) hown hK hH t_h0 (th_nz rfl) (thE_12 _ _ _) rfl 10 (th_ltN rfl) (hts (.fieldLink RX12 34 "BayMooringsModel" "lengthOf" "[I") (List.mem_cons_of_mem _ (List.mem_append_left _ (List.mem_append_left _ (List.mem_of_getElem? (i := 2) rfl))))) (fun _ h9 => h9) (th_fR r15 rfl) dX12_about_64 ?_
      refine lv_iload_n hx hb dX12_about_67 rfl (lv_at hl 1 rfl) ?_
      refine th_iald hx hb hK hH t15 (th_nz rfl) 0 (thE_48 _ _ _) rfl (rg_in (n := 16) f5 (th_leI rfl) (th_ltI rfl)) dX12_about_68 ?_
      refine lv_topi (fun x16 e16 => ?_)
      exact W.iret (v := x16) hx hb hr (fun t ht hW => ⟨⟨x16, (gi, gr), rfl, ⟨hM, rfl, (hF.trans (by simp only [↓reduceIte, F_X12_about, hw2.2.2, eq_false c3, eq_false (Int.not_lt.mpr z6), eq_false (Int.not_lt.mpr y6), eq_false (show ¬ p2.toInt = 0 by omega), eq_true w6, r15, Option.getD_some, ← e16]))⟩, th_Ht ht hH⟩, hS.F ht⟩) hS.2.2 dX12_about_69
    · refine lv_tableIn (tgt := 70) hx hb dX12_about_16 (by omega) (by omega) (by rw [w6]; rfl) (th_eqI rfl) ?_
      have f17 : rg 2 2 p2 := ⟨by omega, by omega⟩
      refine lv_aload_n hx hb dX12_about_70 rfl (lv_at hl 0 rfl) ?_
      obtain ⟨q18, r18, t18⟩ : ∃ q, gr h0 11 = some q ∧ τ q = 49 := (thI_12 hH t_h0).2.2.2.2.2.2.2.2.2.2.2.1
      refine th_get (ci := 11) (v := .ref q18) (T := TX12) (C := RX12) (N := 38) hx hb hts (fun w h => List.mem_cons_of_mem _ (List.mem_append_right _ h)) hown hK hH t_h0 (th_nz rfl) (thE_12 _ _ _) rfl 11 (th_ltN rfl) (hts (.fieldLink RX12 37 "BayMooringsModel" "draughtOf" "[I") (List.mem_cons_of_mem _ (List.mem_append_left _ (List.mem_append_left _ (List.mem_of_getElem? (i := 3) rfl))))) (fun _ h9 => h9) (th_fR r18 rfl) dX12_about_71 ?_
      refine lv_iload_n hx hb dX12_about_74 rfl (lv_at hl 1 rfl) ?_
      refine th_iald hx hb hK hH t18 (th_nz rfl) 0 (thE_49 _ _ _) rfl (rg_in (n := 16) f5 (th_leI rfl) (th_ltI rfl)) dX12_about_75 ?_
      refine lv_topi (fun x19 e19 => ?_)
      exact W.iret (v := x19) hx hb hr (fun t ht hW => ⟨⟨x19, (gi, gr), rfl, ⟨hM, rfl, (hF.trans (by simp only [↓reduceIte, F_X12_about, hw2.2.2, eq_false c3, eq_false (Int.not_lt.mpr z6), eq_false (Int.not_lt.mpr y6), eq_false (show ¬ p2.toInt = 0 by omega), eq_false (show ¬ p2.toInt = 1 by omega), eq_true w6, r18, Option.getD_some, ← e19]))⟩, th_Ht ht hH⟩, hS.F ht⟩) hS.2.2 dX12_about_76
    · refine lv_tableIn (tgt := 77) hx hb dX12_about_16 (by omega) (by omega) (by rw [w6]; rfl) (th_eqI rfl) ?_
      have f20 : rg 3 3 p2 := ⟨by omega, by omega⟩
      refine lv_aload_n hx hb dX12_about_77 rfl (lv_at hl 0 rfl) ?_
      obtain ⟨q21, r21, t21⟩ : ∃ q, gr h0 12 = some q ∧ τ q = 50 := (thI_12 hH t_h0).2.2.2.2.2.2.2.2.2.2.2.2.1
      refine th_get (ci := 11) (v := .ref q21) (T := TX12) (C := RX12) (N := 38) hx hb hts (fun w h => List.mem_cons_of_mem _ (List.mem_append_right _ h)) hown hK hH t_h0 (th_nz rfl) (thE_12 _ _ _) rfl 12 (th_ltN rfl) (hts (.fieldLink RX12 40 "BayMooringsModel" "buoyOf" "[I") (List.mem_cons_of_mem _ (List.mem_append_left _ (List.mem_append_left _ (List.mem_of_getElem? (i := 4) rfl))))) (fun _ h9 => h9) (th_fR r21 rfl) dX12_about_78 ?_
      refine lv_iload_n hx hb dX12_about_81 rfl (lv_at hl 1 rfl) ?_
      refine th_iald hx hb hK hH t21 (th_nz rfl) 0 (thE_50 _ _ _) rfl (rg_in (n := 16) f5 (th_leI rfl) (th_ltI rfl)) dX12_about_82 ?_
      refine lv_topi (fun x22 e22 => ?_)
      have f22 : rg (-1) 11 x22 := rg_e e22 ((thI_50 hH t21) _ (rg_cl (n := 16) f5 (th_leI rfl) (th_ltI rfl)))
      exact W.iret (v := x22) hx hb hr (fun t ht hW => ⟨⟨x22, (gi, gr), rfl, ⟨hM, rfl, (hF.trans (by simp only [↓reduceIte, F_X12_about, hw2.2.2, eq_false c3, eq_false (Int.not_lt.mpr z6), eq_false (Int.not_lt.mpr y6), eq_false (show ¬ p2.toInt = 0 by omega), eq_false (show ¬ p2.toInt = 1 by omega), eq_false (show ¬ p2.toInt = 2 by omega), eq_true w6, r21, Option.getD_some, ← e22]))⟩, th_Ht ht hH⟩, hS.F ht⟩) hS.2.2 dX12_about_83
    · refine lv_tableIn (tgt := 84) hx hb dX12_about_16 (by omega) (by omega) (by rw [w6]; rfl) (th_eqI rfl) ?_
      have f23 : rg 4 4 p2 := ⟨by omega, by omega⟩
      refine lv_aload_n hx hb dX12_about_84 rfl (lv_at hl 0 rfl) ?_
      refine lv_iload_n hx hb dX12_about_85 rfl (lv_at hl 1 rfl) ?_
      have hA24 := th_Asub (τ := τ) hS
      refine va_calli (va_runV (As := [.int p1]) (rest := []) ⟨hx, hb, hml, hown, hts⟩ (k_X12_placeOnList l D cA Z τ gi gr _ h0 t_h0 p1) (cwV 1 hts gX12_about_X12_placeOnList rfl rfl rfl hd_X12_placeOnList__1 ⟨Nat.le_of_ble_eq_true rfl, Nat.le_of_ble_eq_true rfl⟩) ⟨th_blind, tr_12 hK hH t_h0, (th_pre hH hK hN hZ hS hA24)⟩ rfl rfl hl.1 rfl (lv_room (Nat.le_of_ble_eq_true rfl)) dX12_about_86 ⟨Nat.le_of_ble_eq_true rfl, Nat.le_of_ble_eq_true rfl⟩) hS (fun q _ h => hA24 q h) hA24 (fun x25 u t H locs ht hvm hw25 hB hz1 hk1 hS => ?_)
      try dsimp only at hw25 hB
      rw [ht] at hB
      have hH := hB
      exact W.iret (v := x25) hx hb hr (fun t ht hW => ⟨⟨x25, (gi, gr), rfl, ⟨hM, rfl, (hF.trans (by simp only [↓reduceIte, F_X12_about, hw2.2.2, eq_false c3, eq_false (Int.not_lt.mpr z6), eq_false (Int.not_lt.mpr y6), eq_false (show ¬ p2.toInt = 0 by omega), eq_false (show ¬ p2.toInt = 1 by omega), eq_false (show ¬ p2.toInt = 2 by omega), eq_false (show ¬ p2.toInt = 3 by omega), eq_true w6, hw25.2.1]))⟩, th_Ht ht hH⟩, hS.F ht⟩) hS.2.2 dX12_about_89
    · refine lv_tableIn (tgt := 90) hx hb dX12_about_16 (by omega) (by omega) (by rw [w6]; rfl) (th_eqI rfl) ?_
      have f26 : rg 5 5 p2 := ⟨by omega, by omega⟩
      refine lv_aload_n hx hb dX12_about_90 rfl (lv_at hl 0 rfl) ?_
      obtain ⟨q27, r27, t27⟩ : ∃ q, gr h0 12 = some q ∧ τ q = 50 := (thI_12 hH t_h0).2.2.2.2.2.2.2.2.2.2.2.2.1
      refine th_get (ci := 11) (v := .ref q27) (T := TX12) (C := RX12) (N := 38) hx hb hts (fun w h => List.mem_cons_of_mem _ (List.mem_append_right _ h)) hown hK hH t_h0 (th_nz rfl) (thE_12 _ _ _) rfl 12 (th_ltN rfl) (hts (.fieldLink RX12 40 "BayMooringsModel" "buoyOf" "[I") (List.mem_cons_of_mem _ (List.mem_append_left _ (List.mem_append_left _ (List.mem_of_getElem? (i := 4) rfl))))) (fun _ h9 => h9) (th_fR r27 rfl) dX12_about_91 ?_
      refine lv_iload_n hx hb dX12_about_94 rfl (lv_at hl 1 rfl) ?_
      refine th_iald hx hb hK hH t27 (th_nz rfl) 0 (thE_50 _ _ _) rfl (rg_in (n := 16) f5 (th_leI rfl) (th_ltI rfl)) dX12_about_95 ?_
      refine lv_topi (fun x28 e28 => ?_)
      have f28 : rg (-1) 11 x28 := rg_e e28 ((thI_50 hH t27) _ (rg_cl (n := 16) f5 (th_leI rfl) (th_ltI rfl)))
      refine lv_if_ge (tgt := 103) hx hb dX12_about_96 (th_eqI rfl) (fun c29 => ?_) (fun c29 => ?_)
      · skip
        have f30 : rg 0 11 x28 := rg_w (rg_le rgc_0 f28 c29).2 (th_leI rfl) (th_leI rfl)
        refine lv_aload_n hx hb dX12_about_103 rfl (lv_at hl 0 rfl) ?_
        refine lv_iload_n hx hb dX12_about_104 rfl (lv_at hl 1 rfl) ?_
        have hA31 := th_Asub (τ := τ) hS
        refine va_calli (va_runV (As := [.int p1]) (rest := []) ⟨hx, hb, hml, hown, hts⟩ (k_X12_duesOf l D cA Z τ gi gr _ h0 t_h0 p1 f5) (cwV 1 hts gX12_about_X12_duesOf rfl rfl rfl hd_X12_duesOf__1 ⟨Nat.le_of_ble_eq_true rfl, Nat.le_of_ble_eq_true rfl⟩) ⟨th_blind, tr_12 hK hH t_h0, (th_pre hH hK hN hZ hS hA31)⟩ rfl rfl hl.1 rfl (lv_room (Nat.le_of_ble_eq_true rfl)) dX12_about_105 ⟨Nat.le_of_ble_eq_true rfl, Nat.le_of_ble_eq_true rfl⟩) hS (fun q _ h => hA31 q h) hA31 (fun x32 u t H locs ht hvm hw32 hB hz1 hk1 hS => ?_)
        try dsimp only at hw32 hB
        rw [ht] at hB
        have hH := hB
        exact W.iret (v := x32) hx hb hr (fun t ht hW => ⟨⟨x32, (gi, gr), rfl, ⟨hM, rfl, (hF.trans (by simp only [↓reduceIte, F_X12_about, hw2.2.2, eq_false c3, eq_false (Int.not_lt.mpr z6), eq_false (Int.not_lt.mpr y6), eq_false (show ¬ p2.toInt = 0 by omega), eq_false (show ¬ p2.toInt = 1 by omega), eq_false (show ¬ p2.toInt = 2 by omega), eq_false (show ¬ p2.toInt = 3 by omega), eq_false (show ¬ p2.toInt = 4 by omega), eq_true w6, r27, Option.getD_some, ← e28, eq_true c29, hw32]))⟩, th_Ht ht hH⟩, hS.F ht⟩) hS.2.2 dX12_about_108
      · skip
        have f33 : rg (-1) (-1) x28 := rg_w (rg_nle rgc_0 f28 c29).2 (th_leI rfl) (th_leI rfl)
        refine lv_iconst (v := 0) hx hb dX12_about_99 ic_0 ?_
        refine lv_goto (tgt := 108) hx hb dX12_about_100 (th_eqI rfl) ?_
        exact W.iret (v := 0) hx hb hr (fun t ht hW => ⟨⟨0, (gi, gr), rfl, ⟨hM, rfl, (hF.trans (by simp only [↓reduceIte, F_X12_about, hw2.2.2, eq_false c3, eq_false (Int.not_lt.mpr z6), eq_false (Int.not_lt.mpr y6), eq_false (show ¬ p2.toInt = 0 by omega), eq_false (show ¬ p2.toInt = 1 by omega), eq_false (show ¬ p2.toInt = 2 by omega), eq_false (show ¬ p2.toInt = 3 by omega), eq_false (show ¬ p2.toInt = 4 by omega), eq_true w6, r27, Option.getD_some, ← e28, eq_false c29]))⟩, th_Ht ht hH⟩, hS.F ht⟩) hS.2.2 dX12_about_108
  · skip
    have f34 : rg 0 0 x2 := rg_w (rg_eq hw2.1 rgc_0 c3).1 (th_leI rfl) (th_leI rfl)
    refine lv_aload_n hx hb dX12_about_8 rfl (lv_at hl 0 rfl) ?_
    refine lv_ldc (v := (-1000001)) hx hb hown (hts (.constant RX12 119 (-1000001)) (List.mem_cons_of_mem _ (List.mem_append_left _ (List.mem_append_left _ (List.mem_of_getElem? (i := 0) rfl))))) dX12_about_9 ?_
    have hA35 := th_Asub (τ := τ) hS
    refine va_calli (va_runV (As := [.int (-1000001)]) (rest := []) ⟨hx, hb, hml, hown, hts⟩ (k_X12_finding l D cA Z τ gi gr _ h0 t_h0 (-1000001) (rg_w rgc_m1000001 (th_leI rfl) (th_leI rfl))) (cwV 1 hts gX12_about_X12_finding rfl rfl rfl hd_X12_finding__1 ⟨Nat.le_of_ble_eq_true rfl, Nat.le_of_ble_eq_true rfl⟩) ⟨th_blind, tr_12 hK hH t_h0, (th_pre hH hK hN hZ hS hA35)⟩ rfl rfl hl.1 rfl (lv_room (Nat.le_of_ble_eq_true rfl)) dX12_about_11 ⟨Nat.le_of_ble_eq_true rfl, Nat.le_of_ble_eq_true rfl⟩) hS (fun q _ h => hA35 q h) hA35 (fun x36 u t H locs ht hvm hw36 hB hz1 hk1 hS => ?_)
    try dsimp only at hw36 hB
    rw [ht] at hB
    have hH := hB
    obtain ⟨gi36, gr36⟩ := u
    try dsimp only at hw36 hH
    obtain rfl : gr = gr36 := (hw36.2.1).symm
    have hM := hM.tr hw36.1 (fun _ h => h) (th_sub rfl)
    exact W.iret (v := x36) hx hb hr (fun t ht hW => ⟨⟨x36, (gi36, gr), rfl, ⟨hM, rfl, (hF.trans (by simp only [↓reduceIte, F_X12_about, hw2.2.2, eq_true c3, hw36.2.2.1]))⟩, th_Ht ht hH⟩, hS.F ht⟩) hS.2.2 dX12_about_14

noncomputable def F_X12_isParted (τ : th_t) (Z : th_Zt) (gi : th_i) (gr : th_r) (h0 : Nat) (p1 : Int32) : Int32 :=
  let q1 : Nat := (gr h0 5).getD 0
  let x2 : Int32 := gi q1 p1.toNatClampNeg
  if x2 < (60 : Int32) then (
    0) else (
    1)
set_option maxHeartbeats 8000000 in
set_option maxRecDepth 100000 in
theorem k_X12_isParted (l : Launch) (D : va_G) (cA : Nat → ClassId) (Z : th_Zt) (τ : th_t) (gi : th_i) (gr : th_r) (sz : Nat) (h0 : Nat) (t_h0 : τ h0 = 12) (p1 : Int32) (f_p1 : rg 0 11 p1) : Met l yX12_isParted wsX12_isParted ({ frames := 0, cells := 0, slots := 0, locals := 0 }) (va_Pc [.ref h0, .int p1] (th_Pre D cA Z τ gi gr sz)) (va_Qi (fun (r : Int32) (_ : Unit) => rg 0 1 r ∧ (F_X12_isParted τ Z gi gr h0 p1 = r)) (fun (_ : Unit) t => th_H D cA τ gi gr t.heap) (th_A τ sz)) 0 0 (th_A τ sz) := by
  refine Met.ofW (cc := cX12_isParted) (maxL := 2) (ret := (some .boolean)) (by decide) rfl ?_
  intro p e s m args below meth c s₁ B hml hv
  obtain ⟨rfl, hsz, hH, hK, hN, hZ⟩ := hv
  have hx := B.exec
  have hb := B.bytes
  have hr := B.returns
  have hts := atoms_spec (ws := wsX12_isParted) B.pre
  have hown : s.vm.findClass RX12 = some m.cls := findClass_of_methodNamed B.named
  have hlocks := B.notSynchronized
  subst hsz
  have hS : va_S (th_A τ s.heap.size) s.heap s.heap [] := va_S.rf
  have hl := lv_entry ([.ref h0, .int p1]) (n := 2) (Nat.le_of_ble_eq_true rfl)
  rw [lg_entry_eq]
  generalize (lg_sl ([.ref h0, .int p1]) ++ List.replicate (2 - (lg_sl ([.ref h0, .int p1])).length) Slot.unset).toArray = ls at hl ⊢
  have hl : lv_has ls 2 [(0, .ref h0), (1, .int p1)] := hl
  have hF : F_X12_isParted τ Z gi gr h0 p1 = F_X12_isParted τ Z gi gr h0 p1 := rfl
  refine lv_aload_n hx hb dX12_isParted_0 rfl (lv_at hl 0 rfl) ?_
  obtain ⟨q1, r1, t1⟩ : ∃ q, gr h0 5 = some q ∧ τ q = 44 := (thI_12 hH t_h0).2.2.2.2.2.1
  refine th_get (ci := 11) (v := .ref q1) (T := TX12) (C := RX12) (N := 38) hx hb hts (fun w h => List.mem_cons_of_mem _ (List.mem_append_right _ h)) hown hK hH t_h0 (th_nz rfl) (thE_12 _ _ _) rfl 5 (th_ltN rfl) (hts (.fieldLink RX12 22 "BayMooringsModel" "low" "[I") (List.mem_cons_of_mem _ (List.mem_append_left _ (List.mem_of_getElem? (i := 0) rfl)))) (fun _ h9 => h9) (th_fR r1 rfl) dX12_isParted_1 ?_
  refine lv_iload_n hx hb dX12_isParted_4 rfl (lv_at hl 1 rfl) ?_
  refine th_iald hx hb hK hH t1 (th_nz rfl) 0 (thE_44 _ _ _) rfl (rg_in (n := 12) f_p1 (th_leI rfl) (th_ltI rfl)) dX12_isParted_5 ?_
  refine lv_topi (fun x2 e2 => ?_)
  refine lv_bipush (v := 60) hx hb dX12_isParted_6 bp_60 ?_
  refine lv_icmp_lt (tgt := 15) hx hb dX12_isParted_8 (th_eqI rfl) (fun c3 => ?_) (fun c3 => ?_)
  · skip
    have f4 : rg (-2147483648) 59 x2 := rg_w (rg_lt (rg_any x2) rgc_60 c3).1 (th_leI rfl) (th_leI rfl)
    refine lv_iconst (v := 0) hx hb dX12_isParted_15 ic_0 ?_
    exact W.zret (v := 0) hx hb hr (rg_nb (rg_w rgc_0 (th_leI rfl) (th_leI rfl))) (fun t ht hW => ⟨⟨0, (), rfl, ⟨(rg_w rgc_0 (th_leI rfl) (th_leI rfl)), (hF.trans (by simp only [↓reduceIte, F_X12_isParted, r1, Option.getD_some, ← e2, eq_true c3]))⟩, th_Ht ht hH⟩, hS.F ht⟩) hS.2.2 dX12_isParted_16
  · skip
    have f5 : rg 60 2147483647 x2 := rg_w (rg_nlt (rg_any x2) rgc_60 c3).1 (th_leI rfl) (th_leI rfl)
    refine lv_iconst (v := 1) hx hb dX12_isParted_11 ic_1 ?_
    refine lv_goto (tgt := 16) hx hb dX12_isParted_12 (th_eqI rfl) ?_
    exact W.zret (v := 1) hx hb hr (rg_nb (rg_w rgc_1 (th_leI rfl) (th_leI rfl))) (fun t ht hW => ⟨⟨1, (), rfl, ⟨(rg_w rgc_1 (th_leI rfl) (th_leI rfl)), (hF.trans (by simp only [↓reduceIte, F_X12_isParted, r1, Option.getD_some, ← e2, eq_false c3]))⟩, th_Ht ht hH⟩, hS.F ht⟩) hS.2.2 dX12_isParted_16

noncomputable def F_X12_of (τ : th_t) (Z : th_Zt) (gi : th_i) (gr : th_r) (h0 : Nat) (p1 : Int32) (p2 : Int32) : Int32 × th_i :=
  let x2 : Int32 := F_X12_isBuoy τ Z gi gr h0 p1
  if x2 = (0 : Int32) then (
    let u40 : Int32 × th_i := F_X12_finding τ Z gi gr h0 (-1000001)
    let x40 : Int32 := u40.1
    let gi40 : th_i := u40.2
    (x40, gi40)) else (
    if p2.toInt < 0 then (
      let u8 : Int32 × th_i := F_X12_finding τ Z gi gr h0 (-1000001)
      let x8 : Int32 := u8.1
      let gi8 : th_i := u8.2
      (x8, gi8)) else (
      if 7 < p2.toInt then (
        let u10 : Int32 × th_i := F_X12_finding τ Z gi gr h0 (-1000001)
        let x10 : Int32 := u10.1
        let gi10 : th_i := u10.2
        (x10, gi10)) else (
        if p2.toInt = 0 then (
          let q12 : Nat := (gr h0 1).getD 0
          let x13 : Int32 := gi q12 p1.toNatClampNeg
          (x13, gi)) else (
          if p2.toInt = 1 then (
            let q15 : Nat := (gr h0 2).getD 0
            let x16 : Int32 := gi q15 p1.toNatClampNeg
            (x16, gi)) else (
            if p2.toInt = 2 then (
              let q18 : Nat := (gr h0 3).getD 0
              let x19 : Int32 := gi q18 p1.toNatClampNeg
              (x19, gi)) else (
              if p2.toInt = 3 then (
                let q21 : Nat := (gr h0 4).getD 0
                let x22 : Int32 := gi q21 p1.toNatClampNeg
                (x22, gi)) else (
                if p2.toInt = 4 then (
                  let q24 : Nat := (gr h0 7).getD 0
                  let x25 : Int32 := gi q24 p1.toNatClampNeg
                  (x25, gi)) else (
                  if p2.toInt = 5 then (
                    let q27 : Nat := (gr h0 5).getD 0
                    let x28 : Int32 := gi q27 p1.toNatClampNeg
                    (x28, gi)) else (
                    if p2.toInt = 6 then (
                      let q30 : Nat := (gr h0 6).getD 0
                      let x31 : Int32 := gi q30 p1.toNatClampNeg
                      (x31, gi)) else (
                      if p2.toInt = 7 then (
                        let x34 : Int32 := F_X12_isParted τ Z gi gr h0 p1
                        if x34 = (0 : Int32) then (
                          (0, gi)) else (
                          (1, gi))) else (
                        (0, gi))))))))))))
set_option maxHeartbeats 8000000 in
set_option maxRecDepth 100000 in
theorem k_X12_of (l : Launch) (D : va_G) (cA : Nat → ClassId) (Z : th_Zt) (τ : th_t) (gi : th_i) (gr : th_r) (sz : Nat) (h0 : Nat) (t_h0 : τ h0 = 12) (p1 : Int32) (p2 : Int32) : Met l yX12_of wsX12_of ({ frames := 2, cells := 0, slots := 0, locals := 43 }) (va_Pc [.ref h0, .int p1, .int p2] (th_Pre D cA Z τ gi gr sz)) (va_Qi (fun (r : Int32) (u : th_i × th_r) => th_Mod [5900] τ gi gr u.1 u.2 ∧ u.2 = gr ∧ (F_X12_of τ Z gi gr h0 p1 p2 = (r, u.1))) (fun (u : th_i × th_r) t => th_H D cA τ u.1 u.2 t.heap) (th_A τ sz)) 0 0 (th_A τ sz) := by
  refine Met.ofW (cc := cX12_of) (maxL := 3) (ret := (some .int)) (by decide) rfl ?_
  intro p e s m args below meth c s₁ B hml hv
  obtain ⟨rfl, hsz, hH, hK, hN, hZ⟩ := hv
  have hx := B.exec
  have hb := B.bytes
  have hr := B.returns
  have hts := atoms_spec (ws := wsX12_of) B.pre
  have hown : s.vm.findClass RX12 = some m.cls := findClass_of_methodNamed B.named
  have hlocks := B.notSynchronized
  subst hsz
  have hM : th_Mod [5900] τ gi gr gi gr := th_Mod.rf
  have hS : va_S (th_A τ s.heap.size) s.heap s.heap [] := va_S.rf
  have hl := lv_entry ([.ref h0, .int p1, .int p2]) (n := 3) (Nat.le_of_ble_eq_true rfl)
  rw [lg_entry_eq]
  generalize (lg_sl ([.ref h0, .int p1, .int p2]) ++ List.replicate (3 - (lg_sl ([.ref h0, .int p1, .int p2])).length) Slot.unset).toArray = ls at hl ⊢
  have hl : lv_has ls 3 [(0, .ref h0), (1, .int p1), (2, .int p2)] := hl
  have hF : F_X12_of τ Z gi gr h0 p1 p2 = F_X12_of τ Z gi gr h0 p1 p2 := rfl
  refine lv_aload_n hx hb dX12_of_0 rfl (lv_at hl 0 rfl) ?_
  refine lv_iload_n hx hb dX12_of_1 rfl (lv_at hl 1 rfl) ?_
  have hA1 := th_Asub (τ := τ) hS
  refine va_calli (va_runV (As := [.int p1]) (rest := []) ⟨hx, hb, hml, hown, hts⟩ (k_X12_isBuoy l D cA Z τ gi gr _ h0 t_h0 p1) (cwV 1 hts gX12_of_X12_isBuoy rfl rfl rfl hd_X12_isBuoy__1 ⟨Nat.le_of_ble_eq_true rfl, Nat.le_of_ble_eq_true rfl⟩) ⟨th_blind, tr_12 hK hH t_h0, (th_pre hH hK hN hZ hS hA1)⟩ rfl rfl hl.1 rfl (lv_room (Nat.le_of_ble_eq_true rfl)) dX12_of_2 ⟨Nat.le_of_ble_eq_true rfl, Nat.le_of_ble_eq_true rfl⟩) hS (fun q _ h => hA1 q h) hA1 (fun x2 u t H locs ht hvm hw2 hB hz1 hk1 hS => ?_)
  try dsimp only at hw2 hB
  rw [ht] at hB
  have hH := hB
  refine lv_if_ne (tgt := 15) hx hb dX12_of_5 (th_eqI rfl) (fun c3 => ?_) (fun c3 => ?_)
  · skip
    have f4 : rg 1 1 x2 := rg_w (rg_neL hw2.1 rgc_0 c3) (th_leI rfl) (th_leI rfl)
    have f5 : rg 0 11 p1 := rg_w (hw2.2.1 c3) (th_leI rfl) (th_leI rfl)
    refine lv_iload_n hx hb dX12_of_15 rfl (lv_at hl 2 rfl) ?_
    rcases Int.lt_or_le p2.toInt 0 with z6 | z6
    · refine lv_tableOut (tgt := 127) hx hb dX12_of_16 (Or.inl z6) (th_eqI rfl) ?_
      refine lv_aload_n hx hb dX12_of_127 rfl (lv_at hl 0 rfl) ?_
      refine lv_ldc (v := (-1000001)) hx hb hown (hts (.constant RX12 119 (-1000001)) (List.mem_cons_of_mem _ (List.mem_append_left _ (List.mem_append_left _ (List.mem_of_getElem? (i := 0) rfl))))) dX12_of_128 ?_
      have hA7 := th_Asub (τ := τ) hS
      refine va_calli (va_runV (As := [.int (-1000001)]) (rest := []) ⟨hx, hb, hml, hown, hts⟩ (k_X12_finding l D cA Z τ gi gr _ h0 t_h0 (-1000001) (rg_w rgc_m1000001 (th_leI rfl) (th_leI rfl))) (cwV 1 hts gX12_of_X12_finding rfl rfl rfl hd_X12_finding__1 ⟨Nat.le_of_ble_eq_true rfl, Nat.le_of_ble_eq_true rfl⟩) ⟨th_blind, tr_12 hK hH t_h0, (th_pre hH hK hN hZ hS hA7)⟩ rfl rfl hl.1 rfl (lv_room (Nat.le_of_ble_eq_true rfl)) dX12_of_130 ⟨Nat.le_of_ble_eq_true rfl, Nat.le_of_ble_eq_true rfl⟩) hS (fun q _ h => hA7 q h) hA7 (fun x8 u t H locs ht hvm hw8 hB hz1 hk1 hS => ?_)
      try dsimp only at hw8 hB
      rw [ht] at hB
      have hH := hB
      obtain ⟨gi8, gr8⟩ := u
      try dsimp only at hw8 hH
      obtain rfl : gr = gr8 := (hw8.2.1).symm
      have hM := hM.tr hw8.1 (fun _ h => h) (th_sub rfl)
      exact W.iret (v := x8) hx hb hr (fun t ht hW => ⟨⟨x8, (gi8, gr), rfl, ⟨hM, rfl, (hF.trans (by simp only [↓reduceIte, F_X12_of, hw2.2.2, eq_false c3, eq_true z6, hw8.2.2.1]))⟩, th_Ht ht hH⟩, hS.F ht⟩) hS.2.2 dX12_of_133
    rcases Int.lt_or_le 7 p2.toInt with y6 | y6
    · refine lv_tableOut (tgt := 127) hx hb dX12_of_16 (Or.inr y6) (th_eqI rfl) ?_
      refine lv_aload_n hx hb dX12_of_127 rfl (lv_at hl 0 rfl) ?_
      refine lv_ldc (v := (-1000001)) hx hb hown (hts (.constant RX12 119 (-1000001)) (List.mem_cons_of_mem _ (List.mem_append_left _ (List.mem_append_left _ (List.mem_of_getElem? (i := 0) rfl))))) dX12_of_128 ?_
      have hA9 := th_Asub (τ := τ) hS
      refine va_calli (va_runV (As := [.int (-1000001)]) (rest := []) ⟨hx, hb, hml, hown, hts⟩ (k_X12_finding l D cA Z τ gi gr _ h0 t_h0 (-1000001) (rg_w rgc_m1000001 (th_leI rfl) (th_leI rfl))) (cwV 1 hts gX12_of_X12_finding rfl rfl rfl hd_X12_finding__1 ⟨Nat.le_of_ble_eq_true rfl, Nat.le_of_ble_eq_true rfl⟩) ⟨th_blind, tr_12 hK hH t_h0, (th_pre hH hK hN hZ hS hA9)⟩ rfl rfl hl.1 rfl (lv_room (Nat.le_of_ble_eq_true rfl)) dX12_of_130 ⟨Nat.le_of_ble_eq_true rfl, Nat.le_of_ble_eq_true rfl⟩) hS (fun q _ h => hA9 q h) hA9 (fun x10 u t H locs ht hvm hw10 hB hz1 hk1 hS => ?_)
      try dsimp only at hw10 hB
      rw [ht] at hB
      have hH := hB
      obtain ⟨gi10, gr10⟩ := u
      try dsimp only at hw10 hH
      obtain rfl : gr = gr10 := (hw10.2.1).symm
      have hM := hM.tr hw10.1 (fun _ h => h) (th_sub rfl)
      exact W.iret (v := x10) hx hb hr (fun t ht hW => ⟨⟨x10, (gi10, gr), rfl, ⟨hM, rfl, (hF.trans (by simp only [↓reduceIte, F_X12_of, hw2.2.2, eq_false c3, eq_false (Int.not_lt.mpr z6), eq_true y6, hw10.2.2.1]))⟩, th_Ht ht hH⟩, hS.F ht⟩) hS.2.2 dX12_of_133
    rcases (show p2.toInt = 0 ∨ p2.toInt = 1 ∨ p2.toInt = 2 ∨ p2.toInt = 3 ∨ p2.toInt = 4 ∨ p2.toInt = 5 ∨ p2.toInt = 6 ∨ p2.toInt = 7 by omega) with w6 | w6 | w6 | w6 | w6 | w6 | w6 | w6
    · refine lv_tableIn (tgt := 64) hx hb dX12_of_16 (by omega) (by omega) (by rw [w6]; rfl) (th_eqI rfl) ?_
      have f11 : rg 0 0 p2 := ⟨by omega, by omega⟩
      refine lv_aload_n hx hb dX12_of_64 rfl (lv_at hl 0 rfl) ?_
      obtain ⟨q12, r12, t12⟩ : ∃ q, gr h0 1 = some q ∧ τ q = 40 := (thI_12 hH t_h0).2.1
      refine th_get (ci := 11) (v := .ref q12) (T := TX12) (C := RX12) (N := 38) hx hb hts (fun w h => List.mem_cons_of_mem _ (List.mem_append_right _ h)) hown hK hH t_h0 (th_nz rfl) (thE_12 _ _ _) rfl 1 (th_ltN rfl) (hts (.fieldLink RX12 9 "BayMooringsModel" "atX" "[I") (List.mem_cons_of_mem _ (List.mem_append_left _ (List.mem_append_left _ (List.mem_of_getElem? (i := 1) rfl))))) (fun _ h9 => h9) (th_fR r12 rfl) dX12_of_65 ?_
      refine lv_iload_n hx hb dX12_of_68 rfl (lv_at hl 1 rfl) ?_
      refine th_iald hx hb hK hH t12 (th_nz rfl) 0 (thE_40 _ _ _) rfl (rg_in (n := 12) f5 (th_leI rfl) (th_ltI rfl)) dX12_of_69 ?_
      refine lv_topi (fun x13 e13 => ?_)
      exact W.iret (v := x13) hx hb hr (fun t ht hW => ⟨⟨x13, (gi, gr), rfl, ⟨hM, rfl, (hF.trans (by simp only [↓reduceIte, F_X12_of, hw2.2.2, eq_false c3, eq_false (Int.not_lt.mpr z6), eq_false (Int.not_lt.mpr y6), eq_true w6, r12, Option.getD_some, ← e13]))⟩, th_Ht ht hH⟩, hS.F ht⟩) hS.2.2 dX12_of_70
    · refine lv_tableIn (tgt := 71) hx hb dX12_of_16 (by omega) (by omega) (by rw [w6]; rfl) (th_eqI rfl) ?_
      have f14 : rg 1 1 p2 := ⟨by omega, by omega⟩
      refine lv_aload_n hx hb dX12_of_71 rfl (lv_at hl 0 rfl) ?_
      obtain ⟨q15, r15, t15⟩ : ∃ q, gr h0 2 = some q ∧ τ q = 41 := (thI_12 hH t_h0).2.2.1
      refine th_get (ci := 11) (v := .ref q15) (T := TX12) (C := RX12) (N := 38) hx hb hts (fun w h => List.mem_cons_of_mem _ (List.mem_append_right _ h)) hown hK hH t_h0 (th_nz rfl) (thE_12 _ _ _) rfl 2 (th_ltN rfl) (hts (.fieldLink RX12 13 "BayMooringsModel" "atY" "[I") (List.mem_cons_of_mem _ (List.mem_append_left _ (List.mem_append_left _ (List.mem_of_getElem? (i := 2) rfl))))) (fun _ h9 => h9) (th_fR r15 rfl) dX12_of_72 ?_
      refine lv_iload_n hx hb dX12_of_75 rfl (lv_at hl 1 rfl) ?_
      refine th_iald hx hb hK hH t15 (th_nz rfl) 0 (thE_41 _ _ _) rfl (rg_in (n := 12) f5 (th_leI rfl) (th_ltI rfl)) dX12_of_76 ?_
      refine lv_topi (fun x16 e16 => ?_)
      exact W.iret (v := x16) hx hb hr (fun t ht hW => ⟨⟨x16, (gi, gr), rfl, ⟨hM, rfl, (hF.trans (by simp only [↓reduceIte, F_X12_of, hw2.2.2, eq_false c3, eq_false (Int.not_lt.mpr z6), eq_false (Int.not_lt.mpr y6), eq_false (show ¬ p2.toInt = 0 by omega), eq_true w6, r15, Option.getD_some, ← e16]))⟩, th_Ht ht hH⟩, hS.F ht⟩) hS.2.2 dX12_of_77
    · refine lv_tableIn (tgt := 78) hx hb dX12_of_16 (by omega) (by omega) (by rw [w6]; rfl) (th_eqI rfl) ?_
      have f17 : rg 2 2 p2 := ⟨by omega, by omega⟩
      refine lv_aload_n hx hb dX12_of_78 rfl (lv_at hl 0 rfl) ?_
      obtain ⟨q18, r18, t18⟩ : ∃ q, gr h0 3 = some q ∧ τ q = 42 := (thI_12 hH t_h0).2.2.2.1
      refine th_get (ci := 11) (v := .ref q18) (T := TX12) (C := RX12) (N := 38) hx hb hts (fun w h => List.mem_cons_of_mem _ (List.mem_append_right _ h)) hown hK hH t_h0 (th_nz rfl) (thE_12 _ _ _) rfl 3 (th_ltN rfl) (hts (.fieldLink RX12 16 "BayMooringsModel" "depth" "[I") (List.mem_cons_of_mem _ (List.mem_append_left _ (List.mem_append_left _ (List.mem_of_getElem? (i := 3) rfl))))) (fun _ h9 => h9) (th_fR r18 rfl) dX12_of_79 ?_
      refine lv_iload_n hx hb dX12_of_82 rfl (lv_at hl 1 rfl) ?_
      refine th_iald hx hb hK hH t18 (th_nz rfl) 0 (thE_42 _ _ _) rfl (rg_in (n := 12) f5 (th_leI rfl) (th_ltI rfl)) dX12_of_83 ?_
      refine lv_topi (fun x19 e19 => ?_)
      have f19 : rg 0 300 x19 := rg_e e19 ((thI_42 hH t18) _ (rg_cl (n := 12) f5 (th_leI rfl) (th_ltI rfl)))
      exact W.iret (v := x19) hx hb hr (fun t ht hW => ⟨⟨x19, (gi, gr), rfl, ⟨hM, rfl, (hF.trans (by simp only [↓reduceIte, F_X12_of, hw2.2.2, eq_false c3, eq_false (Int.not_lt.mpr z6), eq_false (Int.not_lt.mpr y6), eq_false (show ¬ p2.toInt = 0 by omega), eq_false (show ¬ p2.toInt = 1 by omega), eq_true w6, r18, Option.getD_some, ← e19]))⟩, th_Ht ht hH⟩, hS.F ht⟩) hS.2.2 dX12_of_84
    · refine lv_tableIn (tgt := 85) hx hb dX12_of_16 (by omega) (by omega) (by rw [w6]; rfl) (th_eqI rfl) ?_
      have f20 : rg 3 3 p2 := ⟨by omega, by omega⟩
      refine lv_aload_n hx hb dX12_of_85 rfl (lv_at hl 0 rfl) ?_
      obtain ⟨q21, r21, t21⟩ : ∃ q, gr h0 4 = some q ∧ τ q = 43 := (thI_12 hH t_h0).2.2.2.2.1
      refine th_get (ci := 11) (v := .ref q21) (T := TX12) (C := RX12) (N := 38) hx hb hts (fun w h => List.mem_cons_of_mem _ (List.mem_append_right _ h)) hown hK hH t_h0 (th_nz rfl) (thE_12 _ _ _) rfl 4 (th_ltN rfl) (hts (.fieldLink RX12 19 "BayMooringsModel" "chain" "[I") (List.mem_cons_of_mem _ (List.mem_append_left _ (List.mem_append_left _ (List.mem_of_getElem? (i := 4) rfl))))) (fun _ h9 => h9) (th_fR r21 rfl) dX12_of_86 ?_
      refine lv_iload_n hx hb dX12_of_89 rfl (lv_at hl 1 rfl) ?_
      refine th_iald hx hb hK hH t21 (th_nz rfl) 0 (thE_43 _ _ _) rfl (rg_in (n := 12) f5 (th_leI rfl) (th_ltI rfl)) dX12_of_90 ?_
      refine lv_topi (fun x22 e22 => ?_)
      have f22 : rg 0 400 x22 := rg_e e22 ((thI_43 hH t21) _ (rg_cl (n := 12) f5 (th_leI rfl) (th_ltI rfl)))
      exact W.iret (v := x22) hx hb hr (fun t ht hW => ⟨⟨x22, (gi, gr), rfl, ⟨hM, rfl, (hF.trans (by simp only [↓reduceIte, F_X12_of, hw2.2.2, eq_false c3, eq_false (Int.not_lt.mpr z6), eq_false (Int.not_lt.mpr y6), eq_false (show ¬ p2.toInt = 0 by omega), eq_false (show ¬ p2.toInt = 1 by omega), eq_false (show ¬ p2.toInt = 2 by omega), eq_true w6, r21, Option.getD_some, ← e22]))⟩, th_Ht ht hH⟩, hS.F ht⟩) hS.2.2 dX12_of_91
    · refine lv_tableIn (tgt := 92) hx hb dX12_of_16 (by omega) (by omega) (by rw [w6]; rfl) (th_eqI rfl) ?_
      have f23 : rg 4 4 p2 := ⟨by omega, by omega⟩
      refine lv_aload_n hx hb dX12_of_92 rfl (lv_at hl 0 rfl) ?_
      obtain ⟨q24, r24, t24⟩ : ∃ q, gr h0 7 = some q ∧ τ q = 46 := (thI_12 hH t_h0).2.2.2.2.2.2.2.1
      refine th_get (ci := 11) (v := .ref q24) (T := TX12) (C := RX12) (N := 38) hx hb hts (fun w h => List.mem_cons_of_mem _ (List.mem_append_right _ h)) hown hK hH t_h0 (th_nz rfl) (thE_12 _ _ _) rfl 7 (th_ltN rfl) (hts (.fieldLink RX12 28 "BayMooringsModel" "boatAt" "[I") (List.mem_cons_of_mem _ (List.mem_append_left _ (List.mem_append_left _ (List.mem_of_getElem? (i := 5) rfl))))) (fun _ h9 => h9) (th_fR r24 rfl) dX12_of_93 ?_
      refine lv_iload_n hx hb dX12_of_96 rfl (lv_at hl 1 rfl) ?_
      refine th_iald hx hb hK hH t24 (th_nz rfl) 0 (thE_46 _ _ _) rfl (rg_in (n := 12) f5 (th_leI rfl) (th_ltI rfl)) dX12_of_97 ?_
      refine lv_topi (fun x25 e25 => ?_)
      have f25 : rg (-1) 15 x25 := rg_e e25 ((thI_46 hH t24) _ (rg_cl (n := 12) f5 (th_leI rfl) (th_ltI rfl)))
      exact W.iret (v := x25) hx hb hr (fun t ht hW => ⟨⟨x25, (gi, gr), rfl, ⟨hM, rfl, (hF.trans (by simp only [↓reduceIte, F_X12_of, hw2.2.2, eq_false c3, eq_false (Int.not_lt.mpr z6), eq_false (Int.not_lt.mpr y6), eq_false (show ¬ p2.toInt = 0 by omega), eq_false (show ¬ p2.toInt = 1 by omega), eq_false (show ¬ p2.toInt = 2 by omega), eq_false (show ¬ p2.toInt = 3 by omega), eq_true w6, r24, Option.getD_some, ← e25]))⟩, th_Ht ht hH⟩, hS.F ht⟩) hS.2.2 dX12_of_98
    · refine lv_tableIn (tgt := 99) hx hb dX12_of_16 (by omega) (by omega) (by rw [w6]; rfl) (th_eqI rfl) ?_
      have f26 : rg 5 5 p2 := ⟨by omega, by omega⟩
      refine lv_aload_n hx hb dX12_of_99 rfl (lv_at hl 0 rfl) ?_
      obtain ⟨q27, r27, t27⟩ : ∃ q, gr h0 5 = some q ∧ τ q = 44 := (thI_12 hH t_h0).2.2.2.2.2.1
      refine th_get (ci := 11) (v := .ref q27) (T := TX12) (C := RX12) (N := 38) hx hb hts (fun w h => List.mem_cons_of_mem _ (List.mem_append_right _ h)) hown hK hH t_h0 (th_nz rfl) (thE_12 _ _ _) rfl 5 (th_ltN rfl) (hts (.fieldLink RX12 22 "BayMooringsModel" "low" "[I") (List.mem_cons_of_mem _ (List.mem_append_left _ (List.mem_append_left _ (List.mem_of_getElem? (i := 6) rfl))))) (fun _ h9 => h9) (th_fR r27 rfl) dX12_of_100 ?_
      refine lv_iload_n hx hb dX12_of_103 rfl (lv_at hl 1 rfl) ?_
      refine th_iald hx hb hK hH t27 (th_nz rfl) 0 (thE_44 _ _ _) rfl (rg_in (n := 12) f5 (th_leI rfl) (th_ltI rfl)) dX12_of_104 ?_
      refine lv_topi (fun x28 e28 => ?_)
      exact W.iret (v := x28) hx hb hr (fun t ht hW => ⟨⟨x28, (gi, gr), rfl, ⟨hM, rfl, (hF.trans (by simp only [↓reduceIte, F_X12_of, hw2.2.2, eq_false c3, eq_false (Int.not_lt.mpr z6), eq_false (Int.not_lt.mpr y6), eq_false (show ¬ p2.toInt = 0 by omega), eq_false (show ¬ p2.toInt = 1 by omega), eq_false (show ¬ p2.toInt = 2 by omega), eq_false (show ¬ p2.toInt = 3 by omega), eq_false (show ¬ p2.toInt = 4 by omega), eq_true w6, r27, Option.getD_some, ← e28]))⟩, th_Ht ht hH⟩, hS.F ht⟩) hS.2.2 dX12_of_105
    · refine lv_tableIn (tgt := 106) hx hb dX12_of_16 (by omega) (by omega) (by rw [w6]; rfl) (th_eqI rfl) ?_
      have f29 : rg 6 6 p2 := ⟨by omega, by omega⟩
      refine lv_aload_n hx hb dX12_of_106 rfl (lv_at hl 0 rfl) ?_
      obtain ⟨q30, r30, t30⟩ : ∃ q, gr h0 6 = some q ∧ τ q = 45 := (thI_12 hH t_h0).2.2.2.2.2.2.1
      refine th_get (ci := 11) (v := .ref q30) (T := TX12) (C := RX12) (N := 38) hx hb hts (fun w h => List.mem_cons_of_mem _ (List.mem_append_right _ h)) hown hK hH t_h0 (th_nz rfl) (thE_12 _ _ _) rfl 6 (th_ltN rfl) (hts (.fieldLink RX12 25 "BayMooringsModel" "high" "[I") (List.mem_cons_of_mem _ (List.mem_append_left _ (List.mem_append_left _ (List.mem_of_getElem? (i := 7) rfl))))) (fun _ h9 => h9) (th_fR r30 rfl) dX12_of_107 ?_
      refine lv_iload_n hx hb dX12_of_110 rfl (lv_at hl 1 rfl) ?_
      refine th_iald hx hb hK hH t30 (th_nz rfl) 0 (thE_45 _ _ _) rfl (rg_in (n := 12) f5 (th_leI rfl) (th_ltI rfl)) dX12_of_111 ?_
      refine lv_topi (fun x31 e31 => ?_)
      exact W.iret (v := x31) hx hb hr (fun t ht hW => ⟨⟨x31, (gi, gr), rfl, ⟨hM, rfl, (hF.trans (by simp only [↓reduceIte, F_X12_of, hw2.2.2, eq_false c3, eq_false (Int.not_lt.mpr z6), eq_false (Int.not_lt.mpr y6), eq_false (show ¬ p2.toInt = 0 by omega), eq_false (show ¬ p2.toInt = 1 by omega), eq_false (show ¬ p2.toInt = 2 by omega), eq_false (show ¬ p2.toInt = 3 by omega), eq_false (show ¬ p2.toInt = 4 by omega), eq_false (show ¬ p2.toInt = 5 by omega), eq_true w6, r30, Option.getD_some, ← e31]))⟩, th_Ht ht hH⟩, hS.F ht⟩) hS.2.2 dX12_of_112
    · refine lv_tableIn (tgt := 113) hx hb dX12_of_16 (by omega) (by omega) (by rw [w6]; rfl) (th_eqI rfl) ?_
      have f32 : rg 7 7 p2 := ⟨by omega, by omega⟩
      refine lv_aload_n hx hb dX12_of_113 rfl (lv_at hl 0 rfl) ?_
      refine lv_iload_n hx hb dX12_of_114 rfl (lv_at hl 1 rfl) ?_
      have hA33 := th_Asub (τ := τ) hS
      refine va_calli (va_runV (As := [.int p1]) (rest := []) ⟨hx, hb, hml, hown, hts⟩ (k_X12_isParted l D cA Z τ gi gr _ h0 t_h0 p1 f5) (cwV 1 hts gX12_of_X12_isParted rfl rfl rfl hd_X12_isParted__1 ⟨Nat.le_of_ble_eq_true rfl, Nat.le_of_ble_eq_true rfl⟩) ⟨th_blind, tr_12 hK hH t_h0, (th_pre hH hK hN hZ hS hA33)⟩ rfl rfl hl.1 rfl (lv_room (Nat.le_of_ble_eq_true rfl)) dX12_of_115 ⟨Nat.le_of_ble_eq_true rfl, Nat.le_of_ble_eq_true rfl⟩) hS (fun q _ h => hA33 q h) hA33 (fun x34 u t H locs ht hvm hw34 hB hz1 hk1 hS => ?_)
      try dsimp only at hw34 hB
      rw [ht] at hB
      have hH := hB
      refine lv_if_eq (tgt := 125) hx hb dX12_of_118 (th_eqI rfl) (fun c35 => ?_) (fun c35 => ?_)
      · skip
        have f36 : rg 0 0 x34 := rg_w (rg_eq hw34.1 rgc_0 c35).1 (th_leI rfl) (th_leI rfl)
        refine lv_iconst (v := 0) hx hb dX12_of_125 ic_0 ?_
        exact W.iret (v := 0) hx hb hr (fun t ht hW => ⟨⟨0, (gi, gr), rfl, ⟨hM, rfl, (hF.trans (by simp only [↓reduceIte, F_X12_of, hw2.2.2, eq_false c3, eq_false (Int.not_lt.mpr z6), eq_false (Int.not_lt.mpr y6), eq_false (show ¬ p2.toInt = 0 by omega), eq_false (show ¬ p2.toInt = 1 by omega), eq_false (show ¬ p2.toInt = 2 by omega), eq_false (show ¬ p2.toInt = 3 by omega), eq_false (show ¬ p2.toInt = 4 by omega), eq_false (show ¬ p2.toInt = 5 by omega), eq_false (show ¬ p2.toInt = 6 by omega), eq_true w6, hw34.2, eq_true c35]))⟩, th_Ht ht hH⟩, hS.F ht⟩) hS.2.2 dX12_of_126
      · skip
        have f37 : rg 1 1 x34 := rg_w (rg_neL hw34.1 rgc_0 c35) (th_leI rfl) (th_leI rfl)
        refine lv_iconst (v := 1) hx hb dX12_of_121 ic_1 ?_
        refine lv_goto (tgt := 126) hx hb dX12_of_122 (th_eqI rfl) ?_
        exact W.iret (v := 1) hx hb hr (fun t ht hW => ⟨⟨1, (gi, gr), rfl, ⟨hM, rfl, (hF.trans (by simp only [↓reduceIte, F_X12_of, hw2.2.2, eq_false c3, eq_false (Int.not_lt.mpr z6), eq_false (Int.not_lt.mpr y6), eq_false (show ¬ p2.toInt = 0 by omega), eq_false (show ¬ p2.toInt = 1 by omega), eq_false (show ¬ p2.toInt = 2 by omega), eq_false (show ¬ p2.toInt = 3 by omega), eq_false (show ¬ p2.toInt = 4 by omega), eq_false (show ¬ p2.toInt = 5 by omega), eq_false (show ¬ p2.toInt = 6 by omega), eq_true w6, hw34.2, eq_false c35]))⟩, th_Ht ht hH⟩, hS.F ht⟩) hS.2.2 dX12_of_126
  · skip
    have f38 : rg 0 0 x2 := rg_w (rg_eq hw2.1 rgc_0 c3).1 (th_leI rfl) (th_leI rfl)
    refine lv_aload_n hx hb dX12_of_8 rfl (lv_at hl 0 rfl) ?_
    refine lv_ldc (v := (-1000001)) hx hb hown (hts (.constant RX12 119 (-1000001)) (List.mem_cons_of_mem _ (List.mem_append_left _ (List.mem_append_left _ (List.mem_of_getElem? (i := 0) rfl))))) dX12_of_9 ?_
    have hA39 := th_Asub (τ := τ) hS
    refine va_calli (va_runV (As := [.int (-1000001)]) (rest := []) ⟨hx, hb, hml, hown, hts⟩ (k_X12_finding l D cA Z τ gi gr _ h0 t_h0 (-1000001) (rg_w rgc_m1000001 (th_leI rfl) (th_leI rfl))) (cwV 1 hts gX12_of_X12_finding rfl rfl rfl hd_X12_finding__1 ⟨Nat.le_of_ble_eq_true rfl, Nat.le_of_ble_eq_true rfl⟩) ⟨th_blind, tr_12 hK hH t_h0, (th_pre hH hK hN hZ hS hA39)⟩ rfl rfl hl.1 rfl (lv_room (Nat.le_of_ble_eq_true rfl)) dX12_of_11 ⟨Nat.le_of_ble_eq_true rfl, Nat.le_of_ble_eq_true rfl⟩) hS (fun q _ h => hA39 q h) hA39 (fun x40 u t H locs ht hvm hw40 hB hz1 hk1 hS => ?_)
    try dsimp only at hw40 hB
    rw [ht] at hB
    have hH := hB
    obtain ⟨gi40, gr40⟩ := u
    try dsimp only at hw40 hH
    obtain rfl : gr = gr40 := (hw40.2.1).symm
    have hM := hM.tr hw40.1 (fun _ h => h) (th_sub rfl)
    exact W.iret (v := x40) hx hb hr (fun t ht hW => ⟨⟨x40, (gi40, gr), rfl, ⟨hM, rfl, (hF.trans (by simp only [↓reduceIte, F_X12_of, hw2.2.2, eq_true c3, hw40.2.2.1]))⟩, th_Ht ht hH⟩, hS.F ht⟩) hS.2.2 dX12_of_14
