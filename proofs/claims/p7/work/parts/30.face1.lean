noncomputable def F_X11_finding (τ : th_t) (Z : th_Zt) (gi : th_i) (gr : th_r) (h0 : Nat) (p1 : Int32) : Int32 × th_i :=
  let x2 : Int32 := F_X11_within τ Z gi gr p1 1 5
  if x2 = (0 : Int32) then (
    let x5 : Int32 := (-1000000) - p1
    (x5, gi)) else (
    let q10 : Nat := (gr h0 5).getD 0
    let x11 : Int32 := gi q10 p1.toNatClampNeg
    let x12 : Int32 := x11 + 1
    let gi13 : th_i := va_up gi q10 (upd (gi q10) p1.toNatClampNeg x12)
    let x15 : Int32 := (-1000000) - p1
    (x15, gi13))
set_option maxHeartbeats 8000000 in
set_option maxRecDepth 100000 in
theorem k_X11_finding (l : Launch) (D : va_G) (cA : Nat → ClassId) (Z : th_Zt) (τ : th_t) (gi : th_i) (gr : th_r) (sz : Nat) (h0 : Nat) (t_h0 : τ h0 = 11) (p1 : Int32) : Met l yX11_finding wsX11_finding ({ frames := 1, cells := 0, slots := 0, locals := 22 }) (va_Pc [.ref h0, .int p1] (th_Pre D cA Z τ gi gr sz)) (va_Qi (fun (r : Int32) (u : th_i × th_r) => th_Mod [3600] τ gi gr u.1 u.2 ∧ u.2 = gr ∧ (F_X11_finding τ Z gi gr h0 p1 = (r, u.1)) ∧ (r = -1000000 - p1)) (fun (u : th_i × th_r) t => th_H D cA τ u.1 u.2 t.heap) (th_A τ sz)) 0 0 (th_A τ sz) := by
  refine Met.ofW (cc := cX11_finding) (maxL := 2) (ret := (some .int)) (by decide) rfl ?_
  intro p e s m args below meth c s₁ B hml hv
  obtain ⟨rfl, hsz, hH, hK, hN, hZ⟩ := hv
  have hx := B.exec
  have hb := B.bytes
  have hr := B.returns
  have hts := atoms_spec (ws := wsX11_finding) B.pre
  have hown : s.vm.findClass RX11 = some m.cls := findClass_of_methodNamed B.named
  have hlocks := B.notSynchronized
  subst hsz
  have hM : th_Mod [3600] τ gi gr gi gr := th_Mod.rf
  have hS : va_S (th_A τ s.heap.size) s.heap s.heap [] := va_S.rf
  have hl := lv_entry ([.ref h0, .int p1]) (n := 2) (Nat.le_of_ble_eq_true rfl)
  rw [lg_entry_eq]
  generalize (lg_sl ([.ref h0, .int p1]) ++ List.replicate (2 - (lg_sl ([.ref h0, .int p1])).length) Slot.unset).toArray = ls at hl ⊢
  have hl : lv_has ls 2 [(0, .ref h0), (1, .int p1)] := hl
  have hF : F_X11_finding τ Z gi gr h0 p1 = F_X11_finding τ Z gi gr h0 p1 := rfl
  refine lv_iload_n hx hb dX11_finding_0 rfl (lv_at hl 1 rfl) ?_
  refine lv_iconst (v := 1) hx hb dX11_finding_1 ic_1 ?_
  refine lv_iconst (v := 5) hx hb dX11_finding_2 ic_5 ?_
  have hA1 := th_Asub (τ := τ) hS
  refine va_calli (va_runS (As := [.int p1, .int 1, .int 5]) (rest := []) ⟨hx, hb, hml, hown, hts⟩ (k_X11_within l D cA Z τ gi gr _ p1 1 5) (va_cwS 3 hts gX11_finding_X11_within rfl rfl rfl (by decide +kernel) ⟨Nat.le_of_ble_eq_true rfl, Nat.le_of_ble_eq_true rfl⟩) ⟨th_blind, (th_pre hH hK hN hZ hS hA1)⟩ rfl rfl hl.1 rfl (lv_room (Nat.le_of_ble_eq_true rfl)) dX11_finding_3 ⟨Nat.le_of_ble_eq_true rfl, Nat.le_of_ble_eq_true rfl⟩) hS (fun q _ h => hA1 q h) hA1 (fun x2 u t H locs ht hvm hw2 hB hz1 hk1 hS => ?_)
  try dsimp only at hw2 hB
  rw [ht] at hB
  have hH := hB
  refine lv_if_eq (tgt := 19) hx hb dX11_finding_6 (th_eqI rfl) (fun c3 => ?_) (fun c3 => ?_)
  · skip
    have f4 : rg 0 0 x2 := rg_w (rg_eq hw2.1 rgc_0 c3).1 (th_leI rfl) (th_leI rfl)
    refine lv_ldcw (v := (-1000000)) hx hb hown (hts (.constant RX11 278 (-1000000)) (List.mem_cons_of_mem _ (List.mem_append_left _ (List.mem_of_getElem? (i := 1) rfl)))) dX11_finding_19 ?_
    refine lv_iload_n hx hb dX11_finding_22 rfl (lv_at hl 1 rfl) ?_
    refine lv_isub hx hb dX11_finding_23 ?_
    refine lv_topi (fun x5 e5 => ?_)
    exact W.iret (v := x5) hx hb hr (fun t ht hW => ⟨⟨x5, (gi, gr), rfl, ⟨hM, rfl, (hF.trans (by simp only [↓reduceIte, F_X11_finding, hw2.2.2.1, eq_true c3, ← e5])), e5⟩, th_Ht ht hH⟩, hS.F ht⟩) hS.2.2 dX11_finding_24
  · skip
    have f6 : rg 1 1 x2 := rg_w (rg_neL hw2.1 rgc_0 c3) (th_leI rfl) (th_leI rfl)
    have g7 := hw2.2.1 c3
    have f8 : rg 1 2147483647 p1 := rg_w (rg_le rgc_1 (rg_any p1) g7.1).2 (th_leI rfl) (th_leI rfl)
    have f9 : rg 1 5 p1 := rg_w (rg_le f8 rgc_5 g7.2).1 (th_leI rfl) (th_leI rfl)
    refine lv_aload_n hx hb dX11_finding_9 rfl (lv_at hl 0 rfl) ?_
    obtain ⟨q10, r10, t10⟩ : ∃ q, gr h0 5 = some q ∧ τ q = 36 := (thI_11 hH t_h0).2.2.2.2.2.1
    refine th_get (ci := 10) (v := .ref q10) (T := TX11) (C := RX11) (N := 10) hx hb hts (fun w h => List.mem_cons_of_mem _ (List.mem_append_right _ h)) hown hK hH t_h0 (th_nz rfl) (thE_11 _ _ _) rfl 5 (th_ltN rfl) (hts (.fieldLink RX11 46 "BayMoorings" "findings" "[I") (List.mem_cons_of_mem _ (List.mem_append_left _ (List.mem_of_getElem? (i := 0) rfl)))) (fun _ h9 => h9) (th_fR r10 rfl) dX11_finding_10 ?_
    refine lv_iload_n hx hb dX11_finding_13 rfl (lv_at hl 1 rfl) ?_
    refine lv_dup2_11 hx hb dX11_finding_14 rfl rfl ?_
    refine th_iald hx hb hK hH t10 (th_nz rfl) 0 (thE_36 _ _ _) rfl (rg_in (n := 6) f9 (th_leI rfl) (th_ltI rfl)) dX11_finding_15 ?_
    refine lv_topi (fun x11 e11 => ?_)
    refine lv_iconst (v := 1) hx hb dX11_finding_16 ic_1 ?_
    refine lv_iadd hx hb dX11_finding_17 ?_
    refine lv_topi (fun x12 e12 => ?_)
    refine th_iast hx hb hK hH hS t10 (th_nz rfl) (Or.inl (th_nzE t10 rfl)) 0 (fun _ => thE_36 _ _ _) rfl (rg_in (n := 6) f9 (th_leI rfl) (th_ltI rfl)) (trivial) dX11_finding_18 (fun gi13 H locs hu13 ho13 hH hS => ?_)
    have eg13 : gi13 = va_up gi q10 (upd (gi q10) p1.toNatClampNeg x12) := th_upE hu13 ho13
    have hM := hM.i t10 (th_mem (a := 3600) rfl) ho13
    refine lv_ldcw (v := (-1000000)) hx hb hown (hts (.constant RX11 278 (-1000000)) (List.mem_cons_of_mem _ (List.mem_append_left _ (List.mem_of_getElem? (i := 1) rfl)))) dX11_finding_19 ?_
    refine lv_iload_n hx hb dX11_finding_22 rfl (lv_at hl 1 rfl) ?_
    refine lv_isub hx hb dX11_finding_23 ?_
    refine lv_topi (fun x15 e15 => ?_)
    have f15 : rg (-1000005) (-1000001) x15 := rg_e e15 (rg_w (rg_sub rgc_m1000000 f9 (th_leI rfl) (th_leI rfl)) (th_leI rfl) (th_leI rfl))
    exact W.iret (v := x15) hx hb hr (fun t ht hW => ⟨⟨x15, (gi13, gr), rfl, ⟨hM, rfl, (hF.trans (by simp only [↓reduceIte, F_X11_finding, hw2.2.2.1, eq_false c3, r10, Option.getD_some, ← e11, ← e12, ← eg13, ← e15])), e15⟩, th_Ht ht hH⟩, hS.F ht⟩) hS.2.2 dX11_finding_24

noncomputable def F_X11_offeredBoat (τ : th_t) (Z : th_Zt) (gi : th_i) (gr : th_r) (h0 : Nat) (p1 : Int32) : Int32 × th_i :=
  let q1 : Nat := (gr h0 0).getD 0
  let r3 : Option Nat := F_X0_buoyAt τ Z gi gr q1 p1
  Option.elim r3 (
    let u21 : Int32 × th_i := F_X11_finding τ Z gi gr h0 1
    let x21 : Int32 := u21.1
    let gi21 : th_i := u21.2
    (x21, gi21)) (fun q4 =>
    let q6 : Nat := (gr q1 4).getD 0
    let x8 : Int32 := F_X1_boatOf τ Z gi gr q6 p1
    if x8 = ((-1) : Int32) then (
      let q11 : Nat := (gr h0 1).getD 0
      let x13 : Int32 := F_X10_firstFor τ Z gi gr q11 q4
      if x13 = ((-1) : Int32) then (
        let u17 : Int32 × th_i := F_X11_finding τ Z gi gr h0 2
        let x17 : Int32 := u17.1
        let gi17 : th_i := u17.2
        (x17, gi17)) else (
        (x13, gi))) else (
      let u19 : Int32 × th_i := F_X11_finding τ Z gi gr h0 3
      let x19 : Int32 := u19.1
      let gi19 : th_i := u19.2
      (x19, gi19)))
set_option maxHeartbeats 8000000 in
set_option maxRecDepth 100000 in
theorem k_X11_offeredBoat (l : Launch) (D : va_G) (cA : Nat → ClassId) (Z : th_Zt) (τ : th_t) (gi : th_i) (gr : th_r) (sz : Nat) (h0 : Nat) (t_h0 : τ h0 = 11) (p1 : Int32) : Met l yX11_offeredBoat wsX11_offeredBoat ({ frames := 5, cells := 0, slots := 0, locals := 146 }) (va_Pc [.ref h0, .int p1] (th_Pre D cA Z τ gi gr sz)) (va_Qi (fun (r : Int32) (u : th_i × th_r) => th_Mod [3600] τ gi gr u.1 u.2 ∧ u.2 = gr ∧ (F_X11_offeredBoat τ Z gi gr h0 p1 = (r, u.1))) (fun (u : th_i × th_r) t => th_H D cA τ u.1 u.2 t.heap) (th_A τ sz)) 0 0 (th_A τ sz) := by
  refine Met.ofW (cc := cX11_offeredBoat) (maxL := 4) (ret := (some .int)) (by decide) rfl ?_
  intro p e s m args below meth c s₁ B hml hv
  obtain ⟨rfl, hsz, hH, hK, hN, hZ⟩ := hv
  have hx := B.exec
  have hb := B.bytes
  have hr := B.returns
  have hts := atoms_spec (ws := wsX11_offeredBoat) B.pre
  have hown : s.vm.findClass RX11 = some m.cls := findClass_of_methodNamed B.named
  have hlocks := B.notSynchronized
  subst hsz
  have hM : th_Mod [3600] τ gi gr gi gr := th_Mod.rf
  have hS : va_S (th_A τ s.heap.size) s.heap s.heap [] := va_S.rf
  have hl := lv_entry ([.ref h0, .int p1]) (n := 4) (Nat.le_of_ble_eq_true rfl)
  rw [lg_entry_eq]
  generalize (lg_sl ([.ref h0, .int p1]) ++ List.replicate (4 - (lg_sl ([.ref h0, .int p1])).length) Slot.unset).toArray = ls at hl ⊢
  have hl : lv_has ls 4 [(0, .ref h0), (1, .int p1)] := hl
  have hF : F_X11_offeredBoat τ Z gi gr h0 p1 = F_X11_offeredBoat τ Z gi gr h0 p1 := rfl
  refine lv_aload_n hx hb dX11_offeredBoat_0 rfl (lv_at hl 0 rfl) ?_
  obtain ⟨q1, r1, t1⟩ : ∃ q, gr h0 0 = some q ∧ τ q = 1 := (thI_11 hH t_h0).1
  refine th_get (ci := 10) (v := .ref q1) (T := TX11) (C := RX11) (N := 10) hx hb hts (fun w h => List.mem_cons_of_mem _ (List.mem_append_left _ (List.mem_append_left _ (List.mem_append_left _ (List.mem_append_left _ (List.mem_append_left _ (List.mem_append_left _ (List.mem_append_left _ (List.mem_append_right _ h))))))))) hown hK hH t_h0 (th_nz rfl) (thE_11 _ _ _) rfl 0 (th_ltN rfl) (hts (.fieldLink RX11 10 "BayMoorings" "bay" "LBayMoorings$Bay;") (List.mem_cons_of_mem _ (List.mem_append_left _ (List.mem_append_left _ (List.mem_append_left _ (List.mem_append_left _ (List.mem_append_left _ (List.mem_append_left _ (List.mem_append_left _ (List.mem_append_left _ (List.mem_append_left _ (List.mem_of_getElem? (i := 0) rfl)))))))))))) (fun _ h9 => h9) (th_fR r1 rfl) dX11_offeredBoat_1 ?_
  refine lv_iload_n hx hb dX11_offeredBoat_4 rfl (lv_at hl 1 rfl) ?_
  have hA2 := th_Asub (τ := τ) hS
  refine va_callq (va_runV (As := [.int p1]) (rest := []) ⟨hx, hb, hml, hown, hts⟩ (k_X0_buoyAt l D cA Z τ gi gr _ q1 t1 p1) (cwV 1 hts gX11_offeredBoat_X0_buoyAt rfl rfl rfl hd_X0_buoyAt__1 ⟨Nat.le_of_ble_eq_true rfl, Nat.le_of_ble_eq_true rfl⟩) ⟨th_blind, tr_1 hK hH t1, (th_pre hH hK hN hZ hS hA2)⟩ rfl rfl hl.1 rfl (lv_room (Nat.le_of_ble_eq_true rfl)) dX11_offeredBoat_5 ⟨Nat.le_of_ble_eq_true rfl, Nat.le_of_ble_eq_true rfl⟩) hS (fun q _ h => hA2 q h) hA2 (fun r3 u t H locs ht hvm hw3 hB hz1 hk1 hS => ?_)
  try dsimp only at hw3 hB
  rw [ht] at hB
  have hH := hB
  refine th_astoreq_n (i := 2) (lv' := [(2, va_rf r3), (0, .ref h0), (1, .int p1)]) hx hb dX11_offeredBoat_8 rfl hl (th_ltN rfl) rfl (fun ls hl => ?_)
  refine th_aloadq_n hx hb dX11_offeredBoat_9 rfl (lv_at hl 0 rfl) ?_
  refine th_ifnonnull (tgt := 19) hx hb dX11_offeredBoat_10 (th_eqI rfl) (fun q4 z4 => ?_) (fun z4 => ?_)
  · skip
    subst z4
    have t4 := hw3.1 q4 rfl
    have hl : lv_has ls 4 [(2, .ref q4), (0, .ref h0), (1, .int p1)] := hl
    refine lv_aload_n hx hb dX11_offeredBoat_19 rfl (lv_at hl 1 rfl) ?_
    refine th_get (ci := 10) (v := .ref q1) (T := TX11) (C := RX11) (N := 10) hx hb hts (fun w h => List.mem_cons_of_mem _ (List.mem_append_left _ (List.mem_append_left _ (List.mem_append_left _ (List.mem_append_left _ (List.mem_append_left _ (List.mem_append_left _ (List.mem_append_left _ (List.mem_append_right _ h))))))))) hown hK hH t_h0 (th_nz rfl) (thE_11 _ _ _) rfl 0 (th_ltN rfl) (hts (.fieldLink RX11 10 "BayMoorings" "bay" "LBayMoorings$Bay;") (List.mem_cons_of_mem _ (List.mem_append_left _ (List.mem_append_left _ (List.mem_append_left _ (List.mem_append_left _ (List.mem_append_left _ (List.mem_append_left _ (List.mem_append_left _ (List.mem_append_left _ (List.mem_append_left _ (List.mem_of_getElem? (i := 0) rfl)))))))))))) (fun _ h9 => h9) (th_fR r1 rfl) dX11_offeredBoat_20 ?_
    obtain ⟨q6, r6, t6⟩ : ∃ q, gr q1 4 = some q ∧ τ q = 2 := (thI_1 hH t1).2.2.2.2.1
    refine th_get (ci := 0) (v := .ref q6) (T := TX0) (C := RX0) (N := 9) hx hb hts (fun w h => List.mem_cons_of_mem _ (List.mem_append_left _ (List.mem_append_left _ (List.mem_append_left _ (List.mem_append_left _ (List.mem_append_left _ (List.mem_append_left _ (List.mem_append_right _ h)))))))) hown hK hH t1 (th_nz rfl) (thE_1 _ _ _) rfl 4 (th_ltN rfl) (hts (.fieldLink RX11 125 "BayMoorings$Bay" "berths" "LBayMoorings$Berths;") (List.mem_cons_of_mem _ (List.mem_append_left _ (List.mem_append_left _ (List.mem_append_left _ (List.mem_append_left _ (List.mem_append_left _ (List.mem_append_left _ (List.mem_append_left _ (List.mem_append_left _ (List.mem_append_left _ (List.mem_of_getElem? (i := 1) rfl)))))))))))) (fun _ h9 => h9) (th_fR r6 rfl) dX11_offeredBoat_23 ?_
    refine lv_iload_n hx hb dX11_offeredBoat_26 rfl (lv_at hl 2 rfl) ?_
    have hA7 := th_Asub (τ := τ) hS
    refine va_calli (va_runV (As := [.int p1]) (rest := []) ⟨hx, hb, hml, hown, hts⟩ (k_X1_boatOf l D cA Z τ gi gr _ q6 t6 p1) (cwV 1 hts gX11_offeredBoat_X1_boatOf rfl rfl rfl hd_X1_boatOf__1 ⟨Nat.le_of_ble_eq_true rfl, Nat.le_of_ble_eq_true rfl⟩) ⟨th_blind, tr_2 hK hH t6, (th_pre hH hK hN hZ hS hA7)⟩ rfl rfl hl.1 rfl (lv_room (Nat.le_of_ble_eq_true rfl)) dX11_offeredBoat_27 ⟨Nat.le_of_ble_eq_true rfl, Nat.le_of_ble_eq_true rfl⟩) hS (fun q _ h => hA7 q h) hA7 (fun x8 u t H locs ht hvm hw8 hB hz1 hk1 hS => ?_)
    try dsimp only at hw8 hB
    rw [ht] at hB
    have hH := hB
    refine lv_iconst (v := (-1)) hx hb dX11_offeredBoat_30 ic_m1 ?_
    refine lv_icmp_eq (tgt := 40) hx hb dX11_offeredBoat_31 (th_eqI rfl) (fun c9 => ?_) (fun c9 => ?_)
    · skip
      have f10 : rg (-1) (-1) x8 := rg_w (rg_eq (rg_any x8) rgc_m1 c9).1 (th_leI rfl) (th_leI rfl)
      refine lv_aload_n hx hb dX11_offeredBoat_40 rfl (lv_at hl 1 rfl) ?_
      obtain ⟨q11, r11, t11⟩ : ∃ q, gr h0 1 = some q ∧ τ q = 10 := (thI_11 hH t_h0).2.1
      refine th_get (ci := 10) (v := .ref q11) (T := TX11) (C := RX11) (N := 10) hx hb hts (fun w h => List.mem_cons_of_mem _ (List.mem_append_left _ (List.mem_append_left _ (List.mem_append_left _ (List.mem_append_left _ (List.mem_append_left _ (List.mem_append_left _ (List.mem_append_left _ (List.mem_append_right _ h))))))))) hown hK hH t_h0 (th_nz rfl) (thE_11 _ _ _) rfl 1 (th_ltN rfl) (hts (.fieldLink RX11 21 "BayMoorings" "waiting" "LBayMoorings$WaitingList;") (List.mem_cons_of_mem _ (List.mem_append_left _ (List.mem_append_left _ (List.mem_append_left _ (List.mem_append_left _ (List.mem_append_left _ (List.mem_append_left _ (List.mem_append_left _ (List.mem_append_left _ (List.mem_append_left _ (List.mem_of_getElem? (i := 2) rfl)))))))))))) (fun _ h9 => h9) (th_fR r11 rfl) dX11_offeredBoat_41 ?_
      refine lv_aload_n hx hb dX11_offeredBoat_44 rfl (lv_at hl 0 rfl) ?_
      have hA12 := th_Asub (τ := τ) hS
      refine va_calli (va_runV (As := [.ref q4]) (rest := []) ⟨hx, hb, hml, hown, hts⟩ (k_X10_firstFor l D cA Z τ gi gr _ q11 t11 q4 t4) (cwV 1 hts gX11_offeredBoat_X10_firstFor rfl rfl rfl hd_X10_firstFor__1 ⟨Nat.le_of_ble_eq_true rfl, Nat.le_of_ble_eq_true rfl⟩) ⟨th_blind, tr_10 hK hH t11, (th_pre hH hK hN hZ hS hA12)⟩ rfl rfl hl.1 rfl (lv_room (Nat.le_of_ble_eq_true rfl)) dX11_offeredBoat_45 ⟨Nat.le_of_ble_eq_true rfl, Nat.le_of_ble_eq_true rfl⟩) hS (fun q _ h => hA12 q h) hA12 (fun x13 u t H locs ht hvm hw13 hB hz1 hk1 hS => ?_)
      try dsimp only at hw13 hB
      rw [ht] at hB
      have hH := hB
      refine lv_istore_n (i := 3) (lv' := [(3, .int x13), (2, .ref q4), (0, .ref h0), (1, .int p1)]) hx hb dX11_offeredBoat_48 rfl hl (th_ltN rfl) rfl (fun ls hl => ?_)
      refine lv_iload_n hx hb dX11_offeredBoat_49 rfl (lv_at hl 0 rfl) ?_
      refine lv_iconst (v := (-1)) hx hb dX11_offeredBoat_50 ic_m1 ?_
      refine lv_icmp_ne (tgt := 62) hx hb dX11_offeredBoat_51 (th_eqI rfl) (fun c14 => ?_) (fun c14 => ?_)
      · skip
        refine lv_iload_n hx hb dX11_offeredBoat_62 rfl (lv_at hl 0 rfl) ?_
        exact W.iret (v := x13) hx hb hr (fun t ht hW => ⟨⟨x13, (gi, gr), rfl, ⟨hM, rfl, (hF.trans (by simp only [↓reduceIte, F_X11_offeredBoat, r1, Option.getD_some, hw3.2, Option.elim_some, r6, hw8, eq_true c9, r11, hw13, eq_false c14]))⟩, th_Ht ht hH⟩, hS.F ht⟩) hS.2.2 dX11_offeredBoat_63
      · skip
        have f15 : rg (-1) (-1) x13 := rg_w (rg_eq (rg_any x13) rgc_m1 c14).1 (th_leI rfl) (th_leI rfl)
        refine lv_aload_n hx hb dX11_offeredBoat_54 rfl (lv_at hl 2 rfl) ?_
        refine lv_iconst (v := 2) hx hb dX11_offeredBoat_55 ic_2 ?_
        have hA16 := th_Asub (τ := τ) hS
        refine va_calli (va_runV (As := [.int 2]) (rest := []) ⟨hx, hb, hml, hown, hts⟩ (k_X11_finding l D cA Z τ gi gr _ h0 t_h0 2) (cwV 1 hts gX11_offeredBoat_X11_finding rfl rfl rfl hd_X11_finding__1 ⟨Nat.le_of_ble_eq_true rfl, Nat.le_of_ble_eq_true rfl⟩) ⟨th_blind, tr_11 hK hH t_h0, (th_pre hH hK hN hZ hS hA16)⟩ rfl rfl hl.1 rfl (lv_room (Nat.le_of_ble_eq_true rfl)) dX11_offeredBoat_56 ⟨Nat.le_of_ble_eq_true rfl, Nat.le_of_ble_eq_true rfl⟩) hS (fun q _ h => hA16 q h) hA16 (fun x17 u t H locs ht hvm hw17 hB hz1 hk1 hS => ?_)
        try dsimp only at hw17 hB
        rw [ht] at hB
        have hH := hB
        obtain ⟨gi17, gr17⟩ := u
        try dsimp only at hw17 hH
        obtain rfl : gr = gr17 := (hw17.2.1).symm
        have hM := hM.tr hw17.1 (fun _ h => h) (th_sub rfl)
        refine lv_goto (tgt := 63) hx hb dX11_offeredBoat_59 (th_eqI rfl) ?_
        exact W.iret (v := x17) hx hb hr (fun t ht hW => ⟨⟨x17, (gi17, gr), rfl, ⟨hM, rfl, (hF.trans (by simp only [↓reduceIte, F_X11_offeredBoat, r1, Option.getD_some, hw3.2, Option.elim_some, r6, hw8, eq_true c9, r11, hw13, eq_true c14, hw17.2.2.1]))⟩, th_Ht ht hH⟩, hS.F ht⟩) hS.2.2 dX11_offeredBoat_63
    · skip
      refine lv_aload_n hx hb dX11_offeredBoat_34 rfl (lv_at hl 1 rfl) ?_
      refine lv_iconst (v := 3) hx hb dX11_offeredBoat_35 ic_3 ?_
      have hA18 := th_Asub (τ := τ) hS
      refine va_calli (va_runV (As := [.int 3]) (rest := []) ⟨hx, hb, hml, hown, hts⟩ (k_X11_finding l D cA Z τ gi gr _ h0 t_h0 3) (cwV 1 hts gX11_offeredBoat_X11_finding rfl rfl rfl hd_X11_finding__1 ⟨Nat.le_of_ble_eq_true rfl, Nat.le_of_ble_eq_true rfl⟩) ⟨th_blind, tr_11 hK hH t_h0, (th_pre hH hK hN hZ hS hA18)⟩ rfl rfl hl.1 rfl (lv_room (Nat.le_of_ble_eq_true rfl)) dX11_offeredBoat_36 ⟨Nat.le_of_ble_eq_true rfl, Nat.le_of_ble_eq_true rfl⟩) hS (fun q _ h => hA18 q h) hA18 (fun x19 u t H locs ht hvm hw19 hB hz1 hk1 hS => ?_)
      try dsimp only at hw19 hB
      rw [ht] at hB
      have hH := hB
      obtain ⟨gi19, gr19⟩ := u
      try dsimp only at hw19 hH
      obtain rfl : gr = gr19 := (hw19.2.1).symm
      have hM := hM.tr hw19.1 (fun _ h => h) (th_sub rfl)
      exact W.iret (v := x19) hx hb hr (fun t ht hW => ⟨⟨x19, (gi19, gr), rfl, ⟨hM, rfl, (hF.trans (by simp only [↓reduceIte, F_X11_offeredBoat, r1, Option.getD_some, hw3.2, Option.elim_some, r6, hw8, eq_false c9, hw19.2.2.1]))⟩, th_Ht ht hH⟩, hS.F ht⟩) hS.2.2 dX11_offeredBoat_39
  · skip
    subst z4
    have hl : lv_has ls 4 [(2, .null), (0, .ref h0), (1, .int p1)] := hl
    refine lv_aload_n hx hb dX11_offeredBoat_13 rfl (lv_at hl 1 rfl) ?_
    refine lv_iconst (v := 1) hx hb dX11_offeredBoat_14 ic_1 ?_
    have hA20 := th_Asub (τ := τ) hS
    refine va_calli (va_runV (As := [.int 1]) (rest := []) ⟨hx, hb, hml, hown, hts⟩ (k_X11_finding l D cA Z τ gi gr _ h0 t_h0 1) (cwV 1 hts gX11_offeredBoat_X11_finding rfl rfl rfl hd_X11_finding__1 ⟨Nat.le_of_ble_eq_true rfl, Nat.le_of_ble_eq_true rfl⟩) ⟨th_blind, tr_11 hK hH t_h0, (th_pre hH hK hN hZ hS hA20)⟩ rfl rfl hl.1 rfl (lv_room (Nat.le_of_ble_eq_true rfl)) dX11_offeredBoat_15 ⟨Nat.le_of_ble_eq_true rfl, Nat.le_of_ble_eq_true rfl⟩) hS (fun q _ h => hA20 q h) hA20 (fun x21 u t H locs ht hvm hw21 hB hz1 hk1 hS => ?_)
    try dsimp only at hw21 hB
    rw [ht] at hB
    have hH := hB
    obtain ⟨gi21, gr21⟩ := u
    try dsimp only at hw21 hH
    obtain rfl : gr = gr21 := (hw21.2.1).symm
    have hM := hM.tr hw21.1 (fun _ h => h) (th_sub rfl)
    exact W.iret (v := x21) hx hb hr (fun t ht hW => ⟨⟨x21, (gi21, gr), rfl, ⟨hM, rfl, (hF.trans (by simp only [F_X11_offeredBoat, r1, Option.getD_some, hw3.2, Option.elim_none, hw21.2.2.1]))⟩, th_Ht ht hH⟩, hS.F ht⟩) hS.2.2 dX11_offeredBoat_18

noncomputable def FV_fee (τ : th_t) (Z : th_Zt) (gi : th_i) (gr : th_r) (h0 : Nat) (p1 : Int32) : Int32 := if τ h0 = 8 then F_X2_fee τ Z gi gr h0 p1 else if τ h0 = 9 then F_X9_fee τ Z gi gr h0 p1 else F_X2_fee τ Z gi gr h0 p1
theorem FV_fee_8 {τ : th_t} {Z : th_Zt} {gi : th_i} {gr : th_r} {h0 : Nat} {p1 : Int32} (t : τ h0 = 8) : FV_fee τ Z gi gr h0 p1 = F_X2_fee τ Z gi gr h0 p1 := by
  unfold FV_fee
  rw [if_pos t]
theorem FV_fee_9 {τ : th_t} {Z : th_Zt} {gi : th_i} {gr : th_r} {h0 : Nat} {p1 : Int32} (t : τ h0 = 9) : FV_fee τ Z gi gr h0 p1 = F_X9_fee τ Z gi gr h0 p1 := by
  unfold FV_fee
  rw [if_neg (by rw [t]; decide), if_pos t]
theorem FV_fee_4 {τ : th_t} {Z : th_Zt} {gi : th_i} {gr : th_r} {h0 : Nat} {p1 : Int32} (t : τ h0 = 4) : FV_fee τ Z gi gr h0 p1 = F_X2_fee τ Z gi gr h0 p1 := by
  unfold FV_fee
  rw [if_neg (by rw [t]; decide), if_neg (by rw [t]; decide)]
noncomputable def f_X11_as_20 (τ : th_t) (Z : th_Zt) (gi : th_i) (gr : th_r) (h0 : Nat) (p1 : Int32) (p2 : Int32) (gi_20 : th_i) : Int32 × th_i :=
  let u2 : Int32 × th_i := F_X11_finding τ Z gi_20 gr h0 1
  let x2 : Int32 := u2.1
  let gi2 : th_i := u2.2
  (x2, gi2)
noncomputable def F_X11_as (τ : th_t) (Z : th_Zt) (gi : th_i) (gr : th_r) (h0 : Nat) (p1 : Int32) (p2 : Int32) : Int32 × th_i :=
  let q3 : Nat := (gr h0 0).getD 0
  let r5 : Option Nat := F_X0_boatAt τ Z gi gr q3 p1
  Option.elim r5 (
    f_X11_as_20 τ Z gi gr h0 p1 p2 gi) (fun q6 =>
    let x8 : Int32 := F_X11_isKind τ Z gi gr p2
    if x8 = (0 : Int32) then (
      f_X11_as_20 τ Z gi gr h0 p1 p2 gi) else (
      let x13 : Int32 := F_X2_isOf τ Z gi gr q6 p2
      if x13 = (0 : Int32) then (
        let u21 : Int32 × th_i := F_X11_finding τ Z gi gr h0 5
        let x21 : Int32 := u21.1
        let gi21 : th_i := u21.2
        (x21, gi21)) else (
        let x16 : Int32 := gi h0 8
        let x18 : Int32 := FV_fee τ Z gi gr q6 x16
        (x18, gi))))
set_option maxHeartbeats 8000000 in
set_option maxRecDepth 100000 in
theorem k_X11_as (l : Launch) (D : va_G) (cA : Nat → ClassId) (Z : th_Zt) (τ : th_t) (gi : th_i) (gr : th_r) (sz : Nat) (h0 : Nat) (t_h0 : τ h0 = 11) (p1 : Int32) (p2 : Int32) : Met l yX11_as wsX11_as ({ frames := 2, cells := 0, slots := 0, locals := 43 }) (va_Pc [.ref h0, .int p1, .int p2] (th_Pre D cA Z τ gi gr sz)) (va_Qi (fun (r : Int32) (u : th_i × th_r) => th_Mod [3600] τ gi gr u.1 u.2 ∧ u.2 = gr ∧ (F_X11_as τ Z gi gr h0 p1 p2 = (r, u.1))) (fun (u : th_i × th_r) t => th_H D cA τ u.1 u.2 t.heap) (th_A τ sz)) 0 0 (th_A τ sz) := by
  refine Met.ofW (cc := cX11_as) (maxL := 4) (ret := (some .int)) (by decide) rfl ?_
  intro p e s m args below meth c s₁ B hml hv
  obtain ⟨rfl, hsz, hH, hK, hN, hZ⟩ := hv
  have hx := B.exec
  have hb := B.bytes
  have hr := B.returns
  have hts := atoms_spec (ws := wsX11_as) B.pre
  have hown : s.vm.findClass RX11 = some m.cls := findClass_of_methodNamed B.named
  have hlocks := B.notSynchronized
  subst hsz
  have hM : th_Mod [3600] τ gi gr gi gr := th_Mod.rf
  have J20 : ∀ (gi_20 : th_i) (H : Heap) (locs : List Loc) (ls : Array Slot), th_H D cA τ gi_20 gr H → va_S (th_A τ s.heap.size) s.heap H locs → th_Mod [3600] τ gi gr gi_20 gr → lv_has ls 4 [(0, .ref h0)] → F_X11_as τ Z gi gr h0 p1 p2 = f_X11_as_20 τ Z gi gr h0 p1 p2 gi_20 → W p l e (headSpec wsX11_as ({ frames := 2, cells := 0, slots := 0, locals := 43 })).room s m [.ref h0, .int p1, .int p2].toArray below meth c H locs 0 0 (MQ below (va_Qi (fun (r : Int32) (u : th_i × th_r) => th_Mod [3600] τ gi gr u.1 u.2 ∧ u.2 = gr ∧ (F_X11_as τ Z gi gr h0 p1 p2 = (r, u.1))) (fun (u : th_i × th_r) t => th_H D cA τ u.1 u.2 t.heap) (th_A τ s.heap.size)) [.ref h0, .int p1, .int p2].toArray s 0 0 (th_A τ s.heap.size)) (F0 m 20 ls []) := by
    intro gi_20 H locs ls hH hS hM hl hF
    refine lv_aload_n hx hb dX11_as_20 rfl (lv_at hl 0 rfl) ?_
    refine lv_iconst (v := 1) hx hb dX11_as_21 ic_1 ?_
    have hA1 := th_Asub (τ := τ) hS
    refine va_calli (va_runV (As := [.int 1]) (rest := []) ⟨hx, hb, hml, hown, hts⟩ (k_X11_finding l D cA Z τ gi_20 gr _ h0 t_h0 1) (cwV 1 hts gX11_as_X11_finding rfl rfl rfl hd_X11_finding__1 ⟨Nat.le_of_ble_eq_true rfl, Nat.le_of_ble_eq_true rfl⟩) ⟨th_blind, tr_11 hK hH t_h0, (th_pre hH hK hN hZ hS hA1)⟩ rfl rfl hl.1 rfl (lv_room (Nat.le_of_ble_eq_true rfl)) dX11_as_22 ⟨Nat.le_of_ble_eq_true rfl, Nat.le_of_ble_eq_true rfl⟩) hS (fun q _ h => hA1 q h) hA1 (fun x2 u t H locs ht hvm hw2 hB hz1 hk1 hS => ?_)
    try dsimp only at hw2 hB
    rw [ht] at hB
    have hH := hB
    obtain ⟨gi2, gr2⟩ := u
    try dsimp only at hw2 hH
    obtain rfl : gr = gr2 := (hw2.2.1).symm
    have hM := hM.tr hw2.1 (fun _ h => h) (th_sub rfl)
    exact W.iret (v := x2) hx hb hr (fun t ht hW => ⟨⟨x2, (gi2, gr), rfl, ⟨hM, rfl, (hF.trans (by simp only [f_X11_as_20, hw2.2.2.1]))⟩, th_Ht ht hH⟩, hS.F ht⟩) hS.2.2 dX11_as_25
  have hS : va_S (th_A τ s.heap.size) s.heap s.heap [] := va_S.rf
  have hl := lv_entry ([.ref h0, .int p1, .int p2]) (n := 4) (Nat.le_of_ble_eq_true rfl)
  rw [lg_entry_eq]
  generalize (lg_sl ([.ref h0, .int p1, .int p2]) ++ List.replicate (4 - (lg_sl ([.ref h0, .int p1, .int p2])).length) Slot.unset).toArray = ls at hl ⊢
  have hl : lv_has ls 4 [(0, .ref h0), (1, .int p1), (2, .int p2)] := hl
  have hF : F_X11_as τ Z gi gr h0 p1 p2 = F_X11_as τ Z gi gr h0 p1 p2 := rfl
  refine lv_aload_n hx hb dX11_as_0 rfl (lv_at hl 0 rfl) ?_
  obtain ⟨q3, r3, t3⟩ : ∃ q, gr h0 0 = some q ∧ τ q = 1 := (thI_11 hH t_h0).1
  refine th_get (ci := 10) (v := .ref q3) (T := TX11) (C := RX11) (N := 10) hx hb hts (fun w h => List.mem_cons_of_mem _ (List.mem_append_left _ (List.mem_append_left _ (List.mem_append_left _ (List.mem_append_left _ (List.mem_append_right _ h)))))) hown hK hH t_h0 (th_nz rfl) (thE_11 _ _ _) rfl 0 (th_ltN rfl) (hts (.fieldLink RX11 10 "BayMoorings" "bay" "LBayMoorings$Bay;") (List.mem_cons_of_mem _ (List.mem_append_left _ (List.mem_append_left _ (List.mem_append_left _ (List.mem_append_left _ (List.mem_append_left _ (List.mem_append_left _ (List.mem_of_getElem? (i := 0) rfl))))))))) (fun _ h9 => h9) (th_fR r3 rfl) dX11_as_1 ?_
  refine lv_iload_n hx hb dX11_as_4 rfl (lv_at hl 1 rfl) ?_
  have hA4 := th_Asub (τ := τ) hS
  refine va_callq (va_runV (As := [.int p1]) (rest := []) ⟨hx, hb, hml, hown, hts⟩ (k_X0_boatAt l D cA Z τ gi gr _ q3 t3 p1) (cwV 1 hts gX11_as_X0_boatAt rfl rfl rfl hd_X0_boatAt__1 ⟨Nat.le_of_ble_eq_true rfl, Nat.le_of_ble_eq_true rfl⟩) ⟨th_blind, tr_1 hK hH t3, (th_pre hH hK hN hZ hS hA4)⟩ rfl rfl hl.1 rfl (lv_room (Nat.le_of_ble_eq_true rfl)) dX11_as_5 ⟨Nat.le_of_ble_eq_true rfl, Nat.le_of_ble_eq_true rfl⟩) hS (fun q _ h => hA4 q h) hA4 (fun r5 u t H locs ht hvm hw5 hB hz1 hk1 hS => ?_)
  try dsimp only at hw5 hB
  rw [ht] at hB
  have hH := hB
  refine th_astoreq_n (i := 3) (lv' := [(3, va_rf r5), (0, .ref h0), (1, .int p1), (2, .int p2)]) hx hb dX11_as_8 rfl hl (th_ltN rfl) rfl (fun ls hl => ?_)
  refine th_aloadq_n hx hb dX11_as_9 rfl (lv_at hl 0 rfl) ?_
  refine th_ifnull (tgt := 20) hx hb dX11_as_10 (th_eqI rfl) (fun z6 => ?_) (fun q6 z6 => ?_)
  · skip
    subst z6
    have hl : lv_has ls 4 [(3, .null), (0, .ref h0), (1, .int p1), (2, .int p2)] := hl
    exact J20 gi _ _ _ hH hS hM (lv_sub hl [1] rfl) (hF.trans (by simp only [F_X11_as, r3, Option.getD_some, hw5.2, Option.elim_none]))
  · skip
    subst z6
    have t6 := hw5.1 q6 rfl
    have hl : lv_has ls 4 [(3, .ref q6), (0, .ref h0), (1, .int p1), (2, .int p2)] := hl
    refine lv_iload_n hx hb dX11_as_13 rfl (lv_at hl 3 rfl) ?_
    have hA7 := th_Asub (τ := τ) hS
    refine va_calli (va_runS (As := [.int p2]) (rest := []) ⟨hx, hb, hml, hown, hts⟩ (k_X11_isKind l D cA Z τ gi gr _ p2) (va_cwS 1 hts gX11_as_X11_isKind rfl rfl rfl (by decide +kernel) ⟨Nat.le_of_ble_eq_true rfl, Nat.le_of_ble_eq_true rfl⟩) ⟨th_blind, (th_pre hH hK hN hZ hS hA7)⟩ rfl rfl hl.1 rfl (lv_room (Nat.le_of_ble_eq_true rfl)) dX11_as_14 ⟨Nat.le_of_ble_eq_true rfl, Nat.le_of_ble_eq_true rfl⟩) hS (fun q _ h => hA7 q h) hA7 (fun x8 u t H locs ht hvm hw8 hB hz1 hk1 hS => ?_)
    try dsimp only at hw8 hB
    rw [ht] at hB
    have hH := hB
    refine lv_if_ne (tgt := 26) hx hb dX11_as_17 (th_eqI rfl) (fun c9 => ?_) (fun c9 => ?_)
    · skip
      have f10 : rg 1 1 x8 := rg_w (rg_neL hw8.1 rgc_0 c9) (th_leI rfl) (th_leI rfl)
      have f11 : rg 0 2 p2 := rg_w (hw8.2.1 c9) (th_leI rfl) (th_leI rfl)
      refine lv_aload_n hx hb dX11_as_26 rfl (lv_at hl 0 rfl) ?_
      refine lv_iload_n hx hb dX11_as_27 rfl (lv_at hl 3 rfl) ?_
      have hA12 := th_Asub (τ := τ) hS
      refine va_calli (th_or3 t6 (fun t9 => va_runU (As := [.int p2]) (rest := []) ⟨hx, hb, hml, hown, hts⟩ (k_X2_isOf l D cA Z τ gi gr _ q6 (Or.inl t9) p2) (va_cwU 1 hts gX11_as_X2_isOf_u94X8 rfl rfl rfl rfl (by decide +kernel) ⟨Nat.le_of_ble_eq_true rfl, Nat.le_of_ble_eq_true rfl⟩) ⟨th_blind, tr_8 hK hH t9, (th_pre hH hK hN hZ hS hA12)⟩ rfl rfl hl.1 rfl (lv_room (Nat.le_of_ble_eq_true rfl)) dX11_as_28 ⟨Nat.le_of_ble_eq_true rfl, Nat.le_of_ble_eq_true rfl⟩) (fun t9 => va_runU (As := [.int p2]) (rest := []) ⟨hx, hb, hml, hown, hts⟩ (k_X2_isOf l D cA Z τ gi gr _ q6 (Or.inr (Or.inl t9)) p2) (va_cwU 1 hts gX11_as_X2_isOf_u94X9 rfl rfl rfl rfl (by decide +kernel) ⟨Nat.le_of_ble_eq_true rfl, Nat.le_of_ble_eq_true rfl⟩) ⟨th_blind, tr_9 hK hH t9, (th_pre hH hK hN hZ hS hA12)⟩ rfl rfl hl.1 rfl (lv_room (Nat.le_of_ble_eq_true rfl)) dX11_as_28 ⟨Nat.le_of_ble_eq_true rfl, Nat.le_of_ble_eq_true rfl⟩) (fun t9 => va_runU (As := [.int p2]) (rest := []) ⟨hx, hb, hml, hown, hts⟩ (k_X2_isOf l D cA Z τ gi gr _ q6 (Or.inr (Or.inr t9)) p2) (va_cwU 1 hts gX11_as_X2_isOf_u94X4 rfl rfl rfl rfl (by decide +kernel) ⟨Nat.le_of_ble_eq_true rfl, Nat.le_of_ble_eq_true rfl⟩) ⟨th_blind, tr_4 hK hH t9, (th_pre hH hK hN hZ hS hA12)⟩ rfl rfl hl.1 rfl (lv_room (Nat.le_of_ble_eq_true rfl)) dX11_as_28 ⟨Nat.le_of_ble_eq_true rfl, Nat.le_of_ble_eq_true rfl⟩)) hS (fun q _ h => hA12 q h) hA12 (fun x13 u t H locs ht hvm hw13 hB hz1 hk1 hS => ?_)
      try dsimp only at hw13 hB
      rw [ht] at hB
      have hH := hB
      refine lv_if_ne (tgt := 40) hx hb dX11_as_31 (th_eqI rfl) (fun c14 => ?_) (fun c14 => ?_)
      · skip
        have f15 : rg 1 1 x13 := rg_w (rg_neL hw13.1 rgc_0 c14) (th_leI rfl) (th_leI rfl)
        refine lv_aload_n hx hb dX11_as_40 rfl (lv_at hl 0 rfl) ?_
        refine lv_aload_n hx hb dX11_as_41 rfl (lv_at hl 1 rfl) ?_
        obtain ⟨x16, e16⟩ : ∃ y : Int32, y = gi h0 8 := ⟨_, rfl⟩
        refine th_get (ci := 10) (v := .int x16) (T := TX11) (C := RX11) (N := 10) hx hb hts (fun w h => List.mem_cons_of_mem _ (List.mem_append_left _ (List.mem_append_left _ (List.mem_append_left _ (List.mem_append_left _ (List.mem_append_right _ h)))))) hown hK hH t_h0 (th_nz rfl) (thE_11 _ _ _) rfl 8 (th_ltN rfl) (hts (.fieldLink RX11 57 "BayMoorings" "rateNow" "I") (List.mem_cons_of_mem _ (List.mem_append_left _ (List.mem_append_left _ (List.mem_append_left _ (List.mem_append_left _ (List.mem_append_left _ (List.mem_append_left _ (List.mem_of_getElem? (i := 1) rfl))))))))) (fun _ h9 => h9) (th_fI e16 rfl) dX11_as_42 ?_
        have hA17 := th_Asub (τ := τ) hS
        refine va_calli (th_or3 t6 (fun t9 => th_runi (post' := (fun (r : Int32) (_ : Unit) => (FV_fee τ Z gi gr q6 x16 = r))) (va_runU (As := [.int x16]) (rest := []) ⟨hx, hb, hml, hown, hts⟩ (k_X2_fee l D cA Z τ gi gr _ q6 (Or.inl t9) x16) (va_cwU 1 hts gX11_as_X2_fee_u99X8 rfl rfl rfl rfl (by decide +kernel) ⟨Nat.le_of_ble_eq_true rfl, Nat.le_of_ble_eq_true rfl⟩) ⟨th_blind, tr_8 hK hH t9, (th_pre hH hK hN hZ hS hA17)⟩ rfl rfl hl.1 rfl (lv_room (Nat.le_of_ble_eq_true rfl)) dX11_as_45 ⟨Nat.le_of_ble_eq_true rfl, Nat.le_of_ble_eq_true rfl⟩) (fun _ _ h9 => ((FV_fee_8 t9).trans h9))) (fun t9 => th_runi (post' := (fun (r : Int32) (_ : Unit) => (FV_fee τ Z gi gr q6 x16 = r))) (va_runU (As := [.int x16]) (rest := []) ⟨hx, hb, hml, hown, hts⟩ (k_X9_fee l D cA Z τ gi gr _ q6 t9 x16) (va_cwO 1 hts gX11_as_X9_fee_u99X9 rfl rfl rfl (show Cond.code yX2_fee cX2_fee 2 (some .int) ∈ wsX11_as from (List.mem_cons_of_mem _ (List.mem_append_left _ (List.mem_append_left _ (List.mem_append_left _ (List.mem_append_left _ (List.mem_append_left _ (List.mem_append_right _ (List.mem_append_right _ (List.mem_of_getElem? (i := 0) rfl)))))))))) (by decide +kernel) ⟨Nat.le_of_ble_eq_true rfl, Nat.le_of_ble_eq_true rfl⟩) ⟨th_blind, tr_9 hK hH t9, (th_pre hH hK hN hZ hS hA17)⟩ rfl rfl hl.1 rfl (lv_room (Nat.le_of_ble_eq_true rfl)) dX11_as_45 ⟨Nat.le_of_ble_eq_true rfl, Nat.le_of_ble_eq_true rfl⟩) (fun _ _ h9 => ((FV_fee_9 t9).trans h9))) (fun t9 => th_runi (post' := (fun (r : Int32) (_ : Unit) => (FV_fee τ Z gi gr q6 x16 = r))) (va_runU (As := [.int x16]) (rest := []) ⟨hx, hb, hml, hown, hts⟩ (k_X2_fee l D cA Z τ gi gr _ q6 (Or.inr (Or.inr t9)) x16) (va_cwU 1 hts gX11_as_X2_fee_u99X4 rfl rfl rfl rfl (by decide +kernel) ⟨Nat.le_of_ble_eq_true rfl, Nat.le_of_ble_eq_true rfl⟩) ⟨th_blind, tr_4 hK hH t9, (th_pre hH hK hN hZ hS hA17)⟩ rfl rfl hl.1 rfl (lv_room (Nat.le_of_ble_eq_true rfl)) dX11_as_45 ⟨Nat.le_of_ble_eq_true rfl, Nat.le_of_ble_eq_true rfl⟩) (fun _ _ h9 => ((FV_fee_4 t9).trans h9)))) hS (fun q _ h => hA17 q h) hA17 (fun x18 u t H locs ht hvm hw18 hB hz1 hk1 hS => ?_)
        try dsimp only at hw18 hB
        rw [ht] at hB
        have hH := hB
        exact W.iret (v := x18) hx hb hr (fun t ht hW => ⟨⟨x18, (gi, gr), rfl, ⟨hM, rfl, (hF.trans (by simp only [↓reduceIte, F_X11_as, r3, Option.getD_some, hw5.2, Option.elim_some, hw8.2.2.1, eq_false c9, hw13.2, eq_false c14, ← e16, hw18]))⟩, th_Ht ht hH⟩, hS.F ht⟩) hS.2.2 dX11_as_48
      · skip
        have f19 : rg 0 0 x13 := rg_w (rg_eq hw13.1 rgc_0 c14).1 (th_leI rfl) (th_leI rfl)
        refine lv_aload_n hx hb dX11_as_34 rfl (lv_at hl 1 rfl) ?_
        refine lv_iconst (v := 5) hx hb dX11_as_35 ic_5 ?_
        have hA20 := th_Asub (τ := τ) hS
        refine va_calli (va_runV (As := [.int 5]) (rest := []) ⟨hx, hb, hml, hown, hts⟩ (k_X11_finding l D cA Z τ gi gr _ h0 t_h0 5) (cwV 1 hts gX11_as_X11_finding rfl rfl rfl hd_X11_finding__1 ⟨Nat.le_of_ble_eq_true rfl, Nat.le_of_ble_eq_true rfl⟩) ⟨th_blind, tr_11 hK hH t_h0, (th_pre hH hK hN hZ hS hA20)⟩ rfl rfl hl.1 rfl (lv_room (Nat.le_of_ble_eq_true rfl)) dX11_as_36 ⟨Nat.le_of_ble_eq_true rfl, Nat.le_of_ble_eq_true rfl⟩) hS (fun q _ h => hA20 q h) hA20 (fun x21 u t H locs ht hvm hw21 hB hz1 hk1 hS => ?_)
        try dsimp only at hw21 hB
        rw [ht] at hB
        have hH := hB
        obtain ⟨gi21, gr21⟩ := u
        try dsimp only at hw21 hH
        obtain rfl : gr = gr21 := (hw21.2.1).symm
        have hM := hM.tr hw21.1 (fun _ h => h) (th_sub rfl)
        exact W.iret (v := x21) hx hb hr (fun t ht hW => ⟨⟨x21, (gi21, gr), rfl, ⟨hM, rfl, (hF.trans (by simp only [↓reduceIte, F_X11_as, r3, Option.getD_some, hw5.2, Option.elim_some, hw8.2.2.1, eq_false c9, hw13.2, eq_true c14, hw21.2.2.1]))⟩, th_Ht ht hH⟩, hS.F ht⟩) hS.2.2 dX11_as_39
    · skip
      have f22 : rg 0 0 x8 := rg_w (rg_eq hw8.1 rgc_0 c9).1 (th_leI rfl) (th_leI rfl)
      exact J20 gi _ _ _ hH hS hM (lv_sub hl [1] rfl) (hF.trans (by simp only [↓reduceIte, F_X11_as, r3, Option.getD_some, hw5.2, Option.elim_some, hw8.2.2.1, eq_true c9]))

noncomputable def f_X11_tide_18 (τ : th_t) (Z : th_Zt) (gi : th_i) (gr : th_r) (h0 : Nat) (p1 : Int32) (p2 : Int32) (gi_18 : th_i) : Int32 × th_i :=
  let u2 : Int32 × th_i := F_X11_finding τ Z gi_18 gr h0 1
  let x2 : Int32 := u2.1
  let gi2 : th_i := u2.2
  (x2, gi2)
noncomputable def F_X11_tide (τ : th_t) (Z : th_Zt) (gi : th_i) (gr : th_r) (h0 : Nat) (p1 : Int32) (p2 : Int32) : Int32 × th_i :=
  let x4 : Int32 := F_X11_isHour τ Z gi gr p1
  if x4 = (0 : Int32) then (
    f_X11_tide_18 τ Z gi gr h0 p1 p2 gi) else (
    let x10 : Int32 := F_X11_within τ Z gi gr p2 0 200
    if x10 = (0 : Int32) then (
      f_X11_tide_18 τ Z gi gr h0 p1 p2 gi) else (
      let q16 : Nat := (gr h0 0).getD 0
      let q17 : Nat := (gr q16 2).getD 0
      let x18 : Int32 := gi q17 p1.toNatClampNeg
      let gi21 : th_i := F_X0_setTide τ Z gi gr q16 p1 p2
      (x18, gi21)))
set_option maxHeartbeats 8000000 in
set_option maxRecDepth 100000 in
theorem k_X11_tide (l : Launch) (D : va_G) (cA : Nat → ClassId) (Z : th_Zt) (τ : th_t) (gi : th_i) (gr : th_r) (sz : Nat) (h0 : Nat) (t_h0 : τ h0 = 11) (p1 : Int32) (p2 : Int32) : Met l yX11_tide wsX11_tide ({ frames := 4, cells := 0, slots := 0, locals := 89 }) (va_Pc [.ref h0, .int p1, .int p2] (th_Pre D cA Z τ gi gr sz)) (va_Qi (fun (r : Int32) (u : th_i × th_r) => th_Mod [108, 2200, 2300, 2600, 3600] τ gi gr u.1 u.2 ∧ u.2 = gr ∧ (F_X11_tide τ Z gi gr h0 p1 p2 = (r, u.1))) (fun (u : th_i × th_r) t => th_H D cA τ u.1 u.2 t.heap) (th_A τ sz)) 0 0 (th_A τ sz) := by
  refine Met.ofW (cc := cX11_tide) (maxL := 4) (ret := (some .int)) (by decide) rfl ?_
  intro p e s m args below meth c s₁ B hml hv
  obtain ⟨rfl, hsz, hH, hK, hN, hZ⟩ := hv
  have hx := B.exec
  have hb := B.bytes
  have hr := B.returns
  have hts := atoms_spec (ws := wsX11_tide) B.pre
  have hown : s.vm.findClass RX11 = some m.cls := findClass_of_methodNamed B.named
  have hlocks := B.notSynchronized
  subst hsz
  have hM : th_Mod [108, 2200, 2300, 2600, 3600] τ gi gr gi gr := th_Mod.rf
  have J18 : ∀ (gi_18 : th_i) (H : Heap) (locs : List Loc) (ls : Array Slot), th_H D cA τ gi_18 gr H → va_S (th_A τ s.heap.size) s.heap H locs → th_Mod [108, 2200, 2300, 2600, 3600] τ gi gr gi_18 gr → lv_has ls 4 [(0, .ref h0)] → F_X11_tide τ Z gi gr h0 p1 p2 = f_X11_tide_18 τ Z gi gr h0 p1 p2 gi_18 → W p l e (headSpec wsX11_tide ({ frames := 4, cells := 0, slots := 0, locals := 89 })).room s m [.ref h0, .int p1, .int p2].toArray below meth c H locs 0 0 (MQ below (va_Qi (fun (r : Int32) (u : th_i × th_r) => th_Mod [108, 2200, 2300, 2600, 3600] τ gi gr u.1 u.2 ∧ u.2 = gr ∧ (F_X11_tide τ Z gi gr h0 p1 p2 = (r, u.1))) (fun (u : th_i × th_r) t => th_H D cA τ u.1 u.2 t.heap) (th_A τ s.heap.size)) [.ref h0, .int p1, .int p2].toArray s 0 0 (th_A τ s.heap.size)) (F0 m 18 ls []) := by
    intro gi_18 H locs ls hH hS hM hl hF
    refine lv_aload_n hx hb dX11_tide_18 rfl (lv_at hl 0 rfl) ?_
    refine lv_iconst (v := 1) hx hb dX11_tide_19 ic_1 ?_
    have hA1 := th_Asub (τ := τ) hS
    refine va_calli (va_runV (As := [.int 1]) (rest := []) ⟨hx, hb, hml, hown, hts⟩ (k_X11_finding l D cA Z τ gi_18 gr _ h0 t_h0 1) (cwV 1 hts gX11_tide_X11_finding rfl rfl rfl hd_X11_finding__1 ⟨Nat.le_of_ble_eq_true rfl, Nat.le_of_ble_eq_true rfl⟩) ⟨th_blind, tr_11 hK hH t_h0, (th_pre hH hK hN hZ hS hA1)⟩ rfl rfl hl.1 rfl (lv_room (Nat.le_of_ble_eq_true rfl)) dX11_tide_20 ⟨Nat.le_of_ble_eq_true rfl, Nat.le_of_ble_eq_true rfl⟩) hS (fun q _ h => hA1 q h) hA1 (fun x2 u t H locs ht hvm hw2 hB hz1 hk1 hS => ?_)
    try dsimp only at hw2 hB
    rw [ht] at hB
    have hH := hB
    obtain ⟨gi2, gr2⟩ := u
    try dsimp only at hw2 hH
    obtain rfl : gr = gr2 := (hw2.2.1).symm
    have hM := hM.tr hw2.1 (fun _ h => h) (th_sub rfl)
    exact W.iret (v := x2) hx hb hr (fun t ht hW => ⟨⟨x2, (gi2, gr), rfl, ⟨hM, rfl, (hF.trans (by simp only [f_X11_tide_18, hw2.2.2.1]))⟩, th_Ht ht hH⟩, hS.F ht⟩) hS.2.2 dX11_tide_23
  have hS : va_S (th_A τ s.heap.size) s.heap s.heap [] := va_S.rf
  have hl := lv_entry ([.ref h0, .int p1, .int p2]) (n := 4) (Nat.le_of_ble_eq_true rfl)
  rw [lg_entry_eq]
  generalize (lg_sl ([.ref h0, .int p1, .int p2]) ++ List.replicate (4 - (lg_sl ([.ref h0, .int p1, .int p2])).length) Slot.unset).toArray = ls at hl ⊢
  have hl : lv_has ls 4 [(0, .ref h0), (1, .int p1), (2, .int p2)] := hl
  have hF : F_X11_tide τ Z gi gr h0 p1 p2 = F_X11_tide τ Z gi gr h0 p1 p2 := rfl
  refine lv_iload_n hx hb dX11_tide_0 rfl (lv_at hl 1 rfl) ?_
  have hA3 := th_Asub (τ := τ) hS
  refine va_calli (va_runS (As := [.int p1]) (rest := []) ⟨hx, hb, hml, hown, hts⟩ (k_X11_isHour l D cA Z τ gi gr _ p1) (va_cwS 1 hts gX11_tide_X11_isHour rfl rfl rfl (by decide +kernel) ⟨Nat.le_of_ble_eq_true rfl, Nat.le_of_ble_eq_true rfl⟩) ⟨th_blind, (th_pre hH hK hN hZ hS hA3)⟩ rfl rfl hl.1 rfl (lv_room (Nat.le_of_ble_eq_true rfl)) dX11_tide_1 ⟨Nat.le_of_ble_eq_true rfl, Nat.le_of_ble_eq_true rfl⟩) hS (fun q _ h => hA3 q h) hA3 (fun x4 u t H locs ht hvm hw4 hB hz1 hk1 hS => ?_)
  try dsimp only at hw4 hB
  rw [ht] at hB
  have hH := hB
  refine lv_if_eq (tgt := 18) hx hb dX11_tide_4 (th_eqI rfl) (fun c5 => ?_) (fun c5 => ?_)
  · skip
    have f6 : rg 0 0 x4 := rg_w (rg_eq hw4.1 rgc_0 c5).1 (th_leI rfl) (th_leI rfl)
    exact J18 gi _ _ _ hH hS hM (lv_sub hl [0] rfl) (hF.trans (by simp only [↓reduceIte, F_X11_tide, hw4.2.2.1, eq_true c5]))
  · skip
    have f7 : rg 1 1 x4 := rg_w (rg_neL hw4.1 rgc_0 c5) (th_leI rfl) (th_leI rfl)
    have f8 : rg 0 23 p1 := rg_w (hw4.2.1 c5) (th_leI rfl) (th_leI rfl)
    refine lv_iload_n hx hb dX11_tide_7 rfl (lv_at hl 2 rfl) ?_
    refine lv_iconst (v := 0) hx hb dX11_tide_8 ic_0 ?_
    refine lv_sipush (v := 200) hx hb dX11_tide_9 sp_200 ?_
    have hA9 := th_Asub (τ := τ) hS
    refine va_calli (va_runS (As := [.int p2, .int 0, .int 200]) (rest := []) ⟨hx, hb, hml, hown, hts⟩ (k_X11_within l D cA Z τ gi gr _ p2 0 200) (va_cwS 3 hts gX11_tide_X11_within rfl rfl rfl (by decide +kernel) ⟨Nat.le_of_ble_eq_true rfl, Nat.le_of_ble_eq_true rfl⟩) ⟨th_blind, (th_pre hH hK hN hZ hS hA9)⟩ rfl rfl hl.1 rfl (lv_room (Nat.le_of_ble_eq_true rfl)) dX11_tide_12 ⟨Nat.le_of_ble_eq_true rfl, Nat.le_of_ble_eq_true rfl⟩) hS (fun q _ h => hA9 q h) hA9 (fun x10 u t H locs ht hvm hw10 hB hz1 hk1 hS => ?_)
    try dsimp only at hw10 hB
    rw [ht] at hB
    have hH := hB
    refine lv_if_ne (tgt := 24) hx hb dX11_tide_15 (th_eqI rfl) (fun c11 => ?_) (fun c11 => ?_)
    · skip
      have f12 : rg 1 1 x10 := rg_w (rg_neL hw10.1 rgc_0 c11) (th_leI rfl) (th_leI rfl)
      have g13 := hw10.2.1 c11
      have f14 : rg 0 2147483647 p2 := rg_w (rg_le rgc_0 (rg_any p2) g13.1).2 (th_leI rfl) (th_leI rfl)
      have f15 : rg 0 200 p2 := rg_w (rg_le f14 rgc_200 g13.2).1 (th_leI rfl) (th_leI rfl)
      refine lv_aload_n hx hb dX11_tide_24 rfl (lv_at hl 0 rfl) ?_
      obtain ⟨q16, r16, t16⟩ : ∃ q, gr h0 0 = some q ∧ τ q = 1 := (thI_11 hH t_h0).1
      refine th_get (ci := 10) (v := .ref q16) (T := TX11) (C := RX11) (N := 10) hx hb hts (fun w h => List.mem_cons_of_mem _ (List.mem_append_left _ (List.mem_append_left _ (List.mem_append_right _ h)))) hown hK hH t_h0 (th_nz rfl) (thE_11 _ _ _) rfl 0 (th_ltN rfl) (hts (.fieldLink RX11 10 "BayMoorings" "bay" "LBayMoorings$Bay;") (List.mem_cons_of_mem _ (List.mem_append_left _ (List.mem_append_left _ (List.mem_append_left _ (List.mem_append_left _ (List.mem_of_getElem? (i := 0) rfl))))))) (fun _ h9 => h9) (th_fR r16 rfl) dX11_tide_25 ?_
      obtain ⟨q17, r17, t17⟩ : ∃ q, gr q16 2 = some q ∧ τ q = 22 := (thI_1 hH t16).2.2.1
      refine th_get (ci := 0) (v := .ref q17) (T := TX0) (C := RX0) (N := 9) hx hb hts (fun w h => List.mem_cons_of_mem _ (List.mem_append_left _ (List.mem_append_right _ h))) hown hK hH t16 (th_nz rfl) (thE_1 _ _ _) rfl 2 (th_ltN rfl) (hts (.fieldLink RX11 105 "BayMoorings$Bay" "tides" "[I") (List.mem_cons_of_mem _ (List.mem_append_left _ (List.mem_append_left _ (List.mem_append_left _ (List.mem_append_left _ (List.mem_of_getElem? (i := 1) rfl))))))) (fun _ h9 => h9) (th_fR r17 rfl) dX11_tide_28 ?_
      refine lv_iload_n hx hb dX11_tide_31 rfl (lv_at hl 1 rfl) ?_
      refine th_iald hx hb hK hH t17 (th_nz rfl) 0 (thE_22 _ _ _) rfl (rg_in (n := 24) f8 (th_leI rfl) (th_ltI rfl)) dX11_tide_32 ?_
      refine lv_topi (fun x18 e18 => ?_)
      refine lv_istore_n (i := 3) (lv' := [(3, .int x18), (0, .ref h0), (1, .int p1), (2, .int p2)]) hx hb dX11_tide_33 rfl hl (th_ltN rfl) rfl (fun ls hl => ?_)
      refine lv_aload_n hx hb dX11_tide_34 rfl (lv_at hl 1 rfl) ?_
      refine th_get (ci := 10) (v := .ref q16) (T := TX11) (C := RX11) (N := 10) hx hb hts (fun w h => List.mem_cons_of_mem _ (List.mem_append_left _ (List.mem_append_left _ (List.mem_append_right _ h)))) hown hK hH t_h0 (th_nz rfl) (thE_11 _ _ _) rfl 0 (th_ltN rfl) (hts (.fieldLink RX11 10 "BayMoorings" "bay" "LBayMoorings$Bay;") (List.mem_cons_of_mem _ (List.mem_append_left _ (List.mem_append_left _ (List.mem_append_left _ (List.mem_append_left _ (List.mem_of_getElem? (i := 0) rfl))))))) (fun _ h9 => h9) (th_fR r16 rfl) dX11_tide_35 ?_
      refine lv_iload_n hx hb dX11_tide_38 rfl (lv_at hl 2 rfl) ?_
      refine lv_iload_n hx hb dX11_tide_39 rfl (lv_at hl 3 rfl) ?_
      have hA20 := th_Asub (τ := τ) hS
      refine va_callv (va_runV (As := [.int p1, .int p2]) (rest := []) ⟨hx, hb, hml, hown, hts⟩ (k_X0_setTide l D cA Z τ gi gr _ q16 t16 p1 p2) (cwV 2 hts gX11_tide_X0_setTide rfl rfl rfl hd_X0_setTide__2 ⟨Nat.le_of_ble_eq_true rfl, Nat.le_of_ble_eq_true rfl⟩) ⟨th_blind, tr_1 hK hH t16, (th_pre hH hK hN hZ hS hA20)⟩ rfl rfl hl.1 rfl (lv_room (Nat.le_of_ble_eq_true rfl)) dX11_tide_40 ⟨Nat.le_of_ble_eq_true rfl, Nat.le_of_ble_eq_true rfl⟩) hS (fun q _ h => hA20 q h) hA20 (fun  u t H locs ht hvm hw21 hB hz1 hk1 hS => ?_)
      try dsimp only at hw21 hB
      rw [ht] at hB
      have hH := hB
      obtain ⟨gi21, gr21⟩ := u
      try dsimp only at hw21 hH
      obtain rfl : gr = gr21 := (hw21.2.1).symm
      have hM := hM.tr hw21.1 (fun _ h => h) (th_sub rfl)
      refine lv_iload_n hx hb dX11_tide_43 rfl (lv_at hl 0 rfl) ?_
      exact W.iret (v := x18) hx hb hr (fun t ht hW => ⟨⟨x18, (gi21, gr), rfl, ⟨hM, rfl, (hF.trans (by simp only [↓reduceIte, F_X11_tide, hw4.2.2.1, eq_false c5, hw10.2.2.1, eq_false c11, r16, Option.getD_some, r17, ← e18, hw21.2.2]))⟩, th_Ht ht hH⟩, hS.F ht⟩) hS.2.2 dX11_tide_44
    · skip
      have f22 : rg 0 0 x10 := rg_w (rg_eq hw10.1 rgc_0 c11).1 (th_leI rfl) (th_leI rfl)
      exact J18 gi _ _ _ hH hS hM (lv_sub hl [0] rfl) (hF.trans (by simp only [↓reduceIte, F_X11_tide, hw4.2.2.1, eq_false c5, hw10.2.2.1, eq_true c11]))

noncomputable def F_X11_winds (τ : th_t) (Z : th_Zt) (gi : th_i) (gr : th_r) (h0 : Nat) (p1 : Int32) : Int32 × th_i :=
  let x2 : Int32 := F_X11_within τ Z gi gr p1 1 255
  if x2 = (0 : Int32) then (
    let u15 : Int32 × th_i := F_X11_finding τ Z gi gr h0 1
    let x15 : Int32 := u15.1
    let gi15 : th_i := u15.2
    (x15, gi15)) else (
    let q8 : Nat := (gr h0 0).getD 0
    let x9 : Int32 := gi q8 7
    let gi11 : th_i := va_up gi q8 (upd (gi q8) 7 p1)
    (x9, gi11))
set_option maxHeartbeats 8000000 in
set_option maxRecDepth 100000 in
theorem k_X11_winds (l : Launch) (D : va_G) (cA : Nat → ClassId) (Z : th_Zt) (τ : th_t) (gi : th_i) (gr : th_r) (sz : Nat) (h0 : Nat) (t_h0 : τ h0 = 11) (p1 : Int32) : Met l yX11_winds wsX11_winds ({ frames := 2, cells := 0, slots := 0, locals := 43 }) (va_Pc [.ref h0, .int p1] (th_Pre D cA Z τ gi gr sz)) (va_Qi (fun (r : Int32) (u : th_i × th_r) => th_Mod [107, 3600] τ gi gr u.1 u.2 ∧ u.2 = gr ∧ (F_X11_winds τ Z gi gr h0 p1 = (r, u.1))) (fun (u : th_i × th_r) t => th_H D cA τ u.1 u.2 t.heap) (th_A τ sz)) 0 0 (th_A τ sz) := by
  refine Met.ofW (cc := cX11_winds) (maxL := 3) (ret := (some .int)) (by decide) rfl ?_
  intro p e s m args below meth c s₁ B hml hv
  obtain ⟨rfl, hsz, hH, hK, hN, hZ⟩ := hv
  have hx := B.exec
  have hb := B.bytes
  have hr := B.returns
  have hts := atoms_spec (ws := wsX11_winds) B.pre
  have hown : s.vm.findClass RX11 = some m.cls := findClass_of_methodNamed B.named
  have hlocks := B.notSynchronized
  subst hsz
  have hM : th_Mod [107, 3600] τ gi gr gi gr := th_Mod.rf
  have hS : va_S (th_A τ s.heap.size) s.heap s.heap [] := va_S.rf
  have hl := lv_entry ([.ref h0, .int p1]) (n := 3) (Nat.le_of_ble_eq_true rfl)
  rw [lg_entry_eq]
  generalize (lg_sl ([.ref h0, .int p1]) ++ List.replicate (3 - (lg_sl ([.ref h0, .int p1])).length) Slot.unset).toArray = ls at hl ⊢
  have hl : lv_has ls 3 [(0, .ref h0), (1, .int p1)] := hl
  have hF : F_X11_winds τ Z gi gr h0 p1 = F_X11_winds τ Z gi gr h0 p1 := rfl
  refine lv_iload_n hx hb dX11_winds_0 rfl (lv_at hl 1 rfl) ?_
  refine lv_iconst (v := 1) hx hb dX11_winds_1 ic_1 ?_
  refine lv_sipush (v := 255) hx hb dX11_winds_2 sp_255 ?_
  have hA1 := th_Asub (τ := τ) hS
  refine va_calli (va_runS (As := [.int p1, .int 1, .int 255]) (rest := []) ⟨hx, hb, hml, hown, hts⟩ (k_X11_within l D cA Z τ gi gr _ p1 1 255) (va_cwS 3 hts gX11_winds_X11_within rfl rfl rfl (by decide +kernel) ⟨Nat.le_of_ble_eq_true rfl, Nat.le_of_ble_eq_true rfl⟩) ⟨th_blind, (th_pre hH hK hN hZ hS hA1)⟩ rfl rfl hl.1 rfl (lv_room (Nat.le_of_ble_eq_true rfl)) dX11_winds_5 ⟨Nat.le_of_ble_eq_true rfl, Nat.le_of_ble_eq_true rfl⟩) hS (fun q _ h => hA1 q h) hA1 (fun x2 u t H locs ht hvm hw2 hB hz1 hk1 hS => ?_)
  try dsimp only at hw2 hB
  rw [ht] at hB
  have hH := hB
  refine lv_if_ne (tgt := 17) hx hb dX11_winds_8 (th_eqI rfl) (fun c3 => ?_) (fun c3 => ?_)
  · skip
    have f4 : rg 1 1 x2 := rg_w (rg_neL hw2.1 rgc_0 c3) (th_leI rfl) (th_leI rfl)
    have g5 := hw2.2.1 c3
    have f6 : rg 1 2147483647 p1 := rg_w (rg_le rgc_1 (rg_any p1) g5.1).2 (th_leI rfl) (th_leI rfl)
    have f7 : rg 1 255 p1 := rg_w (rg_le f6 rgc_255 g5.2).1 (th_leI rfl) (th_leI rfl)
    refine lv_aload_n hx hb dX11_winds_17 rfl (lv_at hl 0 rfl) ?_
    obtain ⟨q8, r8, t8⟩ : ∃ q, gr h0 0 = some q ∧ τ q = 1 := (thI_11 hH t_h0).1
    refine th_get (ci := 10) (v := .ref q8) (T := TX11) (C := RX11) (N := 10) hx hb hts (fun w h => List.mem_cons_of_mem _ (List.mem_append_left _ (List.mem_append_right _ h))) hown hK hH t_h0 (th_nz rfl) (thE_11 _ _ _) rfl 0 (th_ltN rfl) (hts (.fieldLink RX11 10 "BayMoorings" "bay" "LBayMoorings$Bay;") (List.mem_cons_of_mem _ (List.mem_append_left _ (List.mem_append_left _ (List.mem_of_getElem? (i := 0) rfl))))) (fun _ h9 => h9) (th_fR r8 rfl) dX11_winds_18 ?_
    obtain ⟨x9, e9⟩ : ∃ y : Int32, y = gi q8 7 := ⟨_, rfl⟩
    refine th_get (ci := 0) (v := .int x9) (T := TX0) (C := RX0) (N := 9) hx hb hts (fun w h => List.mem_cons_of_mem _ (List.mem_append_right _ h)) hown hK hH t8 (th_nz rfl) (thE_1 _ _ _) rfl 7 (th_ltN rfl) (hts (.fieldLink RX11 112 "BayMoorings$Bay" "windBits" "I") (List.mem_cons_of_mem _ (List.mem_append_left _ (List.mem_append_left _ (List.mem_of_getElem? (i := 1) rfl))))) (fun _ h9 => h9) (th_fI e9 rfl) dX11_winds_21 ?_
    refine lv_istore_n (i := 2) (lv' := [(2, .int x9), (0, .ref h0), (1, .int p1)]) hx hb dX11_winds_24 rfl hl (th_ltN rfl) rfl (fun ls hl => ?_)
    refine lv_aload_n hx hb dX11_winds_25 rfl (lv_at hl 1 rfl) ?_
    refine th_get (ci := 10) (v := .ref q8) (T := TX11) (C := RX11) (N := 10) hx hb hts (fun w h => List.mem_cons_of_mem _ (List.mem_append_left _ (List.mem_append_right _ h))) hown hK hH t_h0 (th_nz rfl) (thE_11 _ _ _) rfl 0 (th_ltN rfl) (hts (.fieldLink RX11 10 "BayMoorings" "bay" "LBayMoorings$Bay;") (List.mem_cons_of_mem _ (List.mem_append_left _ (List.mem_append_left _ (List.mem_of_getElem? (i := 0) rfl))))) (fun _ h9 => h9) (th_fR r8 rfl) dX11_winds_26 ?_
    refine lv_iload_n hx hb dX11_winds_29 rfl (lv_at hl 2 rfl) ?_
    refine th_put (ci := 0) (v := .int p1) (T := TX0) (C := RX0) (N := 9) (ty := .int) (gi' := va_up gi q8 (upd (gi q8) 7 p1)) (gr' := gr) hx hb hts (fun w h => List.mem_cons_of_mem _ (List.mem_append_right _ h)) tyX0 tyX0_ok nmX0 hown hK hH hS t8 (th_nz rfl) (Or.inl (th_nzE t8 rfl)) rfl rfl 7 (th_ltN rfl) (hts (.fieldLink RX11 112 "BayMoorings$Bay" "windBits" "I") (List.mem_cons_of_mem _ (List.mem_append_left _ (List.mem_append_left _ (List.mem_of_getElem? (i := 1) rfl))))) (fun _ h9 => h9) rfl (by decide +kernel) rfl rfl (Nat.le_of_ble_eq_true rfl) (by rw [va_up_self]; rfl) (by rw [va_up_self]; show (∃ q, gr q8 0 = some q ∧ τ q = 20) ∧ (∃ q, gr q8 1 = some q ∧ τ q = 21) ∧ (∃ q, gr q8 2 = some q ∧ τ q = 22) ∧ (∃ q, gr q8 3 = some q ∧ τ q = 23) ∧ (∃ q, gr q8 4 = some q ∧ τ q = 2) ∧ rg 0 12 (gi q8 5) ∧ rg 0 16 (gi q8 6); exact ⟨(thI_1 hH t8).1, (thI_1 hH t8).2.1, (thI_1 hH t8).2.2.1, (thI_1 hH t8).2.2.2.1, (thI_1 hH t8).2.2.2.2.1, (thI_1 hH t8).2.2.2.2.2.1, (thI_1 hH t8).2.2.2.2.2.2⟩) (fun b hb => ⟨va_up_ne _ _ hb, rfl⟩) dX11_winds_30 (fun H locs hH hS => ?_)
    obtain ⟨gi11, eg11⟩ : ∃ g, g = va_up gi q8 (upd (gi q8) 7 p1) := ⟨_, rfl⟩
    rw [← eg11] at hH
    have hu11 : gi11 q8 7 = p1 := (th_uI eg11).1
    have ho11 : ∀ b j, b ≠ q8 ∨ j ≠ 7 → gi11 b j = gi b j := (th_uI eg11).2
    have hM := hM.i t8 (th_mem (a := 107) rfl) ho11
    refine lv_iload_n hx hb dX11_winds_33 rfl (lv_at hl 0 rfl) ?_
    exact W.iret (v := x9) hx hb hr (fun t ht hW => ⟨⟨x9, (gi11, gr), rfl, ⟨hM, rfl, (hF.trans (by simp only [↓reduceIte, F_X11_winds, hw2.2.2.1, eq_false c3, r8, Option.getD_some, ← e9, ← eg11]))⟩, th_Ht ht hH⟩, hS.F ht⟩) hS.2.2 dX11_winds_34
  · skip
    have f13 : rg 0 0 x2 := rg_w (rg_eq hw2.1 rgc_0 c3).1 (th_leI rfl) (th_leI rfl)
    refine lv_aload_n hx hb dX11_winds_11 rfl (lv_at hl 0 rfl) ?_
    refine lv_iconst (v := 1) hx hb dX11_winds_12 ic_1 ?_
    have hA14 := th_Asub (τ := τ) hS
    refine va_calli (va_runV (As := [.int 1]) (rest := []) ⟨hx, hb, hml, hown, hts⟩ (k_X11_finding l D cA Z τ gi gr _ h0 t_h0 1) (cwV 1 hts gX11_winds_X11_finding rfl rfl rfl hd_X11_finding__1 ⟨Nat.le_of_ble_eq_true rfl, Nat.le_of_ble_eq_true rfl⟩) ⟨th_blind, tr_11 hK hH t_h0, (th_pre hH hK hN hZ hS hA14)⟩ rfl rfl hl.1 rfl (lv_room (Nat.le_of_ble_eq_true rfl)) dX11_winds_13 ⟨Nat.le_of_ble_eq_true rfl, Nat.le_of_ble_eq_true rfl⟩) hS (fun q _ h => hA14 q h) hA14 (fun x15 u t H locs ht hvm hw15 hB hz1 hk1 hS => ?_)
    try dsimp only at hw15 hB
    rw [ht] at hB
    have hH := hB
    obtain ⟨gi15, gr15⟩ := u
    try dsimp only at hw15 hH
    obtain rfl : gr = gr15 := (hw15.2.1).symm
    have hM := hM.tr hw15.1 (fun _ h => h) (th_sub rfl)
    exact W.iret (v := x15) hx hb hr (fun t ht hW => ⟨⟨x15, (gi15, gr), rfl, ⟨hM, rfl, (hF.trans (by simp only [↓reduceIte, F_X11_winds, hw2.2.2.1, eq_true c3, hw15.2.2.1]))⟩, th_Ht ht hH⟩, hS.F ht⟩) hS.2.2 dX11_winds_16

noncomputable def F_X11_about (τ : th_t) (Z : th_Zt) (gi : th_i) (gr : th_r) (h0 : Nat) (p1 : Int32) (p2 : Int32) : Int32 × th_i :=
  let q1 : Nat := (gr h0 0).getD 0
  let r3 : Option Nat := F_X0_boatAt τ Z gi gr q1 p1
  Option.elim r3 (
    let u37 : Int32 × th_i := F_X11_finding τ Z gi gr h0 1
    let x37 : Int32 := u37.1
    let gi37 : th_i := u37.2
    (x37, gi37)) (fun q4 =>
    if p2.toInt < 0 then (
      let u7 : Int32 × th_i := F_X11_finding τ Z gi gr h0 1
      let x7 : Int32 := u7.1
      let gi7 : th_i := u7.2
      (x7, gi7)) else (
      if 5 < p2.toInt then (
        let u9 : Int32 × th_i := F_X11_finding τ Z gi gr h0 1
        let x9 : Int32 := u9.1
        let gi9 : th_i := u9.2
        (x9, gi9)) else (
        if p2.toInt = 0 then (
          let x12 : Int32 := FV_kindNumber τ Z gi gr q4
          (x12, gi)) else (
          if p2.toInt = 1 then (
            let x14 : Int32 := gi q4 1
            (x14, gi)) else (
            if p2.toInt = 2 then (
              let x16 : Int32 := gi q4 2
              (x16, gi)) else (
              if p2.toInt = 3 then (
                let q19 : Nat := (gr q1 4).getD 0
                let x21 : Int32 := F_X1_buoyOf τ Z gi gr q19 p1
                (x21, gi)) else (
                if p2.toInt = 4 then (
                  let q23 : Nat := (gr h0 1).getD 0
                  let x25 : Int32 := F_X10_placeOf τ Z gi gr q23 p1
                  (x25, gi)) else (
                  if p2.toInt = 5 then (
                    let q28 : Nat := (gr q1 4).getD 0
                    let x30 : Int32 := F_X1_buoyOf τ Z gi gr q28 p1
                    if x30 = ((-1) : Int32) then (
                      (0, gi)) else (
                      let x32 : Int32 := gi h0 8
                      let x34 : Int32 := FV_fee τ Z gi gr q4 x32
                      (x34, gi))) else (
                    (0, gi))))))))))
set_option maxHeartbeats 8000000 in
set_option maxRecDepth 100000 in
theorem k_X11_about (l : Launch) (D : va_G) (cA : Nat → ClassId) (Z : th_Zt) (τ : th_t) (gi : th_i) (gr : th_r) (sz : Nat) (h0 : Nat) (t_h0 : τ h0 = 11) (p1 : Int32) (p2 : Int32) : Met l yX11_about wsX11_about ({ frames := 2, cells := 0, slots := 0, locals := 43 }) (va_Pc [.ref h0, .int p1, .int p2] (th_Pre D cA Z τ gi gr sz)) (va_Qi (fun (r : Int32) (u : th_i × th_r) => th_Mod [3600] τ gi gr u.1 u.2 ∧ u.2 = gr ∧ (F_X11_about τ Z gi gr h0 p1 p2 = (r, u.1))) (fun (u : th_i × th_r) t => th_H D cA τ u.1 u.2 t.heap) (th_A τ sz)) 0 0 (th_A τ sz) := by
  refine Met.ofW (cc := cX11_about) (maxL := 4) (ret := (some .int)) (by decide) rfl ?_
  intro p e s m args below meth c s₁ B hml hv
  obtain ⟨rfl, hsz, hH, hK, hN, hZ⟩ := hv
  have hx := B.exec
  have hb := B.bytes
  have hr := B.returns
  have hts := atoms_spec (ws := wsX11_about) B.pre
  have hown : s.vm.findClass RX11 = some m.cls := findClass_of_methodNamed B.named
  have hlocks := B.notSynchronized
  subst hsz
  have hM : th_Mod [3600] τ gi gr gi gr := th_Mod.rf
  have hS : va_S (th_A τ s.heap.size) s.heap s.heap [] := va_S.rf
  have hl := lv_entry ([.ref h0, .int p1, .int p2]) (n := 4) (Nat.le_of_ble_eq_true rfl)
  rw [lg_entry_eq]
  generalize (lg_sl ([.ref h0, .int p1, .int p2]) ++ List.replicate (4 - (lg_sl ([.ref h0, .int p1, .int p2])).length) Slot.unset).toArray = ls at hl ⊢
  have hl : lv_has ls 4 [(0, .ref h0), (1, .int p1), (2, .int p2)] := hl
  have hF : F_X11_about τ Z gi gr h0 p1 p2 = F_X11_about τ Z gi gr h0 p1 p2 := rfl
  refine lv_aload_n hx hb dX11_about_0 rfl (lv_at hl 0 rfl) ?_
  obtain ⟨q1, r1, t1⟩ : ∃ q, gr h0 0 = some q ∧ τ q = 1 := (thI_11 hH t_h0).1
  refine th_get (ci := 10) (v := .ref q1) (T := TX11) (C := RX11) (N := 10) hx hb hts (fun w h => List.mem_cons_of_mem _ (List.mem_append_left _ (List.mem_append_left _ (List.mem_append_left _ (List.mem_append_left _ (List.mem_append_left _ (List.mem_append_left _ (List.mem_append_right _ h)))))))) hown hK hH t_h0 (th_nz rfl) (thE_11 _ _ _) rfl 0 (th_ltN rfl) (hts (.fieldLink RX11 10 "BayMoorings" "bay" "LBayMoorings$Bay;") (List.mem_cons_of_mem _ (List.mem_append_left _ (List.mem_append_left _ (List.mem_append_left _ (List.mem_append_left _ (List.mem_append_left _ (List.mem_append_left _ (List.mem_append_left _ (List.mem_append_left _ (List.mem_of_getElem? (i := 0) rfl))))))))))) (fun _ h9 => h9) (th_fR r1 rfl) dX11_about_1 ?_
  refine lv_iload_n hx hb dX11_about_4 rfl (lv_at hl 1 rfl) ?_
  have hA2 := th_Asub (τ := τ) hS
  refine va_callq (va_runV (As := [.int p1]) (rest := []) ⟨hx, hb, hml, hown, hts⟩ (k_X0_boatAt l D cA Z τ gi gr _ q1 t1 p1) (cwV 1 hts gX11_about_X0_boatAt rfl rfl rfl hd_X0_boatAt__1 ⟨Nat.le_of_ble_eq_true rfl, Nat.le_of_ble_eq_true rfl⟩) ⟨th_blind, tr_1 hK hH t1, (th_pre hH hK hN hZ hS hA2)⟩ rfl rfl hl.1 rfl (lv_room (Nat.le_of_ble_eq_true rfl)) dX11_about_5 ⟨Nat.le_of_ble_eq_true rfl, Nat.le_of_ble_eq_true rfl⟩) hS (fun q _ h => hA2 q h) hA2 (fun r3 u t H locs ht hvm hw3 hB hz1 hk1 hS => ?_)
  try dsimp only at hw3 hB
  rw [ht] at hB
  have hH := hB
  refine th_astoreq_n (i := 3) (lv' := [(3, va_rf r3), (0, .ref h0), (1, .int p1), (2, .int p2)]) hx hb dX11_about_8 rfl hl (th_ltN rfl) rfl (fun ls hl => ?_)
  refine th_aloadq_n hx hb dX11_about_9 rfl (lv_at hl 0 rfl) ?_
  refine th_ifnonnull (tgt := 19) hx hb dX11_about_10 (th_eqI rfl) (fun q4 z4 => ?_) (fun z4 => ?_)
  · skip
    subst z4
    have t4 := hw3.1 q4 rfl
    have hl : lv_has ls 4 [(3, .ref q4), (0, .ref h0), (1, .int p1), (2, .int p2)] := hl
    refine lv_iload_n hx hb dX11_about_19 rfl (lv_at hl 3 rfl) ?_
    rcases Int.lt_or_le p2.toInt 0 with z5 | z5
    · refine lv_tableOut (tgt := 124) hx hb dX11_about_20 (Or.inl z5) (th_eqI rfl) ?_
      refine lv_aload_n hx hb dX11_about_124 rfl (lv_at hl 1 rfl) ?_
      refine lv_iconst (v := 1) hx hb dX11_about_125 ic_1 ?_
      have hA6 := th_Asub (τ := τ) hS
      refine va_calli (va_runV (As := [.int 1]) (rest := []) ⟨hx, hb, hml, hown, hts⟩ (k_X11_finding l D cA Z τ gi gr _ h0 t_h0 1) (cwV 1 hts gX11_about_X11_finding rfl rfl rfl hd_X11_finding__1 ⟨Nat.le_of_ble_eq_true rfl, Nat.le_of_ble_eq_true rfl⟩) ⟨th_blind, tr_11 hK hH t_h0, (th_pre hH hK hN hZ hS hA6)⟩ rfl rfl hl.1 rfl (lv_room (Nat.le_of_ble_eq_true rfl)) dX11_about_126 ⟨Nat.le_of_ble_eq_true rfl, Nat.le_of_ble_eq_true rfl⟩) hS (fun q _ h => hA6 q h) hA6 (fun x7 u t H locs ht hvm hw7 hB hz1 hk1 hS => ?_)
      try dsimp only at hw7 hB
      rw [ht] at hB
      have hH := hB
      obtain ⟨gi7, gr7⟩ := u
      try dsimp only at hw7 hH
      obtain rfl : gr = gr7 := (hw7.2.1).symm
      have hM := hM.tr hw7.1 (fun _ h => h) (th_sub rfl)
      exact W.iret (v := x7) hx hb hr (fun t ht hW => ⟨⟨x7, (gi7, gr), rfl, ⟨hM, rfl, (hF.trans (by simp only [↓reduceIte, F_X11_about, r1, Option.getD_some, hw3.2, Option.elim_some, eq_true z5, hw7.2.2.1]))⟩, th_Ht ht hH⟩, hS.F ht⟩) hS.2.2 dX11_about_129
    rcases Int.lt_or_le 5 p2.toInt with y5 | y5
    · refine lv_tableOut (tgt := 124) hx hb dX11_about_20 (Or.inr y5) (th_eqI rfl) ?_
      refine lv_aload_n hx hb dX11_about_124 rfl (lv_at hl 1 rfl) ?_
      refine lv_iconst (v := 1) hx hb dX11_about_125 ic_1 ?_
      have hA8 := th_Asub (τ := τ) hS
      refine va_calli (va_runV (As := [.int 1]) (rest := []) ⟨hx, hb, hml, hown, hts⟩ (k_X11_finding l D cA Z τ gi gr _ h0 t_h0 1) (cwV 1 hts gX11_about_X11_finding rfl rfl rfl hd_X11_finding__1 ⟨Nat.le_of_ble_eq_true rfl, Nat.le_of_ble_eq_true rfl⟩) ⟨th_blind, tr_11 hK hH t_h0, (th_pre hH hK hN hZ hS hA8)⟩ rfl rfl hl.1 rfl (lv_room (Nat.le_of_ble_eq_true rfl)) dX11_about_126 ⟨Nat.le_of_ble_eq_true rfl, Nat.le_of_ble_eq_true rfl⟩) hS (fun q _ h => hA8 q h) hA8 (fun x9 u t H locs ht hvm hw9 hB hz1 hk1 hS => ?_)
      try dsimp only at hw9 hB
      rw [ht] at hB
      have hH := hB
      obtain ⟨gi9, gr9⟩ := u
      try dsimp only at hw9 hH
      obtain rfl : gr = gr9 := (hw9.2.1).symm
      have hM := hM.tr hw9.1 (fun _ h => h) (th_sub rfl)
      exact W.iret (v := x9) hx hb hr (fun t ht hW => ⟨⟨x9, (gi9, gr), rfl, ⟨hM, rfl, (hF.trans (by simp only [↓reduceIte, F_X11_about, r1, Option.getD_some, hw3.2, Option.elim_some, eq_false (Int.not_lt.mpr z5), eq_true y5, hw9.2.2.1]))⟩, th_Ht ht hH⟩, hS.F ht⟩) hS.2.2 dX11_about_129
    rcases (show p2.toInt = 0 ∨ p2.toInt = 1 ∨ p2.toInt = 2 ∨ p2.toInt = 3 ∨ p2.toInt = 4 ∨ p2.toInt = 5 by omega) with w5 | w5 | w5 | w5 | w5 | w5
    · refine lv_tableIn (tgt := 60) hx hb dX11_about_20 (by omega) (by omega) (by rw [w5]; rfl) (th_eqI rfl) ?_
      have f10 : rg 0 0 p2 := ⟨by omega, by omega⟩
      refine lv_aload_n hx hb dX11_about_60 rfl (lv_at hl 0 rfl) ?_
      have hA11 := th_Asub (τ := τ) hS
      refine va_calli (th_or3 t4 (fun t9 => th_runi (post' := (fun (r : Int32) (_ : Unit) => (FV_kindNumber τ Z gi gr q4 = r))) (va_runU (As := []) (rest := []) ⟨hx, hb, hml, hown, hts⟩ (k_X8_kindNumber l D cA Z τ gi gr _ q4 t9) (va_cwA 0 hts gX11_about_X8_kindNumber_u115X8 rfl rfl rfl hN.2.2.2.2.2.2.2.2.2.2.1 (by decide +kernel) ⟨Nat.le_of_ble_eq_true rfl, Nat.le_of_ble_eq_true rfl⟩) ⟨th_blind, tr_8 hK hH t9, (th_pre hH hK hN hZ hS hA11)⟩ rfl rfl hl.1 rfl (lv_room (Nat.le_of_ble_eq_true rfl)) dX11_about_61 ⟨Nat.le_of_ble_eq_true rfl, Nat.le_of_ble_eq_true rfl⟩) (fun _ _ h9 => ((FV_kindNumber_8 t9).trans h9))) (fun t9 => th_runi (post' := (fun (r : Int32) (_ : Unit) => (FV_kindNumber τ Z gi gr q4 = r))) (va_runU (As := []) (rest := []) ⟨hx, hb, hml, hown, hts⟩ (k_X9_kindNumber l D cA Z τ gi gr _ q4 t9) (va_cwA 0 hts gX11_about_X9_kindNumber_u115X9 rfl rfl rfl hN.2.2.2.2.2.2.2.2.2.2.1 (by decide +kernel) ⟨Nat.le_of_ble_eq_true rfl, Nat.le_of_ble_eq_true rfl⟩) ⟨th_blind, tr_9 hK hH t9, (th_pre hH hK hN hZ hS hA11)⟩ rfl rfl hl.1 rfl (lv_room (Nat.le_of_ble_eq_true rfl)) dX11_about_61 ⟨Nat.le_of_ble_eq_true rfl, Nat.le_of_ble_eq_true rfl⟩) (fun _ _ h9 => ((FV_kindNumber_9 t9).trans h9))) (fun t9 => th_runi (post' := (fun (r : Int32) (_ : Unit) => (FV_kindNumber τ Z gi gr q4 = r))) (va_runU (As := []) (rest := []) ⟨hx, hb, hml, hown, hts⟩ (k_X4_kindNumber l D cA Z τ gi gr _ q4 t9) (va_cwA 0 hts gX11_about_X4_kindNumber_u115X4 rfl rfl rfl hN.2.2.2.2.2.2.2.2.2.2.1 (by decide +kernel) ⟨Nat.le_of_ble_eq_true rfl, Nat.le_of_ble_eq_true rfl⟩) ⟨th_blind, tr_4 hK hH t9, (th_pre hH hK hN hZ hS hA11)⟩ rfl rfl hl.1 rfl (lv_room (Nat.le_of_ble_eq_true rfl)) dX11_about_61 ⟨Nat.le_of_ble_eq_true rfl, Nat.le_of_ble_eq_true rfl⟩) (fun _ _ h9 => ((FV_kindNumber_4 t9).trans h9)))) hS (fun q _ h => hA11 q h) hA11 (fun x12 u t H locs ht hvm hw12 hB hz1 hk1 hS => ?_)
      try dsimp only at hw12 hB
      rw [ht] at hB
      have hH := hB
      exact W.iret (v := x12) hx hb hr (fun t ht hW => ⟨⟨x12, (gi, gr), rfl, ⟨hM, rfl, (hF.trans (by simp only [↓reduceIte, F_X11_about, r1, Option.getD_some, hw3.2, Option.elim_some, eq_false (Int.not_lt.mpr z5), eq_false (Int.not_lt.mpr y5), eq_true w5, hw12]))⟩, th_Ht ht hH⟩, hS.F ht⟩) hS.2.2 dX11_about_64
    · refine lv_tableIn (tgt := 65) hx hb dX11_about_20 (by omega) (by omega) (by rw [w5]; rfl) (th_eqI rfl) ?_
      have f13 : rg 1 1 p2 := ⟨by omega, by omega⟩
      refine lv_aload_n hx hb dX11_about_65 rfl (lv_at hl 0 rfl) ?_
      obtain ⟨x14, e14⟩ : ∃ y : Int32, y = gi q4 1 := ⟨_, rfl⟩
      refine th_any3 t4 (fun t9 k9 => th_get (ci := 7) (v := .int x14) (T := TX8) (C := RX8) (N := 6) hx hb hts (fun w h => List.mem_cons_of_mem _ (List.mem_append_left _ (List.mem_append_left _ (List.mem_append_left _ (List.mem_append_left _ (List.mem_append_right _ h)))))) hown hK hH t9 (th_nz rfl) (thE_8 _ _ _) rfl 1 (th_ltN rfl) (hts (.fieldLink RX11 119 "BayMoorings$Boat" "length" "I") (List.mem_cons_of_mem _ (List.mem_append_left _ (List.mem_append_left _ (List.mem_append_left _ (List.mem_append_left _ (List.mem_append_left _ (List.mem_append_left _ (List.mem_append_left _ (List.mem_append_left _ (List.mem_of_getElem? (i := 1) rfl))))))))))) (fun _ h9 => h9) (th_fI e14 rfl) dX11_about_66 k9) (fun t9 k9 => th_get (ci := 8) (v := .int x14) (T := TX9) (C := RX9) (N := 6) hx hb hts (fun w h => List.mem_cons_of_mem _ (List.mem_append_left _ (List.mem_append_left _ (List.mem_append_left _ (List.mem_append_right _ h))))) hown hK hH t9 (th_nz rfl) (thE_9 _ _ _) rfl 1 (th_ltN rfl) (hts (.fieldLink RX11 119 "BayMoorings$Boat" "length" "I") (List.mem_cons_of_mem _ (List.mem_append_left _ (List.mem_append_left _ (List.mem_append_left _ (List.mem_append_left _ (List.mem_append_left _ (List.mem_append_left _ (List.mem_append_left _ (List.mem_append_left _ (List.mem_of_getElem? (i := 1) rfl))))))))))) (fun _ h9 => h9) (th_fI e14 rfl) dX11_about_66 k9) (fun t9 k9 => th_get (ci := 3) (v := .int x14) (T := TX4) (C := RX4) (N := 6) hx hb hts (fun w h => List.mem_cons_of_mem _ (List.mem_append_left _ (List.mem_append_left _ (List.mem_append_left _ (List.mem_append_left _ (List.mem_append_left _ (List.mem_append_right _ h))))))) hown hK hH t9 (th_nz rfl) (thE_4 _ _ _) rfl 1 (th_ltN rfl) (hts (.fieldLink RX11 119 "BayMoorings$Boat" "length" "I") (List.mem_cons_of_mem _ (List.mem_append_left _ (List.mem_append_left _ (List.mem_append_left _ (List.mem_append_left _ (List.mem_append_left _ (List.mem_append_left _ (List.mem_append_left _ (List.mem_append_left _ (List.mem_of_getElem? (i := 1) rfl))))))))))) (fun _ h9 => h9) (th_fI e14 rfl) dX11_about_66 k9) ?_
      exact W.iret (v := x14) hx hb hr (fun t ht hW => ⟨⟨x14, (gi, gr), rfl, ⟨hM, rfl, (hF.trans (by simp only [↓reduceIte, F_X11_about, r1, Option.getD_some, hw3.2, Option.elim_some, eq_false (Int.not_lt.mpr z5), eq_false (Int.not_lt.mpr y5), eq_false (show ¬ p2.toInt = 0 by omega), eq_true w5, ← e14]))⟩, th_Ht ht hH⟩, hS.F ht⟩) hS.2.2 dX11_about_69
    · refine lv_tableIn (tgt := 70) hx hb dX11_about_20 (by omega) (by omega) (by rw [w5]; rfl) (th_eqI rfl) ?_
      have f15 : rg 2 2 p2 := ⟨by omega, by omega⟩
      refine lv_aload_n hx hb dX11_about_70 rfl (lv_at hl 0 rfl) ?_
      obtain ⟨x16, e16⟩ : ∃ y : Int32, y = gi q4 2 := ⟨_, rfl⟩
      refine th_any3 t4 (fun t9 k9 => th_get (ci := 7) (v := .int x16) (T := TX8) (C := RX8) (N := 6) hx hb hts (fun w h => List.mem_cons_of_mem _ (List.mem_append_left _ (List.mem_append_left _ (List.mem_append_left _ (List.mem_append_left _ (List.mem_append_right _ h)))))) hown hK hH t9 (th_nz rfl) (thE_8 _ _ _) rfl 2 (th_ltN rfl) (hts (.fieldLink RX11 122 "BayMoorings$Boat" "draught" "I") (List.mem_cons_of_mem _ (List.mem_append_left _ (List.mem_append_left _ (List.mem_append_left _ (List.mem_append_left _ (List.mem_append_left _ (List.mem_append_left _ (List.mem_append_left _ (List.mem_append_left _ (List.mem_of_getElem? (i := 2) rfl))))))))))) (fun _ h9 => h9) (th_fI e16 rfl) dX11_about_71 k9) (fun t9 k9 => th_get (ci := 8) (v := .int x16) (T := TX9) (C := RX9) (N := 6) hx hb hts (fun w h => List.mem_cons_of_mem _ (List.mem_append_left _ (List.mem_append_left _ (List.mem_append_left _ (List.mem_append_right _ h))))) hown hK hH t9 (th_nz rfl) (thE_9 _ _ _) rfl 2 (th_ltN rfl) (hts (.fieldLink RX11 122 "BayMoorings$Boat" "draught" "I") (List.mem_cons_of_mem _ (List.mem_append_left _ (List.mem_append_left _ (List.mem_append_left _ (List.mem_append_left _ (List.mem_append_left _ (List.mem_append_left _ (List.mem_append_left _ (List.mem_append_left _ (List.mem_of_getElem? (i := 2) rfl))))))))))) (fun _ h9 => h9) (th_fI e16 rfl) dX11_about_71 k9) (fun t9 k9 => th_get (ci := 3) (v := .int x16) (T := TX4) (C := RX4) (N := 6) hx hb hts (fun w h => List.mem_cons_of_mem _ (List.mem_append_left _ (List.mem_append_left _ (List.mem_append_left _ (List.mem_append_left _ (List.mem_append_left _ (List.mem_append_right _ h))))))) hown hK hH t9 (th_nz rfl) (thE_4 _ _ _) rfl 2 (th_ltN rfl) (hts (.fieldLink RX11 122 "BayMoorings$Boat" "draught" "I") (List.mem_cons_of_mem _ (List.mem_append_left _ (List.mem_append_left _ (List.mem_append_left _ (List.mem_append_left _ (List.mem_append_left _ (List.mem_append_left _ (List.mem_append_left _ (List.mem_append_left _ (List.mem_of_getElem? (i := 2) rfl))))))))))) (fun _ h9 => h9) (th_fI e16 rfl) dX11_about_71 k9) ?_
      exact W.iret (v := x16) hx hb hr (fun t ht hW => ⟨⟨x16, (gi, gr), rfl, ⟨hM, rfl, (hF.trans (by simp only [↓reduceIte, F_X11_about, r1, Option.getD_some, hw3.2, Option.elim_some, eq_false (Int.not_lt.mpr z5), eq_false (Int.not_lt.mpr y5), eq_false (show ¬ p2.toInt = 0 by omega), eq_false (show ¬ p2.toInt = 1 by omega), eq_true w5, ← e16]))⟩, th_Ht ht hH⟩, hS.F ht⟩) hS.2.2 dX11_about_74
    · refine lv_tableIn (tgt := 75) hx hb dX11_about_20 (by omega) (by omega) (by rw [w5]; rfl) (th_eqI rfl) ?_
      have f17 : rg 3 3 p2 := ⟨by omega, by omega⟩
      refine lv_aload_n hx hb dX11_about_75 rfl (lv_at hl 1 rfl) ?_
      refine th_get (ci := 10) (v := .ref q1) (T := TX11) (C := RX11) (N := 10) hx hb hts (fun w h => List.mem_cons_of_mem _ (List.mem_append_left _ (List.mem_append_left _ (List.mem_append_left _ (List.mem_append_left _ (List.mem_append_left _ (List.mem_append_left _ (List.mem_append_right _ h)))))))) hown hK hH t_h0 (th_nz rfl) (thE_11 _ _ _) rfl 0 (th_ltN rfl) (hts (.fieldLink RX11 10 "BayMoorings" "bay" "LBayMoorings$Bay;") (List.mem_cons_of_mem _ (List.mem_append_left _ (List.mem_append_left _ (List.mem_append_left _ (List.mem_append_left _ (List.mem_append_left _ (List.mem_append_left _ (List.mem_append_left _ (List.mem_append_left _ (List.mem_of_getElem? (i := 0) rfl))))))))))) (fun _ h9 => h9) (th_fR r1 rfl) dX11_about_76 ?_
      obtain ⟨q19, r19, t19⟩ : ∃ q, gr q1 4 = some q ∧ τ q = 2 := (thI_1 hH t1).2.2.2.2.1
      refine th_get (ci := 0) (v := .ref q19) (T := TX0) (C := RX0) (N := 9) hx hb hts (fun w h => List.mem_cons_of_mem _ (List.mem_append_left _ (List.mem_append_left _ (List.mem_append_right _ h)))) hown hK hH t1 (th_nz rfl) (thE_1 _ _ _) rfl 4 (th_ltN rfl) (hts (.fieldLink RX11 125 "BayMoorings$Bay" "berths" "LBayMoorings$Berths;") (List.mem_cons_of_mem _ (List.mem_append_left _ (List.mem_append_left _ (List.mem_append_left _ (List.mem_append_left _ (List.mem_append_left _ (List.mem_append_left _ (List.mem_append_left _ (List.mem_append_left _ (List.mem_of_getElem? (i := 3) rfl))))))))))) (fun _ h9 => h9) (th_fR r19 rfl) dX11_about_79 ?_
      refine lv_iload_n hx hb dX11_about_82 rfl (lv_at hl 2 rfl) ?_
      have hA20 := th_Asub (τ := τ) hS
      refine va_calli (va_runV (As := [.int p1]) (rest := []) ⟨hx, hb, hml, hown, hts⟩ (k_X1_buoyOf l D cA Z τ gi gr _ q19 t19 p1) (cwV 1 hts gX11_about_X1_buoyOf rfl rfl rfl hd_X1_buoyOf__1 ⟨Nat.le_of_ble_eq_true rfl, Nat.le_of_ble_eq_true rfl⟩) ⟨th_blind, tr_2 hK hH t19, (th_pre hH hK hN hZ hS hA20)⟩ rfl rfl hl.1 rfl (lv_room (Nat.le_of_ble_eq_true rfl)) dX11_about_83 ⟨Nat.le_of_ble_eq_true rfl, Nat.le_of_ble_eq_true rfl⟩) hS (fun q _ h => hA20 q h) hA20 (fun x21 u t H locs ht hvm hw21 hB hz1 hk1 hS => ?_)
      try dsimp only at hw21 hB
      rw [ht] at hB
      have hH := hB
      exact W.iret (v := x21) hx hb hr (fun t ht hW => ⟨⟨x21, (gi, gr), rfl, ⟨hM, rfl, (hF.trans (by simp only [↓reduceIte, F_X11_about, r1, Option.getD_some, hw3.2, Option.elim_some, eq_false (Int.not_lt.mpr z5), eq_false (Int.not_lt.mpr y5), eq_false (show ¬ p2.toInt = 0 by omega), eq_false (show ¬ p2.toInt = 1 by omega), eq_false (show ¬ p2.toInt = 2 by omega), eq_true w5, r19, hw21]))⟩, th_Ht ht hH⟩, hS.F ht⟩) hS.2.2 dX11_about_86
    · refine lv_tableIn (tgt := 87) hx hb dX11_about_20 (by omega) (by omega) (by rw [w5]; rfl) (th_eqI rfl) ?_
      have f22 : rg 4 4 p2 := ⟨by omega, by omega⟩
      refine lv_aload_n hx hb dX11_about_87 rfl (lv_at hl 1 rfl) ?_
      obtain ⟨q23, r23, t23⟩ : ∃ q, gr h0 1 = some q ∧ τ q = 10 := (thI_11 hH t_h0).2.1
      refine th_get (ci := 10) (v := .ref q23) (T := TX11) (C := RX11) (N := 10) hx hb hts (fun w h => List.mem_cons_of_mem _ (List.mem_append_left _ (List.mem_append_left _ (List.mem_append_left _ (List.mem_append_left _ (List.mem_append_left _ (List.mem_append_left _ (List.mem_append_right _ h)))))))) hown hK hH t_h0 (th_nz rfl) (thE_11 _ _ _) rfl 1 (th_ltN rfl) (hts (.fieldLink RX11 21 "BayMoorings" "waiting" "LBayMoorings$WaitingList;") (List.mem_cons_of_mem _ (List.mem_append_left _ (List.mem_append_left _ (List.mem_append_left _ (List.mem_append_left _ (List.mem_append_left _ (List.mem_append_left _ (List.mem_append_left _ (List.mem_append_left _ (List.mem_of_getElem? (i := 4) rfl))))))))))) (fun _ h9 => h9) (th_fR r23 rfl) dX11_about_88 ?_
      refine lv_iload_n hx hb dX11_about_91 rfl (lv_at hl 2 rfl) ?_
      have hA24 := th_Asub (τ := τ) hS
      refine va_calli (va_runV (As := [.int p1]) (rest := []) ⟨hx, hb, hml, hown, hts⟩ (k_X10_placeOf l D cA Z τ gi gr _ q23 t23 p1) (cwV 1 hts gX11_about_X10_placeOf rfl rfl rfl hd_X10_placeOf__1 ⟨Nat.le_of_ble_eq_true rfl, Nat.le_of_ble_eq_true rfl⟩) ⟨th_blind, tr_10 hK hH t23, (th_pre hH hK hN hZ hS hA24)⟩ rfl rfl hl.1 rfl (lv_room (Nat.le_of_ble_eq_true rfl)) dX11_about_92 ⟨Nat.le_of_ble_eq_true rfl, Nat.le_of_ble_eq_true rfl⟩) hS (fun q _ h => hA24 q h) hA24 (fun x25 u t H locs ht hvm hw25 hB hz1 hk1 hS => ?_)
      try dsimp only at hw25 hB
      rw [ht] at hB
      have hH := hB
      exact W.iret (v := x25) hx hb hr (fun t ht hW => ⟨⟨x25, (gi, gr), rfl, ⟨hM, rfl, (hF.trans (by simp only [↓reduceIte, F_X11_about, r1, Option.getD_some, hw3.2, Option.elim_some, eq_false (Int.not_lt.mpr z5), eq_false (Int.not_lt.mpr y5), eq_false (show ¬ p2.toInt = 0 by omega), eq_false (show ¬ p2.toInt = 1 by omega), eq_false (show ¬ p2.toInt = 2 by omega), eq_false (show ¬ p2.toInt = 3 by omega), eq_true w5, r23, hw25]))⟩, th_Ht ht hH⟩, hS.F ht⟩) hS.2.2 dX11_about_95
    · refine lv_tableIn (tgt := 96) hx hb dX11_about_20 (by omega) (by omega) (by rw [w5]; rfl) (th_eqI rfl) ?_
      have f26 : rg 5 5 p2 := ⟨by omega, by omega⟩
      refine lv_aload_n hx hb dX11_about_96 rfl (lv_at hl 1 rfl) ?_
      refine th_get (ci := 10) (v := .ref q1) (T := TX11) (C := RX11) (N := 10) hx hb hts (fun w h => List.mem_cons_of_mem _ (List.mem_append_left _ (List.mem_append_left _ (List.mem_append_left _ (List.mem_append_left _ (List.mem_append_left _ (List.mem_append_left _ (List.mem_append_right _ h)))))))) hown hK hH t_h0 (th_nz rfl) (thE_11 _ _ _) rfl 0 (th_ltN rfl) (hts (.fieldLink RX11 10 "BayMoorings" "bay" "LBayMoorings$Bay;") (List.mem_cons_of_mem _ (List.mem_append_left _ (List.mem_append_left _ (List.mem_append_left _ (List.mem_append_left _ (List.mem_append_left _ (List.mem_append_left _ (List.mem_append_left _ (List.mem_append_left _ (List.mem_of_getElem? (i := 0) rfl))))))))))) (fun _ h9 => h9) (th_fR r1 rfl) dX11_about_97 ?_
      obtain ⟨q28, r28, t28⟩ : ∃ q, gr q1 4 = some q ∧ τ q = 2 := (thI_1 hH t1).2.2.2.2.1
      refine th_get (ci := 0) (v := .ref q28) (T := TX0) (C := RX0) (N := 9) hx hb hts (fun w h => List.mem_cons_of_mem _ (List.mem_append_left _ (List.mem_append_left _ (List.mem_append_right _ h)))) hown hK hH t1 (th_nz rfl) (thE_1 _ _ _) rfl 4 (th_ltN rfl) (hts (.fieldLink RX11 125 "BayMoorings$Bay" "berths" "LBayMoorings$Berths;") (List.mem_cons_of_mem _ (List.mem_append_left _ (List.mem_append_left _ (List.mem_append_left _ (List.mem_append_left _ (List.mem_append_left _ (List.mem_append_left _ (List.mem_append_left _ (List.mem_append_left _ (List.mem_of_getElem? (i := 3) rfl))))))))))) (fun _ h9 => h9) (th_fR r28 rfl) dX11_about_100 ?_
      refine lv_iload_n hx hb dX11_about_103 rfl (lv_at hl 2 rfl) ?_
      have hA29 := th_Asub (τ := τ) hS
      refine va_calli (va_runV (As := [.int p1]) (rest := []) ⟨hx, hb, hml, hown, hts⟩ (k_X1_buoyOf l D cA Z τ gi gr _ q28 t28 p1) (cwV 1 hts gX11_about_X1_buoyOf rfl rfl rfl hd_X1_buoyOf__1 ⟨Nat.le_of_ble_eq_true rfl, Nat.le_of_ble_eq_true rfl⟩) ⟨th_blind, tr_2 hK hH t28, (th_pre hH hK hN hZ hS hA29)⟩ rfl rfl hl.1 rfl (lv_room (Nat.le_of_ble_eq_true rfl)) dX11_about_104 ⟨Nat.le_of_ble_eq_true rfl, Nat.le_of_ble_eq_true rfl⟩) hS (fun q _ h => hA29 q h) hA29 (fun x30 u t H locs ht hvm hw30 hB hz1 hk1 hS => ?_)
      try dsimp only at hw30 hB
      rw [ht] at hB
      have hH := hB
      refine lv_iconst (v := (-1)) hx hb dX11_about_107 ic_m1 ?_
      refine lv_icmp_ne (tgt := 115) hx hb dX11_about_108 (th_eqI rfl) (fun c31 => ?_) (fun c31 => ?_)
      · skip
        refine lv_aload_n hx hb dX11_about_115 rfl (lv_at hl 0 rfl) ?_
        refine lv_aload_n hx hb dX11_about_116 rfl (lv_at hl 1 rfl) ?_
        obtain ⟨x32, e32⟩ : ∃ y : Int32, y = gi h0 8 := ⟨_, rfl⟩
        refine th_get (ci := 10) (v := .int x32) (T := TX11) (C := RX11) (N := 10) hx hb hts (fun w h => List.mem_cons_of_mem _ (List.mem_append_left _ (List.mem_append_left _ (List.mem_append_left _ (List.mem_append_left _ (List.mem_append_left _ (List.mem_append_left _ (List.mem_append_right _ h)))))))) hown hK hH t_h0 (th_nz rfl) (thE_11 _ _ _) rfl 8 (th_ltN rfl) (hts (.fieldLink RX11 57 "BayMoorings" "rateNow" "I") (List.mem_cons_of_mem _ (List.mem_append_left _ (List.mem_append_left _ (List.mem_append_left _ (List.mem_append_left _ (List.mem_append_left _ (List.mem_append_left _ (List.mem_append_left _ (List.mem_append_left _ (List.mem_of_getElem? (i := 5) rfl))))))))))) (fun _ h9 => h9) (th_fI e32 rfl) dX11_about_117 ?_
        have hA33 := th_Asub (τ := τ) hS
        refine va_calli (th_or3 t4 (fun t9 => th_runi (post' := (fun (r : Int32) (_ : Unit) => (FV_fee τ Z gi gr q4 x32 = r))) (va_runU (As := [.int x32]) (rest := []) ⟨hx, hb, hml, hown, hts⟩ (k_X2_fee l D cA Z τ gi gr _ q4 (Or.inl t9) x32) (va_cwU 1 hts gX11_about_X2_fee_u99X8 rfl rfl rfl rfl (by decide +kernel) ⟨Nat.le_of_ble_eq_true rfl, Nat.le_of_ble_eq_true rfl⟩) ⟨th_blind, tr_8 hK hH t9, (th_pre hH hK hN hZ hS hA33)⟩ rfl rfl hl.1 rfl (lv_room (Nat.le_of_ble_eq_true rfl)) dX11_about_120 ⟨Nat.le_of_ble_eq_true rfl, Nat.le_of_ble_eq_true rfl⟩) (fun _ _ h9 => ((FV_fee_8 t9).trans h9))) (fun t9 => th_runi (post' := (fun (r : Int32) (_ : Unit) => (FV_fee τ Z gi gr q4 x32 = r))) (va_runU (As := [.int x32]) (rest := []) ⟨hx, hb, hml, hown, hts⟩ (k_X9_fee l D cA Z τ gi gr _ q4 t9 x32) (va_cwO 1 hts gX11_about_X9_fee_u99X9 rfl rfl rfl (show Cond.code yX2_fee cX2_fee 2 (some .int) ∈ wsX11_about from (List.mem_cons_of_mem _ (List.mem_append_left _ (List.mem_append_left _ (List.mem_append_left _ (List.mem_append_left _ (List.mem_append_left _ (List.mem_append_left _ (List.mem_append_left _ (List.mem_append_right _ (List.mem_append_right _ (List.mem_of_getElem? (i := 7) rfl)))))))))))) (by decide +kernel) ⟨Nat.le_of_ble_eq_true rfl, Nat.le_of_ble_eq_true rfl⟩) ⟨th_blind, tr_9 hK hH t9, (th_pre hH hK hN hZ hS hA33)⟩ rfl rfl hl.1 rfl (lv_room (Nat.le_of_ble_eq_true rfl)) dX11_about_120 ⟨Nat.le_of_ble_eq_true rfl, Nat.le_of_ble_eq_true rfl⟩) (fun _ _ h9 => ((FV_fee_9 t9).trans h9))) (fun t9 => th_runi (post' := (fun (r : Int32) (_ : Unit) => (FV_fee τ Z gi gr q4 x32 = r))) (va_runU (As := [.int x32]) (rest := []) ⟨hx, hb, hml, hown, hts⟩ (k_X2_fee l D cA Z τ gi gr _ q4 (Or.inr (Or.inr t9)) x32) (va_cwU 1 hts gX11_about_X2_fee_u99X4 rfl rfl rfl rfl (by decide +kernel) ⟨Nat.le_of_ble_eq_true rfl, Nat.le_of_ble_eq_true rfl⟩) ⟨th_blind, tr_4 hK hH t9, (th_pre hH hK hN hZ hS hA33)⟩ rfl rfl hl.1 rfl (lv_room (Nat.le_of_ble_eq_true rfl)) dX11_about_120 ⟨Nat.le_of_ble_eq_true rfl, Nat.le_of_ble_eq_true rfl⟩) (fun _ _ h9 => ((FV_fee_4 t9).trans h9)))) hS (fun q _ h => hA33 q h) hA33 (fun x34 u t H locs ht hvm hw34 hB hz1 hk1 hS => ?_)
        try dsimp only at hw34 hB
        rw [ht] at hB
        have hH := hB
        exact W.iret (v := x34) hx hb hr (fun t ht hW => ⟨⟨x34, (gi, gr), rfl, ⟨hM, rfl, (hF.trans (by simp only [↓reduceIte, F_X11_about, r1, Option.getD_some, hw3.2, Option.elim_some, eq_false (Int.not_lt.mpr z5), eq_false (Int.not_lt.mpr y5), eq_false (show ¬ p2.toInt = 0 by omega), eq_false (show ¬ p2.toInt = 1 by omega), eq_false (show ¬ p2.toInt = 2 by omega), eq_false (show ¬ p2.toInt = 3 by omega), eq_false (show ¬ p2.toInt = 4 by omega), eq_true w5, r28, hw30, eq_false c31, ← e32, hw34]))⟩, th_Ht ht hH⟩, hS.F ht⟩) hS.2.2 dX11_about_123
      · skip
        have f35 : rg (-1) (-1) x30 := rg_w (rg_eq (rg_any x30) rgc_m1 c31).1 (th_leI rfl) (th_leI rfl)
        refine lv_iconst (v := 0) hx hb dX11_about_111 ic_0 ?_
        refine lv_goto (tgt := 123) hx hb dX11_about_112 (th_eqI rfl) ?_
        exact W.iret (v := 0) hx hb hr (fun t ht hW => ⟨⟨0, (gi, gr), rfl, ⟨hM, rfl, (hF.trans (by simp only [↓reduceIte, F_X11_about, r1, Option.getD_some, hw3.2, Option.elim_some, eq_false (Int.not_lt.mpr z5), eq_false (Int.not_lt.mpr y5), eq_false (show ¬ p2.toInt = 0 by omega), eq_false (show ¬ p2.toInt = 1 by omega), eq_false (show ¬ p2.toInt = 2 by omega), eq_false (show ¬ p2.toInt = 3 by omega), eq_false (show ¬ p2.toInt = 4 by omega), eq_true w5, r28, hw30, eq_true c31]))⟩, th_Ht ht hH⟩, hS.F ht⟩) hS.2.2 dX11_about_123
  · skip
    subst z4
    have hl : lv_has ls 4 [(3, .null), (0, .ref h0), (1, .int p1), (2, .int p2)] := hl
    refine lv_aload_n hx hb dX11_about_13 rfl (lv_at hl 1 rfl) ?_
    refine lv_iconst (v := 1) hx hb dX11_about_14 ic_1 ?_
    have hA36 := th_Asub (τ := τ) hS
    refine va_calli (va_runV (As := [.int 1]) (rest := []) ⟨hx, hb, hml, hown, hts⟩ (k_X11_finding l D cA Z τ gi gr _ h0 t_h0 1) (cwV 1 hts gX11_about_X11_finding rfl rfl rfl hd_X11_finding__1 ⟨Nat.le_of_ble_eq_true rfl, Nat.le_of_ble_eq_true rfl⟩) ⟨th_blind, tr_11 hK hH t_h0, (th_pre hH hK hN hZ hS hA36)⟩ rfl rfl hl.1 rfl (lv_room (Nat.le_of_ble_eq_true rfl)) dX11_about_15 ⟨Nat.le_of_ble_eq_true rfl, Nat.le_of_ble_eq_true rfl⟩) hS (fun q _ h => hA36 q h) hA36 (fun x37 u t H locs ht hvm hw37 hB hz1 hk1 hS => ?_)
    try dsimp only at hw37 hB
    rw [ht] at hB
    have hH := hB
    obtain ⟨gi37, gr37⟩ := u
    try dsimp only at hw37 hH
    obtain rfl : gr = gr37 := (hw37.2.1).symm
    have hM := hM.tr hw37.1 (fun _ h => h) (th_sub rfl)
    exact W.iret (v := x37) hx hb hr (fun t ht hW => ⟨⟨x37, (gi37, gr), rfl, ⟨hM, rfl, (hF.trans (by simp only [F_X11_about, r1, Option.getD_some, hw3.2, Option.elim_none, hw37.2.2.1]))⟩, th_Ht ht hH⟩, hS.F ht⟩) hS.2.2 dX11_about_18

noncomputable def F_X11_of (τ : th_t) (Z : th_Zt) (gi : th_i) (gr : th_r) (h0 : Nat) (p1 : Int32) (p2 : Int32) : Int32 × th_i :=
  let q1 : Nat := (gr h0 0).getD 0
  let r3 : Option Nat := F_X0_buoyAt τ Z gi gr q1 p1
  Option.elim r3 (
    let u34 : Int32 × th_i := F_X11_finding τ Z gi gr h0 1
    let x34 : Int32 := u34.1
    let gi34 : th_i := u34.2
    (x34, gi34)) (fun q4 =>
    if p2.toInt < 0 then (
      let u7 : Int32 × th_i := F_X11_finding τ Z gi gr h0 1
      let x7 : Int32 := u7.1
      let gi7 : th_i := u7.2
      (x7, gi7)) else (
      if 7 < p2.toInt then (
        let u9 : Int32 × th_i := F_X11_finding τ Z gi gr h0 1
        let x9 : Int32 := u9.1
        let gi9 : th_i := u9.2
        (x9, gi9)) else (
        if p2.toInt = 0 then (
          let x11 : Int32 := gi q4 1
          (x11, gi)) else (
          if p2.toInt = 1 then (
            let x13 : Int32 := gi q4 2
            (x13, gi)) else (
            if p2.toInt = 2 then (
              let x15 : Int32 := gi q4 3
              (x15, gi)) else (
              if p2.toInt = 3 then (
                let x17 : Int32 := gi q4 4
                (x17, gi)) else (
                if p2.toInt = 4 then (
                  let q20 : Nat := (gr q1 4).getD 0
                  let x22 : Int32 := F_X1_boatOf τ Z gi gr q20 p1
                  (x22, gi)) else (
                  if p2.toInt = 5 then (
                    let x24 : Int32 := gi q4 6
                    (x24, gi)) else (
                    if p2.toInt = 6 then (
                      let x26 : Int32 := gi q4 7
                      (x26, gi)) else (
                      if p2.toInt = 7 then (
                        let x29 : Int32 := F_X3_isParted τ Z gi gr q4
                        if x29 = (0 : Int32) then (
                          (0, gi)) else (
                          (1, gi))) else (
                        (0, gi))))))))))))
set_option maxHeartbeats 8000000 in
set_option maxRecDepth 100000 in
theorem k_X11_of (l : Launch) (D : va_G) (cA : Nat → ClassId) (Z : th_Zt) (τ : th_t) (gi : th_i) (gr : th_r) (sz : Nat) (h0 : Nat) (t_h0 : τ h0 = 11) (p1 : Int32) (p2 : Int32) : Met l yX11_of wsX11_of ({ frames := 2, cells := 0, slots := 0, locals := 43 }) (va_Pc [.ref h0, .int p1, .int p2] (th_Pre D cA Z τ gi gr sz)) (va_Qi (fun (r : Int32) (u : th_i × th_r) => th_Mod [3600] τ gi gr u.1 u.2 ∧ u.2 = gr ∧ (F_X11_of τ Z gi gr h0 p1 p2 = (r, u.1))) (fun (u : th_i × th_r) t => th_H D cA τ u.1 u.2 t.heap) (th_A τ sz)) 0 0 (th_A τ sz) := by
  refine Met.ofW (cc := cX11_of) (maxL := 4) (ret := (some .int)) (by decide) rfl ?_
  intro p e s m args below meth c s₁ B hml hv
  obtain ⟨rfl, hsz, hH, hK, hN, hZ⟩ := hv
  have hx := B.exec
  have hb := B.bytes
  have hr := B.returns
  have hts := atoms_spec (ws := wsX11_of) B.pre
  have hown : s.vm.findClass RX11 = some m.cls := findClass_of_methodNamed B.named
  have hlocks := B.notSynchronized
  subst hsz
  have hM : th_Mod [3600] τ gi gr gi gr := th_Mod.rf
  have hS : va_S (th_A τ s.heap.size) s.heap s.heap [] := va_S.rf
  have hl := lv_entry ([.ref h0, .int p1, .int p2]) (n := 4) (Nat.le_of_ble_eq_true rfl)
  rw [lg_entry_eq]
  generalize (lg_sl ([.ref h0, .int p1, .int p2]) ++ List.replicate (4 - (lg_sl ([.ref h0, .int p1, .int p2])).length) Slot.unset).toArray = ls at hl ⊢
  have hl : lv_has ls 4 [(0, .ref h0), (1, .int p1), (2, .int p2)] := hl
  have hF : F_X11_of τ Z gi gr h0 p1 p2 = F_X11_of τ Z gi gr h0 p1 p2 := rfl
  refine lv_aload_n hx hb dX11_of_0 rfl (lv_at hl 0 rfl) ?_
  obtain ⟨q1, r1, t1⟩ : ∃ q, gr h0 0 = some q ∧ τ q = 1 := (thI_11 hH t_h0).1
  refine th_get (ci := 10) (v := .ref q1) (T := TX11) (C := RX11) (N := 10) hx hb hts (fun w h => List.mem_cons_of_mem _ (List.mem_append_left _ (List.mem_append_left _ (List.mem_append_left _ (List.mem_append_right _ h))))) hown hK hH t_h0 (th_nz rfl) (thE_11 _ _ _) rfl 0 (th_ltN rfl) (hts (.fieldLink RX11 10 "BayMoorings" "bay" "LBayMoorings$Bay;") (List.mem_cons_of_mem _ (List.mem_append_left _ (List.mem_append_left _ (List.mem_append_left _ (List.mem_append_left _ (List.mem_append_left _ (List.mem_of_getElem? (i := 0) rfl)))))))) (fun _ h9 => h9) (th_fR r1 rfl) dX11_of_1 ?_
  refine lv_iload_n hx hb dX11_of_4 rfl (lv_at hl 1 rfl) ?_
  have hA2 := th_Asub (τ := τ) hS
  refine va_callq (va_runV (As := [.int p1]) (rest := []) ⟨hx, hb, hml, hown, hts⟩ (k_X0_buoyAt l D cA Z τ gi gr _ q1 t1 p1) (cwV 1 hts gX11_of_X0_buoyAt rfl rfl rfl hd_X0_buoyAt__1 ⟨Nat.le_of_ble_eq_true rfl, Nat.le_of_ble_eq_true rfl⟩) ⟨th_blind, tr_1 hK hH t1, (th_pre hH hK hN hZ hS hA2)⟩ rfl rfl hl.1 rfl (lv_room (Nat.le_of_ble_eq_true rfl)) dX11_of_5 ⟨Nat.le_of_ble_eq_true rfl, Nat.le_of_ble_eq_true rfl⟩) hS (fun q _ h => hA2 q h) hA2 (fun r3 u t H locs ht hvm hw3 hB hz1 hk1 hS => ?_)
  try dsimp only at hw3 hB
  rw [ht] at hB
  have hH := hB
  refine th_astoreq_n (i := 3) (lv' := [(3, va_rf r3), (0, .ref h0), (1, .int p1), (2, .int p2)]) hx hb dX11_of_8 rfl hl (th_ltN rfl) rfl (fun ls hl => ?_)
  refine th_aloadq_n hx hb dX11_of_9 rfl (lv_at hl 0 rfl) ?_
  refine th_ifnonnull (tgt := 19) hx hb dX11_of_10 (th_eqI rfl) (fun q4 z4 => ?_) (fun z4 => ?_)
  · skip
    subst z4
    have t4 := hw3.1 q4 rfl
    have hl : lv_has ls 4 [(3, .ref q4), (0, .ref h0), (1, .int p1), (2, .int p2)] := hl
    refine lv_iload_n hx hb dX11_of_19 rfl (lv_at hl 3 rfl) ?_
    rcases Int.lt_or_le p2.toInt 0 with z5 | z5
    · refine lv_tableOut (tgt := 123) hx hb dX11_of_20 (Or.inl z5) (th_eqI rfl) ?_
      refine lv_aload_n hx hb dX11_of_123 rfl (lv_at hl 1 rfl) ?_
      refine lv_iconst (v := 1) hx hb dX11_of_124 ic_1 ?_
      have hA6 := th_Asub (τ := τ) hS
      refine va_calli (va_runV (As := [.int 1]) (rest := []) ⟨hx, hb, hml, hown, hts⟩ (k_X11_finding l D cA Z τ gi gr _ h0 t_h0 1) (cwV 1 hts gX11_of_X11_finding rfl rfl rfl hd_X11_finding__1 ⟨Nat.le_of_ble_eq_true rfl, Nat.le_of_ble_eq_true rfl⟩) ⟨th_blind, tr_11 hK hH t_h0, (th_pre hH hK hN hZ hS hA6)⟩ rfl rfl hl.1 rfl (lv_room (Nat.le_of_ble_eq_true rfl)) dX11_of_125 ⟨Nat.le_of_ble_eq_true rfl, Nat.le_of_ble_eq_true rfl⟩) hS (fun q _ h => hA6 q h) hA6 (fun x7 u t H locs ht hvm hw7 hB hz1 hk1 hS => ?_)
      try dsimp only at hw7 hB
      rw [ht] at hB
      have hH := hB
      obtain ⟨gi7, gr7⟩ := u
      try dsimp only at hw7 hH
      obtain rfl : gr = gr7 := (hw7.2.1).symm
      have hM := hM.tr hw7.1 (fun _ h => h) (th_sub rfl)
      exact W.iret (v := x7) hx hb hr (fun t ht hW => ⟨⟨x7, (gi7, gr), rfl, ⟨hM, rfl, (hF.trans (by simp only [↓reduceIte, F_X11_of, r1, Option.getD_some, hw3.2, Option.elim_some, eq_true z5, hw7.2.2.1]))⟩, th_Ht ht hH⟩, hS.F ht⟩) hS.2.2 dX11_of_128
    rcases Int.lt_or_le 7 p2.toInt with y5 | y5
    · refine lv_tableOut (tgt := 123) hx hb dX11_of_20 (Or.inr y5) (th_eqI rfl) ?_
      refine lv_aload_n hx hb dX11_of_123 rfl (lv_at hl 1 rfl) ?_
      refine lv_iconst (v := 1) hx hb dX11_of_124 ic_1 ?_
      have hA8 := th_Asub (τ := τ) hS
      refine va_calli (va_runV (As := [.int 1]) (rest := []) ⟨hx, hb, hml, hown, hts⟩ (k_X11_finding l D cA Z τ gi gr _ h0 t_h0 1) (cwV 1 hts gX11_of_X11_finding rfl rfl rfl hd_X11_finding__1 ⟨Nat.le_of_ble_eq_true rfl, Nat.le_of_ble_eq_true rfl⟩) ⟨th_blind, tr_11 hK hH t_h0, (th_pre hH hK hN hZ hS hA8)⟩ rfl rfl hl.1 rfl (lv_room (Nat.le_of_ble_eq_true rfl)) dX11_of_125 ⟨Nat.le_of_ble_eq_true rfl, Nat.le_of_ble_eq_true rfl⟩) hS (fun q _ h => hA8 q h) hA8 (fun x9 u t H locs ht hvm hw9 hB hz1 hk1 hS => ?_)
      try dsimp only at hw9 hB
      rw [ht] at hB
      have hH := hB
      obtain ⟨gi9, gr9⟩ := u
      try dsimp only at hw9 hH
      obtain rfl : gr = gr9 := (hw9.2.1).symm
      have hM := hM.tr hw9.1 (fun _ h => h) (th_sub rfl)
      exact W.iret (v := x9) hx hb hr (fun t ht hW => ⟨⟨x9, (gi9, gr), rfl, ⟨hM, rfl, (hF.trans (by simp only [↓reduceIte, F_X11_of, r1, Option.getD_some, hw3.2, Option.elim_some, eq_false (Int.not_lt.mpr z5), eq_true y5, hw9.2.2.1]))⟩, th_Ht ht hH⟩, hS.F ht⟩) hS.2.2 dX11_of_128
    rcases (show p2.toInt = 0 ∨ p2.toInt = 1 ∨ p2.toInt = 2 ∨ p2.toInt = 3 ∨ p2.toInt = 4 ∨ p2.toInt = 5 ∨ p2.toInt = 6 ∨ p2.toInt = 7 by omega) with w5 | w5 | w5 | w5 | w5 | w5 | w5 | w5
    · refine lv_tableIn (tgt := 68) hx hb dX11_of_20 (by omega) (by omega) (by rw [w5]; rfl) (th_eqI rfl) ?_
      have f10 : rg 0 0 p2 := ⟨by omega, by omega⟩
      refine lv_aload_n hx hb dX11_of_68 rfl (lv_at hl 0 rfl) ?_
      obtain ⟨x11, e11⟩ : ∃ y : Int32, y = gi q4 1 := ⟨_, rfl⟩
      refine th_get (ci := 2) (v := .int x11) (T := TX3) (C := RX3) (N := 8) hx hb hts (fun w h => List.mem_cons_of_mem _ (List.mem_append_left _ (List.mem_append_left _ (List.mem_append_right _ h)))) hown hK hH t4 (th_nz rfl) (thE_3 _ _ _) rfl 1 (th_ltN rfl) (hts (.fieldLink RX11 141 "BayMoorings$Buoy" "x" "I") (List.mem_cons_of_mem _ (List.mem_append_left _ (List.mem_append_left _ (List.mem_append_left _ (List.mem_append_left _ (List.mem_append_left _ (List.mem_of_getElem? (i := 1) rfl)))))))) (fun _ h9 => h9) (th_fI e11 rfl) dX11_of_69 ?_
      exact W.iret (v := x11) hx hb hr (fun t ht hW => ⟨⟨x11, (gi, gr), rfl, ⟨hM, rfl, (hF.trans (by simp only [↓reduceIte, F_X11_of, r1, Option.getD_some, hw3.2, Option.elim_some, eq_false (Int.not_lt.mpr z5), eq_false (Int.not_lt.mpr y5), eq_true w5, ← e11]))⟩, th_Ht ht hH⟩, hS.F ht⟩) hS.2.2 dX11_of_72
    · refine lv_tableIn (tgt := 73) hx hb dX11_of_20 (by omega) (by omega) (by rw [w5]; rfl) (th_eqI rfl) ?_
      have f12 : rg 1 1 p2 := ⟨by omega, by omega⟩
      refine lv_aload_n hx hb dX11_of_73 rfl (lv_at hl 0 rfl) ?_
      obtain ⟨x13, e13⟩ : ∃ y : Int32, y = gi q4 2 := ⟨_, rfl⟩
      refine th_get (ci := 2) (v := .int x13) (T := TX3) (C := RX3) (N := 8) hx hb hts (fun w h => List.mem_cons_of_mem _ (List.mem_append_left _ (List.mem_append_left _ (List.mem_append_right _ h)))) hown hK hH t4 (th_nz rfl) (thE_3 _ _ _) rfl 2 (th_ltN rfl) (hts (.fieldLink RX11 146 "BayMoorings$Buoy" "y" "I") (List.mem_cons_of_mem _ (List.mem_append_left _ (List.mem_append_left _ (List.mem_append_left _ (List.mem_append_left _ (List.mem_append_left _ (List.mem_of_getElem? (i := 2) rfl)))))))) (fun _ h9 => h9) (th_fI e13 rfl) dX11_of_74 ?_
      exact W.iret (v := x13) hx hb hr (fun t ht hW => ⟨⟨x13, (gi, gr), rfl, ⟨hM, rfl, (hF.trans (by simp only [↓reduceIte, F_X11_of, r1, Option.getD_some, hw3.2, Option.elim_some, eq_false (Int.not_lt.mpr z5), eq_false (Int.not_lt.mpr y5), eq_false (show ¬ p2.toInt = 0 by omega), eq_true w5, ← e13]))⟩, th_Ht ht hH⟩, hS.F ht⟩) hS.2.2 dX11_of_77
    · refine lv_tableIn (tgt := 78) hx hb dX11_of_20 (by omega) (by omega) (by rw [w5]; rfl) (th_eqI rfl) ?_
      have f14 : rg 2 2 p2 := ⟨by omega, by omega⟩
      refine lv_aload_n hx hb dX11_of_78 rfl (lv_at hl 0 rfl) ?_
      obtain ⟨x15, e15⟩ : ∃ y : Int32, y = gi q4 3 := ⟨_, rfl⟩
      refine th_get (ci := 2) (v := .int x15) (T := TX3) (C := RX3) (N := 8) hx hb hts (fun w h => List.mem_cons_of_mem _ (List.mem_append_left _ (List.mem_append_left _ (List.mem_append_right _ h)))) hown hK hH t4 (th_nz rfl) (thE_3 _ _ _) rfl 3 (th_ltN rfl) (hts (.fieldLink RX11 149 "BayMoorings$Buoy" "depth" "I") (List.mem_cons_of_mem _ (List.mem_append_left _ (List.mem_append_left _ (List.mem_append_left _ (List.mem_append_left _ (List.mem_append_left _ (List.mem_of_getElem? (i := 3) rfl)))))))) (fun _ h9 => h9) (th_fI e15 rfl) dX11_of_79 ?_
      exact W.iret (v := x15) hx hb hr (fun t ht hW => ⟨⟨x15, (gi, gr), rfl, ⟨hM, rfl, (hF.trans (by simp only [↓reduceIte, F_X11_of, r1, Option.getD_some, hw3.2, Option.elim_some, eq_false (Int.not_lt.mpr z5), eq_false (Int.not_lt.mpr y5), eq_false (show ¬ p2.toInt = 0 by omega), eq_false (show ¬ p2.toInt = 1 by omega), eq_true w5, ← e15]))⟩, th_Ht ht hH⟩, hS.F ht⟩) hS.2.2 dX11_of_82
    · refine lv_tableIn (tgt := 83) hx hb dX11_of_20 (by omega) (by omega) (by rw [w5]; rfl) (th_eqI rfl) ?_
      have f16 : rg 3 3 p2 := ⟨by omega, by omega⟩
      refine lv_aload_n hx hb dX11_of_83 rfl (lv_at hl 0 rfl) ?_
      obtain ⟨x17, e17⟩ : ∃ y : Int32, y = gi q4 4 := ⟨_, rfl⟩
      refine th_get (ci := 2) (v := .int x17) (T := TX3) (C := RX3) (N := 8) hx hb hts (fun w h => List.mem_cons_of_mem _ (List.mem_append_left _ (List.mem_append_left _ (List.mem_append_right _ h)))) hown hK hH t4 (th_nz rfl) (thE_3 _ _ _) rfl 4 (th_ltN rfl) (hts (.fieldLink RX11 152 "BayMoorings$Buoy" "chain" "I") (List.mem_cons_of_mem _ (List.mem_append_left _ (List.mem_append_left _ (List.mem_append_left _ (List.mem_append_left _ (List.mem_append_left _ (List.mem_of_getElem? (i := 4) rfl)))))))) (fun _ h9 => h9) (th_fI e17 rfl) dX11_of_84 ?_
      exact W.iret (v := x17) hx hb hr (fun t ht hW => ⟨⟨x17, (gi, gr), rfl, ⟨hM, rfl, (hF.trans (by simp only [↓reduceIte, F_X11_of, r1, Option.getD_some, hw3.2, Option.elim_some, eq_false (Int.not_lt.mpr z5), eq_false (Int.not_lt.mpr y5), eq_false (show ¬ p2.toInt = 0 by omega), eq_false (show ¬ p2.toInt = 1 by omega), eq_false (show ¬ p2.toInt = 2 by omega), eq_true w5, ← e17]))⟩, th_Ht ht hH⟩, hS.F ht⟩) hS.2.2 dX11_of_87
    · refine lv_tableIn (tgt := 88) hx hb dX11_of_20 (by omega) (by omega) (by rw [w5]; rfl) (th_eqI rfl) ?_
      have f18 : rg 4 4 p2 := ⟨by omega, by omega⟩
      refine lv_aload_n hx hb dX11_of_88 rfl (lv_at hl 1 rfl) ?_
      refine th_get (ci := 10) (v := .ref q1) (T := TX11) (C := RX11) (N := 10) hx hb hts (fun w h => List.mem_cons_of_mem _ (List.mem_append_left _ (List.mem_append_left _ (List.mem_append_left _ (List.mem_append_right _ h))))) hown hK hH t_h0 (th_nz rfl) (thE_11 _ _ _) rfl 0 (th_ltN rfl) (hts (.fieldLink RX11 10 "BayMoorings" "bay" "LBayMoorings$Bay;") (List.mem_cons_of_mem _ (List.mem_append_left _ (List.mem_append_left _ (List.mem_append_left _ (List.mem_append_left _ (List.mem_append_left _ (List.mem_of_getElem? (i := 0) rfl)))))))) (fun _ h9 => h9) (th_fR r1 rfl) dX11_of_89 ?_
      obtain ⟨q20, r20, t20⟩ : ∃ q, gr q1 4 = some q ∧ τ q = 2 := (thI_1 hH t1).2.2.2.2.1
      refine th_get (ci := 0) (v := .ref q20) (T := TX0) (C := RX0) (N := 9) hx hb hts (fun w h => List.mem_cons_of_mem _ (List.mem_append_left _ (List.mem_append_right _ h))) hown hK hH t1 (th_nz rfl) (thE_1 _ _ _) rfl 4 (th_ltN rfl) (hts (.fieldLink RX11 125 "BayMoorings$Bay" "berths" "LBayMoorings$Berths;") (List.mem_cons_of_mem _ (List.mem_append_left _ (List.mem_append_left _ (List.mem_append_left _ (List.mem_append_left _ (List.mem_append_left _ (List.mem_of_getElem? (i := 5) rfl)))))))) (fun _ h9 => h9) (th_fR r20 rfl) dX11_of_92 ?_
      refine lv_iload_n hx hb dX11_of_95 rfl (lv_at hl 2 rfl) ?_
      have hA21 := th_Asub (τ := τ) hS
      refine va_calli (va_runV (As := [.int p1]) (rest := []) ⟨hx, hb, hml, hown, hts⟩ (k_X1_boatOf l D cA Z τ gi gr _ q20 t20 p1) (cwV 1 hts gX11_of_X1_boatOf rfl rfl rfl hd_X1_boatOf__1 ⟨Nat.le_of_ble_eq_true rfl, Nat.le_of_ble_eq_true rfl⟩) ⟨th_blind, tr_2 hK hH t20, (th_pre hH hK hN hZ hS hA21)⟩ rfl rfl hl.1 rfl (lv_room (Nat.le_of_ble_eq_true rfl)) dX11_of_96 ⟨Nat.le_of_ble_eq_true rfl, Nat.le_of_ble_eq_true rfl⟩) hS (fun q _ h => hA21 q h) hA21 (fun x22 u t H locs ht hvm hw22 hB hz1 hk1 hS => ?_)
      try dsimp only at hw22 hB
      rw [ht] at hB
      have hH := hB
      exact W.iret (v := x22) hx hb hr (fun t ht hW => ⟨⟨x22, (gi, gr), rfl, ⟨hM, rfl, (hF.trans (by simp only [↓reduceIte, F_X11_of, r1, Option.getD_some, hw3.2, Option.elim_some, eq_false (Int.not_lt.mpr z5), eq_false (Int.not_lt.mpr y5), eq_false (show ¬ p2.toInt = 0 by omega), eq_false (show ¬ p2.toInt = 1 by omega), eq_false (show ¬ p2.toInt = 2 by omega), eq_false (show ¬ p2.toInt = 3 by omega), eq_true w5, r20, hw22]))⟩, th_Ht ht hH⟩, hS.F ht⟩) hS.2.2 dX11_of_99
    · refine lv_tableIn (tgt := 100) hx hb dX11_of_20 (by omega) (by omega) (by rw [w5]; rfl) (th_eqI rfl) ?_
      have f23 : rg 5 5 p2 := ⟨by omega, by omega⟩
      refine lv_aload_n hx hb dX11_of_100 rfl (lv_at hl 0 rfl) ?_
      obtain ⟨x24, e24⟩ : ∃ y : Int32, y = gi q4 6 := ⟨_, rfl⟩
      refine th_get (ci := 2) (v := .int x24) (T := TX3) (C := RX3) (N := 8) hx hb hts (fun w h => List.mem_cons_of_mem _ (List.mem_append_left _ (List.mem_append_left _ (List.mem_append_right _ h)))) hown hK hH t4 (th_nz rfl) (thE_3 _ _ _) rfl 6 (th_ltN rfl) (hts (.fieldLink RX11 158 "BayMoorings$Buoy" "low" "I") (List.mem_cons_of_mem _ (List.mem_append_left _ (List.mem_append_left _ (List.mem_append_left _ (List.mem_append_left _ (List.mem_append_left _ (List.mem_of_getElem? (i := 6) rfl)))))))) (fun _ h9 => h9) (th_fI e24 rfl) dX11_of_101 ?_
      exact W.iret (v := x24) hx hb hr (fun t ht hW => ⟨⟨x24, (gi, gr), rfl, ⟨hM, rfl, (hF.trans (by simp only [↓reduceIte, F_X11_of, r1, Option.getD_some, hw3.2, Option.elim_some, eq_false (Int.not_lt.mpr z5), eq_false (Int.not_lt.mpr y5), eq_false (show ¬ p2.toInt = 0 by omega), eq_false (show ¬ p2.toInt = 1 by omega), eq_false (show ¬ p2.toInt = 2 by omega), eq_false (show ¬ p2.toInt = 3 by omega), eq_false (show ¬ p2.toInt = 4 by omega), eq_true w5, ← e24]))⟩, th_Ht ht hH⟩, hS.F ht⟩) hS.2.2 dX11_of_104
    · refine lv_tableIn (tgt := 105) hx hb dX11_of_20 (by omega) (by omega) (by rw [w5]; rfl) (th_eqI rfl) ?_
      have f25 : rg 6 6 p2 := ⟨by omega, by omega⟩
      refine lv_aload_n hx hb dX11_of_105 rfl (lv_at hl 0 rfl) ?_
      obtain ⟨x26, e26⟩ : ∃ y : Int32, y = gi q4 7 := ⟨_, rfl⟩
      refine th_get (ci := 2) (v := .int x26) (T := TX3) (C := RX3) (N := 8) hx hb hts (fun w h => List.mem_cons_of_mem _ (List.mem_append_left _ (List.mem_append_left _ (List.mem_append_right _ h)))) hown hK hH t4 (th_nz rfl) (thE_3 _ _ _) rfl 7 (th_ltN rfl) (hts (.fieldLink RX11 161 "BayMoorings$Buoy" "high" "I") (List.mem_cons_of_mem _ (List.mem_append_left _ (List.mem_append_left _ (List.mem_append_left _ (List.mem_append_left _ (List.mem_append_left _ (List.mem_of_getElem? (i := 7) rfl)))))))) (fun _ h9 => h9) (th_fI e26 rfl) dX11_of_106 ?_
      exact W.iret (v := x26) hx hb hr (fun t ht hW => ⟨⟨x26, (gi, gr), rfl, ⟨hM, rfl, (hF.trans (by simp only [↓reduceIte, F_X11_of, r1, Option.getD_some, hw3.2, Option.elim_some, eq_false (Int.not_lt.mpr z5), eq_false (Int.not_lt.mpr y5), eq_false (show ¬ p2.toInt = 0 by omega), eq_false (show ¬ p2.toInt = 1 by omega), eq_false (show ¬ p2.toInt = 2 by omega), eq_false (show ¬ p2.toInt = 3 by omega), eq_false (show ¬ p2.toInt = 4 by omega), eq_false (show ¬ p2.toInt = 5 by omega), eq_true w5, ← e26]))⟩, th_Ht ht hH⟩, hS.F ht⟩) hS.2.2 dX11_of_109
    · refine lv_tableIn (tgt := 110) hx hb dX11_of_20 (by omega) (by omega) (by rw [w5]; rfl) (th_eqI rfl) ?_
      have f27 : rg 7 7 p2 := ⟨by omega, by omega⟩
      refine lv_aload_n hx hb dX11_of_110 rfl (lv_at hl 0 rfl) ?_
      have hA28 := th_Asub (τ := τ) hS
      refine va_calli (va_runV (As := []) (rest := []) ⟨hx, hb, hml, hown, hts⟩ (k_X3_isParted l D cA Z τ gi gr _ q4 t4) (cwV 0 hts gX11_of_X3_isParted rfl rfl rfl hd_X3_isParted__0 ⟨Nat.le_of_ble_eq_true rfl, Nat.le_of_ble_eq_true rfl⟩) ⟨th_blind, tr_3 hK hH t4, (th_pre hH hK hN hZ hS hA28)⟩ rfl rfl hl.1 rfl (lv_room (Nat.le_of_ble_eq_true rfl)) dX11_of_111 ⟨Nat.le_of_ble_eq_true rfl, Nat.le_of_ble_eq_true rfl⟩) hS (fun q _ h => hA28 q h) hA28 (fun x29 u t H locs ht hvm hw29 hB hz1 hk1 hS => ?_)
      try dsimp only at hw29 hB
      rw [ht] at hB
      have hH := hB
      refine lv_if_eq (tgt := 121) hx hb dX11_of_114 (th_eqI rfl) (fun c30 => ?_) (fun c30 => ?_)
      · skip
        have f31 : rg 0 0 x29 := rg_w (rg_eq hw29.1 rgc_0 c30).1 (th_leI rfl) (th_leI rfl)
        refine lv_iconst (v := 0) hx hb dX11_of_121 ic_0 ?_
        exact W.iret (v := 0) hx hb hr (fun t ht hW => ⟨⟨0, (gi, gr), rfl, ⟨hM, rfl, (hF.trans (by simp only [↓reduceIte, F_X11_of, r1, Option.getD_some, hw3.2, Option.elim_some, eq_false (Int.not_lt.mpr z5), eq_false (Int.not_lt.mpr y5), eq_false (show ¬ p2.toInt = 0 by omega), eq_false (show ¬ p2.toInt = 1 by omega), eq_false (show ¬ p2.toInt = 2 by omega), eq_false (show ¬ p2.toInt = 3 by omega), eq_false (show ¬ p2.toInt = 4 by omega), eq_false (show ¬ p2.toInt = 5 by omega), eq_false (show ¬ p2.toInt = 6 by omega), eq_true w5, hw29.2, eq_true c30]))⟩, th_Ht ht hH⟩, hS.F ht⟩) hS.2.2 dX11_of_122
      · skip
        have f32 : rg 1 1 x29 := rg_w (rg_neL hw29.1 rgc_0 c30) (th_leI rfl) (th_leI rfl)
        refine lv_iconst (v := 1) hx hb dX11_of_117 ic_1 ?_
        refine lv_goto (tgt := 122) hx hb dX11_of_118 (th_eqI rfl) ?_
        exact W.iret (v := 1) hx hb hr (fun t ht hW => ⟨⟨1, (gi, gr), rfl, ⟨hM, rfl, (hF.trans (by simp only [↓reduceIte, F_X11_of, r1, Option.getD_some, hw3.2, Option.elim_some, eq_false (Int.not_lt.mpr z5), eq_false (Int.not_lt.mpr y5), eq_false (show ¬ p2.toInt = 0 by omega), eq_false (show ¬ p2.toInt = 1 by omega), eq_false (show ¬ p2.toInt = 2 by omega), eq_false (show ¬ p2.toInt = 3 by omega), eq_false (show ¬ p2.toInt = 4 by omega), eq_false (show ¬ p2.toInt = 5 by omega), eq_false (show ¬ p2.toInt = 6 by omega), eq_true w5, hw29.2, eq_false c30]))⟩, th_Ht ht hH⟩, hS.F ht⟩) hS.2.2 dX11_of_122
  · skip
    subst z4
    have hl : lv_has ls 4 [(3, .null), (0, .ref h0), (1, .int p1), (2, .int p2)] := hl
    refine lv_aload_n hx hb dX11_of_13 rfl (lv_at hl 1 rfl) ?_
    refine lv_iconst (v := 1) hx hb dX11_of_14 ic_1 ?_
    have hA33 := th_Asub (τ := τ) hS
    refine va_calli (va_runV (As := [.int 1]) (rest := []) ⟨hx, hb, hml, hown, hts⟩ (k_X11_finding l D cA Z τ gi gr _ h0 t_h0 1) (cwV 1 hts gX11_of_X11_finding rfl rfl rfl hd_X11_finding__1 ⟨Nat.le_of_ble_eq_true rfl, Nat.le_of_ble_eq_true rfl⟩) ⟨th_blind, tr_11 hK hH t_h0, (th_pre hH hK hN hZ hS hA33)⟩ rfl rfl hl.1 rfl (lv_room (Nat.le_of_ble_eq_true rfl)) dX11_of_15 ⟨Nat.le_of_ble_eq_true rfl, Nat.le_of_ble_eq_true rfl⟩) hS (fun q _ h => hA33 q h) hA33 (fun x34 u t H locs ht hvm hw34 hB hz1 hk1 hS => ?_)
    try dsimp only at hw34 hB
    rw [ht] at hB
    have hH := hB
    obtain ⟨gi34, gr34⟩ := u
    try dsimp only at hw34 hH
    obtain rfl : gr = gr34 := (hw34.2.1).symm
    have hM := hM.tr hw34.1 (fun _ h => h) (th_sub rfl)
    exact W.iret (v := x34) hx hb hr (fun t ht hW => ⟨⟨x34, (gi34, gr), rfl, ⟨hM, rfl, (hF.trans (by simp only [F_X11_of, r1, Option.getD_some, hw3.2, Option.elim_none, hw34.2.2.1]))⟩, th_Ht ht hH⟩, hS.F ht⟩) hS.2.2 dX11_of_18

noncomputable def f_X11_out_37 (τ : th_t) (Z : th_Zt) (gi : th_i) (gr : th_r) (h0 : Nat) (p1 : Int32) (p2 : Int32) (p3 : Int32) (gi_37 : th_i) : Int32 × th_i :=
  let u2 : Int32 × th_i := F_X11_finding τ Z gi_37 gr h0 1
  let x2 : Int32 := u2.1
  let gi2 : th_i := u2.2
  (x2, gi2)
noncomputable def F_X11_out (τ : th_t) (Z : th_Zt) (gi : th_i) (gr : th_r) (h0 : Nat) (p1 : Int32) (p2 : Int32) (p3 : Int32) : Int32 × th_i :=
  let q3 : Nat := (gr h0 0).getD 0
  let r5 : Option Nat := F_X0_boatAt τ Z gi gr q3 p1
  let r8 : Option Nat := F_X0_buoyAt τ Z gi gr q3 p2
  Option.elim r5 (
    f_X11_out_37 τ Z gi gr h0 p1 p2 p3 gi) (fun q9 =>
    Option.elim r8 (
      f_X11_out_37 τ Z gi gr h0 p1 p2 p3 gi) (fun q10 =>
      let x12 : Int32 := F_X11_isHour τ Z gi gr p3
      if x12 = (0 : Int32) then (
        f_X11_out_37 τ Z gi gr h0 p1 p2 p3 gi) else (
        let x17 : Int32 := F_X3_slackAt τ Z gi gr q10 p3
        let x19 : Int32 := FV_reach τ Z gi gr q9
        let x20 : Int32 := x17 + x19
        (x20, gi))))
set_option maxHeartbeats 8000000 in
set_option maxRecDepth 100000 in
theorem k_X11_out (l : Launch) (D : va_G) (cA : Nat → ClassId) (Z : th_Zt) (τ : th_t) (gi : th_i) (gr : th_r) (sz : Nat) (h0 : Nat) (t_h0 : τ h0 = 11) (p1 : Int32) (p2 : Int32) (p3 : Int32) : Met l yX11_out wsX11_out ({ frames := 2, cells := 0, slots := 0, locals := 43 }) (va_Pc [.ref h0, .int p1, .int p2, .int p3] (th_Pre D cA Z τ gi gr sz)) (va_Qi (fun (r : Int32) (u : th_i × th_r) => th_Mod [3600] τ gi gr u.1 u.2 ∧ u.2 = gr ∧ (F_X11_out τ Z gi gr h0 p1 p2 p3 = (r, u.1))) (fun (u : th_i × th_r) t => th_H D cA τ u.1 u.2 t.heap) (th_A τ sz)) 0 0 (th_A τ sz) := by
  refine Met.ofW (cc := cX11_out) (maxL := 6) (ret := (some .int)) (by decide) rfl ?_
  intro p e s m args below meth c s₁ B hml hv
  obtain ⟨rfl, hsz, hH, hK, hN, hZ⟩ := hv
  have hx := B.exec
  have hb := B.bytes
  have hr := B.returns
  have hts := atoms_spec (ws := wsX11_out) B.pre
  have hown : s.vm.findClass RX11 = some m.cls := findClass_of_methodNamed B.named
  have hlocks := B.notSynchronized
  subst hsz
  have hM : th_Mod [3600] τ gi gr gi gr := th_Mod.rf
  have J37 : ∀ (gi_37 : th_i) (H : Heap) (locs : List Loc) (ls : Array Slot), th_H D cA τ gi_37 gr H → va_S (th_A τ s.heap.size) s.heap H locs → th_Mod [3600] τ gi gr gi_37 gr → lv_has ls 6 [(0, .ref h0)] → F_X11_out τ Z gi gr h0 p1 p2 p3 = f_X11_out_37 τ Z gi gr h0 p1 p2 p3 gi_37 → W p l e (headSpec wsX11_out ({ frames := 2, cells := 0, slots := 0, locals := 43 })).room s m [.ref h0, .int p1, .int p2, .int p3].toArray below meth c H locs 0 0 (MQ below (va_Qi (fun (r : Int32) (u : th_i × th_r) => th_Mod [3600] τ gi gr u.1 u.2 ∧ u.2 = gr ∧ (F_X11_out τ Z gi gr h0 p1 p2 p3 = (r, u.1))) (fun (u : th_i × th_r) t => th_H D cA τ u.1 u.2 t.heap) (th_A τ s.heap.size)) [.ref h0, .int p1, .int p2, .int p3].toArray s 0 0 (th_A τ s.heap.size)) (F0 m 37 ls []) := by
    intro gi_37 H locs ls hH hS hM hl hF
    refine lv_aload_n hx hb dX11_out_37 rfl (lv_at hl 0 rfl) ?_
    refine lv_iconst (v := 1) hx hb dX11_out_38 ic_1 ?_
    have hA1 := th_Asub (τ := τ) hS
    refine va_calli (va_runV (As := [.int 1]) (rest := []) ⟨hx, hb, hml, hown, hts⟩ (k_X11_finding l D cA Z τ gi_37 gr _ h0 t_h0 1) (cwV 1 hts gX11_out_X11_finding rfl rfl rfl hd_X11_finding__1 ⟨Nat.le_of_ble_eq_true rfl, Nat.le_of_ble_eq_true rfl⟩) ⟨th_blind, tr_11 hK hH t_h0, (th_pre hH hK hN hZ hS hA1)⟩ rfl rfl hl.1 rfl (lv_room (Nat.le_of_ble_eq_true rfl)) dX11_out_39 ⟨Nat.le_of_ble_eq_true rfl, Nat.le_of_ble_eq_true rfl⟩) hS (fun q _ h => hA1 q h) hA1 (fun x2 u t H locs ht hvm hw2 hB hz1 hk1 hS => ?_)
    try dsimp only at hw2 hB
    rw [ht] at hB
    have hH := hB
    obtain ⟨gi2, gr2⟩ := u
    try dsimp only at hw2 hH
    obtain rfl : gr = gr2 := (hw2.2.1).symm
    have hM := hM.tr hw2.1 (fun _ h => h) (th_sub rfl)
    exact W.iret (v := x2) hx hb hr (fun t ht hW => ⟨⟨x2, (gi2, gr), rfl, ⟨hM, rfl, (hF.trans (by simp only [f_X11_out_37, hw2.2.2.1]))⟩, th_Ht ht hH⟩, hS.F ht⟩) hS.2.2 dX11_out_42
  have hS : va_S (th_A τ s.heap.size) s.heap s.heap [] := va_S.rf
  have hl := lv_entry ([.ref h0, .int p1, .int p2, .int p3]) (n := 6) (Nat.le_of_ble_eq_true rfl)
  rw [lg_entry_eq]
  generalize (lg_sl ([.ref h0, .int p1, .int p2, .int p3]) ++ List.replicate (6 - (lg_sl ([.ref h0, .int p1, .int p2, .int p3])).length) Slot.unset).toArray = ls at hl ⊢
  have hl : lv_has ls 6 [(0, .ref h0), (1, .int p1), (2, .int p2), (3, .int p3)] := hl
  have hF : F_X11_out τ Z gi gr h0 p1 p2 p3 = F_X11_out τ Z gi gr h0 p1 p2 p3 := rfl
  refine lv_aload_n hx hb dX11_out_0 rfl (lv_at hl 0 rfl) ?_
  obtain ⟨q3, r3, t3⟩ : ∃ q, gr h0 0 = some q ∧ τ q = 1 := (thI_11 hH t_h0).1
  refine th_get (ci := 10) (v := .ref q3) (T := TX11) (C := RX11) (N := 10) hx hb hts (fun w h => List.mem_cons_of_mem _ (List.mem_append_left _ (List.mem_append_left _ (List.mem_append_left _ (List.mem_append_left _ (List.mem_append_left _ (List.mem_append_right _ h))))))) hown hK hH t_h0 (th_nz rfl) (thE_11 _ _ _) rfl 0 (th_ltN rfl) (hts (.fieldLink RX11 10 "BayMoorings" "bay" "LBayMoorings$Bay;") (List.mem_cons_of_mem _ (List.mem_append_left _ (List.mem_append_left _ (List.mem_append_left _ (List.mem_append_left _ (List.mem_append_left _ (List.mem_append_left _ (List.mem_append_left _ (List.mem_of_getElem? (i := 0) rfl)))))))))) (fun _ h9 => h9) (th_fR r3 rfl) dX11_out_1 ?_
  refine lv_iload_n hx hb dX11_out_4 rfl (lv_at hl 1 rfl) ?_
  have hA4 := th_Asub (τ := τ) hS
  refine va_callq (va_runV (As := [.int p1]) (rest := []) ⟨hx, hb, hml, hown, hts⟩ (k_X0_boatAt l D cA Z τ gi gr _ q3 t3 p1) (cwV 1 hts gX11_out_X0_boatAt rfl rfl rfl hd_X0_boatAt__1 ⟨Nat.le_of_ble_eq_true rfl, Nat.le_of_ble_eq_true rfl⟩) ⟨th_blind, tr_1 hK hH t3, (th_pre hH hK hN hZ hS hA4)⟩ rfl rfl hl.1 rfl (lv_room (Nat.le_of_ble_eq_true rfl)) dX11_out_5 ⟨Nat.le_of_ble_eq_true rfl, Nat.le_of_ble_eq_true rfl⟩) hS (fun q _ h => hA4 q h) hA4 (fun r5 u t H locs ht hvm hw5 hB hz1 hk1 hS => ?_)
  try dsimp only at hw5 hB
  rw [ht] at hB
  have hH := hB
  refine th_astoreq (i := 4) (lv' := [(4, va_rf r5), (0, .ref h0), (1, .int p1), (2, .int p2), (3, .int p3)]) hx hb dX11_out_8 hl (th_ltN rfl) rfl (fun ls hl => ?_)
  refine lv_aload_n hx hb dX11_out_10 rfl (lv_at hl 1 rfl) ?_
  refine th_get (ci := 10) (v := .ref q3) (T := TX11) (C := RX11) (N := 10) hx hb hts (fun w h => List.mem_cons_of_mem _ (List.mem_append_left _ (List.mem_append_left _ (List.mem_append_left _ (List.mem_append_left _ (List.mem_append_left _ (List.mem_append_right _ h))))))) hown hK hH t_h0 (th_nz rfl) (thE_11 _ _ _) rfl 0 (th_ltN rfl) (hts (.fieldLink RX11 10 "BayMoorings" "bay" "LBayMoorings$Bay;") (List.mem_cons_of_mem _ (List.mem_append_left _ (List.mem_append_left _ (List.mem_append_left _ (List.mem_append_left _ (List.mem_append_left _ (List.mem_append_left _ (List.mem_append_left _ (List.mem_of_getElem? (i := 0) rfl)))))))))) (fun _ h9 => h9) (th_fR r3 rfl) dX11_out_11 ?_
  refine lv_iload_n hx hb dX11_out_14 rfl (lv_at hl 3 rfl) ?_
  have hA7 := th_Asub (τ := τ) hS
  refine va_callq (va_runV (As := [.int p2]) (rest := []) ⟨hx, hb, hml, hown, hts⟩ (k_X0_buoyAt l D cA Z τ gi gr _ q3 t3 p2) (cwV 1 hts gX11_out_X0_buoyAt rfl rfl rfl hd_X0_buoyAt__1 ⟨Nat.le_of_ble_eq_true rfl, Nat.le_of_ble_eq_true rfl⟩) ⟨th_blind, tr_1 hK hH t3, (th_pre hH hK hN hZ hS hA7)⟩ rfl rfl hl.1 rfl (lv_room (Nat.le_of_ble_eq_true rfl)) dX11_out_15 ⟨Nat.le_of_ble_eq_true rfl, Nat.le_of_ble_eq_true rfl⟩) hS (fun q _ h => hA7 q h) hA7 (fun r8 u t H locs ht hvm hw8 hB hz1 hk1 hS => ?_)
  try dsimp only at hw8 hB
  rw [ht] at hB
  have hH := hB
  refine th_astoreq (i := 5) (lv' := [(5, va_rf r8), (4, va_rf r5), (0, .ref h0), (1, .int p1), (2, .int p2), (3, .int p3)]) hx hb dX11_out_18 hl (th_ltN rfl) (by simp [th_cat]) (fun ls hl => ?_)
  refine th_aloadq hx hb dX11_out_20 (lv_at hl 1 rfl) ?_
  refine th_ifnull (tgt := 37) hx hb dX11_out_22 (th_eqI rfl) (fun z9 => ?_) (fun q9 z9 => ?_)
  · skip
    subst z9
    have hl : lv_has ls 6 [(5, va_rf r8), (4, .null), (0, .ref h0), (1, .int p1), (2, .int p2), (3, .int p3)] := hl
    exact J37 gi _ _ _ hH hS hM (lv_sub hl [2] rfl) (hF.trans (by simp only [F_X11_out, r3, Option.getD_some, hw5.2, hw8.2, Option.elim_none]))
  · skip
    subst z9
    have t9 := hw5.1 q9 rfl
    have hl : lv_has ls 6 [(5, va_rf r8), (4, .ref q9), (0, .ref h0), (1, .int p1), (2, .int p2), (3, .int p3)] := hl
    refine th_aloadq hx hb dX11_out_25 (lv_at hl 0 rfl) ?_
    refine th_ifnull (tgt := 37) hx hb dX11_out_27 (th_eqI rfl) (fun z10 => ?_) (fun q10 z10 => ?_)
    · skip
      subst z10
      have hl : lv_has ls 6 [(5, .null), (4, .ref q9), (0, .ref h0), (1, .int p1), (2, .int p2), (3, .int p3)] := hl
      exact J37 gi _ _ _ hH hS hM (lv_sub hl [2] rfl) (hF.trans (by simp only [F_X11_out, r3, Option.getD_some, hw5.2, hw8.2, Option.elim_some, Option.elim_none]))
    · skip
      subst z10
      have t10 := hw8.1 q10 rfl
      have hl : lv_has ls 6 [(5, .ref q10), (4, .ref q9), (0, .ref h0), (1, .int p1), (2, .int p2), (3, .int p3)] := hl
      refine lv_iload_n hx hb dX11_out_30 rfl (lv_at hl 5 rfl) ?_
      have hA11 := th_Asub (τ := τ) hS
      refine va_calli (va_runS (As := [.int p3]) (rest := []) ⟨hx, hb, hml, hown, hts⟩ (k_X11_isHour l D cA Z τ gi gr _ p3) (va_cwS 1 hts gX11_out_X11_isHour rfl rfl rfl (by decide +kernel) ⟨Nat.le_of_ble_eq_true rfl, Nat.le_of_ble_eq_true rfl⟩) ⟨th_blind, (th_pre hH hK hN hZ hS hA11)⟩ rfl rfl hl.1 rfl (lv_room (Nat.le_of_ble_eq_true rfl)) dX11_out_31 ⟨Nat.le_of_ble_eq_true rfl, Nat.le_of_ble_eq_true rfl⟩) hS (fun q _ h => hA11 q h) hA11 (fun x12 u t H locs ht hvm hw12 hB hz1 hk1 hS => ?_)
      try dsimp only at hw12 hB
      rw [ht] at hB
      have hH := hB
      refine lv_if_ne (tgt := 43) hx hb dX11_out_34 (th_eqI rfl) (fun c13 => ?_) (fun c13 => ?_)
      · skip
        have f14 : rg 1 1 x12 := rg_w (rg_neL hw12.1 rgc_0 c13) (th_leI rfl) (th_leI rfl)
        have f15 : rg 0 23 p3 := rg_w (hw12.2.1 c13) (th_leI rfl) (th_leI rfl)
        refine lv_aload hx hb dX11_out_43 (lv_at hl 0 rfl) ?_
        refine lv_iload_n hx hb dX11_out_45 rfl (lv_at hl 5 rfl) ?_
        have hA16 := th_Asub (τ := τ) hS
        refine va_calli (va_runV (As := [.int p3]) (rest := []) ⟨hx, hb, hml, hown, hts⟩ (k_X3_slackAt l D cA Z τ gi gr _ q10 t10 p3) (cwV 1 hts gX11_out_X3_slackAt rfl rfl rfl hd_X3_slackAt__1 ⟨Nat.le_of_ble_eq_true rfl, Nat.le_of_ble_eq_true rfl⟩) ⟨th_blind, tr_3 hK hH t10, (th_pre hH hK hN hZ hS hA16)⟩ rfl rfl hl.1 rfl (lv_room (Nat.le_of_ble_eq_true rfl)) dX11_out_46 ⟨Nat.le_of_ble_eq_true rfl, Nat.le_of_ble_eq_true rfl⟩) hS (fun q _ h => hA16 q h) hA16 (fun x17 u t H locs ht hvm hw17 hB hz1 hk1 hS => ?_)
        try dsimp only at hw17 hB
        rw [ht] at hB
        have hH := hB
        refine lv_aload hx hb dX11_out_49 (lv_at hl 1 rfl) ?_
        have hA18 := th_Asub (τ := τ) hS
        refine va_calli (th_or3 t9 (fun t9 => th_runi (post' := (fun (r : Int32) (_ : Unit) => (FV_reach τ Z gi gr q9 = r))) (va_runU (As := []) (rest := [.int x17]) ⟨hx, hb, hml, hown, hts⟩ (k_X2_reach l D cA Z τ gi gr _ q9 (Or.inl t9)) (va_cwU 0 hts gX11_out_X2_reach_u171X8 rfl rfl rfl rfl (by decide +kernel) ⟨Nat.le_of_ble_eq_true rfl, Nat.le_of_ble_eq_true rfl⟩) ⟨th_blind, tr_8 hK hH t9, (th_pre hH hK hN hZ hS hA18)⟩ rfl rfl hl.1 rfl (lv_room (Nat.le_of_ble_eq_true rfl)) dX11_out_51 ⟨Nat.le_of_ble_eq_true rfl, Nat.le_of_ble_eq_true rfl⟩) (fun _ _ h9 => ((FV_reach_8 t9).trans h9))) (fun t9 => th_runi (post' := (fun (r : Int32) (_ : Unit) => (FV_reach τ Z gi gr q9 = r))) (va_runU (As := []) (rest := [.int x17]) ⟨hx, hb, hml, hown, hts⟩ (k_X9_reach l D cA Z τ gi gr _ q9 t9) (va_cwO 0 hts gX11_out_X9_reach_u171X9 rfl rfl rfl (show Cond.code yX2_reach cX2_reach 1 (some .int) ∈ wsX11_out from (List.mem_cons_of_mem _ (List.mem_append_left _ (List.mem_append_left _ (List.mem_append_left _ (List.mem_append_left _ (List.mem_append_left _ (List.mem_append_left _ (List.mem_append_right _ (List.mem_of_getElem? (i := 14) rfl)))))))))) (by decide +kernel) ⟨Nat.le_of_ble_eq_true rfl, Nat.le_of_ble_eq_true rfl⟩) ⟨th_blind, tr_9 hK hH t9, (th_pre hH hK hN hZ hS hA18)⟩ rfl rfl hl.1 rfl (lv_room (Nat.le_of_ble_eq_true rfl)) dX11_out_51 ⟨Nat.le_of_ble_eq_true rfl, Nat.le_of_ble_eq_true rfl⟩) (fun _ _ h9 => ((FV_reach_9 t9).trans h9))) (fun t9 => th_runi (post' := (fun (r : Int32) (_ : Unit) => (FV_reach τ Z gi gr q9 = r))) (va_runU (As := []) (rest := [.int x17]) ⟨hx, hb, hml, hown, hts⟩ (k_X2_reach l D cA Z τ gi gr _ q9 (Or.inr (Or.inr t9))) (va_cwU 0 hts gX11_out_X2_reach_u171X4 rfl rfl rfl rfl (by decide +kernel) ⟨Nat.le_of_ble_eq_true rfl, Nat.le_of_ble_eq_true rfl⟩) ⟨th_blind, tr_4 hK hH t9, (th_pre hH hK hN hZ hS hA18)⟩ rfl rfl hl.1 rfl (lv_room (Nat.le_of_ble_eq_true rfl)) dX11_out_51 ⟨Nat.le_of_ble_eq_true rfl, Nat.le_of_ble_eq_true rfl⟩) (fun _ _ h9 => ((FV_reach_4 t9).trans h9)))) hS (fun q _ h => hA18 q h) hA18 (fun x19 u t H locs ht hvm hw19 hB hz1 hk1 hS => ?_)
        try dsimp only at hw19 hB
        rw [ht] at hB
        have hH := hB
        refine lv_iadd hx hb dX11_out_54 ?_
        refine lv_topi (fun x20 e20 => ?_)
        exact W.iret (v := x20) hx hb hr (fun t ht hW => ⟨⟨x20, (gi, gr), rfl, ⟨hM, rfl, (hF.trans (by simp only [↓reduceIte, F_X11_out, r3, Option.getD_some, hw5.2, hw8.2, Option.elim_some, hw12.2.2.1, eq_false c13, hw17, hw19, ← e20]))⟩, th_Ht ht hH⟩, hS.F ht⟩) hS.2.2 dX11_out_55
      · skip
        have f21 : rg 0 0 x12 := rg_w (rg_eq hw12.1 rgc_0 c13).1 (th_leI rfl) (th_leI rfl)
        exact J37 gi _ _ _ hH hS hM (lv_sub hl [2] rfl) (hF.trans (by simp only [↓reduceIte, F_X11_out, r3, Option.getD_some, hw5.2, hw8.2, Option.elim_some, hw12.2.2.1, eq_true c13]))

noncomputable def f_X11_fits_28 (τ : th_t) (Z : th_Zt) (gi : th_i) (gr : th_r) (h0 : Nat) (p1 : Int32) (p2 : Int32) (gi_28 : th_i) : Int32 × th_i :=
  let u2 : Int32 × th_i := F_X11_finding τ Z gi_28 gr h0 1
  let x2 : Int32 := u2.1
  let gi2 : th_i := u2.2
  (x2, gi2)
noncomputable def F_X11_fits (τ : th_t) (Z : th_Zt) (gi : th_i) (gr : th_r) (h0 : Nat) (p1 : Int32) (p2 : Int32) : Int32 × th_i :=
  let q3 : Nat := (gr h0 0).getD 0
  let r5 : Option Nat := F_X0_boatAt τ Z gi gr q3 p1
  let r8 : Option Nat := F_X0_buoyAt τ Z gi gr q3 p2
  Option.elim r5 (
    f_X11_fits_28 τ Z gi gr h0 p1 p2 gi) (fun q9 =>
    Option.elim r8 (
      f_X11_fits_28 τ Z gi gr h0 p1 p2 gi) (fun q10 =>
      let x13 : Int32 := F_X0_suits τ Z gi gr q3 q9 q10
      if x13 = (0 : Int32) then (
        (0, gi)) else (
        (1, gi))))
set_option maxHeartbeats 8000000 in
set_option maxRecDepth 100000 in
theorem k_X11_fits (l : Launch) (D : va_G) (cA : Nat → ClassId) (Z : th_Zt) (τ : th_t) (gi : th_i) (gr : th_r) (sz : Nat) (h0 : Nat) (t_h0 : τ h0 = 11) (p1 : Int32) (p2 : Int32) : Met l yX11_fits wsX11_fits ({ frames := 2, cells := 0, slots := 0, locals := 43 }) (va_Pc [.ref h0, .int p1, .int p2] (th_Pre D cA Z τ gi gr sz)) (va_Qi (fun (r : Int32) (u : th_i × th_r) => th_Mod [3600] τ gi gr u.1 u.2 ∧ u.2 = gr ∧ (F_X11_fits τ Z gi gr h0 p1 p2 = (r, u.1))) (fun (u : th_i × th_r) t => th_H D cA τ u.1 u.2 t.heap) (th_A τ sz)) 0 0 (th_A τ sz) := by
  refine Met.ofW (cc := cX11_fits) (maxL := 5) (ret := (some .int)) (by decide) rfl ?_
  intro p e s m args below meth c s₁ B hml hv
  obtain ⟨rfl, hsz, hH, hK, hN, hZ⟩ := hv
  have hx := B.exec
  have hb := B.bytes
  have hr := B.returns
  have hts := atoms_spec (ws := wsX11_fits) B.pre
  have hown : s.vm.findClass RX11 = some m.cls := findClass_of_methodNamed B.named
  have hlocks := B.notSynchronized
  subst hsz
  have hM : th_Mod [3600] τ gi gr gi gr := th_Mod.rf
  have J28 : ∀ (gi_28 : th_i) (H : Heap) (locs : List Loc) (ls : Array Slot), th_H D cA τ gi_28 gr H → va_S (th_A τ s.heap.size) s.heap H locs → th_Mod [3600] τ gi gr gi_28 gr → lv_has ls 5 [(0, .ref h0)] → F_X11_fits τ Z gi gr h0 p1 p2 = f_X11_fits_28 τ Z gi gr h0 p1 p2 gi_28 → W p l e (headSpec wsX11_fits ({ frames := 2, cells := 0, slots := 0, locals := 43 })).room s m [.ref h0, .int p1, .int p2].toArray below meth c H locs 0 0 (MQ below (va_Qi (fun (r : Int32) (u : th_i × th_r) => th_Mod [3600] τ gi gr u.1 u.2 ∧ u.2 = gr ∧ (F_X11_fits τ Z gi gr h0 p1 p2 = (r, u.1))) (fun (u : th_i × th_r) t => th_H D cA τ u.1 u.2 t.heap) (th_A τ s.heap.size)) [.ref h0, .int p1, .int p2].toArray s 0 0 (th_A τ s.heap.size)) (F0 m 28 ls []) := by
    intro gi_28 H locs ls hH hS hM hl hF
    refine lv_aload_n hx hb dX11_fits_28 rfl (lv_at hl 0 rfl) ?_
    refine lv_iconst (v := 1) hx hb dX11_fits_29 ic_1 ?_
    have hA1 := th_Asub (τ := τ) hS
    refine va_calli (va_runV (As := [.int 1]) (rest := []) ⟨hx, hb, hml, hown, hts⟩ (k_X11_finding l D cA Z τ gi_28 gr _ h0 t_h0 1) (cwV 1 hts gX11_fits_X11_finding rfl rfl rfl hd_X11_finding__1 ⟨Nat.le_of_ble_eq_true rfl, Nat.le_of_ble_eq_true rfl⟩) ⟨th_blind, tr_11 hK hH t_h0, (th_pre hH hK hN hZ hS hA1)⟩ rfl rfl hl.1 rfl (lv_room (Nat.le_of_ble_eq_true rfl)) dX11_fits_30 ⟨Nat.le_of_ble_eq_true rfl, Nat.le_of_ble_eq_true rfl⟩) hS (fun q _ h => hA1 q h) hA1 (fun x2 u t H locs ht hvm hw2 hB hz1 hk1 hS => ?_)
    try dsimp only at hw2 hB
    rw [ht] at hB
    have hH := hB
    obtain ⟨gi2, gr2⟩ := u
    try dsimp only at hw2 hH
    obtain rfl : gr = gr2 := (hw2.2.1).symm
    have hM := hM.tr hw2.1 (fun _ h => h) (th_sub rfl)
    exact W.iret (v := x2) hx hb hr (fun t ht hW => ⟨⟨x2, (gi2, gr), rfl, ⟨hM, rfl, (hF.trans (by simp only [f_X11_fits_28, hw2.2.2.1]))⟩, th_Ht ht hH⟩, hS.F ht⟩) hS.2.2 dX11_fits_33
  have hS : va_S (th_A τ s.heap.size) s.heap s.heap [] := va_S.rf
  have hl := lv_entry ([.ref h0, .int p1, .int p2]) (n := 5) (Nat.le_of_ble_eq_true rfl)
  rw [lg_entry_eq]
  generalize (lg_sl ([.ref h0, .int p1, .int p2]) ++ List.replicate (5 - (lg_sl ([.ref h0, .int p1, .int p2])).length) Slot.unset).toArray = ls at hl ⊢
  have hl : lv_has ls 5 [(0, .ref h0), (1, .int p1), (2, .int p2)] := hl
  have hF : F_X11_fits τ Z gi gr h0 p1 p2 = F_X11_fits τ Z gi gr h0 p1 p2 := rfl
  refine lv_aload_n hx hb dX11_fits_0 rfl (lv_at hl 0 rfl) ?_
  obtain ⟨q3, r3, t3⟩ : ∃ q, gr h0 0 = some q ∧ τ q = 1 := (thI_11 hH t_h0).1
  refine th_get (ci := 10) (v := .ref q3) (T := TX11) (C := RX11) (N := 10) hx hb hts (fun w h => List.mem_cons_of_mem _ (List.mem_append_left _ (List.mem_append_left _ (List.mem_append_left _ (List.mem_append_left _ (List.mem_append_left _ (List.mem_append_right _ h))))))) hown hK hH t_h0 (th_nz rfl) (thE_11 _ _ _) rfl 0 (th_ltN rfl) (hts (.fieldLink RX11 10 "BayMoorings" "bay" "LBayMoorings$Bay;") (List.mem_cons_of_mem _ (List.mem_append_left _ (List.mem_append_left _ (List.mem_append_left _ (List.mem_append_left _ (List.mem_append_left _ (List.mem_append_left _ (List.mem_append_left _ (List.mem_of_getElem? (i := 0) rfl)))))))))) (fun _ h9 => h9) (th_fR r3 rfl) dX11_fits_1 ?_
  refine lv_iload_n hx hb dX11_fits_4 rfl (lv_at hl 1 rfl) ?_
  have hA4 := th_Asub (τ := τ) hS
  refine va_callq (va_runV (As := [.int p1]) (rest := []) ⟨hx, hb, hml, hown, hts⟩ (k_X0_boatAt l D cA Z τ gi gr _ q3 t3 p1) (cwV 1 hts gX11_fits_X0_boatAt rfl rfl rfl hd_X0_boatAt__1 ⟨Nat.le_of_ble_eq_true rfl, Nat.le_of_ble_eq_true rfl⟩) ⟨th_blind, tr_1 hK hH t3, (th_pre hH hK hN hZ hS hA4)⟩ rfl rfl hl.1 rfl (lv_room (Nat.le_of_ble_eq_true rfl)) dX11_fits_5 ⟨Nat.le_of_ble_eq_true rfl, Nat.le_of_ble_eq_true rfl⟩) hS (fun q _ h => hA4 q h) hA4 (fun r5 u t H locs ht hvm hw5 hB hz1 hk1 hS => ?_)
  try dsimp only at hw5 hB
  rw [ht] at hB
  have hH := hB
  refine th_astoreq_n (i := 3) (lv' := [(3, va_rf r5), (0, .ref h0), (1, .int p1), (2, .int p2)]) hx hb dX11_fits_8 rfl hl (th_ltN rfl) rfl (fun ls hl => ?_)
  refine lv_aload_n hx hb dX11_fits_9 rfl (lv_at hl 1 rfl) ?_
  refine th_get (ci := 10) (v := .ref q3) (T := TX11) (C := RX11) (N := 10) hx hb hts (fun w h => List.mem_cons_of_mem _ (List.mem_append_left _ (List.mem_append_left _ (List.mem_append_left _ (List.mem_append_left _ (List.mem_append_left _ (List.mem_append_right _ h))))))) hown hK hH t_h0 (th_nz rfl) (thE_11 _ _ _) rfl 0 (th_ltN rfl) (hts (.fieldLink RX11 10 "BayMoorings" "bay" "LBayMoorings$Bay;") (List.mem_cons_of_mem _ (List.mem_append_left _ (List.mem_append_left _ (List.mem_append_left _ (List.mem_append_left _ (List.mem_append_left _ (List.mem_append_left _ (List.mem_append_left _ (List.mem_of_getElem? (i := 0) rfl)))))))))) (fun _ h9 => h9) (th_fR r3 rfl) dX11_fits_10 ?_
  refine lv_iload_n hx hb dX11_fits_13 rfl (lv_at hl 3 rfl) ?_
  have hA7 := th_Asub (τ := τ) hS
  refine va_callq (va_runV (As := [.int p2]) (rest := []) ⟨hx, hb, hml, hown, hts⟩ (k_X0_buoyAt l D cA Z τ gi gr _ q3 t3 p2) (cwV 1 hts gX11_fits_X0_buoyAt rfl rfl rfl hd_X0_buoyAt__1 ⟨Nat.le_of_ble_eq_true rfl, Nat.le_of_ble_eq_true rfl⟩) ⟨th_blind, tr_1 hK hH t3, (th_pre hH hK hN hZ hS hA7)⟩ rfl rfl hl.1 rfl (lv_room (Nat.le_of_ble_eq_true rfl)) dX11_fits_14 ⟨Nat.le_of_ble_eq_true rfl, Nat.le_of_ble_eq_true rfl⟩) hS (fun q _ h => hA7 q h) hA7 (fun r8 u t H locs ht hvm hw8 hB hz1 hk1 hS => ?_)
  try dsimp only at hw8 hB
  rw [ht] at hB
  have hH := hB
  refine th_astoreq (i := 4) (lv' := [(4, va_rf r8), (3, va_rf r5), (0, .ref h0), (1, .int p1), (2, .int p2)]) hx hb dX11_fits_17 hl (th_ltN rfl) (by simp [th_cat]) (fun ls hl => ?_)
  refine th_aloadq_n hx hb dX11_fits_19 rfl (lv_at hl 1 rfl) ?_
  refine th_ifnull (tgt := 28) hx hb dX11_fits_20 (th_eqI rfl) (fun z9 => ?_) (fun q9 z9 => ?_)
  · skip
    subst z9
    have hl : lv_has ls 5 [(4, va_rf r8), (3, .null), (0, .ref h0), (1, .int p1), (2, .int p2)] := hl
    exact J28 gi _ _ _ hH hS hM (lv_sub hl [2] rfl) (hF.trans (by simp only [F_X11_fits, r3, Option.getD_some, hw5.2, hw8.2, Option.elim_none]))
  · skip
    subst z9
    have t9 := hw5.1 q9 rfl
    have hl : lv_has ls 5 [(4, va_rf r8), (3, .ref q9), (0, .ref h0), (1, .int p1), (2, .int p2)] := hl
    refine th_aloadq hx hb dX11_fits_23 (lv_at hl 0 rfl) ?_
    refine th_ifnonnull (tgt := 34) hx hb dX11_fits_25 (th_eqI rfl) (fun q10 z10 => ?_) (fun z10 => ?_)
    · skip
      subst z10
      have t10 := hw8.1 q10 rfl
      have hl : lv_has ls 5 [(4, .ref q10), (3, .ref q9), (0, .ref h0), (1, .int p1), (2, .int p2)] := hl
      refine lv_aload_n hx hb dX11_fits_34 rfl (lv_at hl 2 rfl) ?_
      refine th_get (ci := 10) (v := .ref q3) (T := TX11) (C := RX11) (N := 10) hx hb hts (fun w h => List.mem_cons_of_mem _ (List.mem_append_left _ (List.mem_append_left _ (List.mem_append_left _ (List.mem_append_left _ (List.mem_append_left _ (List.mem_append_right _ h))))))) hown hK hH t_h0 (th_nz rfl) (thE_11 _ _ _) rfl 0 (th_ltN rfl) (hts (.fieldLink RX11 10 "BayMoorings" "bay" "LBayMoorings$Bay;") (List.mem_cons_of_mem _ (List.mem_append_left _ (List.mem_append_left _ (List.mem_append_left _ (List.mem_append_left _ (List.mem_append_left _ (List.mem_append_left _ (List.mem_append_left _ (List.mem_of_getElem? (i := 0) rfl)))))))))) (fun _ h9 => h9) (th_fR r3 rfl) dX11_fits_35 ?_
      refine lv_aload_n hx hb dX11_fits_38 rfl (lv_at hl 1 rfl) ?_
      refine lv_aload hx hb dX11_fits_39 (lv_at hl 0 rfl) ?_
      have hA12 := th_Asub (τ := τ) hS
      refine va_calli (va_runV (As := [.ref q9, .ref q10]) (rest := []) ⟨hx, hb, hml, hown, hts⟩ (k_X0_suits l D cA Z τ gi gr _ q3 t3 q9 t9 q10 t10) (cwV 2 hts gX11_fits_X0_suits rfl rfl rfl hd_X0_suits__2 ⟨Nat.le_of_ble_eq_true rfl, Nat.le_of_ble_eq_true rfl⟩) ⟨th_blind, tr_1 hK hH t3, (th_pre hH hK hN hZ hS hA12)⟩ rfl rfl hl.1 rfl (lv_room (Nat.le_of_ble_eq_true rfl)) dX11_fits_41 ⟨Nat.le_of_ble_eq_true rfl, Nat.le_of_ble_eq_true rfl⟩) hS (fun q _ h => hA12 q h) hA12 (fun x13 u t H locs ht hvm hw13 hB hz1 hk1 hS => ?_)
      try dsimp only at hw13 hB
      rw [ht] at hB
      have hH := hB
      refine lv_if_eq (tgt := 51) hx hb dX11_fits_44 (th_eqI rfl) (fun c14 => ?_) (fun c14 => ?_)
      · skip
        have f15 : rg 0 0 x13 := rg_w (rg_eq hw13.1 rgc_0 c14).1 (th_leI rfl) (th_leI rfl)
        refine lv_iconst (v := 0) hx hb dX11_fits_51 ic_0 ?_
        exact W.iret (v := 0) hx hb hr (fun t ht hW => ⟨⟨0, (gi, gr), rfl, ⟨hM, rfl, (hF.trans (by simp only [↓reduceIte, F_X11_fits, r3, Option.getD_some, hw5.2, hw8.2, Option.elim_some, hw13.2, eq_true c14]))⟩, th_Ht ht hH⟩, hS.F ht⟩) hS.2.2 dX11_fits_52
      · skip
        have f16 : rg 1 1 x13 := rg_w (rg_neL hw13.1 rgc_0 c14) (th_leI rfl) (th_leI rfl)
        refine lv_iconst (v := 1) hx hb dX11_fits_47 ic_1 ?_
        refine lv_goto (tgt := 52) hx hb dX11_fits_48 (th_eqI rfl) ?_
        exact W.iret (v := 1) hx hb hr (fun t ht hW => ⟨⟨1, (gi, gr), rfl, ⟨hM, rfl, (hF.trans (by simp only [↓reduceIte, F_X11_fits, r3, Option.getD_some, hw5.2, hw8.2, Option.elim_some, hw13.2, eq_false c14]))⟩, th_Ht ht hH⟩, hS.F ht⟩) hS.2.2 dX11_fits_52
    · skip
      subst z10
      have hl : lv_has ls 5 [(4, .null), (3, .ref q9), (0, .ref h0), (1, .int p1), (2, .int p2)] := hl
      exact J28 gi _ _ _ hH hS hM (lv_sub hl [2] rfl) (hF.trans (by simp only [F_X11_fits, r3, Option.getD_some, hw5.2, hw8.2, Option.elim_some, Option.elim_none]))

noncomputable def f_X11_touch_61 (τ : th_t) (Z : th_Zt) (gi : th_i) (gr : th_r) (h0 : Nat) (p1 : Int32) (p2 : Int32) (p3 : Int32) (p4 : Int32) (gi_61 : th_i) : Int32 × th_i :=
  let u4 : Int32 × th_i := F_X11_finding τ Z gi_61 gr h0 1
  let x4 : Int32 := u4.1
  let gi4 : th_i := u4.2
  (x4, gi4)
noncomputable def f_X11_touch_78 (τ : th_t) (Z : th_Zt) (gi : th_i) (gr : th_r) (h0 : Nat) (p1 : Int32) (p2 : Int32) (p3 : Int32) (p4 : Int32) (gi_78 : th_i) : Int32 × th_i :=
  let u2 : Int32 × th_i := F_X11_finding τ Z gi_78 gr h0 1
  let x2 : Int32 := u2.1
  let gi2 : th_i := u2.2
  (x2, gi2)
noncomputable def F_X11_touch (τ : th_t) (Z : th_Zt) (gi : th_i) (gr : th_r) (h0 : Nat) (p1 : Int32) (p2 : Int32) (p3 : Int32) (p4 : Int32) : Int32 × th_i :=
  let q5 : Nat := (gr h0 0).getD 0
  let r7 : Option Nat := F_X0_boatAt τ Z gi gr q5 p1
  let r10 : Option Nat := F_X0_buoyAt τ Z gi gr q5 p2
  let r13 : Option Nat := F_X0_boatAt τ Z gi gr q5 p3
  let r16 : Option Nat := F_X0_buoyAt τ Z gi gr q5 p4
  Option.elim r7 (
    f_X11_touch_61 τ Z gi gr h0 p1 p2 p3 p4 gi) (fun q17 =>
    Option.elim r10 (
      f_X11_touch_61 τ Z gi gr h0 p1 p2 p3 p4 gi) (fun q18 =>
      Option.elim r13 (
        f_X11_touch_61 τ Z gi gr h0 p1 p2 p3 p4 gi) (fun q19 =>
        Option.elim r16 (
          f_X11_touch_61 τ Z gi gr h0 p1 p2 p3 p4 gi) (fun q20 =>
          if p1 = p3 then (
            f_X11_touch_78 τ Z gi gr h0 p1 p2 p3 p4 gi) else (
            if p2 = p4 then (
              f_X11_touch_78 τ Z gi gr h0 p1 p2 p3 p4 gi) else (
              let x25 : Int32 := F_X0_firstTouch τ Z gi gr q5 q17 q18 q19 q20
              (x25, gi)))))))
set_option maxHeartbeats 8000000 in
set_option maxRecDepth 100000 in
theorem k_X11_touch (l : Launch) (D : va_G) (cA : Nat → ClassId) (Z : th_Zt) (τ : th_t) (gi : th_i) (gr : th_r) (sz : Nat) (h0 : Nat) (t_h0 : τ h0 = 11) (p1 : Int32) (p2 : Int32) (p3 : Int32) (p4 : Int32) : Met l yX11_touch wsX11_touch ({ frames := 3, cells := 0, slots := 0, locals := 97 }) (va_Pc [.ref h0, .int p1, .int p2, .int p3, .int p4] (th_Pre D cA Z τ gi gr sz)) (va_Qi (fun (r : Int32) (u : th_i × th_r) => th_Mod [3600] τ gi gr u.1 u.2 ∧ u.2 = gr ∧ (F_X11_touch τ Z gi gr h0 p1 p2 p3 p4 = (r, u.1))) (fun (u : th_i × th_r) t => th_H D cA τ u.1 u.2 t.heap) (th_A τ sz)) 0 0 (th_A τ sz) := by
  refine Met.ofW (cc := cX11_touch) (maxL := 9) (ret := (some .int)) (by decide) rfl ?_
  intro p e s m args below meth c s₁ B hml hv
  obtain ⟨rfl, hsz, hH, hK, hN, hZ⟩ := hv
  have hx := B.exec
  have hb := B.bytes
  have hr := B.returns
  have hts := atoms_spec (ws := wsX11_touch) B.pre
  have hown : s.vm.findClass RX11 = some m.cls := findClass_of_methodNamed B.named
  have hlocks := B.notSynchronized
  subst hsz
  have hM : th_Mod [3600] τ gi gr gi gr := th_Mod.rf
  have J78 : ∀ (gi_78 : th_i) (H : Heap) (locs : List Loc) (ls : Array Slot), th_H D cA τ gi_78 gr H → va_S (th_A τ s.heap.size) s.heap H locs → th_Mod [3600] τ gi gr gi_78 gr → lv_has ls 9 [(0, .ref h0)] → F_X11_touch τ Z gi gr h0 p1 p2 p3 p4 = f_X11_touch_78 τ Z gi gr h0 p1 p2 p3 p4 gi_78 → W p l e (headSpec wsX11_touch ({ frames := 3, cells := 0, slots := 0, locals := 97 })).room s m [.ref h0, .int p1, .int p2, .int p3, .int p4].toArray below meth c H locs 0 0 (MQ below (va_Qi (fun (r : Int32) (u : th_i × th_r) => th_Mod [3600] τ gi gr u.1 u.2 ∧ u.2 = gr ∧ (F_X11_touch τ Z gi gr h0 p1 p2 p3 p4 = (r, u.1))) (fun (u : th_i × th_r) t => th_H D cA τ u.1 u.2 t.heap) (th_A τ s.heap.size)) [.ref h0, .int p1, .int p2, .int p3, .int p4].toArray s 0 0 (th_A τ s.heap.size)) (F0 m 78 ls []) := by
    intro gi_78 H locs ls hH hS hM hl hF
    refine lv_aload_n hx hb dX11_touch_78 rfl (lv_at hl 0 rfl) ?_
    refine lv_iconst (v := 1) hx hb dX11_touch_79 ic_1 ?_
    have hA1 := th_Asub (τ := τ) hS
    refine va_calli (va_runV (As := [.int 1]) (rest := []) ⟨hx, hb, hml, hown, hts⟩ (k_X11_finding l D cA Z τ gi_78 gr _ h0 t_h0 1) (cwV 1 hts gX11_touch_X11_finding rfl rfl rfl hd_X11_finding__1 ⟨Nat.le_of_ble_eq_true rfl, Nat.le_of_ble_eq_true rfl⟩) ⟨th_blind, tr_11 hK hH t_h0, (th_pre hH hK hN hZ hS hA1)⟩ rfl rfl hl.1 rfl (lv_room (Nat.le_of_ble_eq_true rfl)) dX11_touch_80 ⟨Nat.le_of_ble_eq_true rfl, Nat.le_of_ble_eq_true rfl⟩) hS (fun q _ h => hA1 q h) hA1 (fun x2 u t H locs ht hvm hw2 hB hz1 hk1 hS => ?_)
    try dsimp only at hw2 hB
    rw [ht] at hB
    have hH := hB
    obtain ⟨gi2, gr2⟩ := u
    try dsimp only at hw2 hH
    obtain rfl : gr = gr2 := (hw2.2.1).symm
    have hM := hM.tr hw2.1 (fun _ h => h) (th_sub rfl)
    exact W.iret (v := x2) hx hb hr (fun t ht hW => ⟨⟨x2, (gi2, gr), rfl, ⟨hM, rfl, (hF.trans (by simp only [f_X11_touch_78, hw2.2.2.1]))⟩, th_Ht ht hH⟩, hS.F ht⟩) hS.2.2 dX11_touch_83
  have J61 : ∀ (gi_61 : th_i) (H : Heap) (locs : List Loc) (ls : Array Slot), th_H D cA τ gi_61 gr H → va_S (th_A τ s.heap.size) s.heap H locs → th_Mod [3600] τ gi gr gi_61 gr → lv_has ls 9 [(0, .ref h0)] → F_X11_touch τ Z gi gr h0 p1 p2 p3 p4 = f_X11_touch_61 τ Z gi gr h0 p1 p2 p3 p4 gi_61 → W p l e (headSpec wsX11_touch ({ frames := 3, cells := 0, slots := 0, locals := 97 })).room s m [.ref h0, .int p1, .int p2, .int p3, .int p4].toArray below meth c H locs 0 0 (MQ below (va_Qi (fun (r : Int32) (u : th_i × th_r) => th_Mod [3600] τ gi gr u.1 u.2 ∧ u.2 = gr ∧ (F_X11_touch τ Z gi gr h0 p1 p2 p3 p4 = (r, u.1))) (fun (u : th_i × th_r) t => th_H D cA τ u.1 u.2 t.heap) (th_A τ s.heap.size)) [.ref h0, .int p1, .int p2, .int p3, .int p4].toArray s 0 0 (th_A τ s.heap.size)) (F0 m 61 ls []) := by
    intro gi_61 H locs ls hH hS hM hl hF
    refine lv_aload_n hx hb dX11_touch_61 rfl (lv_at hl 0 rfl) ?_
    refine lv_iconst (v := 1) hx hb dX11_touch_62 ic_1 ?_
    have hA3 := th_Asub (τ := τ) hS
    refine va_calli (va_runV (As := [.int 1]) (rest := []) ⟨hx, hb, hml, hown, hts⟩ (k_X11_finding l D cA Z τ gi_61 gr _ h0 t_h0 1) (cwV 1 hts gX11_touch_X11_finding rfl rfl rfl hd_X11_finding__1 ⟨Nat.le_of_ble_eq_true rfl, Nat.le_of_ble_eq_true rfl⟩) ⟨th_blind, tr_11 hK hH t_h0, (th_pre hH hK hN hZ hS hA3)⟩ rfl rfl hl.1 rfl (lv_room (Nat.le_of_ble_eq_true rfl)) dX11_touch_63 ⟨Nat.le_of_ble_eq_true rfl, Nat.le_of_ble_eq_true rfl⟩) hS (fun q _ h => hA3 q h) hA3 (fun x4 u t H locs ht hvm hw4 hB hz1 hk1 hS => ?_)
    try dsimp only at hw4 hB
    rw [ht] at hB
    have hH := hB
    obtain ⟨gi4, gr4⟩ := u
    try dsimp only at hw4 hH
    obtain rfl : gr = gr4 := (hw4.2.1).symm
    have hM := hM.tr hw4.1 (fun _ h => h) (th_sub rfl)
    exact W.iret (v := x4) hx hb hr (fun t ht hW => ⟨⟨x4, (gi4, gr), rfl, ⟨hM, rfl, (hF.trans (by simp only [f_X11_touch_61, hw4.2.2.1]))⟩, th_Ht ht hH⟩, hS.F ht⟩) hS.2.2 dX11_touch_66
  have hS : va_S (th_A τ s.heap.size) s.heap s.heap [] := va_S.rf
  have hl := lv_entry ([.ref h0, .int p1, .int p2, .int p3, .int p4]) (n := 9) (Nat.le_of_ble_eq_true rfl)
  rw [lg_entry_eq]
  generalize (lg_sl ([.ref h0, .int p1, .int p2, .int p3, .int p4]) ++ List.replicate (9 - (lg_sl ([.ref h0, .int p1, .int p2, .int p3, .int p4])).length) Slot.unset).toArray = ls at hl ⊢
  have hl : lv_has ls 9 [(0, .ref h0), (1, .int p1), (2, .int p2), (3, .int p3), (4, .int p4)] := hl
  have hF : F_X11_touch τ Z gi gr h0 p1 p2 p3 p4 = F_X11_touch τ Z gi gr h0 p1 p2 p3 p4 := rfl
  refine lv_aload_n hx hb dX11_touch_0 rfl (lv_at hl 0 rfl) ?_
  obtain ⟨q5, r5, t5⟩ : ∃ q, gr h0 0 = some q ∧ τ q = 1 := (thI_11 hH t_h0).1
  refine th_get (ci := 10) (v := .ref q5) (T := TX11) (C := RX11) (N := 10) hx hb hts (fun w h => List.mem_cons_of_mem _ (List.mem_append_left _ (List.mem_append_left _ (List.mem_append_left _ (List.mem_append_left _ (List.mem_append_left _ (List.mem_append_right _ h))))))) hown hK hH t_h0 (th_nz rfl) (thE_11 _ _ _) rfl 0 (th_ltN rfl) (hts (.fieldLink RX11 10 "BayMoorings" "bay" "LBayMoorings$Bay;") (List.mem_cons_of_mem _ (List.mem_append_left _ (List.mem_append_left _ (List.mem_append_left _ (List.mem_append_left _ (List.mem_append_left _ (List.mem_append_left _ (List.mem_append_left _ (List.mem_of_getElem? (i := 0) rfl)))))))))) (fun _ h9 => h9) (th_fR r5 rfl) dX11_touch_1 ?_
  refine lv_iload_n hx hb dX11_touch_4 rfl (lv_at hl 1 rfl) ?_
  have hA6 := th_Asub (τ := τ) hS
  refine va_callq (va_runV (As := [.int p1]) (rest := []) ⟨hx, hb, hml, hown, hts⟩ (k_X0_boatAt l D cA Z τ gi gr _ q5 t5 p1) (cwV 1 hts gX11_touch_X0_boatAt rfl rfl rfl hd_X0_boatAt__1 ⟨Nat.le_of_ble_eq_true rfl, Nat.le_of_ble_eq_true rfl⟩) ⟨th_blind, tr_1 hK hH t5, (th_pre hH hK hN hZ hS hA6)⟩ rfl rfl hl.1 rfl (lv_room (Nat.le_of_ble_eq_true rfl)) dX11_touch_5 ⟨Nat.le_of_ble_eq_true rfl, Nat.le_of_ble_eq_true rfl⟩) hS (fun q _ h => hA6 q h) hA6 (fun r7 u t H locs ht hvm hw7 hB hz1 hk1 hS => ?_)
  try dsimp only at hw7 hB
  rw [ht] at hB
  have hH := hB
  refine th_astoreq (i := 5) (lv' := [(5, va_rf r7), (0, .ref h0), (1, .int p1), (2, .int p2), (3, .int p3), (4, .int p4)]) hx hb dX11_touch_8 hl (th_ltN rfl) rfl (fun ls hl => ?_)
  refine lv_aload_n hx hb dX11_touch_10 rfl (lv_at hl 1 rfl) ?_
  refine th_get (ci := 10) (v := .ref q5) (T := TX11) (C := RX11) (N := 10) hx hb hts (fun w h => List.mem_cons_of_mem _ (List.mem_append_left _ (List.mem_append_left _ (List.mem_append_left _ (List.mem_append_left _ (List.mem_append_left _ (List.mem_append_right _ h))))))) hown hK hH t_h0 (th_nz rfl) (thE_11 _ _ _) rfl 0 (th_ltN rfl) (hts (.fieldLink RX11 10 "BayMoorings" "bay" "LBayMoorings$Bay;") (List.mem_cons_of_mem _ (List.mem_append_left _ (List.mem_append_left _ (List.mem_append_left _ (List.mem_append_left _ (List.mem_append_left _ (List.mem_append_left _ (List.mem_append_left _ (List.mem_of_getElem? (i := 0) rfl)))))))))) (fun _ h9 => h9) (th_fR r5 rfl) dX11_touch_11 ?_
  refine lv_iload_n hx hb dX11_touch_14 rfl (lv_at hl 3 rfl) ?_
  have hA9 := th_Asub (τ := τ) hS
  refine va_callq (va_runV (As := [.int p2]) (rest := []) ⟨hx, hb, hml, hown, hts⟩ (k_X0_buoyAt l D cA Z τ gi gr _ q5 t5 p2) (cwV 1 hts gX11_touch_X0_buoyAt rfl rfl rfl hd_X0_buoyAt__1 ⟨Nat.le_of_ble_eq_true rfl, Nat.le_of_ble_eq_true rfl⟩) ⟨th_blind, tr_1 hK hH t5, (th_pre hH hK hN hZ hS hA9)⟩ rfl rfl hl.1 rfl (lv_room (Nat.le_of_ble_eq_true rfl)) dX11_touch_15 ⟨Nat.le_of_ble_eq_true rfl, Nat.le_of_ble_eq_true rfl⟩) hS (fun q _ h => hA9 q h) hA9 (fun r10 u t H locs ht hvm hw10 hB hz1 hk1 hS => ?_)
  try dsimp only at hw10 hB
  rw [ht] at hB
  have hH := hB
  refine th_astoreq (i := 6) (lv' := [(6, va_rf r10), (5, va_rf r7), (0, .ref h0), (1, .int p1), (2, .int p2), (3, .int p3), (4, .int p4)]) hx hb dX11_touch_18 hl (th_ltN rfl) (by simp [th_cat]) (fun ls hl => ?_)
  refine lv_aload_n hx hb dX11_touch_20 rfl (lv_at hl 2 rfl) ?_
  refine th_get (ci := 10) (v := .ref q5) (T := TX11) (C := RX11) (N := 10) hx hb hts (fun w h => List.mem_cons_of_mem _ (List.mem_append_left _ (List.mem_append_left _ (List.mem_append_left _ (List.mem_append_left _ (List.mem_append_left _ (List.mem_append_right _ h))))))) hown hK hH t_h0 (th_nz rfl) (thE_11 _ _ _) rfl 0 (th_ltN rfl) (hts (.fieldLink RX11 10 "BayMoorings" "bay" "LBayMoorings$Bay;") (List.mem_cons_of_mem _ (List.mem_append_left _ (List.mem_append_left _ (List.mem_append_left _ (List.mem_append_left _ (List.mem_append_left _ (List.mem_append_left _ (List.mem_append_left _ (List.mem_of_getElem? (i := 0) rfl)))))))))) (fun _ h9 => h9) (th_fR r5 rfl) dX11_touch_21 ?_
  refine lv_iload_n hx hb dX11_touch_24 rfl (lv_at hl 5 rfl) ?_
  have hA12 := th_Asub (τ := τ) hS
  refine va_callq (va_runV (As := [.int p3]) (rest := []) ⟨hx, hb, hml, hown, hts⟩ (k_X0_boatAt l D cA Z τ gi gr _ q5 t5 p3) (cwV 1 hts gX11_touch_X0_boatAt rfl rfl rfl hd_X0_boatAt__1 ⟨Nat.le_of_ble_eq_true rfl, Nat.le_of_ble_eq_true rfl⟩) ⟨th_blind, tr_1 hK hH t5, (th_pre hH hK hN hZ hS hA12)⟩ rfl rfl hl.1 rfl (lv_room (Nat.le_of_ble_eq_true rfl)) dX11_touch_25 ⟨Nat.le_of_ble_eq_true rfl, Nat.le_of_ble_eq_true rfl⟩) hS (fun q _ h => hA12 q h) hA12 (fun r13 u t H locs ht hvm hw13 hB hz1 hk1 hS => ?_)
  try dsimp only at hw13 hB
  rw [ht] at hB
  have hH := hB
  refine th_astoreq (i := 7) (lv' := [(7, va_rf r13), (6, va_rf r10), (5, va_rf r7), (0, .ref h0), (1, .int p1), (2, .int p2), (3, .int p3), (4, .int p4)]) hx hb dX11_touch_28 hl (th_ltN rfl) (by simp [th_cat]) (fun ls hl => ?_)
  refine lv_aload_n hx hb dX11_touch_30 rfl (lv_at hl 3 rfl) ?_
  refine th_get (ci := 10) (v := .ref q5) (T := TX11) (C := RX11) (N := 10) hx hb hts (fun w h => List.mem_cons_of_mem _ (List.mem_append_left _ (List.mem_append_left _ (List.mem_append_left _ (List.mem_append_left _ (List.mem_append_left _ (List.mem_append_right _ h))))))) hown hK hH t_h0 (th_nz rfl) (thE_11 _ _ _) rfl 0 (th_ltN rfl) (hts (.fieldLink RX11 10 "BayMoorings" "bay" "LBayMoorings$Bay;") (List.mem_cons_of_mem _ (List.mem_append_left _ (List.mem_append_left _ (List.mem_append_left _ (List.mem_append_left _ (List.mem_append_left _ (List.mem_append_left _ (List.mem_append_left _ (List.mem_of_getElem? (i := 0) rfl)))))))))) (fun _ h9 => h9) (th_fR r5 rfl) dX11_touch_31 ?_
  refine lv_iload hx hb dX11_touch_34 (lv_at hl 7 rfl) ?_
  have hA15 := th_Asub (τ := τ) hS
  refine va_callq (va_runV (As := [.int p4]) (rest := []) ⟨hx, hb, hml, hown, hts⟩ (k_X0_buoyAt l D cA Z τ gi gr _ q5 t5 p4) (cwV 1 hts gX11_touch_X0_buoyAt rfl rfl rfl hd_X0_buoyAt__1 ⟨Nat.le_of_ble_eq_true rfl, Nat.le_of_ble_eq_true rfl⟩) ⟨th_blind, tr_1 hK hH t5, (th_pre hH hK hN hZ hS hA15)⟩ rfl rfl hl.1 rfl (lv_room (Nat.le_of_ble_eq_true rfl)) dX11_touch_36 ⟨Nat.le_of_ble_eq_true rfl, Nat.le_of_ble_eq_true rfl⟩) hS (fun q _ h => hA15 q h) hA15 (fun r16 u t H locs ht hvm hw16 hB hz1 hk1 hS => ?_)
  try dsimp only at hw16 hB
  rw [ht] at hB
  have hH := hB
  refine th_astoreq (i := 8) (lv' := [(8, va_rf r16), (7, va_rf r13), (6, va_rf r10), (5, va_rf r7), (0, .ref h0), (1, .int p1), (2, .int p2), (3, .int p3), (4, .int p4)]) hx hb dX11_touch_39 hl (th_ltN rfl) (by simp [th_cat]) (fun ls hl => ?_)
  refine th_aloadq hx hb dX11_touch_41 (lv_at hl 3 rfl) ?_
  refine th_ifnull (tgt := 61) hx hb dX11_touch_43 (th_eqI rfl) (fun z17 => ?_) (fun q17 z17 => ?_)
  · skip
    subst z17
    have hl : lv_has ls 9 [(8, va_rf r16), (7, va_rf r13), (6, va_rf r10), (5, .null), (0, .ref h0), (1, .int p1), (2, .int p2), (3, .int p3), (4, .int p4)] := hl
    exact J61 gi _ _ _ hH hS hM (lv_sub hl [4] rfl) (hF.trans (by simp only [F_X11_touch, r5, Option.getD_some, hw7.2, hw10.2, hw13.2, hw16.2, Option.elim_none]))
  · skip
    subst z17
    have t17 := hw7.1 q17 rfl
    have hl : lv_has ls 9 [(8, va_rf r16), (7, va_rf r13), (6, va_rf r10), (5, .ref q17), (0, .ref h0), (1, .int p1), (2, .int p2), (3, .int p3), (4, .int p4)] := hl
    refine th_aloadq hx hb dX11_touch_46 (lv_at hl 2 rfl) ?_
    refine th_ifnull (tgt := 61) hx hb dX11_touch_48 (th_eqI rfl) (fun z18 => ?_) (fun q18 z18 => ?_)
    · skip
      subst z18
      have hl : lv_has ls 9 [(8, va_rf r16), (7, va_rf r13), (6, .null), (5, .ref q17), (0, .ref h0), (1, .int p1), (2, .int p2), (3, .int p3), (4, .int p4)] := hl
      exact J61 gi _ _ _ hH hS hM (lv_sub hl [4] rfl) (hF.trans (by simp only [F_X11_touch, r5, Option.getD_some, hw7.2, hw10.2, hw13.2, hw16.2, Option.elim_some, Option.elim_none]))
    · skip
      subst z18
      have t18 := hw10.1 q18 rfl
      have hl : lv_has ls 9 [(8, va_rf r16), (7, va_rf r13), (6, .ref q18), (5, .ref q17), (0, .ref h0), (1, .int p1), (2, .int p2), (3, .int p3), (4, .int p4)] := hl
      refine th_aloadq hx hb dX11_touch_51 (lv_at hl 1 rfl) ?_
      refine th_ifnull (tgt := 61) hx hb dX11_touch_53 (th_eqI rfl) (fun z19 => ?_) (fun q19 z19 => ?_)
      · skip
        subst z19
        have hl : lv_has ls 9 [(8, va_rf r16), (7, .null), (6, .ref q18), (5, .ref q17), (0, .ref h0), (1, .int p1), (2, .int p2), (3, .int p3), (4, .int p4)] := hl
        exact J61 gi _ _ _ hH hS hM (lv_sub hl [4] rfl) (hF.trans (by simp only [F_X11_touch, r5, Option.getD_some, hw7.2, hw10.2, hw13.2, hw16.2, Option.elim_some, Option.elim_none]))
      · skip
        subst z19
        have t19 := hw13.1 q19 rfl
        have hl : lv_has ls 9 [(8, va_rf r16), (7, .ref q19), (6, .ref q18), (5, .ref q17), (0, .ref h0), (1, .int p1), (2, .int p2), (3, .int p3), (4, .int p4)] := hl
        refine th_aloadq hx hb dX11_touch_56 (lv_at hl 0 rfl) ?_
        refine th_ifnonnull (tgt := 67) hx hb dX11_touch_58 (th_eqI rfl) (fun q20 z20 => ?_) (fun z20 => ?_)
        · skip
          subst z20
          have t20 := hw16.1 q20 rfl
          have hl : lv_has ls 9 [(8, .ref q20), (7, .ref q19), (6, .ref q18), (5, .ref q17), (0, .ref h0), (1, .int p1), (2, .int p2), (3, .int p3), (4, .int p4)] := hl
          refine lv_iload_n hx hb dX11_touch_67 rfl (lv_at hl 5 rfl) ?_
          refine lv_iload_n hx hb dX11_touch_68 rfl (lv_at hl 7 rfl) ?_
          refine lv_icmp_eq (tgt := 78) hx hb dX11_touch_69 (th_eqI rfl) (fun c21 => ?_) (fun c21 => ?_)
          · skip
            exact J78 gi _ _ _ hH hS hM (lv_sub hl [4] rfl) (hF.trans (by simp only [↓reduceIte, F_X11_touch, r5, Option.getD_some, hw7.2, hw10.2, hw13.2, hw16.2, Option.elim_some, eq_true c21]))
          · skip
            refine lv_iload_n hx hb dX11_touch_72 rfl (lv_at hl 6 rfl) ?_
            refine lv_iload hx hb dX11_touch_73 (lv_at hl 8 rfl) ?_
            refine lv_icmp_ne (tgt := 84) hx hb dX11_touch_75 (th_eqI rfl) (fun c22 => ?_) (fun c22 => ?_)
            · skip
              refine lv_aload_n hx hb dX11_touch_84 rfl (lv_at hl 4 rfl) ?_
              refine th_get (ci := 10) (v := .ref q5) (T := TX11) (C := RX11) (N := 10) hx hb hts (fun w h => List.mem_cons_of_mem _ (List.mem_append_left _ (List.mem_append_left _ (List.mem_append_left _ (List.mem_append_left _ (List.mem_append_left _ (List.mem_append_right _ h))))))) hown hK hH t_h0 (th_nz rfl) (thE_11 _ _ _) rfl 0 (th_ltN rfl) (hts (.fieldLink RX11 10 "BayMoorings" "bay" "LBayMoorings$Bay;") (List.mem_cons_of_mem _ (List.mem_append_left _ (List.mem_append_left _ (List.mem_append_left _ (List.mem_append_left _ (List.mem_append_left _ (List.mem_append_left _ (List.mem_append_left _ (List.mem_of_getElem? (i := 0) rfl)))))))))) (fun _ h9 => h9) (th_fR r5 rfl) dX11_touch_85 ?_
              refine lv_aload hx hb dX11_touch_88 (lv_at hl 3 rfl) ?_
              refine lv_aload hx hb dX11_touch_90 (lv_at hl 2 rfl) ?_
              refine lv_aload hx hb dX11_touch_92 (lv_at hl 1 rfl) ?_
              refine lv_aload hx hb dX11_touch_94 (lv_at hl 0 rfl) ?_
              have hA24 := th_Asub (τ := τ) hS
              refine va_calli (va_runV (As := [.ref q17, .ref q18, .ref q19, .ref q20]) (rest := []) ⟨hx, hb, hml, hown, hts⟩ (k_X0_firstTouch l D cA Z τ gi gr _ q5 t5 q17 t17 q18 t18 q19 t19 q20 t20) (cwV 4 hts gX11_touch_X0_firstTouch rfl rfl rfl hd_X0_firstTouch__4 ⟨Nat.le_of_ble_eq_true rfl, Nat.le_of_ble_eq_true rfl⟩) ⟨th_blind, tr_1 hK hH t5, (th_pre hH hK hN hZ hS hA24)⟩ rfl rfl hl.1 rfl (lv_room (Nat.le_of_ble_eq_true rfl)) dX11_touch_96 ⟨Nat.le_of_ble_eq_true rfl, Nat.le_of_ble_eq_true rfl⟩) hS (fun q _ h => hA24 q h) hA24 (fun x25 u t H locs ht hvm hw25 hB hz1 hk1 hS => ?_)
              try dsimp only at hw25 hB
              rw [ht] at hB
              have hH := hB
              exact W.iret (v := x25) hx hb hr (fun t ht hW => ⟨⟨x25, (gi, gr), rfl, ⟨hM, rfl, (hF.trans (by simp only [↓reduceIte, F_X11_touch, r5, Option.getD_some, hw7.2, hw10.2, hw13.2, hw16.2, Option.elim_some, eq_false c21, eq_false c22, hw25]))⟩, th_Ht ht hH⟩, hS.F ht⟩) hS.2.2 dX11_touch_99
            · skip
              exact J78 gi _ _ _ hH hS hM (lv_sub hl [4] rfl) (hF.trans (by simp only [↓reduceIte, F_X11_touch, r5, Option.getD_some, hw7.2, hw10.2, hw13.2, hw16.2, Option.elim_some, eq_false c21, eq_true c22]))
        · skip
          subst z20
          have hl : lv_has ls 9 [(8, .null), (7, .ref q19), (6, .ref q18), (5, .ref q17), (0, .ref h0), (1, .int p1), (2, .int p2), (3, .int p3), (4, .int p4)] := hl
          exact J61 gi _ _ _ hH hS hM (lv_sub hl [4] rfl) (hF.trans (by simp only [F_X11_touch, r5, Option.getD_some, hw7.2, hw10.2, hw13.2, hw16.2, Option.elim_some, Option.elim_none]))
