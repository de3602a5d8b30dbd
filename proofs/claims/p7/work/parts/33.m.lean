section
noncomputable def F_X11_storm (τ : th_t) (Z : th_Zt) (gi : th_i) (gr : th_r) (h0 : Nat) (p1 : Int32) : Int32 × th_i :=
  let x2 : Int32 := F_X11_isForce τ Z gi gr p1
  if x2 = (0 : Int32) then (
    let u13 : Int32 × th_i := F_X11_finding τ Z gi gr h0 1
    let x13 : Int32 := u13.1
    let gi13 : th_i := u13.2
    (x13, gi13)) else (
    let q6 : Nat := (gr h0 4).getD 0
    let gi8 : th_i := F_X5_blow τ Z gi gr q6 p1
    let x10 : Int32 := gi8 q6 2
    (x10, gi8))
set_option maxHeartbeats 8000000 in
set_option maxRecDepth 100000 in
theorem k_X11_storm (l : Launch) (D : va_G) (cA : Nat → ClassId) (Z : th_Zt) (τ : th_t) (gi : th_i) (gr : th_r) (sz : Nat) (h0 : Nat) (t_h0 : τ h0 = 11) (p1 : Int32) : Met l yX11_storm wsX11_storm ({ frames := 6, cells := 0, slots := 0, locals := 172 }) (va_Pc [.ref h0, .int p1] (th_Pre D cA Z τ gi gr sz)) (va_Qi (fun (r : Int32) (u : th_i × th_r) => th_Mod [502, 2400, 2500, 3600] τ gi gr u.1 u.2 ∧ u.2 = gr ∧ (F_X11_storm τ Z gi gr h0 p1 = (r, u.1))) (fun (u : th_i × th_r) t => th_H D cA τ u.1 u.2 t.heap) (th_A τ sz)) 0 0 (th_A τ sz) := by
  refine Met.ofW (cc := cX11_storm) (maxL := 2) (ret := (some .int)) (by decide) rfl ?_
  intro p e s m args below meth c s₁ B hml hv
  obtain ⟨rfl, hsz, hH, hK, hN, hZ⟩ := hv
  have hx := B.exec
  have hb := B.bytes
  have hr := B.returns
  have hts := atoms_spec (ws := wsX11_storm) B.pre
  have hown : s.vm.findClass RX11 = some m.cls := findClass_of_methodNamed B.named
  have hlocks := B.notSynchronized
  subst hsz
  have hM : th_Mod [502, 2400, 2500, 3600] τ gi gr gi gr := th_Mod.rf
  have hS : va_S (th_A τ s.heap.size) s.heap s.heap [] := va_S.rf
  have hl := lv_entry ([.ref h0, .int p1]) (n := 2) (Nat.le_of_ble_eq_true rfl)
  rw [lg_entry_eq]
  generalize (lg_sl ([.ref h0, .int p1]) ++ List.replicate (2 - (lg_sl ([.ref h0, .int p1])).length) Slot.unset).toArray = ls at hl ⊢
  have hl : lv_has ls 2 [(0, .ref h0), (1, .int p1)] := hl
  have hF : F_X11_storm τ Z gi gr h0 p1 = F_X11_storm τ Z gi gr h0 p1 := rfl
  refine lv_iload_n hx hb dX11_storm_0 rfl (lv_at hl 1 rfl) ?_
  have hA1 := th_Asub (τ := τ) hS
  refine va_calli (va_runS (As := [.int p1]) (rest := []) ⟨hx, hb, hml, hown, hts⟩ (k_X11_isForce l D cA Z τ gi gr _ p1) (va_cwS 1 hts gX11_storm_X11_isForce rfl rfl rfl (by decide +kernel) ⟨Nat.le_of_ble_eq_true rfl, Nat.le_of_ble_eq_true rfl⟩) ⟨th_blind, (th_pre hH hK hN hZ hS hA1)⟩ rfl rfl hl.1 rfl (lv_room (Nat.le_of_ble_eq_true rfl)) dX11_storm_1 ⟨Nat.le_of_ble_eq_true rfl, Nat.le_of_ble_eq_true rfl⟩) hS (fun q _ h => hA1 q h) hA1 (fun x2 u t H locs ht hvm hw2 hB hz1 hk1 hS => ?_)
  try dsimp only at hw2 hB
  rw [ht] at hB
  have hH := hB
  refine lv_if_ne (tgt := 13) hx hb dX11_storm_4 (th_eqI rfl) (fun c3 => ?_) (fun c3 => ?_)
  · skip
    have f4 : rg 1 1 x2 := rg_w (rg_neL hw2.1 rgc_0 c3) (th_leI rfl) (th_leI rfl)
    have f5 : rg 1 100 p1 := rg_w (hw2.2.1 c3) (th_leI rfl) (th_leI rfl)
    refine lv_aload_n hx hb dX11_storm_13 rfl (lv_at hl 0 rfl) ?_
    obtain ⟨q6, r6, t6⟩ : ∃ q, gr h0 4 = some q ∧ τ q = 5 := (thI_11 hH t_h0).2.2.2.2.1
    refine th_get (ci := 10) (v := .ref q6) (T := TX11) (C := RX11) (N := 10) hx hb hts (fun w h => List.mem_cons_of_mem _ (List.mem_append_left _ (List.mem_append_left _ (List.mem_append_left _ (List.mem_append_left _ (List.mem_append_left _ (List.mem_append_left _ (List.mem_append_left _ (List.mem_append_right _ h))))))))) hown hK hH t_h0 (th_nz rfl) (thE_11 _ _ _) rfl 4 (th_ltN rfl) (hts (.fieldLink RX11 42 "BayMoorings" "flight" "LBayMoorings$Flight;") (List.mem_cons_of_mem _ (List.mem_append_left _ (List.mem_append_left _ (List.mem_append_left _ (List.mem_append_left _ (List.mem_append_left _ (List.mem_append_left _ (List.mem_append_left _ (List.mem_append_left _ (List.mem_append_left _ (List.mem_of_getElem? (i := 0) rfl)))))))))))) (fun _ h9 => h9) (th_fR r6 rfl) dX11_storm_14 ?_
    refine lv_iload_n hx hb dX11_storm_17 rfl (lv_at hl 1 rfl) ?_
    have hA7 := th_Asub (τ := τ) hS
    refine va_callv (va_runV (As := [.int p1]) (rest := []) ⟨hx, hb, hml, hown, hts⟩ (k_X5_blow l D cA Z τ gi gr _ q6 t6 p1) (cwV 1 hts gX11_storm_X5_blow rfl rfl rfl hd_X5_blow__1 ⟨Nat.le_of_ble_eq_true rfl, Nat.le_of_ble_eq_true rfl⟩) ⟨th_blind, tr_5 hK hH t6, (th_pre hH hK hN hZ hS hA7)⟩ rfl rfl hl.1 rfl (lv_room (Nat.le_of_ble_eq_true rfl)) dX11_storm_18 ⟨Nat.le_of_ble_eq_true rfl, Nat.le_of_ble_eq_true rfl⟩) hS (fun q _ h => hA7 q h) hA7 (fun  u t H locs ht hvm hw8 hB hz1 hk1 hS => ?_)
    try dsimp only at hw8 hB
    rw [ht] at hB
    have hH := hB
    obtain ⟨gi8, gr8⟩ := u
    try dsimp only at hw8 hH
    obtain rfl : gr = gr8 := (hw8.2.1).symm
    have hM := hM.tr hw8.1 (fun _ h => h) (th_sub rfl)
    refine lv_aload_n hx hb dX11_storm_21 rfl (lv_at hl 0 rfl) ?_
    refine th_get (ci := 10) (v := .ref q6) (T := TX11) (C := RX11) (N := 10) hx hb hts (fun w h => List.mem_cons_of_mem _ (List.mem_append_left _ (List.mem_append_left _ (List.mem_append_left _ (List.mem_append_left _ (List.mem_append_left _ (List.mem_append_left _ (List.mem_append_left _ (List.mem_append_right _ h))))))))) hown hK hH t_h0 (th_nz rfl) (thE_11 _ _ _) rfl 4 (th_ltN rfl) (hts (.fieldLink RX11 42 "BayMoorings" "flight" "LBayMoorings$Flight;") (List.mem_cons_of_mem _ (List.mem_append_left _ (List.mem_append_left _ (List.mem_append_left _ (List.mem_append_left _ (List.mem_append_left _ (List.mem_append_left _ (List.mem_append_left _ (List.mem_append_left _ (List.mem_append_left _ (List.mem_of_getElem? (i := 0) rfl)))))))))))) (fun _ h9 => h9) (th_fR r6 rfl) dX11_storm_22 ?_
    obtain ⟨x10, e10⟩ : ∃ y : Int32, y = gi8 q6 2 := ⟨_, rfl⟩
    refine th_get (ci := 4) (v := .int x10) (T := TX5) (C := RX5) (N := 3) hx hb hts (fun w h => List.mem_cons_of_mem _ (List.mem_append_left _ (List.mem_append_left _ (List.mem_append_left _ (List.mem_append_left _ (List.mem_append_left _ (List.mem_append_left _ (List.mem_append_right _ h)))))))) hown hK hH t6 (th_nz rfl) (thE_5 _ _ _) rfl 2 (th_ltN rfl) (hts (.fieldLink RX11 271 "BayMoorings$Flight" "fleeing" "I") (List.mem_cons_of_mem _ (List.mem_append_left _ (List.mem_append_left _ (List.mem_append_left _ (List.mem_append_left _ (List.mem_append_left _ (List.mem_append_left _ (List.mem_append_left _ (List.mem_append_left _ (List.mem_append_left _ (List.mem_of_getElem? (i := 1) rfl)))))))))))) (fun _ h9 => h9) (th_fI e10 rfl) dX11_storm_25 ?_
    exact W.iret (v := x10) hx hb hr (fun t ht hW => ⟨⟨x10, (gi8, gr), rfl, ⟨hM, rfl, (hF.trans (by simp only [↓reduceIte, F_X11_storm, hw2.2.2.1, eq_false c3, r6, Option.getD_some, hw8.2.2, ← e10]))⟩, th_Ht ht hH⟩, hS.F ht⟩) hS.2.2 dX11_storm_28
  · skip
    have f11 : rg 0 0 x2 := rg_w (rg_eq hw2.1 rgc_0 c3).1 (th_leI rfl) (th_leI rfl)
    refine lv_aload_n hx hb dX11_storm_7 rfl (lv_at hl 0 rfl) ?_
    refine lv_iconst (v := 1) hx hb dX11_storm_8 ic_1 ?_
    have hA12 := th_Asub (τ := τ) hS
    refine va_calli (va_runV (As := [.int 1]) (rest := []) ⟨hx, hb, hml, hown, hts⟩ (k_X11_finding l D cA Z τ gi gr _ h0 t_h0 1) (cwV 1 hts gX11_storm_X11_finding rfl rfl rfl hd_X11_finding__1 ⟨Nat.le_of_ble_eq_true rfl, Nat.le_of_ble_eq_true rfl⟩) ⟨th_blind, tr_11 hK hH t_h0, (th_pre hH hK hN hZ hS hA12)⟩ rfl rfl hl.1 rfl (lv_room (Nat.le_of_ble_eq_true rfl)) dX11_storm_9 ⟨Nat.le_of_ble_eq_true rfl, Nat.le_of_ble_eq_true rfl⟩) hS (fun q _ h => hA12 q h) hA12 (fun x13 u t H locs ht hvm hw13 hB hz1 hk1 hS => ?_)
    try dsimp only at hw13 hB
    rw [ht] at hB
    have hH := hB
    obtain ⟨gi13, gr13⟩ := u
    try dsimp only at hw13 hH
    obtain rfl : gr = gr13 := (hw13.2.1).symm
    have hM := hM.tr hw13.1 (fun _ h => h) (th_sub rfl)
    exact W.iret (v := x13) hx hb hr (fun t ht hW => ⟨⟨x13, (gi13, gr), rfl, ⟨hM, rfl, (hF.trans (by simp only [↓reduceIte, F_X11_storm, hw2.2.2.1, eq_true c3, hw13.2.2.1]))⟩, th_Ht ht hH⟩, hS.F ht⟩) hS.2.2 dX11_storm_12

noncomputable def f_X11_fled_18 (τ : th_t) (Z : th_Zt) (gi : th_i) (gr : th_r) (h0 : Nat) (p1 : Int32) (p2 : Int32) (gi_18 : th_i) : Int32 × th_i :=
  let u2 : Int32 × th_i := F_X11_finding τ Z gi_18 gr h0 1
  let x2 : Int32 := u2.1
  let gi2 : th_i := u2.2
  (x2, gi2)
noncomputable def F_X11_fled (τ : th_t) (Z : th_Zt) (gi : th_i) (gr : th_r) (h0 : Nat) (p1 : Int32) (p2 : Int32) : Int32 × th_i :=
  let q3 : Nat := (gr h0 0).getD 0
  let r5 : Option Nat := F_X0_boatAt τ Z gi gr q3 p1
  Option.elim r5 (
    f_X11_fled_18 τ Z gi gr h0 p1 p2 gi) (fun q6 =>
    let x8 : Int32 := F_X11_isForce τ Z gi gr p2
    if x8 = (0 : Int32) then (
      f_X11_fled_18 τ Z gi gr h0 p1 p2 gi) else (
      let q13 : Nat := (gr q3 4).getD 0
      let x15 : Int32 := F_X1_buoyOf τ Z gi gr q13 p1
      if x15 = ((-1) : Int32) then (
        let u26 : Int32 × th_i := F_X11_finding τ Z gi gr h0 3
        let x26 : Int32 := u26.1
        let gi26 : th_i := u26.2
        (x26, gi26)) else (
        let q17 : Nat := (gr h0 4).getD 0
        let gi19 : th_i := F_X5_blow τ Z gi gr q17 p2
        let q21 : Nat := (gr q17 1).getD 0
        let x23 : Int32 := F_X1_buoyOf τ Z gi19 gr q21 p1
        (x23, gi19))))
set_option maxHeartbeats 8000000 in
set_option maxRecDepth 100000 in
theorem k_X11_fled (l : Launch) (D : va_G) (cA : Nat → ClassId) (Z : th_Zt) (τ : th_t) (gi : th_i) (gr : th_r) (sz : Nat) (h0 : Nat) (t_h0 : τ h0 = 11) (p1 : Int32) (p2 : Int32) : Met l yX11_fled wsX11_fled ({ frames := 6, cells := 0, slots := 0, locals := 172 }) (va_Pc [.ref h0, .int p1, .int p2] (th_Pre D cA Z τ gi gr sz)) (va_Qi (fun (r : Int32) (u : th_i × th_r) => th_Mod [502, 2400, 2500, 3600] τ gi gr u.1 u.2 ∧ u.2 = gr ∧ (F_X11_fled τ Z gi gr h0 p1 p2 = (r, u.1))) (fun (u : th_i × th_r) t => th_H D cA τ u.1 u.2 t.heap) (th_A τ sz)) 0 0 (th_A τ sz) := by
  refine Met.ofW (cc := cX11_fled) (maxL := 3) (ret := (some .int)) (by decide) rfl ?_
  intro p e s m args below meth c s₁ B hml hv
  obtain ⟨rfl, hsz, hH, hK, hN, hZ⟩ := hv
  have hx := B.exec
  have hb := B.bytes
  have hr := B.returns
  have hts := atoms_spec (ws := wsX11_fled) B.pre
  have hown : s.vm.findClass RX11 = some m.cls := findClass_of_methodNamed B.named
  have hlocks := B.notSynchronized
  subst hsz
  have hM : th_Mod [502, 2400, 2500, 3600] τ gi gr gi gr := th_Mod.rf
  have J18 : ∀ (gi_18 : th_i) (H : Heap) (locs : List Loc) (ls : Array Slot), th_H D cA τ gi_18 gr H → va_S (th_A τ s.heap.size) s.heap H locs → th_Mod [502, 2400, 2500, 3600] τ gi gr gi_18 gr → lv_has ls 3 [(0, .ref h0)] → F_X11_fled τ Z gi gr h0 p1 p2 = f_X11_fled_18 τ Z gi gr h0 p1 p2 gi_18 → W p l e (headSpec wsX11_fled ({ frames := 6, cells := 0, slots := 0, locals := 172 })).room s m [.ref h0, .int p1, .int p2].toArray below meth c H locs 0 0 (MQ below (va_Qi (fun (r : Int32) (u : th_i × th_r) => th_Mod [502, 2400, 2500, 3600] τ gi gr u.1 u.2 ∧ u.2 = gr ∧ (F_X11_fled τ Z gi gr h0 p1 p2 = (r, u.1))) (fun (u : th_i × th_r) t => th_H D cA τ u.1 u.2 t.heap) (th_A τ s.heap.size)) [.ref h0, .int p1, .int p2].toArray s 0 0 (th_A τ s.heap.size)) (F0 m 18 ls []) := by
    intro gi_18 H locs ls hH hS hM hl hF
    refine lv_aload_n hx hb dX11_fled_18 rfl (lv_at hl 0 rfl) ?_
    refine lv_iconst (v := 1) hx hb dX11_fled_19 ic_1 ?_
    have hA1 := th_Asub (τ := τ) hS
    refine va_calli (va_runV (As := [.int 1]) (rest := []) ⟨hx, hb, hml, hown, hts⟩ (k_X11_finding l D cA Z τ gi_18 gr _ h0 t_h0 1) (cwV 1 hts gX11_fled_X11_finding rfl rfl rfl hd_X11_finding__1 ⟨Nat.le_of_ble_eq_true rfl, Nat.le_of_ble_eq_true rfl⟩) ⟨th_blind, tr_11 hK hH t_h0, (th_pre hH hK hN hZ hS hA1)⟩ rfl rfl hl.1 rfl (lv_room (Nat.le_of_ble_eq_true rfl)) dX11_fled_20 ⟨Nat.le_of_ble_eq_true rfl, Nat.le_of_ble_eq_true rfl⟩) hS (fun q _ h => hA1 q h) hA1 (fun x2 u t H locs ht hvm hw2 hB hz1 hk1 hS => ?_)
    try dsimp only at hw2 hB
    rw [ht] at hB
    have hH := hB
    obtain ⟨gi2, gr2⟩ := u
    try dsimp only at hw2 hH
    obtain rfl : gr = gr2 := (hw2.2.1).symm
    have hM := hM.tr hw2.1 (fun _ h => h) (th_sub rfl)
    exact W.iret (v := x2) hx hb hr (fun t ht hW => ⟨⟨x2, (gi2, gr), rfl, ⟨hM, rfl, (hF.trans (by simp only [f_X11_fled_18, hw2.2.2.1]))⟩, th_Ht ht hH⟩, hS.F ht⟩) hS.2.2 dX11_fled_23
  have hS : va_S (th_A τ s.heap.size) s.heap s.heap [] := va_S.rf
  have hl := lv_entry ([.ref h0, .int p1, .int p2]) (n := 3) (Nat.le_of_ble_eq_true rfl)
  rw [lg_entry_eq]
  generalize (lg_sl ([.ref h0, .int p1, .int p2]) ++ List.replicate (3 - (lg_sl ([.ref h0, .int p1, .int p2])).length) Slot.unset).toArray = ls at hl ⊢
  have hl : lv_has ls 3 [(0, .ref h0), (1, .int p1), (2, .int p2)] := hl
  have hF : F_X11_fled τ Z gi gr h0 p1 p2 = F_X11_fled τ Z gi gr h0 p1 p2 := rfl
  refine lv_aload_n hx hb dX11_fled_0 rfl (lv_at hl 0 rfl) ?_
  obtain ⟨q3, r3, t3⟩ : ∃ q, gr h0 0 = some q ∧ τ q = 1 := (thI_11 hH t_h0).1
  refine th_get (ci := 10) (v := .ref q3) (T := TX11) (C := RX11) (N := 10) hx hb hts (fun w h => List.mem_cons_of_mem _ (List.mem_append_left _ (List.mem_append_left _ (List.mem_append_left _ (List.mem_append_left _ (List.mem_append_left _ (List.mem_append_left _ (List.mem_append_left _ (List.mem_append_right _ h))))))))) hown hK hH t_h0 (th_nz rfl) (thE_11 _ _ _) rfl 0 (th_ltN rfl) (hts (.fieldLink RX11 10 "BayMoorings" "bay" "LBayMoorings$Bay;") (List.mem_cons_of_mem _ (List.mem_append_left _ (List.mem_append_left _ (List.mem_append_left _ (List.mem_append_left _ (List.mem_append_left _ (List.mem_append_left _ (List.mem_append_left _ (List.mem_append_left _ (List.mem_append_left _ (List.mem_of_getElem? (i := 0) rfl)))))))))))) (fun _ h9 => h9) (th_fR r3 rfl) dX11_fled_1 ?_
  refine lv_iload_n hx hb dX11_fled_4 rfl (lv_at hl 1 rfl) ?_
  have hA4 := th_Asub (τ := τ) hS
  refine va_callq (va_runV (As := [.int p1]) (rest := []) ⟨hx, hb, hml, hown, hts⟩ (k_X0_boatAt l D cA Z τ gi gr _ q3 t3 p1) (cwV 1 hts gX11_fled_X0_boatAt rfl rfl rfl hd_X0_boatAt__1 ⟨Nat.le_of_ble_eq_true rfl, Nat.le_of_ble_eq_true rfl⟩) ⟨th_blind, tr_1 hK hH t3, (th_pre hH hK hN hZ hS hA4)⟩ rfl rfl hl.1 rfl (lv_room (Nat.le_of_ble_eq_true rfl)) dX11_fled_5 ⟨Nat.le_of_ble_eq_true rfl, Nat.le_of_ble_eq_true rfl⟩) hS (fun q _ h => hA4 q h) hA4 (fun r5 u t H locs ht hvm hw5 hB hz1 hk1 hS => ?_)
  try dsimp only at hw5 hB
  rw [ht] at hB
  have hH := hB
  refine th_ifnull (tgt := 18) hx hb dX11_fled_8 (th_eqI rfl) (fun z6 => ?_) (fun q6 z6 => ?_)
  · skip
    subst z6
    exact J18 gi _ _ _ hH hS hM (lv_sub hl [0] rfl) (hF.trans (by simp only [F_X11_fled, r3, Option.getD_some, hw5.2, Option.elim_none]))
  · skip
    subst z6
    have t6 := hw5.1 q6 rfl
    refine lv_iload_n hx hb dX11_fled_11 rfl (lv_at hl 2 rfl) ?_
    have hA7 := th_Asub (τ := τ) hS
    refine va_calli (va_runS (As := [.int p2]) (rest := []) ⟨hx, hb, hml, hown, hts⟩ (k_X11_isForce l D cA Z τ gi gr _ p2) (va_cwS 1 hts gX11_fled_X11_isForce rfl rfl rfl (by decide +kernel) ⟨Nat.le_of_ble_eq_true rfl, Nat.le_of_ble_eq_true rfl⟩) ⟨th_blind, (th_pre hH hK hN hZ hS hA7)⟩ rfl rfl hl.1 rfl (lv_room (Nat.le_of_ble_eq_true rfl)) dX11_fled_12 ⟨Nat.le_of_ble_eq_true rfl, Nat.le_of_ble_eq_true rfl⟩) hS (fun q _ h => hA7 q h) hA7 (fun x8 u t H locs ht hvm hw8 hB hz1 hk1 hS => ?_)
    try dsimp only at hw8 hB
    rw [ht] at hB
    have hH := hB
    refine lv_if_ne (tgt := 24) hx hb dX11_fled_15 (th_eqI rfl) (fun c9 => ?_) (fun c9 => ?_)
    · skip
      have f10 : rg 1 1 x8 := rg_w (rg_neL hw8.1 rgc_0 c9) (th_leI rfl) (th_leI rfl)
      have f11 : rg 1 100 p2 := rg_w (hw8.2.1 c9) (th_leI rfl) (th_leI rfl)
      refine lv_aload_n hx hb dX11_fled_24 rfl (lv_at hl 0 rfl) ?_
      refine th_get (ci := 10) (v := .ref q3) (T := TX11) (C := RX11) (N := 10) hx hb hts (fun w h => List.mem_cons_of_mem _ (List.mem_append_left _ (List.mem_append_left _ (List.mem_append_left _ (List.mem_append_left _ (List.mem_append_left _ (List.mem_append_left _ (List.mem_append_left _ (List.mem_append_right _ h))))))))) hown hK hH t_h0 (th_nz rfl) (thE_11 _ _ _) rfl 0 (th_ltN rfl) (hts (.fieldLink RX11 10 "BayMoorings" "bay" "LBayMoorings$Bay;") (List.mem_cons_of_mem _ (List.mem_append_left _ (List.mem_append_left _ (List.mem_append_left _ (List.mem_append_left _ (List.mem_append_left _ (List.mem_append_left _ (List.mem_append_left _ (List.mem_append_left _ (List.mem_append_left _ (List.mem_of_getElem? (i := 0) rfl)))))))))))) (fun _ h9 => h9) (th_fR r3 rfl) dX11_fled_25 ?_
      obtain ⟨q13, r13, t13⟩ : ∃ q, gr q3 4 = some q ∧ τ q = 2 := (thI_1 hH t3).2.2.2.2.1
      refine th_get (ci := 0) (v := .ref q13) (T := TX0) (C := RX0) (N := 9) hx hb hts (fun w h => List.mem_cons_of_mem _ (List.mem_append_left _ (List.mem_append_left _ (List.mem_append_left _ (List.mem_append_left _ (List.mem_append_left _ (List.mem_append_left _ (List.mem_append_right _ h)))))))) hown hK hH t3 (th_nz rfl) (thE_1 _ _ _) rfl 4 (th_ltN rfl) (hts (.fieldLink RX11 125 "BayMoorings$Bay" "berths" "LBayMoorings$Berths;") (List.mem_cons_of_mem _ (List.mem_append_left _ (List.mem_append_left _ (List.mem_append_left _ (List.mem_append_left _ (List.mem_append_left _ (List.mem_append_left _ (List.mem_append_left _ (List.mem_append_left _ (List.mem_append_left _ (List.mem_of_getElem? (i := 1) rfl)))))))))))) (fun _ h9 => h9) (th_fR r13 rfl) dX11_fled_28 ?_
      refine lv_iload_n hx hb dX11_fled_31 rfl (lv_at hl 1 rfl) ?_
      have hA14 := th_Asub (τ := τ) hS
      refine va_calli (va_runV (As := [.int p1]) (rest := []) ⟨hx, hb, hml, hown, hts⟩ (k_X1_buoyOf l D cA Z τ gi gr _ q13 t13 p1) (cwV 1 hts gX11_fled_X1_buoyOf rfl rfl rfl hd_X1_buoyOf__1 ⟨Nat.le_of_ble_eq_true rfl, Nat.le_of_ble_eq_true rfl⟩) ⟨th_blind, tr_2 hK hH t13, (th_pre hH hK hN hZ hS hA14)⟩ rfl rfl hl.1 rfl (lv_room (Nat.le_of_ble_eq_true rfl)) dX11_fled_32 ⟨Nat.le_of_ble_eq_true rfl, Nat.le_of_ble_eq_true rfl⟩) hS (fun q _ h => hA14 q h) hA14 (fun x15 u t H locs ht hvm hw15 hB hz1 hk1 hS => ?_)
      try dsimp only at hw15 hB
      rw [ht] at hB
      have hH := hB
      refine lv_iconst (v := (-1)) hx hb dX11_fled_35 ic_m1 ?_
      refine lv_icmp_ne (tgt := 45) hx hb dX11_fled_36 (th_eqI rfl) (fun c16 => ?_) (fun c16 => ?_)
      · skip
        refine lv_aload_n hx hb dX11_fled_45 rfl (lv_at hl 0 rfl) ?_
        obtain ⟨q17, r17, t17⟩ : ∃ q, gr h0 4 = some q ∧ τ q = 5 := (thI_11 hH t_h0).2.2.2.2.1
        refine th_get (ci := 10) (v := .ref q17) (T := TX11) (C := RX11) (N := 10) hx hb hts (fun w h => List.mem_cons_of_mem _ (List.mem_append_left _ (List.mem_append_left _ (List.mem_append_left _ (List.mem_append_left _ (List.mem_append_left _ (List.mem_append_left _ (List.mem_append_left _ (List.mem_append_right _ h))))))))) hown hK hH t_h0 (th_nz rfl) (thE_11 _ _ _) rfl 4 (th_ltN rfl) (hts (.fieldLink RX11 42 "BayMoorings" "flight" "LBayMoorings$Flight;") (List.mem_cons_of_mem _ (List.mem_append_left _ (List.mem_append_left _ (List.mem_append_left _ (List.mem_append_left _ (List.mem_append_left _ (List.mem_append_left _ (List.mem_append_left _ (List.mem_append_left _ (List.mem_append_left _ (List.mem_of_getElem? (i := 2) rfl)))))))))))) (fun _ h9 => h9) (th_fR r17 rfl) dX11_fled_46 ?_
        refine lv_iload_n hx hb dX11_fled_49 rfl (lv_at hl 2 rfl) ?_
        have hA18 := th_Asub (τ := τ) hS
        refine va_callv (va_runV (As := [.int p2]) (rest := []) ⟨hx, hb, hml, hown, hts⟩ (k_X5_blow l D cA Z τ gi gr _ q17 t17 p2) (cwV 1 hts gX11_fled_X5_blow rfl rfl rfl hd_X5_blow__1 ⟨Nat.le_of_ble_eq_true rfl, Nat.le_of_ble_eq_true rfl⟩) ⟨th_blind, tr_5 hK hH t17, (th_pre hH hK hN hZ hS hA18)⟩ rfl rfl hl.1 rfl (lv_room (Nat.le_of_ble_eq_true rfl)) dX11_fled_50 ⟨Nat.le_of_ble_eq_true rfl, Nat.le_of_ble_eq_true rfl⟩) hS (fun q _ h => hA18 q h) hA18 (fun  u t H locs ht hvm hw19 hB hz1 hk1 hS => ?_)
        try dsimp only at hw19 hB
        rw [ht] at hB
        have hH := hB
        obtain ⟨gi19, gr19⟩ := u
        try dsimp only at hw19 hH
        obtain rfl : gr = gr19 := (hw19.2.1).symm
        have hM := hM.tr hw19.1 (fun _ h => h) (th_sub rfl)
        refine lv_aload_n hx hb dX11_fled_53 rfl (lv_at hl 0 rfl) ?_
        refine th_get (ci := 10) (v := .ref q17) (T := TX11) (C := RX11) (N := 10) hx hb hts (fun w h => List.mem_cons_of_mem _ (List.mem_append_left _ (List.mem_append_left _ (List.mem_append_left _ (List.mem_append_left _ (List.mem_append_left _ (List.mem_append_left _ (List.mem_append_left _ (List.mem_append_right _ h))))))))) hown hK hH t_h0 (th_nz rfl) (thE_11 _ _ _) rfl 4 (th_ltN rfl) (hts (.fieldLink RX11 42 "BayMoorings" "flight" "LBayMoorings$Flight;") (List.mem_cons_of_mem _ (List.mem_append_left _ (List.mem_append_left _ (List.mem_append_left _ (List.mem_append_left _ (List.mem_append_left _ (List.mem_append_left _ (List.mem_append_left _ (List.mem_append_left _ (List.mem_append_left _ (List.mem_of_getElem? (i := 2) rfl)))))))))))) (fun _ h9 => h9) (th_fR r17 rfl) dX11_fled_54 ?_
        obtain ⟨q21, r21, t21⟩ : ∃ q, gr q17 1 = some q ∧ τ q = 2 := (thI_5 hH t17).2
        refine th_get (ci := 4) (v := .ref q21) (T := TX5) (C := RX5) (N := 3) hx hb hts (fun w h => List.mem_cons_of_mem _ (List.mem_append_left _ (List.mem_append_left _ (List.mem_append_left _ (List.mem_append_left _ (List.mem_append_left _ (List.mem_append_right _ h))))))) hown hK hH t17 (th_nz rfl) (thE_5 _ _ _) rfl 1 (th_ltN rfl) (hts (.fieldLink RX11 274 "BayMoorings$Flight" "berths" "LBayMoorings$Berths;") (List.mem_cons_of_mem _ (List.mem_append_left _ (List.mem_append_left _ (List.mem_append_left _ (List.mem_append_left _ (List.mem_append_left _ (List.mem_append_left _ (List.mem_append_left _ (List.mem_append_left _ (List.mem_append_left _ (List.mem_of_getElem? (i := 3) rfl)))))))))))) (fun _ h9 => h9) (th_fR r21 rfl) dX11_fled_57 ?_
        refine lv_iload_n hx hb dX11_fled_60 rfl (lv_at hl 1 rfl) ?_
        have hA22 := th_Asub (τ := τ) hS
        refine va_calli (va_runV (As := [.int p1]) (rest := []) ⟨hx, hb, hml, hown, hts⟩ (k_X1_buoyOf l D cA Z τ gi19 gr _ q21 t21 p1) (cwV 1 hts gX11_fled_X1_buoyOf rfl rfl rfl hd_X1_buoyOf__1 ⟨Nat.le_of_ble_eq_true rfl, Nat.le_of_ble_eq_true rfl⟩) ⟨th_blind, tr_2 hK hH t21, (th_pre hH hK hN hZ hS hA22)⟩ rfl rfl hl.1 rfl (lv_room (Nat.le_of_ble_eq_true rfl)) dX11_fled_61 ⟨Nat.le_of_ble_eq_true rfl, Nat.le_of_ble_eq_true rfl⟩) hS (fun q _ h => hA22 q h) hA22 (fun x23 u t H locs ht hvm hw23 hB hz1 hk1 hS => ?_)
        try dsimp only at hw23 hB
        rw [ht] at hB
        have hH := hB
        exact W.iret (v := x23) hx hb hr (fun t ht hW => ⟨⟨x23, (gi19, gr), rfl, ⟨hM, rfl, (hF.trans (by simp only [↓reduceIte, F_X11_fled, r3, Option.getD_some, hw5.2, Option.elim_some, hw8.2.2.1, eq_false c9, r13, hw15, eq_false c16, r17, hw19.2.2, r21, hw23]))⟩, th_Ht ht hH⟩, hS.F ht⟩) hS.2.2 dX11_fled_64
      · skip
        have f24 : rg (-1) (-1) x15 := rg_w (rg_eq (rg_any x15) rgc_m1 c16).1 (th_leI rfl) (th_leI rfl)
        refine lv_aload_n hx hb dX11_fled_39 rfl (lv_at hl 0 rfl) ?_
        refine lv_iconst (v := 3) hx hb dX11_fled_40 ic_3 ?_
        have hA25 := th_Asub (τ := τ) hS
        refine va_calli (va_runV (As := [.int 3]) (rest := []) ⟨hx, hb, hml, hown, hts⟩ (k_X11_finding l D cA Z τ gi gr _ h0 t_h0 3) (cwV 1 hts gX11_fled_X11_finding rfl rfl rfl hd_X11_finding__1 ⟨Nat.le_of_ble_eq_true rfl, Nat.le_of_ble_eq_true rfl⟩) ⟨th_blind, tr_11 hK hH t_h0, (th_pre hH hK hN hZ hS hA25)⟩ rfl rfl hl.1 rfl (lv_room (Nat.le_of_ble_eq_true rfl)) dX11_fled_41 ⟨Nat.le_of_ble_eq_true rfl, Nat.le_of_ble_eq_true rfl⟩) hS (fun q _ h => hA25 q h) hA25 (fun x26 u t H locs ht hvm hw26 hB hz1 hk1 hS => ?_)
        try dsimp only at hw26 hB
        rw [ht] at hB
        have hH := hB
        obtain ⟨gi26, gr26⟩ := u
        try dsimp only at hw26 hH
        obtain rfl : gr = gr26 := (hw26.2.1).symm
        have hM := hM.tr hw26.1 (fun _ h => h) (th_sub rfl)
        exact W.iret (v := x26) hx hb hr (fun t ht hW => ⟨⟨x26, (gi26, gr), rfl, ⟨hM, rfl, (hF.trans (by simp only [↓reduceIte, F_X11_fled, r3, Option.getD_some, hw5.2, Option.elim_some, hw8.2.2.1, eq_false c9, r13, hw15, eq_true c16, hw26.2.2.1]))⟩, th_Ht ht hH⟩, hS.F ht⟩) hS.2.2 dX11_fled_44
    · skip
      have f27 : rg 0 0 x8 := rg_w (rg_eq hw8.1 rgc_0 c9).1 (th_leI rfl) (th_leI rfl)
      exact J18 gi _ _ _ hH hS hM (lv_sub hl [0] rfl) (hF.trans (by simp only [↓reduceIte, F_X11_fled, r3, Option.getD_some, hw5.2, Option.elim_some, hw8.2.2.1, eq_true c9]))

noncomputable def f_X11_most_43 (τ : th_t) (Z : th_Zt) (gi : th_i) (gr : th_r) (h0 : Nat) (p1 : Int32) (p2 : Int32) (gi_43 : th_i) (gr_43 : th_r) : Int32 × th_i × th_r :=
  let u2 : Int32 × th_i := F_X11_finding τ Z gi_43 gr_43 h0 1
  let x2 : Int32 := u2.1
  let gi2 : th_i := u2.2
  (x2, gi2, gr_43)
noncomputable def f_X11_most_22 (τ : th_t) (Z : th_Zt) (gi : th_i) (gr : th_r) (h0 : Nat) (p1 : Int32) (p2 : Int32) (gi_22 : th_i) (gr_22 : th_r) (y22_3 : Int32) (z22_0 : Int32) : Int32 × th_i × th_r :=
  if z22_0 = (0 : Int32) then (
    f_X11_most_43 τ Z gi gr h0 p1 p2 gi_22 gr_22) else (
    if (5 : Int32) < y22_3 then (
      f_X11_most_43 τ Z gi gr h0 p1 p2 gi_22 gr_22) else (
      let x10 : Int32 := F_X11_within τ Z gi_22 gr_22 p2 0 y22_3
      if x10 = (0 : Int32) then (
        f_X11_most_43 τ Z gi gr h0 p1 p2 gi_22 gr_22) else (
        let q17 : Nat := (gr_22 h0 0).getD 0
        let x19 : Int32 := F_X0_anyLies τ Z gi_22 gr_22 q17 p1
        if x19 = (0 : Int32) then (
          let q22 : Nat := (gr_22 h0 2).getD 0
          let u24 : th_i × th_r := F_X7_run τ Z gi_22 gr_22 q22 p1
          let gi24 : th_i := u24.1
          let gr24 : th_r := u24.2
          if p2 = (0 : Int32) then (
            let x35 : Int32 := gi24 q22 7
            (x35, gi24, gr24)) else (
            let x30 : Int32 := p2 - 1
            let x32 : Int32 := F_X7_buoyFor τ Z gi24 gr24 q22 x30
            (x32, gi24, gr24))) else (
          let u38 : Int32 × th_i := F_X11_finding τ Z gi_22 gr_22 h0 3
          let x38 : Int32 := u38.1
          let gi38 : th_i := u38.2
          (x38, gi38, gr_22)))))
noncomputable def F_X11_most (τ : th_t) (Z : th_Zt) (gi : th_i) (gr : th_r) (h0 : Nat) (p1 : Int32) (p2 : Int32) : Int32 × th_i × th_r :=
  let x41 : Int32 := F_J6_bitCount_0f7a4 τ Z gi gr p1
  let q42 : Nat := (gr h0 0).getD 0
  let x43 : Int32 := gi q42 6
  let x44 : Int32 := (p1.toUInt32 >>> (Int32.toUInt32 x43 &&& Int32.toUInt32 31)).toInt32
  if x44 = (0 : Int32) then (
    f_X11_most_22 τ Z gi gr h0 p1 p2 gi gr x41 1) else (
    f_X11_most_22 τ Z gi gr h0 p1 p2 gi gr x41 0)
set_option maxHeartbeats 8000000 in
set_option maxRecDepth 100000 in
theorem k_X11_most (l : Launch) (D : va_G) (cA : Nat → ClassId) (Z : th_Zt) (τ : th_t) (gi : th_i) (gr : th_r) (sz : Nat) (h0 : Nat) (t_h0 : τ h0 = 11) (p1 : Int32) (p2 : Int32) : Met l yX11_most wsX11_most ({ frames := 11, cells := 0, slots := 0, locals := 295 }) (va_Pc [.ref h0, .int p1, .int p2] (th_Pre D cA Z τ gi gr sz)) (va_Qi (fun (r : Int32) (u : th_i × th_r) => th_Mod [702, 707, 3000, 3100, 3200, 3300, 3400, 3600] τ gi gr u.1 u.2 ∧ (F_X11_most τ Z gi gr h0 p1 p2 = (r, u.1, u.2))) (fun (u : th_i × th_r) t => th_H D cA τ u.1 u.2 t.heap) (th_A τ sz)) 0 0 (th_A τ sz) := by
  refine Met.ofW (cc := cX11_most) (maxL := 5) (ret := (some .int)) (by decide) rfl ?_
  intro p e s m args below meth c s₁ B hml hv
  obtain ⟨rfl, hsz, hH, hK, hN, hZ⟩ := hv
  have hx := B.exec
  have hb := B.bytes
  have hr := B.returns
  have hts := atoms_spec (ws := wsX11_most) B.pre
  have hown : s.vm.findClass RX11 = some m.cls := findClass_of_methodNamed B.named
  have hlocks := B.notSynchronized
  subst hsz
  have hM : th_Mod [702, 707, 3000, 3100, 3200, 3300, 3400, 3600] τ gi gr gi gr := th_Mod.rf
  have J43 : ∀ (gi_43 : th_i) (gr_43 : th_r) (H : Heap) (locs : List Loc) (ls : Array Slot), th_H D cA τ gi_43 gr_43 H → va_S (th_A τ s.heap.size) s.heap H locs → th_Mod [702, 707, 3000, 3100, 3200, 3300, 3400, 3600] τ gi gr gi_43 gr_43 → lv_has ls 5 [(0, .ref h0)] → F_X11_most τ Z gi gr h0 p1 p2 = f_X11_most_43 τ Z gi gr h0 p1 p2 gi_43 gr_43 → W p l e (headSpec wsX11_most ({ frames := 11, cells := 0, slots := 0, locals := 295 })).room s m [.ref h0, .int p1, .int p2].toArray below meth c H locs 0 0 (MQ below (va_Qi (fun (r : Int32) (u : th_i × th_r) => th_Mod [702, 707, 3000, 3100, 3200, 3300, 3400, 3600] τ gi gr u.1 u.2 ∧ (F_X11_most τ Z gi gr h0 p1 p2 = (r, u.1, u.2))) (fun (u : th_i × th_r) t => th_H D cA τ u.1 u.2 t.heap) (th_A τ s.heap.size)) [.ref h0, .int p1, .int p2].toArray s 0 0 (th_A τ s.heap.size)) (F0 m 43 ls []) := by
    intro gi_43 gr_43 H locs ls hH hS hM hl hF
    refine lv_aload_n hx hb dX11_most_43 rfl (lv_at hl 0 rfl) ?_
    refine lv_iconst (v := 1) hx hb dX11_most_44 ic_1 ?_
    have hA1 := th_Asub (τ := τ) hS
    refine va_calli (va_runV (As := [.int 1]) (rest := []) ⟨hx, hb, hml, hown, hts⟩ (k_X11_finding l D cA Z τ gi_43 gr_43 _ h0 t_h0 1) (cwV 1 hts gX11_most_X11_finding rfl rfl rfl hd_X11_finding__1 ⟨Nat.le_of_ble_eq_true rfl, Nat.le_of_ble_eq_true rfl⟩) ⟨th_blind, tr_11 hK hH t_h0, (th_pre hH hK hN hZ hS hA1)⟩ rfl rfl hl.1 rfl (lv_room (Nat.le_of_ble_eq_true rfl)) dX11_most_45 ⟨Nat.le_of_ble_eq_true rfl, Nat.le_of_ble_eq_true rfl⟩) hS (fun q _ h => hA1 q h) hA1 (fun x2 u t H locs ht hvm hw2 hB hz1 hk1 hS => ?_)
    try dsimp only at hw2 hB
    rw [ht] at hB
    have hH := hB
    obtain ⟨gi2, gr2⟩ := u
    try dsimp only at hw2 hH
    obtain rfl : gr_43 = gr2 := (hw2.2.1).symm
    have hM := hM.tr hw2.1 (fun _ h => h) (th_sub rfl)
    exact W.iret (v := x2) hx hb hr (fun t ht hW => ⟨⟨x2, (gi2, gr_43), rfl, ⟨hM, (hF.trans (by simp only [f_X11_most_43, hw2.2.2.1]))⟩, th_Ht ht hH⟩, hS.F ht⟩) hS.2.2 dX11_most_48
  have J22 : ∀ (gi_22 : th_i) (gr_22 : th_r) (H : Heap) (locs : List Loc) (ls : Array Slot) (y22_3 : Int32) (z22_0 : Int32), th_H D cA τ gi_22 gr_22 H → va_S (th_A τ s.heap.size) s.heap H locs → th_Mod [702, 707, 3000, 3100, 3200, 3300, 3400, 3600] τ gi gr gi_22 gr_22 → lv_has ls 5 [(0, .ref h0), (1, .int p1), (2, .int p2), (3, .int y22_3)] → rg 0 1 z22_0 → F_X11_most τ Z gi gr h0 p1 p2 = f_X11_most_22 τ Z gi gr h0 p1 p2 gi_22 gr_22 y22_3 z22_0 → W p l e (headSpec wsX11_most ({ frames := 11, cells := 0, slots := 0, locals := 295 })).room s m [.ref h0, .int p1, .int p2].toArray below meth c H locs 0 0 (MQ below (va_Qi (fun (r : Int32) (u : th_i × th_r) => th_Mod [702, 707, 3000, 3100, 3200, 3300, 3400, 3600] τ gi gr u.1 u.2 ∧ (F_X11_most τ Z gi gr h0 p1 p2 = (r, u.1, u.2))) (fun (u : th_i × th_r) t => th_H D cA τ u.1 u.2 t.heap) (th_A τ s.heap.size)) [.ref h0, .int p1, .int p2].toArray s 0 0 (th_A τ s.heap.size)) (F0 m 22 ls [.int z22_0]) := by
    intro gi_22 gr_22 H locs ls y22_3 z22_0 hH hS hM hl fz22_0 hF
    refine lv_istore (i := 4) (lv' := [(4, .int z22_0), (0, .ref h0), (1, .int p1), (2, .int p2), (3, .int y22_3)]) hx hb dX11_most_22 hl (th_ltN rfl) rfl (fun ls hl => ?_)
    refine lv_iload hx hb dX11_most_24 (lv_at hl 0 rfl) ?_
    refine lv_if_eq (tgt := 43) hx hb dX11_most_26 (th_eqI rfl) (fun c3 => ?_) (fun c3 => ?_)
    · skip
      have f4 : rg 0 0 z22_0 := rg_w (rg_eq fz22_0 rgc_0 c3).1 (th_leI rfl) (th_leI rfl)
      exact J43 gi_22 gr_22 _ _ _ hH hS hM (lv_sub hl [1] rfl) (hF.trans (by simp only [↓reduceIte, f_X11_most_22, eq_true c3]))
    · skip
      have f5 : rg 1 1 z22_0 := rg_w (rg_neL fz22_0 rgc_0 c3) (th_leI rfl) (th_leI rfl)
      refine lv_iload_n hx hb dX11_most_29 rfl (lv_at hl 4 rfl) ?_
      refine lv_iconst (v := 5) hx hb dX11_most_30 ic_5 ?_
      refine lv_icmp_gt (tgt := 43) hx hb dX11_most_31 (th_eqI rfl) (fun c6 => ?_) (fun c6 => ?_)
      · skip
        have f7 : rg 6 2147483647 y22_3 := rg_w (rg_lt rgc_5 (rg_any y22_3) c6).2 (th_leI rfl) (th_leI rfl)
        exact J43 gi_22 gr_22 _ _ _ hH hS hM (lv_sub hl [1] rfl) (hF.trans (by simp only [↓reduceIte, f_X11_most_22, eq_false c3, eq_true c6]))
      · skip
        have f8 : rg (-2147483648) 5 y22_3 := rg_w (rg_nlt rgc_5 (rg_any y22_3) c6).2 (th_leI rfl) (th_leI rfl)
        refine lv_iload_n hx hb dX11_most_34 rfl (lv_at hl 3 rfl) ?_
        refine lv_iconst (v := 0) hx hb dX11_most_35 ic_0 ?_
        refine lv_iload_n hx hb dX11_most_36 rfl (lv_at hl 4 rfl) ?_
        have hA9 := th_Asub (τ := τ) hS
        refine va_calli (va_runS (As := [.int p2, .int 0, .int y22_3]) (rest := []) ⟨hx, hb, hml, hown, hts⟩ (k_X11_within l D cA Z τ gi_22 gr_22 _ p2 0 y22_3) (va_cwS 3 hts gX11_most_X11_within rfl rfl rfl (by decide +kernel) ⟨Nat.le_of_ble_eq_true rfl, Nat.le_of_ble_eq_true rfl⟩) ⟨th_blind, (th_pre hH hK hN hZ hS hA9)⟩ rfl rfl hl.1 rfl (lv_room (Nat.le_of_ble_eq_true rfl)) dX11_most_37 ⟨Nat.le_of_ble_eq_true rfl, Nat.le_of_ble_eq_true rfl⟩) hS (fun q _ h => hA9 q h) hA9 (fun x10 u t H locs ht hvm hw10 hB hz1 hk1 hS => ?_)
        try dsimp only at hw10 hB
        rw [ht] at hB
        have hH := hB
        refine lv_if_ne (tgt := 49) hx hb dX11_most_40 (th_eqI rfl) (fun c11 => ?_) (fun c11 => ?_)
        · skip
          have f12 : rg 1 1 x10 := rg_w (rg_neL hw10.1 rgc_0 c11) (th_leI rfl) (th_leI rfl)
          have g13 := hw10.2.1 c11
          have f14 : rg 0 2147483647 p2 := rg_w (rg_le rgc_0 (rg_any p2) g13.1).2 (th_leI rfl) (th_leI rfl)
          have f15 : rg 0 5 p2 := rg_w (rg_le f14 f8 g13.2).1 (th_leI rfl) (th_leI rfl)
          have f16 : rg 0 5 y22_3 := rg_w (rg_le f15 f8 g13.2).2 (th_leI rfl) (th_leI rfl)
          refine lv_aload_n hx hb dX11_most_49 rfl (lv_at hl 1 rfl) ?_
          obtain ⟨q17, r17, t17⟩ : ∃ q, gr_22 h0 0 = some q ∧ τ q = 1 := (thI_11 hH t_h0).1
          refine th_get (ci := 10) (v := .ref q17) (T := TX11) (C := RX11) (N := 10) hx hb hts (fun w h => List.mem_cons_of_mem _ (List.mem_append_left _ (List.mem_append_left _ (List.mem_append_left _ (List.mem_append_left _ (List.mem_append_left _ (List.mem_append_left _ (List.mem_append_left _ (List.mem_append_right _ h))))))))) hown hK hH t_h0 (th_nz rfl) (thE_11 _ _ _) rfl 0 (th_ltN rfl) (hts (.fieldLink RX11 10 "BayMoorings" "bay" "LBayMoorings$Bay;") (List.mem_cons_of_mem _ (List.mem_append_left _ (List.mem_append_left _ (List.mem_append_left _ (List.mem_append_left _ (List.mem_append_left _ (List.mem_append_left _ (List.mem_append_left _ (List.mem_append_left _ (List.mem_append_left _ (List.mem_of_getElem? (i := 0) rfl)))))))))))) (fun _ h9 => h9) (th_fR r17 rfl) dX11_most_50 ?_
          refine lv_iload_n hx hb dX11_most_53 rfl (lv_at hl 2 rfl) ?_
          have hA18 := th_Asub (τ := τ) hS
          refine va_calli (va_runV (As := [.int p1]) (rest := []) ⟨hx, hb, hml, hown, hts⟩ (k_X0_anyLies l D cA Z τ gi_22 gr_22 _ q17 t17 p1) (cwV 1 hts gX11_most_X0_anyLies rfl rfl rfl hd_X0_anyLies__1 ⟨Nat.le_of_ble_eq_true rfl, Nat.le_of_ble_eq_true rfl⟩) ⟨th_blind, tr_1 hK hH t17, (th_pre hH hK hN hZ hS hA18)⟩ rfl rfl hl.1 rfl (lv_room (Nat.le_of_ble_eq_true rfl)) dX11_most_54 ⟨Nat.le_of_ble_eq_true rfl, Nat.le_of_ble_eq_true rfl⟩) hS (fun q _ h => hA18 q h) hA18 (fun x19 u t H locs ht hvm hw19 hB hz1 hk1 hS => ?_)
          try dsimp only at hw19 hB
          rw [ht] at hB
          have hH := hB
          refine lv_if_eq (tgt := 66) hx hb dX11_most_57 (th_eqI rfl) (fun c20 => ?_) (fun c20 => ?_)
          · skip
            have f21 : rg 0 0 x19 := rg_w (rg_eq hw19.1 rgc_0 c20).1 (th_leI rfl) (th_leI rfl)
            refine lv_aload_n hx hb dX11_most_66 rfl (lv_at hl 1 rfl) ?_
            obtain ⟨q22, r22, t22⟩ : ∃ q, gr_22 h0 2 = some q ∧ τ q = 7 := (thI_11 hH t_h0).2.2.1
            refine th_get (ci := 10) (v := .ref q22) (T := TX11) (C := RX11) (N := 10) hx hb hts (fun w h => List.mem_cons_of_mem _ (List.mem_append_left _ (List.mem_append_left _ (List.mem_append_left _ (List.mem_append_left _ (List.mem_append_left _ (List.mem_append_left _ (List.mem_append_left _ (List.mem_append_right _ h))))))))) hown hK hH t_h0 (th_nz rfl) (thE_11 _ _ _) rfl 2 (th_ltN rfl) (hts (.fieldLink RX11 28 "BayMoorings" "search" "LBayMoorings$Search;") (List.mem_cons_of_mem _ (List.mem_append_left _ (List.mem_append_left _ (List.mem_append_left _ (List.mem_append_left _ (List.mem_append_left _ (List.mem_append_left _ (List.mem_append_left _ (List.mem_append_left _ (List.mem_append_left _ (List.mem_of_getElem? (i := 2) rfl)))))))))))) (fun _ h9 => h9) (th_fR r22 rfl) dX11_most_67 ?_
            refine lv_iload_n hx hb dX11_most_70 rfl (lv_at hl 2 rfl) ?_
            have hA23 := th_Asub (τ := τ) hS
            refine va_callv (va_runV (As := [.int p1]) (rest := []) ⟨hx, hb, hml, hown, hts⟩ (k_X7_run l D cA Z τ gi_22 gr_22 _ q22 t22 p1) (cwV 1 hts gX11_most_X7_run rfl rfl rfl hd_X7_run__1 ⟨Nat.le_of_ble_eq_true rfl, Nat.le_of_ble_eq_true rfl⟩) ⟨th_blind, tr_7 hK hH t22, (th_pre hH hK hN hZ hS hA23)⟩ rfl rfl hl.1 rfl (lv_room (Nat.le_of_ble_eq_true rfl)) dX11_most_71 ⟨Nat.le_of_ble_eq_true rfl, Nat.le_of_ble_eq_true rfl⟩) hS (fun q _ h => hA23 q h) hA23 (fun  u t H locs ht hvm hw24 hB hz1 hk1 hS => ?_)
            try dsimp only at hw24 hB
            rw [ht] at hB
            have hH := hB
            obtain ⟨gi24, gr24⟩ := u
            try dsimp only at hw24 hH
            have hM := hM.tr hw24.1 (fun _ h => h) (th_sub rfl)
            have r25 : gr24 h0 0 = some q17 := Eq.trans (hw24.1 h0 0 (th_nzE t_h0 rfl) (th_nmE (key := 1100) t_h0 rfl rfl)).2 r17
            have r26 : gr24 h0 2 = some q22 := Eq.trans (hw24.1 h0 2 (th_nzE t_h0 rfl) (th_nmE (key := 1102) t_h0 rfl rfl)).2 r22
            refine lv_iload_n hx hb dX11_most_74 rfl (lv_at hl 3 rfl) ?_
            refine lv_if_ne (tgt := 88) hx hb dX11_most_75 (th_eqI rfl) (fun c27 => ?_) (fun c27 => ?_)
            · skip
              have f28 : rg 1 5 p2 := rg_w (rg_neL f15 rgc_0 c27) (th_leI rfl) (th_leI rfl)
              refine lv_aload_n hx hb dX11_most_88 rfl (lv_at hl 1 rfl) ?_
              refine th_get (ci := 10) (v := .ref q22) (T := TX11) (C := RX11) (N := 10) hx hb hts (fun w h => List.mem_cons_of_mem _ (List.mem_append_left _ (List.mem_append_left _ (List.mem_append_left _ (List.mem_append_left _ (List.mem_append_left _ (List.mem_append_left _ (List.mem_append_left _ (List.mem_append_right _ h))))))))) hown hK hH t_h0 (th_nz rfl) (thE_11 _ _ _) rfl 2 (th_ltN rfl) (hts (.fieldLink RX11 28 "BayMoorings" "search" "LBayMoorings$Search;") (List.mem_cons_of_mem _ (List.mem_append_left _ (List.mem_append_left _ (List.mem_append_left _ (List.mem_append_left _ (List.mem_append_left _ (List.mem_append_left _ (List.mem_append_left _ (List.mem_append_left _ (List.mem_append_left _ (List.mem_of_getElem? (i := 2) rfl)))))))))))) (fun _ h9 => h9) (th_fR r26 rfl) dX11_most_89 ?_
              refine lv_iload_n hx hb dX11_most_92 rfl (lv_at hl 3 rfl) ?_
              refine lv_iconst (v := 1) hx hb dX11_most_93 ic_1 ?_
              refine lv_isub hx hb dX11_most_94 ?_
              refine lv_topi (fun x30 e30 => ?_)
              have f30 : rg 0 4 x30 := rg_e e30 (rg_w (rg_sub f28 rgc_1 (th_leI rfl) (th_leI rfl)) (th_leI rfl) (th_leI rfl))
              have hA31 := th_Asub (τ := τ) hS
              refine va_calli (va_runV (As := [.int x30]) (rest := []) ⟨hx, hb, hml, hown, hts⟩ (k_X7_buoyFor l D cA Z τ gi24 gr24 _ q22 t22 x30) (cwV 1 hts gX11_most_X7_buoyFor rfl rfl rfl hd_X7_buoyFor__1 ⟨Nat.le_of_ble_eq_true rfl, Nat.le_of_ble_eq_true rfl⟩) ⟨th_blind, tr_7 hK hH t22, (th_pre hH hK hN hZ hS hA31)⟩ rfl rfl hl.1 rfl (lv_room (Nat.le_of_ble_eq_true rfl)) dX11_most_95 ⟨Nat.le_of_ble_eq_true rfl, Nat.le_of_ble_eq_true rfl⟩) hS (fun q _ h => hA31 q h) hA31 (fun x32 u t H locs ht hvm hw32 hB hz1 hk1 hS => ?_)
              try dsimp only at hw32 hB
              rw [ht] at hB
              have hH := hB
              exact W.iret (v := x32) hx hb hr (fun t ht hW => ⟨⟨x32, (gi24, gr24), rfl, ⟨hM, (hF.trans (by simp only [↓reduceIte, f_X11_most_22, eq_false c3, eq_false c6, hw10.2.2.1, eq_false c11, r17, Option.getD_some, hw19.2, eq_true c20, r22, hw24.2, eq_false c27, ← e30, hw32]))⟩, th_Ht ht hH⟩, hS.F ht⟩) hS.2.2 dX11_most_98
            · skip
              have f33 : rg 0 0 p2 := rg_w (rg_eq f15 rgc_0 c27).1 (th_leI rfl) (th_leI rfl)
              refine lv_aload_n hx hb dX11_most_78 rfl (lv_at hl 1 rfl) ?_
              refine th_get (ci := 10) (v := .ref q22) (T := TX11) (C := RX11) (N := 10) hx hb hts (fun w h => List.mem_cons_of_mem _ (List.mem_append_left _ (List.mem_append_left _ (List.mem_append_left _ (List.mem_append_left _ (List.mem_append_left _ (List.mem_append_left _ (List.mem_append_left _ (List.mem_append_right _ h))))))))) hown hK hH t_h0 (th_nz rfl) (thE_11 _ _ _) rfl 2 (th_ltN rfl) (hts (.fieldLink RX11 28 "BayMoorings" "search" "LBayMoorings$Search;") (List.mem_cons_of_mem _ (List.mem_append_left _ (List.mem_append_left _ (List.mem_append_left _ (List.mem_append_left _ (List.mem_append_left _ (List.mem_append_left _ (List.mem_append_left _ (List.mem_append_left _ (List.mem_append_left _ (List.mem_of_getElem? (i := 2) rfl)))))))))))) (fun _ h9 => h9) (th_fR r26 rfl) dX11_most_79 ?_
              obtain ⟨x35, e35⟩ : ∃ y : Int32, y = gi24 q22 7 := ⟨_, rfl⟩
              refine th_get (ci := 6) (v := .int x35) (T := TX7) (C := RX7) (N := 8) hx hb hts (fun w h => List.mem_cons_of_mem _ (List.mem_append_left _ (List.mem_append_left _ (List.mem_append_left _ (List.mem_append_left _ (List.mem_append_left _ (List.mem_append_right _ h))))))) hown hK hH t22 (th_nz rfl) (thE_7 _ _ _) rfl 7 (th_ltN rfl) (hts (.fieldLink RX11 207 "BayMoorings$Search" "bestCount" "I") (List.mem_cons_of_mem _ (List.mem_append_left _ (List.mem_append_left _ (List.mem_append_left _ (List.mem_append_left _ (List.mem_append_left _ (List.mem_append_left _ (List.mem_append_left _ (List.mem_append_left _ (List.mem_append_left _ (List.mem_of_getElem? (i := 3) rfl)))))))))))) (fun _ h9 => h9) (th_fI e35 rfl) dX11_most_82 ?_
              refine lv_goto (tgt := 98) hx hb dX11_most_85 (th_eqI rfl) ?_
              exact W.iret (v := x35) hx hb hr (fun t ht hW => ⟨⟨x35, (gi24, gr24), rfl, ⟨hM, (hF.trans (by simp only [↓reduceIte, f_X11_most_22, eq_false c3, eq_false c6, hw10.2.2.1, eq_false c11, r17, Option.getD_some, hw19.2, eq_true c20, r22, hw24.2, eq_true c27, ← e35]))⟩, th_Ht ht hH⟩, hS.F ht⟩) hS.2.2 dX11_most_98
          · skip
            have f36 : rg 1 1 x19 := rg_w (rg_neL hw19.1 rgc_0 c20) (th_leI rfl) (th_leI rfl)
            refine lv_aload_n hx hb dX11_most_60 rfl (lv_at hl 1 rfl) ?_
            refine lv_iconst (v := 3) hx hb dX11_most_61 ic_3 ?_
            have hA37 := th_Asub (τ := τ) hS
            refine va_calli (va_runV (As := [.int 3]) (rest := []) ⟨hx, hb, hml, hown, hts⟩ (k_X11_finding l D cA Z τ gi_22 gr_22 _ h0 t_h0 3) (cwV 1 hts gX11_most_X11_finding rfl rfl rfl hd_X11_finding__1 ⟨Nat.le_of_ble_eq_true rfl, Nat.le_of_ble_eq_true rfl⟩) ⟨th_blind, tr_11 hK hH t_h0, (th_pre hH hK hN hZ hS hA37)⟩ rfl rfl hl.1 rfl (lv_room (Nat.le_of_ble_eq_true rfl)) dX11_most_62 ⟨Nat.le_of_ble_eq_true rfl, Nat.le_of_ble_eq_true rfl⟩) hS (fun q _ h => hA37 q h) hA37 (fun x38 u t H locs ht hvm hw38 hB hz1 hk1 hS => ?_)
            try dsimp only at hw38 hB
            rw [ht] at hB
            have hH := hB
            obtain ⟨gi38, gr38⟩ := u
            try dsimp only at hw38 hH
            obtain rfl : gr_22 = gr38 := (hw38.2.1).symm
            have hM := hM.tr hw38.1 (fun _ h => h) (th_sub rfl)
            exact W.iret (v := x38) hx hb hr (fun t ht hW => ⟨⟨x38, (gi38, gr_22), rfl, ⟨hM, (hF.trans (by simp only [↓reduceIte, f_X11_most_22, eq_false c3, eq_false c6, hw10.2.2.1, eq_false c11, r17, Option.getD_some, hw19.2, eq_false c20, hw38.2.2.1]))⟩, th_Ht ht hH⟩, hS.F ht⟩) hS.2.2 dX11_most_65
        · skip
          have f39 : rg 0 0 x10 := rg_w (rg_eq hw10.1 rgc_0 c11).1 (th_leI rfl) (th_leI rfl)
          exact J43 gi_22 gr_22 _ _ _ hH hS hM (lv_sub hl [1] rfl) (hF.trans (by simp only [↓reduceIte, f_X11_most_22, eq_false c3, eq_false c6, hw10.2.2.1, eq_true c11]))
  have hS : va_S (th_A τ s.heap.size) s.heap s.heap [] := va_S.rf
  have hl := lv_entry ([.ref h0, .int p1, .int p2]) (n := 5) (Nat.le_of_ble_eq_true rfl)
  rw [lg_entry_eq]
  generalize (lg_sl ([.ref h0, .int p1, .int p2]) ++ List.replicate (5 - (lg_sl ([.ref h0, .int p1, .int p2])).length) Slot.unset).toArray = ls at hl ⊢
  have hl : lv_has ls 5 [(0, .ref h0), (1, .int p1), (2, .int p2)] := hl
  have hF : F_X11_most τ Z gi gr h0 p1 p2 = F_X11_most τ Z gi gr h0 p1 p2 := rfl
  refine lv_iload_n hx hb dX11_most_0 rfl (lv_at hl 1 rfl) ?_
  have hA40 := th_Asub (τ := τ) hS
  refine va_calli (va_runS (As := [.int p1]) (rest := []) ⟨hx, hb, hml, hown, hts⟩ (k_J6_bitCount_0f7a4 l D cA Z τ gi gr _ p1) (va_cwS 1 hts gX11_most_J6_bitCount_0f7a4 rfl rfl rfl (by decide +kernel) ⟨Nat.le_of_ble_eq_true rfl, Nat.le_of_ble_eq_true rfl⟩) ⟨th_blind, (th_pre hH hK hN hZ hS hA40)⟩ rfl rfl hl.1 rfl (lv_room (Nat.le_of_ble_eq_true rfl)) dX11_most_1 ⟨Nat.le_of_ble_eq_true rfl, Nat.le_of_ble_eq_true rfl⟩) hS (fun q _ h => hA40 q h) hA40 (fun x41 u t H locs ht hvm hw41 hB hz1 hk1 hS => ?_)
  try dsimp only at hw41 hB
  rw [ht] at hB
  have hH := hB
  refine lv_istore_n (i := 3) (lv' := [(3, .int x41), (0, .ref h0), (1, .int p1), (2, .int p2)]) hx hb dX11_most_4 rfl hl (th_ltN rfl) rfl (fun ls hl => ?_)
  refine lv_iload_n hx hb dX11_most_5 rfl (lv_at hl 2 rfl) ?_
  refine lv_aload_n hx hb dX11_most_6 rfl (lv_at hl 1 rfl) ?_
  obtain ⟨q42, r42, t42⟩ : ∃ q, gr h0 0 = some q ∧ τ q = 1 := (thI_11 hH t_h0).1
  refine th_get (ci := 10) (v := .ref q42) (T := TX11) (C := RX11) (N := 10) hx hb hts (fun w h => List.mem_cons_of_mem _ (List.mem_append_left _ (List.mem_append_left _ (List.mem_append_left _ (List.mem_append_left _ (List.mem_append_left _ (List.mem_append_left _ (List.mem_append_left _ (List.mem_append_right _ h))))))))) hown hK hH t_h0 (th_nz rfl) (thE_11 _ _ _) rfl 0 (th_ltN rfl) (hts (.fieldLink RX11 10 "BayMoorings" "bay" "LBayMoorings$Bay;") (List.mem_cons_of_mem _ (List.mem_append_left _ (List.mem_append_left _ (List.mem_append_left _ (List.mem_append_left _ (List.mem_append_left _ (List.mem_append_left _ (List.mem_append_left _ (List.mem_append_left _ (List.mem_append_left _ (List.mem_of_getElem? (i := 0) rfl)))))))))))) (fun _ h9 => h9) (th_fR r42 rfl) dX11_most_7 ?_
  obtain ⟨x43, e43⟩ : ∃ y : Int32, y = gi q42 6 := ⟨_, rfl⟩
  refine th_get (ci := 0) (v := .int x43) (T := TX0) (C := RX0) (N := 9) hx hb hts (fun w h => List.mem_cons_of_mem _ (List.mem_append_left _ (List.mem_append_left _ (List.mem_append_left _ (List.mem_append_left _ (List.mem_append_left _ (List.mem_append_left _ (List.mem_append_right _ h)))))))) hown hK hH t42 (th_nz rfl) (thE_1 _ _ _) rfl 6 (th_ltN rfl) (hts (.fieldLink RX11 83 "BayMoorings$Bay" "boatCount" "I") (List.mem_cons_of_mem _ (List.mem_append_left _ (List.mem_append_left _ (List.mem_append_left _ (List.mem_append_left _ (List.mem_append_left _ (List.mem_append_left _ (List.mem_append_left _ (List.mem_append_left _ (List.mem_append_left _ (List.mem_of_getElem? (i := 1) rfl)))))))))))) (fun _ h9 => h9) (th_fI e43 rfl) dX11_most_10 ?_
  have f43 : rg 0 16 x43 := rg_e e43 ((thI_1 hH t42).2.2.2.2.2.2)
  refine lv_iushr hx hb dX11_most_13 rfl ?_
  refine lv_topi (fun x44 e44 => ?_)
  refine lv_if_ne (tgt := 21) hx hb dX11_most_14 (th_eqI rfl) (fun c45 => ?_) (fun c45 => ?_)
  · skip
    refine lv_iconst (v := 0) hx hb dX11_most_21 ic_0 ?_
    exact J22 gi gr _ _ _ x41 0 hH hS hM (lv_sub hl [1, 2, 3, 0] rfl) (rg_w rgc_0 (th_leI rfl) (th_leI rfl)) (hF.trans (by simp only [↓reduceIte, F_X11_most, hw41, r42, Option.getD_some, ← e43, ← e44, eq_false c45]))
  · skip
    have f46 : rg 0 0 x44 := rg_w (rg_eq (rg_any x44) rgc_0 c45).1 (th_leI rfl) (th_leI rfl)
    refine lv_iconst (v := 1) hx hb dX11_most_17 ic_1 ?_
    refine lv_goto (tgt := 22) hx hb dX11_most_18 (th_eqI rfl) ?_
    exact J22 gi gr _ _ _ x41 1 hH hS hM (lv_sub hl [1, 2, 3, 0] rfl) (rg_w rgc_1 (th_leI rfl) (th_leI rfl)) (hF.trans (by simp only [↓reduceIte, F_X11_most, hw41, r42, Option.getD_some, ← e43, ← e44, eq_true c45]))

noncomputable def F_X11_count (τ : th_t) (Z : th_Zt) (gi : th_i) (gr : th_r) (h0 : Nat) (p1 : Int32) : Int32 × th_i :=
  if p1.toInt < 0 then (
    let u3 : Int32 × th_i := F_X11_finding τ Z gi gr h0 1
    let x3 : Int32 := u3.1
    let gi3 : th_i := u3.2
    (x3, gi3)) else (
    if 6 < p1.toInt then (
      let u5 : Int32 × th_i := F_X11_finding τ Z gi gr h0 1
      let x5 : Int32 := u5.1
      let gi5 : th_i := u5.2
      (x5, gi5)) else (
      if p1.toInt = 0 then (
        let q7 : Nat := (gr h0 0).getD 0
        let x8 : Int32 := gi q7 5
        (x8, gi)) else (
        if p1.toInt = 1 then (
          let q10 : Nat := (gr h0 0).getD 0
          let x11 : Int32 := gi q10 6
          (x11, gi)) else (
          if p1.toInt = 2 then (
            let q13 : Nat := (gr h0 0).getD 0
            let x15 : Int32 := F_X0_lyingBoats τ Z gi gr q13
            (x15, gi)) else (
            if p1.toInt = 3 then (
              let q17 : Nat := (gr h0 1).getD 0
              let x18 : Int32 := gi q17 2
              (x18, gi)) else (
              if p1.toInt = 4 then (
                let x20 : Int32 := gi h0 7
                (x20, gi)) else (
                if p1.toInt = 5 then (
                  let q22 : Nat := (gr h0 0).getD 0
                  let x24 : Int32 := F_X0_partedChains τ Z gi gr q22
                  (x24, gi)) else (
                  if p1.toInt = 6 then (
                    let q26 : Nat := (gr h0 0).getD 0
                    let x27 : Int32 := gi q26 7
                    let x29 : Int32 := F_J6_bitCount_0f7a4 τ Z gi gr x27
                    (x29, gi)) else (
                    (0, gi))))))))))
set_option maxHeartbeats 8000000 in
set_option maxRecDepth 100000 in
theorem k_X11_count (l : Launch) (D : va_G) (cA : Nat → ClassId) (Z : th_Zt) (τ : th_t) (gi : th_i) (gr : th_r) (sz : Nat) (h0 : Nat) (t_h0 : τ h0 = 11) (p1 : Int32) : Met l yX11_count wsX11_count ({ frames := 3, cells := 0, slots := 0, locals := 66 }) (va_Pc [.ref h0, .int p1] (th_Pre D cA Z τ gi gr sz)) (va_Qi (fun (r : Int32) (u : th_i × th_r) => th_Mod [3600] τ gi gr u.1 u.2 ∧ u.2 = gr ∧ (F_X11_count τ Z gi gr h0 p1 = (r, u.1))) (fun (u : th_i × th_r) t => th_H D cA τ u.1 u.2 t.heap) (th_A τ sz)) 0 0 (th_A τ sz) := by
  refine Met.ofW (cc := cX11_count) (maxL := 2) (ret := (some .int)) (by decide) rfl ?_
  intro p e s m args below meth c s₁ B hml hv
  obtain ⟨rfl, hsz, hH, hK, hN, hZ⟩ := hv
  have hx := B.exec
  have hb := B.bytes
  have hr := B.returns
  have hts := atoms_spec (ws := wsX11_count) B.pre
  have hown : s.vm.findClass RX11 = some m.cls := findClass_of_methodNamed B.named
  have hlocks := B.notSynchronized
  subst hsz
  have hM : th_Mod [3600] τ gi gr gi gr := th_Mod.rf
  have hS : va_S (th_A τ s.heap.size) s.heap s.heap [] := va_S.rf
  have hl := lv_entry ([.ref h0, .int p1]) (n := 2) (Nat.le_of_ble_eq_true rfl)
  rw [lg_entry_eq]
  generalize (lg_sl ([.ref h0, .int p1]) ++ List.replicate (2 - (lg_sl ([.ref h0, .int p1])).length) Slot.unset).toArray = ls at hl ⊢
  have hl : lv_has ls 2 [(0, .ref h0), (1, .int p1)] := hl
  have hF : F_X11_count τ Z gi gr h0 p1 = F_X11_count τ Z gi gr h0 p1 := rfl
  refine lv_iload_n hx hb dX11_count_0 rfl (lv_at hl 1 rfl) ?_
  rcases Int.lt_or_le p1.toInt 0 with z1 | z1
  · refine lv_tableOut (tgt := 100) hx hb dX11_count_1 (Or.inl z1) (th_eqI rfl) ?_
    refine lv_aload_n hx hb dX11_count_100 rfl (lv_at hl 0 rfl) ?_
    refine lv_iconst (v := 1) hx hb dX11_count_101 ic_1 ?_
    have hA2 := th_Asub (τ := τ) hS
    refine va_calli (va_runV (As := [.int 1]) (rest := []) ⟨hx, hb, hml, hown, hts⟩ (k_X11_finding l D cA Z τ gi gr _ h0 t_h0 1) (cwV 1 hts gX11_count_X11_finding rfl rfl rfl hd_X11_finding__1 ⟨Nat.le_of_ble_eq_true rfl, Nat.le_of_ble_eq_true rfl⟩) ⟨th_blind, tr_11 hK hH t_h0, (th_pre hH hK hN hZ hS hA2)⟩ rfl rfl hl.1 rfl (lv_room (Nat.le_of_ble_eq_true rfl)) dX11_count_102 ⟨Nat.le_of_ble_eq_true rfl, Nat.le_of_ble_eq_true rfl⟩) hS (fun q _ h => hA2 q h) hA2 (fun x3 u t H locs ht hvm hw3 hB hz1 hk1 hS => ?_)
    try dsimp only at hw3 hB
    rw [ht] at hB
    have hH := hB
    obtain ⟨gi3, gr3⟩ := u
    try dsimp only at hw3 hH
    obtain rfl : gr = gr3 := (hw3.2.1).symm
    have hM := hM.tr hw3.1 (fun _ h => h) (th_sub rfl)
    exact W.iret (v := x3) hx hb hr (fun t ht hW => ⟨⟨x3, (gi3, gr), rfl, ⟨hM, rfl, (hF.trans (by simp only [↓reduceIte, F_X11_count, eq_true z1, hw3.2.2.1]))⟩, th_Ht ht hH⟩, hS.F ht⟩) hS.2.2 dX11_count_105
  rcases Int.lt_or_le 6 p1.toInt with y1 | y1
  · refine lv_tableOut (tgt := 100) hx hb dX11_count_1 (Or.inr y1) (th_eqI rfl) ?_
    refine lv_aload_n hx hb dX11_count_100 rfl (lv_at hl 0 rfl) ?_
    refine lv_iconst (v := 1) hx hb dX11_count_101 ic_1 ?_
    have hA4 := th_Asub (τ := τ) hS
    refine va_calli (va_runV (As := [.int 1]) (rest := []) ⟨hx, hb, hml, hown, hts⟩ (k_X11_finding l D cA Z τ gi gr _ h0 t_h0 1) (cwV 1 hts gX11_count_X11_finding rfl rfl rfl hd_X11_finding__1 ⟨Nat.le_of_ble_eq_true rfl, Nat.le_of_ble_eq_true rfl⟩) ⟨th_blind, tr_11 hK hH t_h0, (th_pre hH hK hN hZ hS hA4)⟩ rfl rfl hl.1 rfl (lv_room (Nat.le_of_ble_eq_true rfl)) dX11_count_102 ⟨Nat.le_of_ble_eq_true rfl, Nat.le_of_ble_eq_true rfl⟩) hS (fun q _ h => hA4 q h) hA4 (fun x5 u t H locs ht hvm hw5 hB hz1 hk1 hS => ?_)
    try dsimp only at hw5 hB
    rw [ht] at hB
    have hH := hB
    obtain ⟨gi5, gr5⟩ := u
    try dsimp only at hw5 hH
    obtain rfl : gr = gr5 := (hw5.2.1).symm
    have hM := hM.tr hw5.1 (fun _ h => h) (th_sub rfl)
    exact W.iret (v := x5) hx hb hr (fun t ht hW => ⟨⟨x5, (gi5, gr), rfl, ⟨hM, rfl, (hF.trans (by simp only [↓reduceIte, F_X11_count, eq_false (Int.not_lt.mpr z1), eq_true y1, hw5.2.2.1]))⟩, th_Ht ht hH⟩, hS.F ht⟩) hS.2.2 dX11_count_105
  rcases (show p1.toInt = 0 ∨ p1.toInt = 1 ∨ p1.toInt = 2 ∨ p1.toInt = 3 ∨ p1.toInt = 4 ∨ p1.toInt = 5 ∨ p1.toInt = 6 by omega) with w1 | w1 | w1 | w1 | w1 | w1 | w1
  · refine lv_tableIn (tgt := 44) hx hb dX11_count_1 (by omega) (by omega) (by rw [w1]; rfl) (th_eqI rfl) ?_
    have f6 : rg 0 0 p1 := ⟨by omega, by omega⟩
    refine lv_aload_n hx hb dX11_count_44 rfl (lv_at hl 0 rfl) ?_
    obtain ⟨q7, r7, t7⟩ : ∃ q, gr h0 0 = some q ∧ τ q = 1 := (thI_11 hH t_h0).1
    refine th_get (ci := 10) (v := .ref q7) (T := TX11) (C := RX11) (N := 10) hx hb hts (fun w h => List.mem_cons_of_mem _ (List.mem_append_left _ (List.mem_append_left _ (List.mem_append_left _ (List.mem_append_left _ (List.mem_append_right _ h)))))) hown hK hH t_h0 (th_nz rfl) (thE_11 _ _ _) rfl 0 (th_ltN rfl) (hts (.fieldLink RX11 10 "BayMoorings" "bay" "LBayMoorings$Bay;") (List.mem_cons_of_mem _ (List.mem_append_left _ (List.mem_append_left _ (List.mem_append_left _ (List.mem_append_left _ (List.mem_append_left _ (List.mem_append_left _ (List.mem_of_getElem? (i := 0) rfl))))))))) (fun _ h9 => h9) (th_fR r7 rfl) dX11_count_45 ?_
    obtain ⟨x8, e8⟩ : ∃ y : Int32, y = gi q7 5 := ⟨_, rfl⟩
    refine th_get (ci := 0) (v := .int x8) (T := TX0) (C := RX0) (N := 9) hx hb hts (fun w h => List.mem_cons_of_mem _ (List.mem_append_left _ (List.mem_append_left _ (List.mem_append_left _ (List.mem_append_right _ h))))) hown hK hH t7 (th_nz rfl) (thE_1 _ _ _) rfl 5 (th_ltN rfl) (hts (.fieldLink RX11 72 "BayMoorings$Bay" "buoyCount" "I") (List.mem_cons_of_mem _ (List.mem_append_left _ (List.mem_append_left _ (List.mem_append_left _ (List.mem_append_left _ (List.mem_append_left _ (List.mem_append_left _ (List.mem_of_getElem? (i := 1) rfl))))))))) (fun _ h9 => h9) (th_fI e8 rfl) dX11_count_48 ?_
    have f8 : rg 0 12 x8 := rg_e e8 ((thI_1 hH t7).2.2.2.2.2.1)
    exact W.iret (v := x8) hx hb hr (fun t ht hW => ⟨⟨x8, (gi, gr), rfl, ⟨hM, rfl, (hF.trans (by simp only [↓reduceIte, F_X11_count, eq_false (Int.not_lt.mpr z1), eq_false (Int.not_lt.mpr y1), eq_true w1, r7, Option.getD_some, ← e8]))⟩, th_Ht ht hH⟩, hS.F ht⟩) hS.2.2 dX11_count_51
  · refine lv_tableIn (tgt := 52) hx hb dX11_count_1 (by omega) (by omega) (by rw [w1]; rfl) (th_eqI rfl) ?_
    have f9 : rg 1 1 p1 := ⟨by omega, by omega⟩
    refine lv_aload_n hx hb dX11_count_52 rfl (lv_at hl 0 rfl) ?_
    obtain ⟨q10, r10, t10⟩ : ∃ q, gr h0 0 = some q ∧ τ q = 1 := (thI_11 hH t_h0).1
    refine th_get (ci := 10) (v := .ref q10) (T := TX11) (C := RX11) (N := 10) hx hb hts (fun w h => List.mem_cons_of_mem _ (List.mem_append_left _ (List.mem_append_left _ (List.mem_append_left _ (List.mem_append_left _ (List.mem_append_right _ h)))))) hown hK hH t_h0 (th_nz rfl) (thE_11 _ _ _) rfl 0 (th_ltN rfl) (hts (.fieldLink RX11 10 "BayMoorings" "bay" "LBayMoorings$Bay;") (List.mem_cons_of_mem _ (List.mem_append_left _ (List.mem_append_left _ (List.mem_append_left _ (List.mem_append_left _ (List.mem_append_left _ (List.mem_append_left _ (List.mem_of_getElem? (i := 0) rfl))))))))) (fun _ h9 => h9) (th_fR r10 rfl) dX11_count_53 ?_
    obtain ⟨x11, e11⟩ : ∃ y : Int32, y = gi q10 6 := ⟨_, rfl⟩
    refine th_get (ci := 0) (v := .int x11) (T := TX0) (C := RX0) (N := 9) hx hb hts (fun w h => List.mem_cons_of_mem _ (List.mem_append_left _ (List.mem_append_left _ (List.mem_append_left _ (List.mem_append_right _ h))))) hown hK hH t10 (th_nz rfl) (thE_1 _ _ _) rfl 6 (th_ltN rfl) (hts (.fieldLink RX11 83 "BayMoorings$Bay" "boatCount" "I") (List.mem_cons_of_mem _ (List.mem_append_left _ (List.mem_append_left _ (List.mem_append_left _ (List.mem_append_left _ (List.mem_append_left _ (List.mem_append_left _ (List.mem_of_getElem? (i := 2) rfl))))))))) (fun _ h9 => h9) (th_fI e11 rfl) dX11_count_56 ?_
    have f11 : rg 0 16 x11 := rg_e e11 ((thI_1 hH t10).2.2.2.2.2.2)
    exact W.iret (v := x11) hx hb hr (fun t ht hW => ⟨⟨x11, (gi, gr), rfl, ⟨hM, rfl, (hF.trans (by simp only [↓reduceIte, F_X11_count, eq_false (Int.not_lt.mpr z1), eq_false (Int.not_lt.mpr y1), eq_false (show ¬ p1.toInt = 0 by omega), eq_true w1, r10, Option.getD_some, ← e11]))⟩, th_Ht ht hH⟩, hS.F ht⟩) hS.2.2 dX11_count_59
  · refine lv_tableIn (tgt := 60) hx hb dX11_count_1 (by omega) (by omega) (by rw [w1]; rfl) (th_eqI rfl) ?_
    have f12 : rg 2 2 p1 := ⟨by omega, by omega⟩
    refine lv_aload_n hx hb dX11_count_60 rfl (lv_at hl 0 rfl) ?_
    obtain ⟨q13, r13, t13⟩ : ∃ q, gr h0 0 = some q ∧ τ q = 1 := (thI_11 hH t_h0).1
    refine th_get (ci := 10) (v := .ref q13) (T := TX11) (C := RX11) (N := 10) hx hb hts (fun w h => List.mem_cons_of_mem _ (List.mem_append_left _ (List.mem_append_left _ (List.mem_append_left _ (List.mem_append_left _ (List.mem_append_right _ h)))))) hown hK hH t_h0 (th_nz rfl) (thE_11 _ _ _) rfl 0 (th_ltN rfl) (hts (.fieldLink RX11 10 "BayMoorings" "bay" "LBayMoorings$Bay;") (List.mem_cons_of_mem _ (List.mem_append_left _ (List.mem_append_left _ (List.mem_append_left _ (List.mem_append_left _ (List.mem_append_left _ (List.mem_append_left _ (List.mem_of_getElem? (i := 0) rfl))))))))) (fun _ h9 => h9) (th_fR r13 rfl) dX11_count_61 ?_
    have hA14 := th_Asub (τ := τ) hS
    refine va_calli (va_runV (As := []) (rest := []) ⟨hx, hb, hml, hown, hts⟩ (k_X0_lyingBoats l D cA Z τ gi gr _ q13 t13) (cwV 0 hts gX11_count_X0_lyingBoats rfl rfl rfl hd_X0_lyingBoats__0 ⟨Nat.le_of_ble_eq_true rfl, Nat.le_of_ble_eq_true rfl⟩) ⟨th_blind, tr_1 hK hH t13, (th_pre hH hK hN hZ hS hA14)⟩ rfl rfl hl.1 rfl (lv_room (Nat.le_of_ble_eq_true rfl)) dX11_count_64 ⟨Nat.le_of_ble_eq_true rfl, Nat.le_of_ble_eq_true rfl⟩) hS (fun q _ h => hA14 q h) hA14 (fun x15 u t H locs ht hvm hw15 hB hz1 hk1 hS => ?_)
    try dsimp only at hw15 hB
    rw [ht] at hB
    have hH := hB
    exact W.iret (v := x15) hx hb hr (fun t ht hW => ⟨⟨x15, (gi, gr), rfl, ⟨hM, rfl, (hF.trans (by simp only [↓reduceIte, F_X11_count, eq_false (Int.not_lt.mpr z1), eq_false (Int.not_lt.mpr y1), eq_false (show ¬ p1.toInt = 0 by omega), eq_false (show ¬ p1.toInt = 1 by omega), eq_true w1, r13, Option.getD_some, hw15]))⟩, th_Ht ht hH⟩, hS.F ht⟩) hS.2.2 dX11_count_67
  · refine lv_tableIn (tgt := 68) hx hb dX11_count_1 (by omega) (by omega) (by rw [w1]; rfl) (th_eqI rfl) ?_
    have f16 : rg 3 3 p1 := ⟨by omega, by omega⟩
    refine lv_aload_n hx hb dX11_count_68 rfl (lv_at hl 0 rfl) ?_
    obtain ⟨q17, r17, t17⟩ : ∃ q, gr h0 1 = some q ∧ τ q = 10 := (thI_11 hH t_h0).2.1
    refine th_get (ci := 10) (v := .ref q17) (T := TX11) (C := RX11) (N := 10) hx hb hts (fun w h => List.mem_cons_of_mem _ (List.mem_append_left _ (List.mem_append_left _ (List.mem_append_left _ (List.mem_append_left _ (List.mem_append_right _ h)))))) hown hK hH t_h0 (th_nz rfl) (thE_11 _ _ _) rfl 1 (th_ltN rfl) (hts (.fieldLink RX11 21 "BayMoorings" "waiting" "LBayMoorings$WaitingList;") (List.mem_cons_of_mem _ (List.mem_append_left _ (List.mem_append_left _ (List.mem_append_left _ (List.mem_append_left _ (List.mem_append_left _ (List.mem_append_left _ (List.mem_of_getElem? (i := 3) rfl))))))))) (fun _ h9 => h9) (th_fR r17 rfl) dX11_count_69 ?_
    obtain ⟨x18, e18⟩ : ∃ y : Int32, y = gi q17 2 := ⟨_, rfl⟩
    refine th_get (ci := 9) (v := .int x18) (T := TX10) (C := RX10) (N := 3) hx hb hts (fun w h => List.mem_cons_of_mem _ (List.mem_append_left _ (List.mem_append_left _ (List.mem_append_right _ h)))) hown hK hH t17 (th_nz rfl) (thE_10 _ _ _) rfl 2 (th_ltN rfl) (hts (.fieldLink RX11 213 "BayMoorings$WaitingList" "size" "I") (List.mem_cons_of_mem _ (List.mem_append_left _ (List.mem_append_left _ (List.mem_append_left _ (List.mem_append_left _ (List.mem_append_left _ (List.mem_append_left _ (List.mem_of_getElem? (i := 4) rfl))))))))) (fun _ h9 => h9) (th_fI e18 rfl) dX11_count_72 ?_
    have f18 : rg 0 10 x18 := rg_e e18 ((thI_10 hH t17).2.2)
    exact W.iret (v := x18) hx hb hr (fun t ht hW => ⟨⟨x18, (gi, gr), rfl, ⟨hM, rfl, (hF.trans (by simp only [↓reduceIte, F_X11_count, eq_false (Int.not_lt.mpr z1), eq_false (Int.not_lt.mpr y1), eq_false (show ¬ p1.toInt = 0 by omega), eq_false (show ¬ p1.toInt = 1 by omega), eq_false (show ¬ p1.toInt = 2 by omega), eq_true w1, r17, Option.getD_some, ← e18]))⟩, th_Ht ht hH⟩, hS.F ht⟩) hS.2.2 dX11_count_75
  · refine lv_tableIn (tgt := 76) hx hb dX11_count_1 (by omega) (by omega) (by rw [w1]; rfl) (th_eqI rfl) ?_
    have f19 : rg 4 4 p1 := ⟨by omega, by omega⟩
    refine lv_aload_n hx hb dX11_count_76 rfl (lv_at hl 0 rfl) ?_
    obtain ⟨x20, e20⟩ : ∃ y : Int32, y = gi h0 7 := ⟨_, rfl⟩
    refine th_get (ci := 10) (v := .int x20) (T := TX11) (C := RX11) (N := 10) hx hb hts (fun w h => List.mem_cons_of_mem _ (List.mem_append_left _ (List.mem_append_left _ (List.mem_append_left _ (List.mem_append_left _ (List.mem_append_right _ h)))))) hown hK hH t_h0 (th_nz rfl) (thE_11 _ _ _) rfl 7 (th_ltN rfl) (hts (.fieldLink RX11 53 "BayMoorings" "numberCount" "I") (List.mem_cons_of_mem _ (List.mem_append_left _ (List.mem_append_left _ (List.mem_append_left _ (List.mem_append_left _ (List.mem_append_left _ (List.mem_append_left _ (List.mem_of_getElem? (i := 5) rfl))))))))) (fun _ h9 => h9) (th_fI e20 rfl) dX11_count_77 ?_
    have f20 : rg 0 24 x20 := rg_e e20 ((thI_11 hH t_h0).2.2.2.2.2.2.2.1)
    exact W.iret (v := x20) hx hb hr (fun t ht hW => ⟨⟨x20, (gi, gr), rfl, ⟨hM, rfl, (hF.trans (by simp only [↓reduceIte, F_X11_count, eq_false (Int.not_lt.mpr z1), eq_false (Int.not_lt.mpr y1), eq_false (show ¬ p1.toInt = 0 by omega), eq_false (show ¬ p1.toInt = 1 by omega), eq_false (show ¬ p1.toInt = 2 by omega), eq_false (show ¬ p1.toInt = 3 by omega), eq_true w1, ← e20]))⟩, th_Ht ht hH⟩, hS.F ht⟩) hS.2.2 dX11_count_80
  · refine lv_tableIn (tgt := 81) hx hb dX11_count_1 (by omega) (by omega) (by rw [w1]; rfl) (th_eqI rfl) ?_
    have f21 : rg 5 5 p1 := ⟨by omega, by omega⟩
    refine lv_aload_n hx hb dX11_count_81 rfl (lv_at hl 0 rfl) ?_
    obtain ⟨q22, r22, t22⟩ : ∃ q, gr h0 0 = some q ∧ τ q = 1 := (thI_11 hH t_h0).1
    refine th_get (ci := 10) (v := .ref q22) (T := TX11) (C := RX11) (N := 10) hx hb hts (fun w h => List.mem_cons_of_mem _ (List.mem_append_left _ (List.mem_append_left _ (List.mem_append_left _ (List.mem_append_left _ (List.mem_append_right _ h)))))) hown hK hH t_h0 (th_nz rfl) (thE_11 _ _ _) rfl 0 (th_ltN rfl) (hts (.fieldLink RX11 10 "BayMoorings" "bay" "LBayMoorings$Bay;") (List.mem_cons_of_mem _ (List.mem_append_left _ (List.mem_append_left _ (List.mem_append_left _ (List.mem_append_left _ (List.mem_append_left _ (List.mem_append_left _ (List.mem_of_getElem? (i := 0) rfl))))))))) (fun _ h9 => h9) (th_fR r22 rfl) dX11_count_82 ?_
    have hA23 := th_Asub (τ := τ) hS
    refine va_calli (va_runV (As := []) (rest := []) ⟨hx, hb, hml, hown, hts⟩ (k_X0_partedChains l D cA Z τ gi gr _ q22 t22) (cwV 0 hts gX11_count_X0_partedChains rfl rfl rfl hd_X0_partedChains__0 ⟨Nat.le_of_ble_eq_true rfl, Nat.le_of_ble_eq_true rfl⟩) ⟨th_blind, tr_1 hK hH t22, (th_pre hH hK hN hZ hS hA23)⟩ rfl rfl hl.1 rfl (lv_room (Nat.le_of_ble_eq_true rfl)) dX11_count_85 ⟨Nat.le_of_ble_eq_true rfl, Nat.le_of_ble_eq_true rfl⟩) hS (fun q _ h => hA23 q h) hA23 (fun x24 u t H locs ht hvm hw24 hB hz1 hk1 hS => ?_)
    try dsimp only at hw24 hB
    rw [ht] at hB
    have hH := hB
    exact W.iret (v := x24) hx hb hr (fun t ht hW => ⟨⟨x24, (gi, gr), rfl, ⟨hM, rfl, (hF.trans (by simp only [↓reduceIte, F_X11_count, eq_false (Int.not_lt.mpr z1), eq_false (Int.not_lt.mpr y1), eq_false (show ¬ p1.toInt = 0 by omega), eq_false (show ¬ p1.toInt = 1 by omega), eq_false (show ¬ p1.toInt = 2 by omega), eq_false (show ¬ p1.toInt = 3 by omega), eq_false (show ¬ p1.toInt = 4 by omega), eq_true w1, r22, Option.getD_some, hw24]))⟩, th_Ht ht hH⟩, hS.F ht⟩) hS.2.2 dX11_count_88
  · refine lv_tableIn (tgt := 89) hx hb dX11_count_1 (by omega) (by omega) (by rw [w1]; rfl) (th_eqI rfl) ?_
    have f25 : rg 6 6 p1 := ⟨by omega, by omega⟩
    refine lv_aload_n hx hb dX11_count_89 rfl (lv_at hl 0 rfl) ?_
    obtain ⟨q26, r26, t26⟩ : ∃ q, gr h0 0 = some q ∧ τ q = 1 := (thI_11 hH t_h0).1
    refine th_get (ci := 10) (v := .ref q26) (T := TX11) (C := RX11) (N := 10) hx hb hts (fun w h => List.mem_cons_of_mem _ (List.mem_append_left _ (List.mem_append_left _ (List.mem_append_left _ (List.mem_append_left _ (List.mem_append_right _ h)))))) hown hK hH t_h0 (th_nz rfl) (thE_11 _ _ _) rfl 0 (th_ltN rfl) (hts (.fieldLink RX11 10 "BayMoorings" "bay" "LBayMoorings$Bay;") (List.mem_cons_of_mem _ (List.mem_append_left _ (List.mem_append_left _ (List.mem_append_left _ (List.mem_append_left _ (List.mem_append_left _ (List.mem_append_left _ (List.mem_of_getElem? (i := 0) rfl))))))))) (fun _ h9 => h9) (th_fR r26 rfl) dX11_count_90 ?_
    obtain ⟨x27, e27⟩ : ∃ y : Int32, y = gi q26 7 := ⟨_, rfl⟩
    refine th_get (ci := 0) (v := .int x27) (T := TX0) (C := RX0) (N := 9) hx hb hts (fun w h => List.mem_cons_of_mem _ (List.mem_append_left _ (List.mem_append_left _ (List.mem_append_left _ (List.mem_append_right _ h))))) hown hK hH t26 (th_nz rfl) (thE_1 _ _ _) rfl 7 (th_ltN rfl) (hts (.fieldLink RX11 112 "BayMoorings$Bay" "windBits" "I") (List.mem_cons_of_mem _ (List.mem_append_left _ (List.mem_append_left _ (List.mem_append_left _ (List.mem_append_left _ (List.mem_append_left _ (List.mem_append_left _ (List.mem_of_getElem? (i := 6) rfl))))))))) (fun _ h9 => h9) (th_fI e27 rfl) dX11_count_93 ?_
    have hA28 := th_Asub (τ := τ) hS
    refine va_calli (va_runS (As := [.int x27]) (rest := []) ⟨hx, hb, hml, hown, hts⟩ (k_J6_bitCount_0f7a4 l D cA Z τ gi gr _ x27) (va_cwS 1 hts gX11_count_J6_bitCount_0f7a4 rfl rfl rfl (by decide +kernel) ⟨Nat.le_of_ble_eq_true rfl, Nat.le_of_ble_eq_true rfl⟩) ⟨th_blind, (th_pre hH hK hN hZ hS hA28)⟩ rfl rfl hl.1 rfl (lv_room (Nat.le_of_ble_eq_true rfl)) dX11_count_96 ⟨Nat.le_of_ble_eq_true rfl, Nat.le_of_ble_eq_true rfl⟩) hS (fun q _ h => hA28 q h) hA28 (fun x29 u t H locs ht hvm hw29 hB hz1 hk1 hS => ?_)
    try dsimp only at hw29 hB
    rw [ht] at hB
    have hH := hB
    exact W.iret (v := x29) hx hb hr (fun t ht hW => ⟨⟨x29, (gi, gr), rfl, ⟨hM, rfl, (hF.trans (by simp only [↓reduceIte, F_X11_count, eq_false (Int.not_lt.mpr z1), eq_false (Int.not_lt.mpr y1), eq_false (show ¬ p1.toInt = 0 by omega), eq_false (show ¬ p1.toInt = 1 by omega), eq_false (show ¬ p1.toInt = 2 by omega), eq_false (show ¬ p1.toInt = 3 by omega), eq_false (show ¬ p1.toInt = 4 by omega), eq_false (show ¬ p1.toInt = 5 by omega), eq_true w1, r26, Option.getD_some, ← e27, hw29]))⟩, th_Ht ht hH⟩, hS.F ht⟩) hS.2.2 dX11_count_99
end
section
section THR
variable {p : Program} {l : Launch} {e : Env} {R : Room} {s : State} {m : MethodId} {args : Array Value} {below : List Frame} {meth : Method} {c : Code} {H : Heap} {locs : List Loc} {cells slots : Nat} {Q : State → Prop}
variable {cc : ByteArray} {pc : Nat} {ls : Array Slot} {rest : List Value} {D : va_G} {A : Nat → Prop} {a k0 : Nat} {tys : List (ClassId × FieldType)} {H0 : Heap} {cA : Nat → ClassId} {τ : th_t} {gi : th_i} {gr : th_r}
theorem th_iastR (hexec : p.tables.exec = Jvm.exec) (hb : c.code = cc) (hK : va_K D classes tys s) (hH : th_H D cA τ gi gr H) (hS : va_S A H0 H locs) (ht : τ a = k0) (h0 : k0 ≠ 0) (hAa : A a) (t0 : Nat) {cI : ClassId} {n : Nat} (he : ∀ f : Nat → Int32, th_E cA k0 f (gr a) = .inl (cI, n, .inl f)) (hty : tys[t0]? = some (cI, .int)) {i x : Int32} (hin : vp_in i n) (hI : th_I k0 τ (upd (gi a) i.toNatClampNeg x) (gr a)) (hdg : decode cc pc = .ok (.iastore, 1))
    (kk : ∀ (gi' : th_i) (H1 : Heap) (locs1 : List Loc), gi' a i.toNatClampNeg = x → (∀ b j, b ≠ a ∨ j ≠ i.toNatClampNeg → gi' b j = gi b j) → th_H D cA τ gi' gr H1 → va_S A H0 H1 locs1 → (∀ q : Nat, q ≠ a → H1[q]? = H[q]?) → W p l e R s m args below meth c H1 locs1 cells slots Q (F0 m (pc + 1) ls rest)) : W p l e R s m args below meth c H locs cells slots Q (F0 m pc ls (.int x :: .int i :: .ref a :: rest)) := by
  have hP := hH.P ht h0 (he _)
  refine W.iast hexec hb (hP 0 _ rfl) ((hK.2 t0 _ hty).1 n (fun j => .int (gi a j))) (fun q => by cases q) (by show ¬ (i < 0 ∨ (arrV _ _ _).slots.size ≤ _); rw [arrV_size]; exact hin) rfl rfl hdg fun H1 e z oq => ?_
  refine kk (va_up gi a (upd (gi a) i.toNatClampNeg x)) H1 _ th_upI.1 th_upI.2 (hH.set ht ?_ (by rw [va_up_self]; exact hI) oq (fun b hb => ⟨va_up_ne _ _ hb, rfl⟩)) (hS.put z oq hAa) oq
  rw [va_up_self, he]
  show H1[a]? = some (vp_cell _ _)
  rw [e, vp_cell_i, vp_cell_i, arrV_store]
  congr 2
  funext q
  by_cases hq : q = i.toNatClampNeg
  · subst hq
    simp [updV, upd]
  · simp [updV, upd, hq]
theorem th_zastR (hexec : p.tables.exec = Jvm.exec) (hb : c.code = cc) (hK : va_K D classes tys s) (hH : th_H D cA τ gi gr H) (hS : va_S A H0 H locs) (ht : τ a = k0) (h0 : k0 ≠ 0) (hAa : A a) (t0 : Nat) {cI : ClassId} {n : Nat} (he : ∀ f : Nat → Int32, th_E cA k0 f (gr a) = .inl (cI, n, .inl f)) (hty : tys[t0]? = some (cI, .boolean)) {i x : Int32} (hx : rg 0 1 x) (hin : vp_in i n) (hI : th_I k0 τ (upd (gi a) i.toNatClampNeg x) (gr a)) (hdg : decode cc pc = .ok (.bastore, 1))
    (kk : ∀ (gi' : th_i) (H1 : Heap) (locs1 : List Loc), gi' a i.toNatClampNeg = x → (∀ b j, b ≠ a ∨ j ≠ i.toNatClampNeg → gi' b j = gi b j) → th_H D cA τ gi' gr H1 → va_S A H0 H1 locs1 → (∀ q : Nat, q ≠ a → H1[q]? = H[q]?) → W p l e R s m args below meth c H1 locs1 cells slots Q (F0 m (pc + 1) ls rest)) : W p l e R s m args below meth c H locs cells slots Q (F0 m pc ls (.int x :: .int i :: .ref a :: rest)) := by
  have hP := hH.P ht h0 (he _)
  refine W.zast hexec hb (hP 0 _ rfl) ((hK.2 t0 _ hty).1 n (fun j => .int (gi a j))) (fun q => by cases q) (by show ¬ (i < 0 ∨ (arrV _ _ _).slots.size ≤ _); rw [arrV_size]; exact hin) rfl rfl hdg fun H1 e z oq => ?_
  refine kk (va_up gi a (upd (gi a) i.toNatClampNeg x)) H1 _ th_upI.1 th_upI.2 (hH.set ht ?_ (by rw [va_up_self]; exact hI) oq (fun b hb => ⟨va_up_ne _ _ hb, rfl⟩)) (hS.put z oq hAa) oq
  rw [va_up_self, he]
  show H1[a]? = some (vp_cell _ _)
  have hz := rg_vb hx
  rw [e, vp_cell_i, vp_cell_i, arrV_store]
  congr 2
  funext q
  by_cases hq : q = i.toNatClampNeg
  · subst hq
    simp only [updV, upd, if_true]
    rcases rg_b hx with h | h <;> rw [h] <;> rfl
  · simp [updV, upd, hq]
end THR
theorem th_ne0 {τ : th_t} {a b c : Nat} (z : τ b = 0) (t : τ a = c) (h : c ≠ 0) : b ≠ a := fun e => h (by rw [← t, ← e]; exact z)
end
section
noncomputable def M_X1_init (τ : th_t) (Z : th_Zt) (gi : th_i) (gr : th_r) (h0 : Nat) (tO : th_t) (gO : th_i) (qO : th_r) : Prop :=
  ∃ (q1 : Nat), τ q1 = 0 ∧ h0 ≠ q1 ∧ (
  let τ1 : th_t := va_up τ q1 24
  let gi1 : th_i := va_up gi q1 (fun _ => 0)
  ∃ (q4 : Nat), τ1 q4 = 0 ∧ h0 ≠ q4 ∧ (
  let τ4 : th_t := va_up τ1 q4 25
  let gi4 : th_i := va_up gi1 q4 (fun _ => 0)
  let gi9 : th_i := F_J7_fill_53178_24 τ4 Z gi4 gr q1 (-1)
  let gi11 : th_i := F_J7_fill_53178_25 τ4 Z gi9 gr q4 (-1)
  tO = va_up τ4 h0 2 ∧ gO = va_up gi11 h0 (fun _ => 0) ∧ qO = va_up gr h0 (fun k => match k with | 0 => some q1 | 1 => some q4 | _ => none)))
set_option maxHeartbeats 20000000 in
set_option maxRecDepth 100000 in
theorem k_X1_init (l : Launch) (D : va_G) (cA : Nat → ClassId) (Z : th_Zt) (τ : th_t) (gi : th_i) (gr : th_r) (sz : Nat) (h0 : Nat) : Met l yX1_init wsX1_init ({ frames := 1, cells := 2, slots := 28, locals := 30 }) (va_Pc [.ref h0] (th_PreC D cA Z τ gi gr sz h0 (.inr (1, [.null, .null])))) (va_Qv (fun (u : th_t × th_i × th_r) => th_Ext [2400, 2500] τ gi gr sz h0 u.1 u.2.1 u.2.2 ∧ u.1 h0 = 2 ∧ (M_X1_init τ Z gi gr h0 u.1 u.2.1 u.2.2)) (fun (u : th_t × th_i × th_r) t => th_H D cA u.1 u.2.1 u.2.2 t.heap) (th_AC τ sz h0)) 2 28 (th_AC τ sz h0) := by
  refine Met.ofW (cc := cX1_init) (maxL := 1) (ret := none) (by decide) rfl ?_
  intro p e s m args below meth c s₁ B hml hv
  obtain ⟨rfl, hsz, hH, hK, hN, hZ, z_h0, hR_h0⟩ := hv
  have hx := B.exec
  have hb := B.bytes
  have hr := B.returns
  have hts := atoms_spec (ws := wsX1_init) B.pre
  have hown : s.vm.findClass RX1 = some m.cls := findClass_of_methodNamed B.named
  have hlocks := B.notSynchronized
  have hin : meth.name = "<init>" := (name_of_methodNamed B.named B.method).1
  subst hsz
  have hA : ∀ q : Nat, s.heap.size ≤ q → (th_AC τ s.heap.size h0) q := fun q h => Or.inr (Or.inr h)
  have hE : th_Ext [2400, 2500] τ gi gr s.heap.size h0 τ gi gr := th_Ext.rf
  have hS : va_S (th_AC τ s.heap.size h0) s.heap s.heap [] := va_S.rf
  have hl := lv_entry ([.ref h0]) (n := 1) (Nat.le_of_ble_eq_true rfl)
  rw [lg_entry_eq]
  generalize (lg_sl ([.ref h0]) ++ List.replicate (1 - (lg_sl ([.ref h0])).length) Slot.unset).toArray = ls at hl ⊢
  have hl : lv_has ls 1 [(0, .ref h0)] := hl
  have hF : (∀ (tO : th_t) (gO : th_i) (qO : th_r), M_X1_init τ Z gi gr h0 tO gO qO → M_X1_init τ Z gi gr h0 tO gO qO) := fun tO gO qO h9 => h9
  refine lv_aload_n hx hb dX1_init_0 rfl (lv_at hl 0 rfl) ?_
  refine W.objInit hx hb hown (hts (.methodLink RX1 3 objectInit) (List.mem_cons_of_mem _ (List.mem_append_left _ (List.mem_of_getElem? (i := 0) rfl)))) (hts (.instanceMethod objectInit) (List.mem_cons_of_mem _ (List.mem_append_left _ (List.mem_of_getElem? (i := 1) rfl)))) (hts (.code objectInit ⟨#[0xb1]⟩ 1 none) (List.mem_cons_of_mem _ (List.mem_append_left _ (List.mem_of_getElem? (i := 2) rfl)))) rfl (by rw [hml]; exact hl.1) rfl dX1_init_1 (Nat.le_of_ble_eq_true rfl) (Nat.le_of_ble_eq_true rfl) ?_
  refine W.eq (g2 := F0 m 4 ls []) rfl ?_
  refine lv_aload_n hx hb dX1_init_4 rfl (lv_at hl 0 rfl) ?_
  refine lv_bipush (v := 16) hx hb dX1_init_5 bp_16 ?_
  have hle1 := hS.1
  have lt1_h0 := (hR_h0 0 _ rfl).lt
  refine th_newI (atype := .int) (cI := cA 0) (N' := 16) hx hb (hts (.arrayClass .int) (List.mem_cons_of_mem _ (List.mem_append_left _ (List.mem_of_getElem? (i := 3) rfl)))) hK 0 rfl (fun h => h) hH hS hA 24 (by decide) (by decide) (by decide) (Nat.le_of_ble_eq_true rfl) (Nat.le_of_ble_eq_true rfl) rfl (fun _ => rfl) (fun _ _ => trivial) dX1_init_7 (fun q1 H s1 y1 n1 o1 hH hS => ?_)
  have le1 : s.heap.size ≤ q1 := th_leE s1 hle1
  have hR_h0 := th_P1 hR_h0 (o1 _ (th_ltE s1 lt1_h0))
  obtain ⟨τ1, et1⟩ : ∃ t, t = va_up τ q1 24 := ⟨_, rfl⟩
  have zz1 := hE.z n1
  obtain ⟨gi1, eg1⟩ : ∃ g, g = va_up gi q1 (fun _ => 0) := ⟨_, rfl⟩
  have hE := hE.add (k0 := 24) (f := (fun _ => 0)) (r := gr q1) n1 (Or.inr le1)
  rw [th_upid gr q1, ← et1, ← eg1] at hE
  rw [← et1, ← eg1] at hH
  have og1 : ∀ b, b ≠ q1 → gi1 b = gi b := th_upO eg1
  have z2 : τ1 h0 = 0 := (th_tzE et1 z_h0 (Nat.ne_of_lt (th_ltE s1 lt1_h0)))
  have tn1 : τ1 q1 = 24 := th_upS et1
  refine W.widen (k := 1) (n := 16) (Nat.le_of_ble_eq_true rfl) (Nat.le_of_ble_eq_true rfl) ?_
  refine th_rputF (ci := 1) (v := .ref q1) (T := TX1) (C := RX1) (N := 2) (ty := (.array .int)) hx hb hts (fun w h => List.mem_cons_of_mem _ (List.mem_append_right _ h)) tyX1 tyX1_ok nmX1 hown hK hH hS z2 (Or.inl rfl) hR_h0 rfl 0 (by decide) (hts (.fieldLink RX1 9 "BayMoorings$Berths" "buoyOfBoat" "[I") (List.mem_cons_of_mem _ (List.mem_append_left _ (List.mem_of_getElem? (i := 4) rfl)))) (fun _ h9 => h9) rfl hin rfl (by decide +kernel) rfl rfl (Nat.le_of_ble_eq_true rfl) dX1_init_9 (fun H locs hR_h0 hH hS y3 o3 => ?_)
  have hR_h0 : va_P D vwCl [(h0, .inr (1, [.ref q1, .null]))] H := hR_h0
  refine lv_aload_n hx hb dX1_init_12 rfl (lv_at hl 0 rfl) ?_
  refine lv_bipush (v := 12) hx hb dX1_init_13 bp_12 ?_
  have hle4 := hS.1
  have lt4_h0 := (hR_h0 0 _ rfl).lt
  refine th_newI (atype := .int) (cI := cA 0) (N' := 12) hx hb (hts (.arrayClass .int) (List.mem_cons_of_mem _ (List.mem_append_left _ (List.mem_of_getElem? (i := 3) rfl)))) hK 0 rfl (fun h => h) hH hS hA 25 (by decide) (by decide) (by decide) (Nat.le_of_ble_eq_true rfl) (Nat.le_of_ble_eq_true rfl) rfl (fun _ => rfl) (fun _ _ => trivial) dX1_init_15 (fun q4 H s4 y4 n4 o4 hH hS => ?_)
  have le4 : s.heap.size ≤ q4 := th_leE s4 hle4
  have hR_h0 := th_P1 hR_h0 (o4 _ (th_ltE s4 lt4_h0))
  obtain ⟨τ4, et4⟩ : ∃ t, t = va_up τ1 q4 25 := ⟨_, rfl⟩
  have zz4 := hE.z n4
  obtain ⟨gi4, eg4⟩ : ∃ g, g = va_up gi1 q4 (fun _ => 0) := ⟨_, rfl⟩
  have hE := hE.add (k0 := 25) (f := (fun _ => 0)) (r := gr q4) n4 (Or.inr le4)
  rw [th_upid gr q4, ← et4, ← eg4] at hE
  rw [← et4, ← eg4] at hH
  have og4 : ∀ b, b ≠ q4 → gi4 b = gi1 b := th_upO eg4
  have t5 : τ4 q1 = 24 := (th_tkE et4 tn1 rfl n4)
  have z6 : τ4 h0 = 0 := (th_tzE et4 z2 (Nat.ne_of_lt (th_ltE s4 lt4_h0)))
  have tn4 : τ4 q4 = 25 := th_upS et4
  refine W.widen (k := 2) (n := 28) (Nat.le_of_ble_eq_true rfl) (Nat.le_of_ble_eq_true rfl) ?_
  refine th_rputF (ci := 1) (v := .ref q4) (T := TX1) (C := RX1) (N := 2) (ty := (.array .int)) hx hb hts (fun w h => List.mem_cons_of_mem _ (List.mem_append_right _ h)) tyX1 tyX1_ok nmX1 hown hK hH hS z6 (Or.inl rfl) hR_h0 rfl 1 (by decide) (hts (.fieldLink RX1 15 "BayMoorings$Berths" "boatOfBuoy" "[I") (List.mem_cons_of_mem _ (List.mem_append_left _ (List.mem_of_getElem? (i := 5) rfl)))) (fun _ h9 => h9) rfl hin rfl (by decide +kernel) rfl rfl (Nat.le_of_ble_eq_true rfl) dX1_init_17 (fun H locs hR_h0 hH hS y7 o7 => ?_)
  have hR_h0 : va_P D vwCl [(h0, .inr (1, [.ref q1, .ref q4]))] H := hR_h0
  refine lv_aload_n hx hb dX1_init_20 rfl (lv_at hl 0 rfl) ?_
  refine va_get (D := D) (ci := 1) (v := .ref q1) (C := RX1) (T := TX1) (N := 2) hx hb hts (fun w h => List.mem_cons_of_mem _ (List.mem_append_right _ h)) hown hK hR_h0 0 rfl rfl 0 (by decide) (hts (.fieldLink RX1 9 "BayMoorings$Berths" "buoyOfBoat" "[I") (List.mem_cons_of_mem _ (List.mem_append_left _ (List.mem_of_getElem? (i := 4) rfl)))) (fun _ h9 => h9) rfl dX1_init_21 ?_
  refine lv_iconst (v := (-1)) hx hb dX1_init_24 ic_m1 ?_
  have ltc_h0 := (hR_h0 0 _ rfl).lt
  have hA8 : ∀ q, th_A τ4 _ q → (th_AC τ s.heap.size h0) q := th_AE hE hS
  refine va_callv (va_runS (As := [.ref q1, .int (-1)]) (rest := []) ⟨hx, hb, hml, hown, hts⟩ (k_J7_fill_53178_24 l D cA Z τ4 gi4 gr _ q1 t5 (-1)) (va_cwS 2 hts gX1_init_J7_fill_53178 rfl rfl rfl (by decide +kernel) ⟨Nat.le_of_ble_eq_true rfl, Nat.le_of_ble_eq_true rfl⟩) ⟨th_blind, (th_pre hH hK hN hZ hS hA8)⟩ rfl rfl hl.1 rfl (lv_room (Nat.le_of_ble_eq_true rfl)) dX1_init_25 ⟨Nat.le_of_ble_eq_true rfl, Nat.le_of_ble_eq_true rfl⟩) hS (fun q _ h => hA8 q h) hA8 (fun  u t H locs ht hvm hw9 hB hz1 hk1 hS => ?_)
  try dsimp only at hw9 hB
  rw [ht] at hB
  have hH := hB
  have hR_h0 := th_P1 hR_h0 (hk1 _ ltc_h0 (th_nA z6 ltc_h0))
  obtain ⟨gi9, gr9⟩ := u
  try dsimp only at hw9 hH
  obtain rfl : gr = gr9 := (hw9.2.1).symm
  have hE := hE.mod hw9.1 (by decide)
  refine lv_aload_n hx hb dX1_init_28 rfl (lv_at hl 0 rfl) ?_
  refine va_get (D := D) (ci := 1) (v := .ref q4) (C := RX1) (T := TX1) (N := 2) hx hb hts (fun w h => List.mem_cons_of_mem _ (List.mem_append_right _ h)) hown hK hR_h0 0 rfl rfl 1 (by decide) (hts (.fieldLink RX1 15 "BayMoorings$Berths" "boatOfBuoy" "[I") (List.mem_cons_of_mem _ (List.mem_append_left _ (List.mem_of_getElem? (i := 5) rfl)))) (fun _ h9 => h9) rfl dX1_init_29 ?_
  refine lv_iconst (v := (-1)) hx hb dX1_init_32 ic_m1 ?_
  have ltc_h0 := (hR_h0 0 _ rfl).lt
  have hA10 : ∀ q, th_A τ4 _ q → (th_AC τ s.heap.size h0) q := th_AE hE hS
  refine va_callv (va_runS (As := [.ref q4, .int (-1)]) (rest := []) ⟨hx, hb, hml, hown, hts⟩ (k_J7_fill_53178_25 l D cA Z τ4 gi9 gr _ q4 tn4 (-1)) (va_cwS 2 hts gX1_init_J7_fill_53178 rfl rfl rfl (by decide +kernel) ⟨Nat.le_of_ble_eq_true rfl, Nat.le_of_ble_eq_true rfl⟩) ⟨th_blind, (th_pre hH hK hN hZ hS hA10)⟩ rfl rfl hl.1 rfl (lv_room (Nat.le_of_ble_eq_true rfl)) dX1_init_33 ⟨Nat.le_of_ble_eq_true rfl, Nat.le_of_ble_eq_true rfl⟩) hS (fun q _ h => hA10 q h) hA10 (fun  u t H locs ht hvm hw11 hB hz1 hk1 hS => ?_)
  try dsimp only at hw11 hB
  rw [ht] at hB
  have hH := hB
  have hR_h0 := th_P1 hR_h0 (hk1 _ ltc_h0 (th_nA z6 ltc_h0))
  obtain ⟨gi11, gr11⟩ := u
  try dsimp only at hw11 hH
  obtain rfl : gr = gr11 := (hw11.2.1).symm
  have hE := hE.mod hw11.1 (by decide)
  have hFp := hH.push (k0 := 2) (f := (fun _ => 0)) (r := (fun k => match k with | 0 => some q1 | 1 => some q4 | _ => none)) (H1 := _) z6 (hR_h0 0 _ rfl) (⟨⟨q1, rfl, th_tk t5 (by decide) z6⟩, ⟨q4, rfl, th_tk tn4 (by decide) z6⟩⟩) (fun _ _ => rfl)
  exact W.vret hx hb hr (fun t ht hW => ⟨⟨(va_up τ4 h0 2, va_up gi11 h0 (fun _ => 0), va_up gr h0 (fun k => match k with | 0 => some q1 | 1 => some q4 | _ => none)), rfl, ⟨hE.add z6 (Or.inl rfl), va_up_self _ _ _, (hF _ _ _ (by (try simp only [M_X1_init]); refine ⟨q1, n1, Nat.ne_of_lt (th_ltE s1 lt1_h0), ?_⟩; (try simp only [← et1, ← eg1]); refine ⟨q4, n4, Nat.ne_of_lt (th_ltE s4 lt4_h0), ?_⟩; (try simp only [← et1, ← eg1, ← et4, ← eg4, hw9.2.2, hw11.2.2]); first | done | exact ⟨(by first | rfl | trivial), (by first | rfl | trivial), (by first | rfl | trivial)⟩))⟩, th_Ht ht hFp⟩, hS.F ht⟩) hS.2.2 dX1_init_36

noncomputable def f_X0_init_73 (τ : th_t) (Z : th_Zt) (gi : th_i) (gr : th_r) (h0 : Nat) (tO : th_t) (gO : th_i) (qO : th_r) (τ20 : th_t) (q1 : Nat) (q4 : Nat) (q8 : Nat) (q13 : Nat) (q19 : Nat) : Nat → th_i → th_r → Int32 → Prop
  | 0, gi_73, gr_73, y73_1 => False
  | n + 1, gi_73, gr_73, y73_1 =>
    if (24 : Int32) ≤ y73_1 then (
      tO = va_up τ20 h0 1 ∧ gO = va_up gi_73 h0 (fun k => match k with | 7 => 255 | _ => 0) ∧ qO = va_up gr_73 h0 (fun k => match k with | 0 => some q1 | 1 => some q4 | 2 => some q8 | 3 => some q13 | 4 => some q19 | _ => none)) else (
      ∃ (gi34 : th_i), gi34 = va_up gi_73 q13 (upd (gi_73 q13) y73_1.toNatClampNeg 1) ∧ (
      let x35 : Int32 := y73_1 + 1
      f_X0_init_73 τ Z gi gr h0 tO gO qO τ20 q1 q4 q8 q13 q19 n gi34 gr_73 x35))
noncomputable def M_X0_init (τ : th_t) (Z : th_Zt) (gi : th_i) (gr : th_r) (h0 : Nat) (tO : th_t) (gO : th_i) (qO : th_r) : Prop :=
  ∃ (q1 : Nat), τ q1 = 0 ∧ h0 ≠ q1 ∧ (
  let τ1 : th_t := va_up τ q1 20
  let gr1 : th_r := va_up gr q1 (fun _ => none)
  ∃ (q4 : Nat), τ1 q4 = 0 ∧ h0 ≠ q4 ∧ (
  let τ4 : th_t := va_up τ1 q4 21
  let gr4 : th_r := va_up gr1 q4 (fun _ => none)
  ∃ (q8 : Nat), τ4 q8 = 0 ∧ h0 ≠ q8 ∧ (
  let τ8 : th_t := va_up τ4 q8 22
  let gi8 : th_i := va_up gi q8 (fun _ => 0)
  ∃ (q13 : Nat), τ8 q13 = 0 ∧ h0 ≠ q13 ∧ (
  let τ13 : th_t := va_up τ8 q13 23
  let gi13 : th_i := va_up gi8 q13 (fun _ => 0)
  ∃ (q19 : Nat), τ13 q19 = 0 ∧ h0 ≠ q19 ∧ (
  ∃ (τ20 : th_t) (gi20 : th_i) (gr20 : th_r), M_X1_init τ13 Z gi13 gr4 q19 τ20 gi20 gr20 ∧ τ20 h0 = 0 ∧ (
  f_X0_init_73 τ Z gi gr h0 tO gO qO τ20 q1 q4 q8 q13 q19 ((24 - (1 : Int32).toInt).toNat + 1) gi20 gr20 1))))))
set_option maxHeartbeats 20000000 in
set_option maxRecDepth 100000 in
theorem k_X0_init (l : Launch) (D : va_G) (cA : Nat → ClassId) (Z : th_Zt) (τ : th_t) (gi : th_i) (gr : th_r) (sz : Nat) (h0 : Nat) : Met l yX0_init wsX0_init ({ frames := 2, cells := 7, slots := 106, locals := 50 }) (va_Pc [.ref h0] (th_PreC D cA Z τ gi gr sz h0 (.inr (0, [.null, .null, .null, .null, .null, .int 0, .int 0, .int 0, .int 0])))) (va_Qv (fun (u : th_t × th_i × th_r) => th_Ext [2300, 2400, 2500] τ gi gr sz h0 u.1 u.2.1 u.2.2 ∧ u.1 h0 = 1 ∧ (u.2.1 h0 5 = 0) ∧ (u.2.1 h0 6 = 0) ∧ (u.2.1 h0 7 = 255) ∧ (u.2.1 h0 8 = 0) ∧ (M_X0_init τ Z gi gr h0 u.1 u.2.1 u.2.2)) (fun (u : th_t × th_i × th_r) t => th_H D cA u.1 u.2.1 u.2.2 t.heap) (th_AC τ sz h0)) 7 106 (th_AC τ sz h0) := by
  refine Met.ofW (cc := cX0_init) (maxL := 2) (ret := none) (by decide) rfl ?_
  intro p e s m args below meth c s₁ B hml hv
  obtain ⟨rfl, hsz, hH, hK, hN, hZ, z_h0, hR_h0⟩ := hv
  have hx := B.exec
  have hb := B.bytes
  have hr := B.returns
  have hts := atoms_spec (ws := wsX0_init) B.pre
  have hown : s.vm.findClass RX0 = some m.cls := findClass_of_methodNamed B.named
  have hlocks := B.notSynchronized
  have hin : meth.name = "<init>" := (name_of_methodNamed B.named B.method).1
  subst hsz
  have hA : ∀ q : Nat, s.heap.size ≤ q → (th_AC τ s.heap.size h0) q := fun q h => Or.inr (Or.inr h)
  have hE : th_Ext [2300, 2400, 2500] τ gi gr s.heap.size h0 τ gi gr := th_Ext.rf
  have hS : va_S (th_AC τ s.heap.size h0) s.heap s.heap [] := va_S.rf
  have hl := lv_entry ([.ref h0]) (n := 2) (Nat.le_of_ble_eq_true rfl)
  rw [lg_entry_eq]
  generalize (lg_sl ([.ref h0]) ++ List.replicate (2 - (lg_sl ([.ref h0])).length) Slot.unset).toArray = ls at hl ⊢
  have hl : lv_has ls 2 [(0, .ref h0)] := hl
  have hF : (∀ (tO : th_t) (gO : th_i) (qO : th_r), M_X0_init τ Z gi gr h0 tO gO qO → M_X0_init τ Z gi gr h0 tO gO qO) := fun tO gO qO h9 => h9
  refine lv_aload_n hx hb dX0_init_0 rfl (lv_at hl 0 rfl) ?_
  refine W.objInit hx hb hown (hts (.methodLink RX0 3 objectInit) (List.mem_cons_of_mem _ (List.mem_append_left _ (List.mem_append_left _ (List.mem_append_left _ (List.mem_of_getElem? (i := 0) rfl)))))) (hts (.instanceMethod objectInit) (List.mem_cons_of_mem _ (List.mem_append_left _ (List.mem_append_left _ (List.mem_append_left _ (List.mem_of_getElem? (i := 1) rfl)))))) (hts (.code objectInit ⟨#[0xb1]⟩ 1 none) (List.mem_cons_of_mem _ (List.mem_append_left _ (List.mem_append_left _ (List.mem_append_left _ (List.mem_of_getElem? (i := 2) rfl)))))) rfl (by rw [hml]; exact hl.1) rfl dX0_init_1 (Nat.le_of_ble_eq_true rfl) (Nat.le_of_ble_eq_true rfl) ?_
  refine W.eq (g2 := F0 m 4 ls []) rfl ?_
  refine lv_aload_n hx hb dX0_init_4 rfl (lv_at hl 0 rfl) ?_
  refine lv_bipush (v := 12) hx hb dX0_init_5 bp_12 ?_
  have hle1 := hS.1
  have lt1_h0 := (hR_h0 0 _ rfl).lt
  refine th_newR (C := "BayMoorings$Buoy") (cI := cA 2) (N' := 12) hx hb hown (hts (.classLink RX0 9 RX3) (List.mem_cons_of_mem _ (List.mem_append_left _ (List.mem_append_left _ (List.mem_append_left _ (List.mem_of_getElem? (i := 3) rfl)))))) hN.2.2.2.2.2.2.2.2.2.2.2.2.2.1 hK 2 rfl hH hS hA 20 (by decide) (by decide) (by decide) (Nat.le_of_ble_eq_true rfl) (Nat.le_of_ble_eq_true rfl) (fun _ => rfl) (fun _ _ => (fun _ _ _ h9 => by cases h9)) dX0_init_7 (fun q1 H s1 y1 n1 o1 hH hS => ?_)
  have le1 : s.heap.size ≤ q1 := th_leE s1 hle1
  have hR_h0 := th_P1 hR_h0 (o1 _ (th_ltE s1 lt1_h0))
  obtain ⟨τ1, et1⟩ : ∃ t, t = va_up τ q1 20 := ⟨_, rfl⟩
  have zz1 := hE.z n1
  obtain ⟨gr1, eg1⟩ : ∃ g, g = va_up gr q1 (fun _ => none) := ⟨_, rfl⟩
  have hE := hE.add (k0 := 20) (f := gi q1) (r := (fun _ => none)) n1 (Or.inr le1)
  rw [th_upid gi q1, ← et1, ← eg1] at hE
  rw [← et1, ← eg1] at hH
  have z2 : τ1 h0 = 0 := (th_tzE et1 z_h0 (Nat.ne_of_lt (th_ltE s1 lt1_h0)))
  have tn1 : τ1 q1 = 20 := th_upS et1
  refine W.widen (k := 1) (n := 12) (Nat.le_of_ble_eq_true rfl) (Nat.le_of_ble_eq_true rfl) ?_
  refine th_rputF (ci := 0) (v := .ref q1) (T := TX0) (C := RX0) (N := 9) (ty := (.array (.object "BayMoorings$Buoy"))) hx hb hts (fun w h => List.mem_cons_of_mem _ (List.mem_append_left _ (List.mem_append_right _ h))) tyX0 tyX0_ok nmX0 hown hK hH hS z2 (Or.inl rfl) hR_h0 rfl 0 (by decide) (hts (.fieldLink RX0 11 "BayMoorings$Bay" "buoys" "[LBayMoorings$Buoy;") (List.mem_cons_of_mem _ (List.mem_append_left _ (List.mem_append_left _ (List.mem_append_left _ (List.mem_of_getElem? (i := 4) rfl)))))) (fun _ h9 => h9) rfl hin rfl (by decide +kernel) rfl rfl (Nat.le_of_ble_eq_true rfl) dX0_init_10 (fun H locs hR_h0 hH hS y3 o3 => ?_)
  have hR_h0 : va_P D vwCl [(h0, .inr (0, [.ref q1, .null, .null, .null, .null, .int 0, .int 0, .int 0, .int 0]))] H := hR_h0
  refine lv_aload_n hx hb dX0_init_13 rfl (lv_at hl 0 rfl) ?_
  refine lv_bipush (v := 16) hx hb dX0_init_14 bp_16 ?_
  have hle4 := hS.1
  have lt4_h0 := (hR_h0 0 _ rfl).lt
  refine th_newR (C := "BayMoorings$Boat") (cI := cA 3) (N' := 16) hx hb hown (hts (.classLink RX0 17 RX2) (List.mem_cons_of_mem _ (List.mem_append_left _ (List.mem_append_left _ (List.mem_append_left _ (List.mem_of_getElem? (i := 5) rfl)))))) hN.2.2.2.2.2.2.2.2.2.2.2.2.1 hK 3 rfl hH hS hA 21 (by decide) (by decide) (by decide) (Nat.le_of_ble_eq_true rfl) (Nat.le_of_ble_eq_true rfl) (fun _ => rfl) (fun _ _ => (fun _ _ _ h9 => by cases h9)) dX0_init_16 (fun q4 H s4 y4 n4 o4 hH hS => ?_)
  have le4 : s.heap.size ≤ q4 := th_leE s4 hle4
  have hR_h0 := th_P1 hR_h0 (o4 _ (th_ltE s4 lt4_h0))
  obtain ⟨τ4, et4⟩ : ∃ t, t = va_up τ1 q4 21 := ⟨_, rfl⟩
  have zz4 := hE.z n4
  obtain ⟨gr4, eg4⟩ : ∃ g, g = va_up gr1 q4 (fun _ => none) := ⟨_, rfl⟩
  have hE := hE.add (k0 := 21) (f := gi q4) (r := (fun _ => none)) n4 (Or.inr le4)
  rw [th_upid gi q4, ← et4, ← eg4] at hE
  rw [← et4, ← eg4] at hH
  have t5 : τ4 q1 = 20 := (th_tkE et4 tn1 rfl n4)
  have z6 : τ4 h0 = 0 := (th_tzE et4 z2 (Nat.ne_of_lt (th_ltE s4 lt4_h0)))
  have tn4 : τ4 q4 = 21 := th_upS et4
  refine W.widen (k := 2) (n := 28) (Nat.le_of_ble_eq_true rfl) (Nat.le_of_ble_eq_true rfl) ?_
  refine th_rputF (ci := 0) (v := .ref q4) (T := TX0) (C := RX0) (N := 9) (ty := (.array (.object "BayMoorings$Boat"))) hx hb hts (fun w h => List.mem_cons_of_mem _ (List.mem_append_left _ (List.mem_append_right _ h))) tyX0 tyX0_ok nmX0 hown hK hH hS z6 (Or.inl rfl) hR_h0 rfl 1 (by decide) (hts (.fieldLink RX0 19 "BayMoorings$Bay" "boats" "[LBayMoorings$Boat;") (List.mem_cons_of_mem _ (List.mem_append_left _ (List.mem_append_left _ (List.mem_append_left _ (List.mem_of_getElem? (i := 6) rfl)))))) (fun _ h9 => h9) rfl hin rfl (by decide +kernel) rfl rfl (Nat.le_of_ble_eq_true rfl) dX0_init_19 (fun H locs hR_h0 hH hS y7 o7 => ?_)
  have hR_h0 : va_P D vwCl [(h0, .inr (0, [.ref q1, .ref q4, .null, .null, .null, .int 0, .int 0, .int 0, .int 0]))] H := hR_h0
  refine lv_aload_n hx hb dX0_init_22 rfl (lv_at hl 0 rfl) ?_
  refine lv_bipush (v := 24) hx hb dX0_init_23 bp_24 ?_
  have hle8 := hS.1
  have lt8_h0 := (hR_h0 0 _ rfl).lt
  refine th_newI (atype := .int) (cI := cA 0) (N' := 24) hx hb (hts (.arrayClass .int) (List.mem_cons_of_mem _ (List.mem_append_left _ (List.mem_append_left _ (List.mem_append_left _ (List.mem_of_getElem? (i := 7) rfl)))))) hK 0 rfl (fun h => h) hH hS hA 22 (by decide) (by decide) (by decide) (Nat.le_of_ble_eq_true rfl) (Nat.le_of_ble_eq_true rfl) rfl (fun _ => rfl) (fun _ _ => trivial) dX0_init_25 (fun q8 H s8 y8 n8 o8 hH hS => ?_)
  have le8 : s.heap.size ≤ q8 := th_leE s8 hle8
  have hR_h0 := th_P1 hR_h0 (o8 _ (th_ltE s8 lt8_h0))
  obtain ⟨τ8, et8⟩ : ∃ t, t = va_up τ4 q8 22 := ⟨_, rfl⟩
  have zz8 := hE.z n8
  obtain ⟨gi8, eg8⟩ : ∃ g, g = va_up gi q8 (fun _ => 0) := ⟨_, rfl⟩
  have hE := hE.add (k0 := 22) (f := (fun _ => 0)) (r := gr4 q8) n8 (Or.inr le8)
  rw [th_upid gr4 q8, ← et8, ← eg8] at hE
  rw [← et8, ← eg8] at hH
  have og8 : ∀ b, b ≠ q8 → gi8 b = gi b := th_upO eg8
  have t9 : τ8 q1 = 20 := (th_tkE et8 t5 rfl n8)
  have t10 : τ8 q4 = 21 := (th_tkE et8 tn4 rfl n8)
  have z11 : τ8 h0 = 0 := (th_tzE et8 z6 (Nat.ne_of_lt (th_ltE s8 lt8_h0)))
  have tn8 : τ8 q8 = 22 := th_upS et8
  refine W.widen (k := 3) (n := 52) (Nat.le_of_ble_eq_true rfl) (Nat.le_of_ble_eq_true rfl) ?_
  refine th_rputF (ci := 0) (v := .ref q8) (T := TX0) (C := RX0) (N := 9) (ty := (.array .int)) hx hb hts (fun w h => List.mem_cons_of_mem _ (List.mem_append_left _ (List.mem_append_right _ h))) tyX0 tyX0_ok nmX0 hown hK hH hS z11 (Or.inl rfl) hR_h0 rfl 2 (by decide) (hts (.fieldLink RX0 23 "BayMoorings$Bay" "tides" "[I") (List.mem_cons_of_mem _ (List.mem_append_left _ (List.mem_append_left _ (List.mem_append_left _ (List.mem_of_getElem? (i := 8) rfl)))))) (fun _ h9 => h9) rfl hin rfl (by decide +kernel) rfl rfl (Nat.le_of_ble_eq_true rfl) dX0_init_27 (fun H locs hR_h0 hH hS y12 o12 => ?_)
  have hR_h0 : va_P D vwCl [(h0, .inr (0, [.ref q1, .ref q4, .ref q8, .null, .null, .int 0, .int 0, .int 0, .int 0]))] H := hR_h0
  refine lv_aload_n hx hb dX0_init_30 rfl (lv_at hl 0 rfl) ?_
  refine lv_bipush (v := 24) hx hb dX0_init_31 bp_24 ?_
  have hle13 := hS.1
  have lt13_h0 := (hR_h0 0 _ rfl).lt
  refine th_newI (atype := .boolean) (cI := cA 1) (N' := 24) hx hb (hts (.arrayClass .boolean) (List.mem_cons_of_mem _ (List.mem_append_left _ (List.mem_append_left _ (List.mem_append_left _ (List.mem_of_getElem? (i := 9) rfl)))))) hK 1 rfl (fun h => h) hH hS hA 23 (by decide) (by decide) (by decide) (Nat.le_of_ble_eq_true rfl) (Nat.le_of_ble_eq_true rfl) rfl (fun _ => rfl) (fun _ _ => (fun _ _ => (show rg 0 1 (0 : Int32) from ⟨by decide, by decide⟩))) dX0_init_33 (fun q13 H s13 y13 n13 o13 hH hS => ?_)
  have le13 : s.heap.size ≤ q13 := th_leE s13 hle13
  have hR_h0 := th_P1 hR_h0 (o13 _ (th_ltE s13 lt13_h0))
  obtain ⟨τ13, et13⟩ : ∃ t, t = va_up τ8 q13 23 := ⟨_, rfl⟩
  have zz13 := hE.z n13
  obtain ⟨gi13, eg13⟩ : ∃ g, g = va_up gi8 q13 (fun _ => 0) := ⟨_, rfl⟩
  have hE := hE.add (k0 := 23) (f := (fun _ => 0)) (r := gr4 q13) n13 (Or.inr le13)
  rw [th_upid gr4 q13, ← et13, ← eg13] at hE
  rw [← et13, ← eg13] at hH
  have og13 : ∀ b, b ≠ q13 → gi13 b = gi8 b := th_upO eg13
  have t14 : τ13 q1 = 20 := (th_tkE et13 t9 rfl n13)
  have t15 : τ13 q4 = 21 := (th_tkE et13 t10 rfl n13)
  have t16 : τ13 q8 = 22 := (th_tkE et13 tn8 rfl n13)
  have z17 : τ13 h0 = 0 := (th_tzE et13 z11 (Nat.ne_of_lt (th_ltE s13 lt13_h0)))
  have tn13 : τ13 q13 = 23 := th_upS et13
  refine W.widen (k := 4) (n := 76) (Nat.le_of_ble_eq_true rfl) (Nat.le_of_ble_eq_true rfl) ?_
  refine th_rputF (ci := 0) (v := .ref q13) (T := TX0) (C := RX0) (N := 9) (ty := (.array .boolean)) hx hb hts (fun w h => List.mem_cons_of_mem _ (List.mem_append_left _ (List.mem_append_right _ h))) tyX0 tyX0_ok nmX0 hown hK hH hS z17 (Or.inl rfl) hR_h0 rfl 3 (by decide) (hts (.fieldLink RX0 27 "BayMoorings$Bay" "repeated" "[Z") (List.mem_cons_of_mem _ (List.mem_append_left _ (List.mem_append_left _ (List.mem_append_left _ (List.mem_of_getElem? (i := 10) rfl)))))) (fun _ h9 => h9) rfl hin rfl (by decide +kernel) rfl rfl (Nat.le_of_ble_eq_true rfl) dX0_init_35 (fun H locs hR_h0 hH hS y18 o18 => ?_)
  have hR_h0 : va_P D vwCl [(h0, .inr (0, [.ref q1, .ref q4, .ref q8, .ref q13, .null, .int 0, .int 0, .int 0, .int 0]))] H := hR_h0
  refine lv_aload_n hx hb dX0_init_38 rfl (lv_at hl 0 rfl) ?_
  have hle19 := hS.1
  have lt19_h0 := (hR_h0 0 _ rfl).lt
  refine th_newO (ci := 1) (fs := [.null, .null]) (C := RX1) (T := TX1) (N := 2) hx hb hts (fun w h => List.mem_cons_of_mem _ (List.mem_append_right _ h)) tyX1 tyX1_ok hown (hts (.classLink RX0 31 RX1) (List.mem_cons_of_mem _ (List.mem_append_left _ (List.mem_append_left _ (List.mem_append_left _ (List.mem_of_getElem? (i := 11) rfl)))))) (hts (.instantiable RX1 2) (List.mem_cons_of_mem _ (List.mem_append_left _ (List.mem_append_left _ (List.mem_append_left _ (List.mem_of_getElem? (i := 12) rfl)))))) (hts (.initialized RX1) (List.mem_cons_of_mem _ (List.mem_append_left _ (List.mem_append_left _ (List.mem_append_left _ (List.mem_of_getElem? (i := 13) rfl)))))) hK hH hS hA rfl (fun j hj => by rcases (show j = 0 ∨ j = 1 by omega) with rfl | rfl <;> rfl) (Nat.le_of_ble_eq_true rfl) (Nat.le_of_ble_eq_true rfl) dX0_init_39 (fun q19 H s19 y19 n19 o19 hR_q19 hH hS => ?_)
  have le19 : s.heap.size ≤ q19 := th_leE s19 hle19
  have hR_h0 := th_P1 hR_h0 (o19 _ (th_ltE s19 lt19_h0))
  have ne_h0_q19 : h0 ≠ q19 := Nat.ne_of_lt (th_ltE s19 lt19_h0)
  refine W.widen (k := 5) (n := 78) (Nat.le_of_ble_eq_true rfl) (Nat.le_of_ble_eq_true rfl) ?_
  refine lv_dup hx hb dX0_init_42 rfl ?_
  have hle20 := hS.1
  have lt20_h0 := (hR_h0 0 _ rfl).lt
  have lt20_q19 := (hR_q19 0 _ rfl).lt
  have hAC20 : ∀ x, th_AC τ13 _ q19 x → (th_AC τ s.heap.size h0) x := th_ACn hE hS le19
  refine va_callv (va_runI (As := []) (rest := [.ref q19, .ref h0]) ⟨hx, hb, hml, hown, hts⟩ (k_X1_init l D cA Z τ13 gi13 gr4 _ q19) (cwI 0 hts gX0_init_X1_init rfl rfl rfl (hts (.initialized RX1) (List.mem_cons_of_mem _ (List.mem_append_left _ (List.mem_append_left _ (List.mem_append_left _ (List.mem_of_getElem? (i := 13) rfl)))))) (hts (.methodLink RX0 33 yX1_init) (List.mem_cons_of_mem _ (List.mem_append_left _ (List.mem_append_left _ (List.mem_append_left _ (List.mem_of_getElem? (i := 19) rfl)))))) (hts (.instanceMethod yX1_init) (List.mem_cons_of_mem _ (List.mem_append_left _ (List.mem_append_left _ (List.mem_append_left _ (List.mem_of_getElem? (i := 20) rfl)))))) rfl (by decide +kernel) ⟨Nat.le_of_ble_eq_true rfl, Nat.le_of_ble_eq_true rfl⟩) ⟨th_blindC, th_preC hH hK hN hZ hS hAC20 n19 hR_q19⟩ rfl rfl hl.1 rfl (lv_room (Nat.le_of_ble_eq_true rfl)) dX0_init_43 ⟨Nat.le_of_ble_eq_true rfl, Nat.le_of_ble_eq_true rfl⟩) hS (fun x _ h => hAC20 x h) hAC20 (fun u t H locs ht hvm hw20 hB hz20 hk20 hS => ?_)
  obtain ⟨τ20, gi20, gr20⟩ := u
  try dsimp only at hw20 hB
  rw [ht] at hB
  have hH := hB
  have hR_h0 := th_P1 hR_h0 (hk20 _ lt20_h0 (th_nAC z17 ne_h0_q19 lt20_h0))
  have t21 : τ20 q1 = 20 := ((hw20.1.1 q1 (by rw [t14]; decide)).trans t14)
  have t22 : τ20 q4 = 21 := ((hw20.1.1 q4 (by rw [t15]; decide)).trans t15)
  have t23 : τ20 q8 = 22 := ((hw20.1.1 q8 (by rw [t16]; decide)).trans t16)
  have t24 : τ20 q13 = 23 := ((hw20.1.1 q13 (by rw [tn13]; decide)).trans tn13)
  have z25 : τ20 h0 = 0 := (th_zx hw20.1 z17 ne_h0_q19 lt20_h0)
  have hE := hE.tr hw20.1 (Or.inr le19) hle20 (by decide)
  have tn20 := hw20.2.1
  refine W.widen (k := 7) (n := 106) (Nat.le_of_ble_eq_true rfl) (Nat.le_of_ble_eq_true rfl) ?_
  refine th_rputF (ci := 0) (v := .ref q19) (T := TX0) (C := RX0) (N := 9) (ty := (.object "BayMoorings$Berths")) hx hb hts (fun w h => List.mem_cons_of_mem _ (List.mem_append_left _ (List.mem_append_right _ h))) tyX0 tyX0_ok nmX0 hown hK hH hS z25 (Or.inl rfl) hR_h0 rfl 4 (by decide) (hts (.fieldLink RX0 34 "BayMoorings$Bay" "berths" "LBayMoorings$Berths;") (List.mem_cons_of_mem _ (List.mem_append_left _ (List.mem_append_left _ (List.mem_append_left _ (List.mem_of_getElem? (i := 14) rfl)))))) (fun _ h9 => h9) rfl hin rfl (by decide +kernel) rfl rfl (Nat.le_of_ble_eq_true rfl) dX0_init_46 (fun H locs hR_h0 hH hS y26 o26 => ?_)
  have hR_h0 : va_P D vwCl [(h0, .inr (0, [.ref q1, .ref q4, .ref q8, .ref q13, .ref q19, .int 0, .int 0, .int 0, .int 0]))] H := hR_h0
  refine lv_aload_n hx hb dX0_init_49 rfl (lv_at hl 0 rfl) ?_
  refine lv_iconst (v := 0) hx hb dX0_init_50 ic_0 ?_
  refine th_rput (ci := 0) (v := .int 0) (T := TX0) (C := RX0) (N := 9) (ty := .int) hx hb hts (fun w h => List.mem_cons_of_mem _ (List.mem_append_left _ (List.mem_append_right _ h))) tyX0 tyX0_ok nmX0 hown hK hH hS z25 (Or.inl rfl) hR_h0 rfl 5 (by decide) (hts (.fieldLink RX0 38 "BayMoorings$Bay" "buoyCount" "I") (List.mem_cons_of_mem _ (List.mem_append_left _ (List.mem_append_left _ (List.mem_append_left _ (List.mem_of_getElem? (i := 15) rfl)))))) (fun _ h9 => h9) rfl (by decide +kernel) rfl rfl (Nat.le_of_ble_eq_true rfl) dX0_init_51 (fun H locs hR_h0 hH hS y27 o27 => ?_)
  have hR_h0 : va_P D vwCl [(h0, .inr (0, [.ref q1, .ref q4, .ref q8, .ref q13, .ref q19, .int 0, .int 0, .int 0, .int 0]))] H := hR_h0
  refine lv_aload_n hx hb dX0_init_54 rfl (lv_at hl 0 rfl) ?_
  refine lv_iconst (v := 0) hx hb dX0_init_55 ic_0 ?_
  refine th_rput (ci := 0) (v := .int 0) (T := TX0) (C := RX0) (N := 9) (ty := .int) hx hb hts (fun w h => List.mem_cons_of_mem _ (List.mem_append_left _ (List.mem_append_right _ h))) tyX0 tyX0_ok nmX0 hown hK hH hS z25 (Or.inl rfl) hR_h0 rfl 6 (by decide) (hts (.fieldLink RX0 42 "BayMoorings$Bay" "boatCount" "I") (List.mem_cons_of_mem _ (List.mem_append_left _ (List.mem_append_left _ (List.mem_append_left _ (List.mem_of_getElem? (i := 16) rfl)))))) (fun _ h9 => h9) rfl (by decide +kernel) rfl rfl (Nat.le_of_ble_eq_true rfl) dX0_init_56 (fun H locs hR_h0 hH hS y28 o28 => ?_)
  have hR_h0 : va_P D vwCl [(h0, .inr (0, [.ref q1, .ref q4, .ref q8, .ref q13, .ref q19, .int 0, .int 0, .int 0, .int 0]))] H := hR_h0
  refine lv_aload_n hx hb dX0_init_59 rfl (lv_at hl 0 rfl) ?_
  refine lv_sipush (v := 255) hx hb dX0_init_60 sp_255 ?_
  refine th_rput (ci := 0) (v := .int 255) (T := TX0) (C := RX0) (N := 9) (ty := .int) hx hb hts (fun w h => List.mem_cons_of_mem _ (List.mem_append_left _ (List.mem_append_right _ h))) tyX0 tyX0_ok nmX0 hown hK hH hS z25 (Or.inl rfl) hR_h0 rfl 7 (by decide) (hts (.fieldLink RX0 45 "BayMoorings$Bay" "windBits" "I") (List.mem_cons_of_mem _ (List.mem_append_left _ (List.mem_append_left _ (List.mem_append_left _ (List.mem_of_getElem? (i := 17) rfl)))))) (fun _ h9 => h9) rfl (by decide +kernel) rfl rfl (Nat.le_of_ble_eq_true rfl) dX0_init_63 (fun H locs hR_h0 hH hS y29 o29 => ?_)
  have hR_h0 : va_P D vwCl [(h0, .inr (0, [.ref q1, .ref q4, .ref q8, .ref q13, .ref q19, .int 0, .int 0, .int 255, .int 0]))] H := hR_h0
  refine lv_aload_n hx hb dX0_init_66 rfl (lv_at hl 0 rfl) ?_
  refine lv_iconst (v := 0) hx hb dX0_init_67 ic_0 ?_
  refine th_rput (ci := 0) (v := .int 0) (T := TX0) (C := RX0) (N := 9) (ty := .int) hx hb hts (fun w h => List.mem_cons_of_mem _ (List.mem_append_left _ (List.mem_append_right _ h))) tyX0 tyX0_ok nmX0 hown hK hH hS z25 (Or.inl rfl) hR_h0 rfl 8 (by decide) (hts (.fieldLink RX0 48 "BayMoorings$Bay" "leastTide" "I") (List.mem_cons_of_mem _ (List.mem_append_left _ (List.mem_append_left _ (List.mem_append_left _ (List.mem_of_getElem? (i := 18) rfl)))))) (fun _ h9 => h9) rfl (by decide +kernel) rfl rfl (Nat.le_of_ble_eq_true rfl) dX0_init_68 (fun H locs hR_h0 hH hS y30 o30 => ?_)
  have hR_h0 : va_P D vwCl [(h0, .inr (0, [.ref q1, .ref q4, .ref q8, .ref q13, .ref q19, .int 0, .int 0, .int 255, .int 0]))] H := hR_h0
  refine lv_iconst (v := 1) hx hb dX0_init_71 ic_1 ?_
  refine lv_istore_n (i := 1) (lv' := [(1, .int 1), (0, .ref h0)]) hx hb dX0_init_72 rfl hl (th_ltN rfl) rfl (fun ls hl => ?_)
  have J73 : ∀ (n : Nat) (gi_73 : th_i) (gr_73 : th_r) (H : Heap) (locs : List Loc) (ls : Array Slot) (y73_1 : Int32), (24 - y73_1.toInt).toNat < n → th_H D cA τ20 gi_73 gr_73 H → va_S (th_AC τ s.heap.size h0) s.heap H locs → th_Ext [2300, 2400, 2500] τ gi gr s.heap.size h0 τ20 gi_73 gr_73 → va_P D vwCl [(h0, .inr (0, [.ref q1, .ref q4, .ref q8, .ref q13, .ref q19, .int 0, .int 0, .int 255, .int 0]))] H → lv_has ls 2 [(0, .ref h0), (1, .int y73_1)] → rg 1 24 y73_1 → (∀ (tO : th_t) (gO : th_i) (qO : th_r), f_X0_init_73 τ Z gi gr h0 tO gO qO τ20 q1 q4 q8 q13 q19 n gi_73 gr_73 y73_1 → M_X0_init τ Z gi gr h0 tO gO qO) → W p l e (headSpec wsX0_init ({ frames := 2, cells := 7, slots := 106, locals := 50 })).room s m [.ref h0].toArray below meth c H locs 7 106 (MQ below (va_Qv (fun (u : th_t × th_i × th_r) => th_Ext [2300, 2400, 2500] τ gi gr s.heap.size h0 u.1 u.2.1 u.2.2 ∧ u.1 h0 = 1 ∧ (u.2.1 h0 5 = 0) ∧ (u.2.1 h0 6 = 0) ∧ (u.2.1 h0 7 = 255) ∧ (u.2.1 h0 8 = 0) ∧ (M_X0_init τ Z gi gr h0 u.1 u.2.1 u.2.2)) (fun (u : th_t × th_i × th_r) t => th_H D cA u.1 u.2.1 u.2.2 t.heap) (th_AC τ s.heap.size h0)) [.ref h0].toArray s 7 106 (th_AC τ s.heap.size h0)) (F0 m 73 ls []) := by
    intro n
    induction n with
    | zero =>
      intro gi_73 gr_73 H locs ls y73_1 hn
      exact absurd hn (Nat.not_lt_zero _)
    | succ n ih73 =>
      intro gi_73 gr_73 H locs ls y73_1 hn73 hH hS hE hR_h0 hl fy73_1 hF
      refine lv_iload_n hx hb dX0_init_73 rfl (lv_at hl 1 rfl) ?_
      refine lv_bipush (v := 24) hx hb dX0_init_74 bp_24 ?_
      refine lv_icmp_ge (tgt := 92) hx hb dX0_init_76 (th_eqI rfl) (fun c31 => ?_) (fun c31 => ?_)
      · skip
        have f32 : rg 24 24 y73_1 := rg_w (rg_le rgc_24 fy73_1 c31).2 (th_leI rfl) (th_leI rfl)
        have hFp := hH.push (k0 := 1) (f := (fun k => match k with | 7 => 255 | _ => 0)) (r := (fun k => match k with | 0 => some q1 | 1 => some q4 | 2 => some q8 | 3 => some q13 | 4 => some q19 | _ => none)) (H1 := _) z25 (hR_h0 0 _ rfl) (⟨⟨q1, rfl, th_tk t21 (by decide) z25⟩, ⟨q4, rfl, th_tk t22 (by decide) z25⟩, ⟨q8, rfl, th_tk t23 (by decide) z25⟩, ⟨q13, rfl, th_tk t24 (by decide) z25⟩, ⟨q19, rfl, th_tk tn20 (by decide) z25⟩, (rg_w rgc_0 (th_leI rfl) (th_leI rfl)), (rg_w rgc_0 (th_leI rfl) (th_leI rfl))⟩) (fun _ _ => rfl)
        exact W.vret hx hb hr (fun t ht hW => ⟨⟨(va_up τ20 h0 1, va_up gi_73 h0 (fun k => match k with | 7 => 255 | _ => 0), va_up gr_73 h0 (fun k => match k with | 0 => some q1 | 1 => some q4 | 2 => some q8 | 3 => some q13 | 4 => some q19 | _ => none)), rfl, ⟨hE.add z25 (Or.inl rfl), va_up_self _ _ _, congrFun (va_up_self _ _ _) 5, congrFun (va_up_self _ _ _) 6, congrFun (va_up_self _ _ _) 7, congrFun (va_up_self _ _ _) 8, (hF _ _ _ (by (try simp only [f_X0_init_73, if_pos c31]); first | done | exact ⟨(by first | rfl | trivial), (by first | rfl | trivial), (by first | rfl | trivial)⟩))⟩, th_Ht ht hFp⟩, hS.F ht⟩) hS.2.2 dX0_init_92
      · skip
        have f33 : rg 1 23 y73_1 := rg_w (rg_nle rgc_24 fy73_1 c31).2 (th_leI rfl) (th_leI rfl)
        refine lv_aload_n hx hb dX0_init_79 rfl (lv_at hl 0 rfl) ?_
        refine va_get (D := D) (ci := 0) (v := .ref q13) (C := RX0) (T := TX0) (N := 9) hx hb hts (fun w h => List.mem_cons_of_mem _ (List.mem_append_left _ (List.mem_append_right _ h))) hown hK hR_h0 0 rfl rfl 3 (by decide) (hts (.fieldLink RX0 27 "BayMoorings$Bay" "repeated" "[Z") (List.mem_cons_of_mem _ (List.mem_append_left _ (List.mem_append_left _ (List.mem_append_left _ (List.mem_of_getElem? (i := 10) rfl)))))) (fun _ h9 => h9) rfl dX0_init_80 ?_
        refine lv_iload_n hx hb dX0_init_83 rfl (lv_at hl 1 rfl) ?_
        refine lv_iconst (v := 1) hx hb dX0_init_84 ic_1 ?_
        refine th_zastR hx hb hK hH hS t24 (th_nz rfl) (th_AE hE hS _ (Or.inl (by rw [t24]; decide))) 1 (fun _ => thE_23 _ _ _) rfl (rg_w rgc_1 (th_leI rfl) (th_leI rfl)) (rg_in (n := 24) f33 (th_leI rfl) (th_ltI rfl)) (th_ai (P := rg 0 1) (thI_23 hH t24) (rg_w rgc_1 (th_leI rfl) (th_leI rfl))) dX0_init_85 (fun gi34 H locs hu34 ho34 hH hS oq => ?_)
        have hR_h0 := th_P1 hR_h0 (oq _ (th_ne0 z25 t24 (by decide)))
        have eg34 : gi34 = va_up gi_73 q13 (upd (gi_73 q13) y73_1.toNatClampNeg 1) := th_upE hu34 ho34
        have hE := hE.new zz13 (fun b hb => funext fun j => ho34 b j (Or.inl hb)) (fun _ _ => rfl)
        obtain ⟨x35, e35⟩ : ∃ y : Int32, y = y73_1 + 1 := ⟨_, rfl⟩
        have f35 : rg 2 24 x35 := rg_e e35 (rg_w (rg_add f33 rgc_1 (th_leI rfl) (th_leI rfl)) (th_leI rfl) (th_leI rfl))
        refine lv_iinc (v := x35) (lv' := [(1, .int x35), (0, .ref h0)]) hx hb dX0_init_86 hl (k := 1) rfl (by rw [e35]; rfl) (th_ltN rfl) rfl (fun ls hl => ?_)
        refine lv_goto (tgt := 73) hx hb dX0_init_89 (th_eqI rfl) ?_
        exact ih73 gi34 gr_73 _ _ _ x35 (th_up (rg_dA e35 f33 rgc_1 (th_leI rfl) (th_leI rfl)) f33 hn73 (by decide)) hH hS hE hR_h0 (lv_sub hl [1, 0] rfl) (rg_w f35 (th_leI rfl) (th_leI rfl)) (fun tO gO qO h9 => hF tO gO qO (by (try simp only [f_X0_init_73, if_neg c31]); refine ⟨gi34, eg34, ?_⟩; (try simp only [if_neg c31, ← e35]); exact h9))
  exact J73 _ gi20 gr20 _ _ _ 1 (Nat.lt_succ_self _) hH hS hE hR_h0 (lv_sub hl [1, 0] rfl) (rg_w rgc_1 (th_leI rfl) (th_leI rfl)) (fun tO gO qO h9 => hF tO gO qO (by (try simp only [M_X0_init]); refine ⟨q1, n1, Nat.ne_of_lt (th_ltE s1 lt1_h0), ?_⟩; (try simp only [← et1, ← eg1]); refine ⟨q4, n4, Nat.ne_of_lt (th_ltE s4 lt4_h0), ?_⟩; (try simp only [← et4, ← eg4]); refine ⟨q8, n8, Nat.ne_of_lt (th_ltE s8 lt8_h0), ?_⟩; (try simp only [← et8, ← eg8]); refine ⟨q13, n13, Nat.ne_of_lt (th_ltE s13 lt13_h0), ?_⟩; (try simp only [← et13, ← eg13]); refine ⟨q19, n19, ne_h0_q19, ?_⟩; refine ⟨τ20, gi20, gr20, hw20.2.2, z25, ?_⟩; (try simp only [← et1, ← eg1, ← et4, ← eg4, ← et8, ← eg8, ← et13, ← eg13]); exact h9))

noncomputable def M_X10_init (τ : th_t) (Z : th_Zt) (gi : th_i) (gr : th_r) (h0 : Nat) (h1 : Nat) (tO : th_t) (gO : th_i) (qO : th_r) : Prop :=
  ∃ (q1 : Nat), τ q1 = 0 ∧ h0 ≠ q1 ∧ (
  let τ1 : th_t := va_up τ q1 35
  let gi1 : th_i := va_up gi q1 (fun _ => 0)
  tO = va_up τ1 h0 10 ∧ gO = va_up gi1 h0 (fun _ => 0) ∧ qO = va_up gr h0 (fun k => match k with | 0 => some h1 | 1 => some q1 | _ => none))
set_option maxHeartbeats 20000000 in
set_option maxRecDepth 100000 in
theorem k_X10_init (l : Launch) (D : va_G) (cA : Nat → ClassId) (Z : th_Zt) (τ : th_t) (gi : th_i) (gr : th_r) (sz : Nat) (h0 : Nat) (h1 : Nat) (t_h1 : τ h1 = 1) : Met l yX10_init wsX10_init ({ frames := 1, cells := 1, slots := 10, locals := 30 }) (va_Pc [.ref h0, .ref h1] (th_PreC D cA Z τ gi gr sz h0 (.inr (9, [.null, .null, .int 0])))) (va_Qv (fun (u : th_t × th_i × th_r) => th_Ext [] τ gi gr sz h0 u.1 u.2.1 u.2.2 ∧ u.1 h0 = 10 ∧ (M_X10_init τ Z gi gr h0 h1 u.1 u.2.1 u.2.2)) (fun (u : th_t × th_i × th_r) t => th_H D cA u.1 u.2.1 u.2.2 t.heap) (th_AC τ sz h0)) 1 10 (th_AC τ sz h0) := by
  refine Met.ofW (cc := cX10_init) (maxL := 2) (ret := none) (by decide) rfl ?_
  intro p e s m args below meth c s₁ B hml hv
  obtain ⟨rfl, hsz, hH, hK, hN, hZ, z_h0, hR_h0⟩ := hv
  have hx := B.exec
  have hb := B.bytes
  have hr := B.returns
  have hts := atoms_spec (ws := wsX10_init) B.pre
  have hown : s.vm.findClass RX10 = some m.cls := findClass_of_methodNamed B.named
  have hlocks := B.notSynchronized
  have hin : meth.name = "<init>" := (name_of_methodNamed B.named B.method).1
  subst hsz
  have hA : ∀ q : Nat, s.heap.size ≤ q → (th_AC τ s.heap.size h0) q := fun q h => Or.inr (Or.inr h)
  have hE : th_Ext [] τ gi gr s.heap.size h0 τ gi gr := th_Ext.rf
  have hS : va_S (th_AC τ s.heap.size h0) s.heap s.heap [] := va_S.rf
  have hl := lv_entry ([.ref h0, .ref h1]) (n := 2) (Nat.le_of_ble_eq_true rfl)
  rw [lg_entry_eq]
  generalize (lg_sl ([.ref h0, .ref h1]) ++ List.replicate (2 - (lg_sl ([.ref h0, .ref h1])).length) Slot.unset).toArray = ls at hl ⊢
  have hl : lv_has ls 2 [(0, .ref h0), (1, .ref h1)] := hl
  have hF : (∀ (tO : th_t) (gO : th_i) (qO : th_r), M_X10_init τ Z gi gr h0 h1 tO gO qO → M_X10_init τ Z gi gr h0 h1 tO gO qO) := fun tO gO qO h9 => h9
  refine lv_aload_n hx hb dX10_init_0 rfl (lv_at hl 0 rfl) ?_
  refine W.objInit hx hb hown (hts (.methodLink RX10 3 objectInit) (List.mem_cons_of_mem _ (List.mem_append_left _ (List.mem_of_getElem? (i := 0) rfl)))) (hts (.instanceMethod objectInit) (List.mem_cons_of_mem _ (List.mem_append_left _ (List.mem_of_getElem? (i := 1) rfl)))) (hts (.code objectInit ⟨#[0xb1]⟩ 1 none) (List.mem_cons_of_mem _ (List.mem_append_left _ (List.mem_of_getElem? (i := 2) rfl)))) rfl (by rw [hml]; exact hl.1) rfl dX10_init_1 (Nat.le_of_ble_eq_true rfl) (Nat.le_of_ble_eq_true rfl) ?_
  refine W.eq (g2 := F0 m 4 ls []) rfl ?_
  refine lv_aload_n hx hb dX10_init_4 rfl (lv_at hl 0 rfl) ?_
  refine lv_bipush (v := 10) hx hb dX10_init_5 bp_10 ?_
  have hle1 := hS.1
  have lt1_h0 := (hR_h0 0 _ rfl).lt
  refine th_newI (atype := .int) (cI := cA 0) (N' := 10) hx hb (hts (.arrayClass .int) (List.mem_cons_of_mem _ (List.mem_append_left _ (List.mem_of_getElem? (i := 3) rfl)))) hK 0 rfl (fun h => h) hH hS hA 35 (by decide) (by decide) (by decide) (Nat.le_of_ble_eq_true rfl) (Nat.le_of_ble_eq_true rfl) rfl (fun _ => rfl) (fun _ _ => trivial) dX10_init_7 (fun q1 H s1 y1 n1 o1 hH hS => ?_)
  have le1 : s.heap.size ≤ q1 := th_leE s1 hle1
  have hR_h0 := th_P1 hR_h0 (o1 _ (th_ltE s1 lt1_h0))
  obtain ⟨τ1, et1⟩ : ∃ t, t = va_up τ q1 35 := ⟨_, rfl⟩
  have zz1 := hE.z n1
  obtain ⟨gi1, eg1⟩ : ∃ g, g = va_up gi q1 (fun _ => 0) := ⟨_, rfl⟩
  have hE := hE.add (k0 := 35) (f := (fun _ => 0)) (r := gr q1) n1 (Or.inr le1)
  rw [th_upid gr q1, ← et1, ← eg1] at hE
  rw [← et1, ← eg1] at hH
  have og1 : ∀ b, b ≠ q1 → gi1 b = gi b := th_upO eg1
  have t2 : τ1 h1 = 1 := (th_tkE et1 t_h1 rfl n1)
  have z3 : τ1 h0 = 0 := (th_tzE et1 z_h0 (Nat.ne_of_lt (th_ltE s1 lt1_h0)))
  have tn1 : τ1 q1 = 35 := th_upS et1
  refine W.widen (k := 1) (n := 10) (Nat.le_of_ble_eq_true rfl) (Nat.le_of_ble_eq_true rfl) ?_
  refine th_rputF (ci := 9) (v := .ref q1) (T := TX10) (C := RX10) (N := 3) (ty := (.array .int)) hx hb hts (fun w h => List.mem_cons_of_mem _ (List.mem_append_right _ h)) tyX10 tyX10_ok nmX10 hown hK hH hS z3 (Or.inl rfl) hR_h0 rfl 1 (by decide) (hts (.fieldLink RX10 9 "BayMoorings$WaitingList" "queue" "[I") (List.mem_cons_of_mem _ (List.mem_append_left _ (List.mem_of_getElem? (i := 4) rfl)))) (fun _ h9 => h9) rfl hin rfl (by decide +kernel) rfl rfl (Nat.le_of_ble_eq_true rfl) dX10_init_9 (fun H locs hR_h0 hH hS y4 o4 => ?_)
  have hR_h0 : va_P D vwCl [(h0, .inr (9, [.null, .ref q1, .int 0]))] H := hR_h0
  refine lv_aload_n hx hb dX10_init_12 rfl (lv_at hl 0 rfl) ?_
  refine lv_iconst (v := 0) hx hb dX10_init_13 ic_0 ?_
  refine th_rput (ci := 9) (v := .int 0) (T := TX10) (C := RX10) (N := 3) (ty := .int) hx hb hts (fun w h => List.mem_cons_of_mem _ (List.mem_append_right _ h)) tyX10 tyX10_ok nmX10 hown hK hH hS z3 (Or.inl rfl) hR_h0 rfl 2 (by decide) (hts (.fieldLink RX10 15 "BayMoorings$WaitingList" "size" "I") (List.mem_cons_of_mem _ (List.mem_append_left _ (List.mem_of_getElem? (i := 5) rfl)))) (fun _ h9 => h9) rfl (by decide +kernel) rfl rfl (Nat.le_of_ble_eq_true rfl) dX10_init_14 (fun H locs hR_h0 hH hS y5 o5 => ?_)
  have hR_h0 : va_P D vwCl [(h0, .inr (9, [.null, .ref q1, .int 0]))] H := hR_h0
  refine lv_aload_n hx hb dX10_init_17 rfl (lv_at hl 0 rfl) ?_
  refine lv_aload_n hx hb dX10_init_18 rfl (lv_at hl 1 rfl) ?_
  refine th_rputF (ci := 9) (v := .ref h1) (T := TX10) (C := RX10) (N := 3) (ty := (.object "BayMoorings$Bay")) hx hb hts (fun w h => List.mem_cons_of_mem _ (List.mem_append_right _ h)) tyX10 tyX10_ok nmX10 hown hK hH hS z3 (Or.inl rfl) hR_h0 rfl 0 (by decide) (hts (.fieldLink RX10 19 "BayMoorings$WaitingList" "bay" "LBayMoorings$Bay;") (List.mem_cons_of_mem _ (List.mem_append_left _ (List.mem_of_getElem? (i := 6) rfl)))) (fun _ h9 => h9) rfl hin rfl (by decide +kernel) rfl rfl (Nat.le_of_ble_eq_true rfl) dX10_init_19 (fun H locs hR_h0 hH hS y6 o6 => ?_)
  have hR_h0 : va_P D vwCl [(h0, .inr (9, [.ref h1, .ref q1, .int 0]))] H := hR_h0
  have hFp := hH.push (k0 := 10) (f := (fun _ => 0)) (r := (fun k => match k with | 0 => some h1 | 1 => some q1 | _ => none)) (H1 := _) z3 (hR_h0 0 _ rfl) (⟨⟨h1, rfl, th_tk t2 (by decide) z3⟩, ⟨q1, rfl, th_tk tn1 (by decide) z3⟩, (rg_w rgc_0 (th_leI rfl) (th_leI rfl))⟩) (fun _ _ => rfl)
  exact W.vret hx hb hr (fun t ht hW => ⟨⟨(va_up τ1 h0 10, va_up gi1 h0 (fun _ => 0), va_up gr h0 (fun k => match k with | 0 => some h1 | 1 => some q1 | _ => none)), rfl, ⟨hE.add z3 (Or.inl rfl), va_up_self _ _ _, (hF _ _ _ (by (try simp only [M_X10_init]); refine ⟨q1, n1, Nat.ne_of_lt (th_ltE s1 lt1_h0), ?_⟩; (try simp only [← et1, ← eg1]); first | done | exact ⟨(by first | rfl | trivial), (by first | rfl | trivial), (by first | rfl | trivial)⟩))⟩, th_Ht ht hFp⟩, hS.F ht⟩) hS.2.2 dX10_init_22

noncomputable def M_X7_init (τ : th_t) (Z : th_Zt) (gi : th_i) (gr : th_r) (h0 : Nat) (h1 : Nat) (tO : th_t) (gO : th_i) (qO : th_r) : Prop :=
  ∃ (q1 : Nat), τ q1 = 0 ∧ h0 ≠ q1 ∧ (
  let τ1 : th_t := va_up τ q1 30
  let gr1 : th_r := va_up gr q1 (fun _ => none)
  ∃ (q6 : Nat), τ1 q6 = 0 ∧ h0 ≠ q6 ∧ (
  let τ6 : th_t := va_up τ1 q6 31
  let gi6 : th_i := va_up gi q6 (fun _ => 0)
  ∃ (q11 : Nat), τ6 q11 = 0 ∧ h0 ≠ q11 ∧ (
  let τ11 : th_t := va_up τ6 q11 32
  let gi11 : th_i := va_up gi6 q11 (fun _ => 0)
  ∃ (q17 : Nat), τ11 q17 = 0 ∧ h0 ≠ q17 ∧ (
  let τ17 : th_t := va_up τ11 q17 33
  let gi17 : th_i := va_up gi11 q17 (fun _ => 0)
  ∃ (q24 : Nat), τ17 q24 = 0 ∧ h0 ≠ q24 ∧ (
  let τ24 : th_t := va_up τ17 q24 34
  let gi24 : th_i := va_up gi17 q24 (fun _ => 0)
  tO = va_up τ24 h0 7 ∧ gO = va_up gi24 h0 (fun _ => 0) ∧ qO = va_up gr1 h0 (fun k => match k with | 0 => some h1 | 1 => some q1 | 3 => some q6 | 4 => some q11 | 5 => some q17 | 6 => some q24 | _ => none))))))
set_option maxHeartbeats 20000000 in
set_option maxRecDepth 100000 in
theorem k_X7_init (l : Launch) (D : va_G) (cA : Nat → ClassId) (Z : th_Zt) (τ : th_t) (gi : th_i) (gr : th_r) (sz : Nat) (h0 : Nat) (h1 : Nat) (t_h1 : τ h1 = 1) : Met l yX7_init wsX7_init ({ frames := 1, cells := 5, slots := 345, locals := 30 }) (va_Pc [.ref h0, .ref h1] (th_PreC D cA Z τ gi gr sz h0 (.inr (6, [.null, .null, .int 0, .null, .null, .null, .null, .int 0])))) (va_Qv (fun (u : th_t × th_i × th_r) => th_Ext [] τ gi gr sz h0 u.1 u.2.1 u.2.2 ∧ u.1 h0 = 7 ∧ (M_X7_init τ Z gi gr h0 h1 u.1 u.2.1 u.2.2)) (fun (u : th_t × th_i × th_r) t => th_H D cA u.1 u.2.1 u.2.2 t.heap) (th_AC τ sz h0)) 5 345 (th_AC τ sz h0) := by
  refine Met.ofW (cc := cX7_init) (maxL := 2) (ret := none) (by decide) rfl ?_
  intro p e s m args below meth c s₁ B hml hv
  obtain ⟨rfl, hsz, hH, hK, hN, hZ, z_h0, hR_h0⟩ := hv
  have hx := B.exec
  have hb := B.bytes
  have hr := B.returns
  have hts := atoms_spec (ws := wsX7_init) B.pre
  have hown : s.vm.findClass RX7 = some m.cls := findClass_of_methodNamed B.named
  have hlocks := B.notSynchronized
  have hin : meth.name = "<init>" := (name_of_methodNamed B.named B.method).1
  subst hsz
  have hA : ∀ q : Nat, s.heap.size ≤ q → (th_AC τ s.heap.size h0) q := fun q h => Or.inr (Or.inr h)
  have hE : th_Ext [] τ gi gr s.heap.size h0 τ gi gr := th_Ext.rf
  have hS : va_S (th_AC τ s.heap.size h0) s.heap s.heap [] := va_S.rf
  have hl := lv_entry ([.ref h0, .ref h1]) (n := 2) (Nat.le_of_ble_eq_true rfl)
  rw [lg_entry_eq]
  generalize (lg_sl ([.ref h0, .ref h1]) ++ List.replicate (2 - (lg_sl ([.ref h0, .ref h1])).length) Slot.unset).toArray = ls at hl ⊢
  have hl : lv_has ls 2 [(0, .ref h0), (1, .ref h1)] := hl
  have hF : (∀ (tO : th_t) (gO : th_i) (qO : th_r), M_X7_init τ Z gi gr h0 h1 tO gO qO → M_X7_init τ Z gi gr h0 h1 tO gO qO) := fun tO gO qO h9 => h9
  refine lv_aload_n hx hb dX7_init_0 rfl (lv_at hl 0 rfl) ?_
  refine W.objInit hx hb hown (hts (.methodLink RX7 3 objectInit) (List.mem_cons_of_mem _ (List.mem_append_left _ (List.mem_of_getElem? (i := 0) rfl)))) (hts (.instanceMethod objectInit) (List.mem_cons_of_mem _ (List.mem_append_left _ (List.mem_of_getElem? (i := 1) rfl)))) (hts (.code objectInit ⟨#[0xb1]⟩ 1 none) (List.mem_cons_of_mem _ (List.mem_append_left _ (List.mem_of_getElem? (i := 2) rfl)))) rfl (by rw [hml]; exact hl.1) rfl dX7_init_1 (Nat.le_of_ble_eq_true rfl) (Nat.le_of_ble_eq_true rfl) ?_
  refine W.eq (g2 := F0 m 4 ls []) rfl ?_
  refine lv_aload_n hx hb dX7_init_4 rfl (lv_at hl 0 rfl) ?_
  refine lv_iconst (v := 5) hx hb dX7_init_5 ic_5 ?_
  have hle1 := hS.1
  have lt1_h0 := (hR_h0 0 _ rfl).lt
  refine th_newR (C := "BayMoorings$Boat") (cI := cA 3) (N' := 5) hx hb hown (hts (.classLink RX7 9 RX2) (List.mem_cons_of_mem _ (List.mem_append_left _ (List.mem_of_getElem? (i := 3) rfl)))) hN.2.2.2.2.2.2.2.2.2.2.2.2.1 hK 3 rfl hH hS hA 30 (by decide) (by decide) (by decide) (Nat.le_of_ble_eq_true rfl) (Nat.le_of_ble_eq_true rfl) (fun _ => rfl) (fun _ _ => (fun _ _ _ h9 => by cases h9)) dX7_init_6 (fun q1 H s1 y1 n1 o1 hH hS => ?_)
  have le1 : s.heap.size ≤ q1 := th_leE s1 hle1
  have hR_h0 := th_P1 hR_h0 (o1 _ (th_ltE s1 lt1_h0))
  obtain ⟨τ1, et1⟩ : ∃ t, t = va_up τ q1 30 := ⟨_, rfl⟩
  have zz1 := hE.z n1
  obtain ⟨gr1, eg1⟩ : ∃ g, g = va_up gr q1 (fun _ => none) := ⟨_, rfl⟩
  have hE := hE.add (k0 := 30) (f := gi q1) (r := (fun _ => none)) n1 (Or.inr le1)
  rw [th_upid gi q1, ← et1, ← eg1] at hE
  rw [← et1, ← eg1] at hH
  have t2 : τ1 h1 = 1 := (th_tkE et1 t_h1 rfl n1)
  have z3 : τ1 h0 = 0 := (th_tzE et1 z_h0 (Nat.ne_of_lt (th_ltE s1 lt1_h0)))
  have tn1 : τ1 q1 = 30 := th_upS et1
  refine W.widen (k := 1) (n := 5) (Nat.le_of_ble_eq_true rfl) (Nat.le_of_ble_eq_true rfl) ?_
  refine th_rputF (ci := 6) (v := .ref q1) (T := TX7) (C := RX7) (N := 8) (ty := (.array (.object "BayMoorings$Boat"))) hx hb hts (fun w h => List.mem_cons_of_mem _ (List.mem_append_right _ h)) tyX7 tyX7_ok nmX7 hown hK hH hS z3 (Or.inl rfl) hR_h0 rfl 1 (by decide) (hts (.fieldLink RX7 11 "BayMoorings$Search" "asked" "[LBayMoorings$Boat;") (List.mem_cons_of_mem _ (List.mem_append_left _ (List.mem_of_getElem? (i := 4) rfl)))) (fun _ h9 => h9) rfl hin rfl (by decide +kernel) rfl rfl (Nat.le_of_ble_eq_true rfl) dX7_init_9 (fun H locs hR_h0 hH hS y4 o4 => ?_)
  have hR_h0 : va_P D vwCl [(h0, .inr (6, [.null, .ref q1, .int 0, .null, .null, .null, .null, .int 0]))] H := hR_h0
  refine lv_aload_n hx hb dX7_init_12 rfl (lv_at hl 0 rfl) ?_
  refine lv_iconst (v := 0) hx hb dX7_init_13 ic_0 ?_
  refine th_rput (ci := 6) (v := .int 0) (T := TX7) (C := RX7) (N := 8) (ty := .int) hx hb hts (fun w h => List.mem_cons_of_mem _ (List.mem_append_right _ h)) tyX7 tyX7_ok nmX7 hown hK hH hS z3 (Or.inl rfl) hR_h0 rfl 2 (by decide) (hts (.fieldLink RX7 17 "BayMoorings$Search" "size" "I") (List.mem_cons_of_mem _ (List.mem_append_left _ (List.mem_of_getElem? (i := 5) rfl)))) (fun _ h9 => h9) rfl (by decide +kernel) rfl rfl (Nat.le_of_ble_eq_true rfl) dX7_init_14 (fun H locs hR_h0 hH hS y5 o5 => ?_)
  have hR_h0 : va_P D vwCl [(h0, .inr (6, [.null, .ref q1, .int 0, .null, .null, .null, .null, .int 0]))] H := hR_h0
  refine lv_aload_n hx hb dX7_init_17 rfl (lv_at hl 0 rfl) ?_
  refine lv_bipush (v := 30) hx hb dX7_init_18 bp_30 ?_
  have hle6 := hS.1
  have lt6_h0 := (hR_h0 0 _ rfl).lt
  refine th_newI (atype := .int) (cI := cA 0) (N' := 30) hx hb (hts (.arrayClass .int) (List.mem_cons_of_mem _ (List.mem_append_left _ (List.mem_of_getElem? (i := 6) rfl)))) hK 0 rfl (fun h => h) hH hS hA 31 (by decide) (by decide) (by decide) (Nat.le_of_ble_eq_true rfl) (Nat.le_of_ble_eq_true rfl) rfl (fun _ => rfl) (fun _ _ => trivial) dX7_init_20 (fun q6 H s6 y6 n6 o6 hH hS => ?_)
  have le6 : s.heap.size ≤ q6 := th_leE s6 hle6
  have hR_h0 := th_P1 hR_h0 (o6 _ (th_ltE s6 lt6_h0))
  obtain ⟨τ6, et6⟩ : ∃ t, t = va_up τ1 q6 31 := ⟨_, rfl⟩
  have zz6 := hE.z n6
  obtain ⟨gi6, eg6⟩ : ∃ g, g = va_up gi q6 (fun _ => 0) := ⟨_, rfl⟩
  have hE := hE.add (k0 := 31) (f := (fun _ => 0)) (r := gr1 q6) n6 (Or.inr le6)
  rw [th_upid gr1 q6, ← et6, ← eg6] at hE
  rw [← et6, ← eg6] at hH
  have og6 : ∀ b, b ≠ q6 → gi6 b = gi b := th_upO eg6
  have t7 : τ6 h1 = 1 := (th_tkE et6 t2 rfl n6)
  have t8 : τ6 q1 = 30 := (th_tkE et6 tn1 rfl n6)
  have z9 : τ6 h0 = 0 := (th_tzE et6 z3 (Nat.ne_of_lt (th_ltE s6 lt6_h0)))
  have tn6 : τ6 q6 = 31 := th_upS et6
  refine W.widen (k := 2) (n := 35) (Nat.le_of_ble_eq_true rfl) (Nat.le_of_ble_eq_true rfl) ?_
  refine th_rputF (ci := 6) (v := .ref q6) (T := TX7) (C := RX7) (N := 8) (ty := (.array .int)) hx hb hts (fun w h => List.mem_cons_of_mem _ (List.mem_append_right _ h)) tyX7 tyX7_ok nmX7 hown hK hH hS z9 (Or.inl rfl) hR_h0 rfl 3 (by decide) (hts (.fieldLink RX7 21 "BayMoorings$Search" "open" "[I") (List.mem_cons_of_mem _ (List.mem_append_left _ (List.mem_of_getElem? (i := 7) rfl)))) (fun _ h9 => h9) rfl hin rfl (by decide +kernel) rfl rfl (Nat.le_of_ble_eq_true rfl) dX7_init_22 (fun H locs hR_h0 hH hS y10 o10 => ?_)
  have hR_h0 : va_P D vwCl [(h0, .inr (6, [.null, .ref q1, .int 0, .ref q6, .null, .null, .null, .int 0]))] H := hR_h0
  refine lv_aload_n hx hb dX7_init_25 rfl (lv_at hl 0 rfl) ?_
  refine lv_sipush (v := 300) hx hb dX7_init_26 sp_300 ?_
  have hle11 := hS.1
  have lt11_h0 := (hR_h0 0 _ rfl).lt
  refine th_newI (atype := .int) (cI := cA 0) (N' := 300) hx hb (hts (.arrayClass .int) (List.mem_cons_of_mem _ (List.mem_append_left _ (List.mem_of_getElem? (i := 6) rfl)))) hK 0 rfl (fun h => h) hH hS hA 32 (by decide) (by decide) (by decide) (Nat.le_of_ble_eq_true rfl) (Nat.le_of_ble_eq_true rfl) rfl (fun _ => rfl) (fun _ _ => trivial) dX7_init_29 (fun q11 H s11 y11 n11 o11 hH hS => ?_)
  have le11 : s.heap.size ≤ q11 := th_leE s11 hle11
  have hR_h0 := th_P1 hR_h0 (o11 _ (th_ltE s11 lt11_h0))
  obtain ⟨τ11, et11⟩ : ∃ t, t = va_up τ6 q11 32 := ⟨_, rfl⟩
  have zz11 := hE.z n11
  obtain ⟨gi11, eg11⟩ : ∃ g, g = va_up gi6 q11 (fun _ => 0) := ⟨_, rfl⟩
  have hE := hE.add (k0 := 32) (f := (fun _ => 0)) (r := gr1 q11) n11 (Or.inr le11)
  rw [th_upid gr1 q11, ← et11, ← eg11] at hE
  rw [← et11, ← eg11] at hH
  have og11 : ∀ b, b ≠ q11 → gi11 b = gi6 b := th_upO eg11
  have t12 : τ11 h1 = 1 := (th_tkE et11 t7 rfl n11)
  have t13 : τ11 q1 = 30 := (th_tkE et11 t8 rfl n11)
  have t14 : τ11 q6 = 31 := (th_tkE et11 tn6 rfl n11)
  have z15 : τ11 h0 = 0 := (th_tzE et11 z9 (Nat.ne_of_lt (th_ltE s11 lt11_h0)))
  have tn11 : τ11 q11 = 32 := th_upS et11
  refine W.widen (k := 3) (n := 335) (Nat.le_of_ble_eq_true rfl) (Nat.le_of_ble_eq_true rfl) ?_
  refine th_rputF (ci := 6) (v := .ref q11) (T := TX7) (C := RX7) (N := 8) (ty := (.array .int)) hx hb hts (fun w h => List.mem_cons_of_mem _ (List.mem_append_right _ h)) tyX7 tyX7_ok nmX7 hown hK hH hS z15 (Or.inl rfl) hR_h0 rfl 4 (by decide) (hts (.fieldLink RX7 25 "BayMoorings$Search" "barred" "[I") (List.mem_cons_of_mem _ (List.mem_append_left _ (List.mem_of_getElem? (i := 8) rfl)))) (fun _ h9 => h9) rfl hin rfl (by decide +kernel) rfl rfl (Nat.le_of_ble_eq_true rfl) dX7_init_31 (fun H locs hR_h0 hH hS y16 o16 => ?_)
  have hR_h0 : va_P D vwCl [(h0, .inr (6, [.null, .ref q1, .int 0, .ref q6, .ref q11, .null, .null, .int 0]))] H := hR_h0
  refine lv_aload_n hx hb dX7_init_34 rfl (lv_at hl 0 rfl) ?_
  refine lv_iconst (v := 5) hx hb dX7_init_35 ic_5 ?_
  have hle17 := hS.1
  have lt17_h0 := (hR_h0 0 _ rfl).lt
  refine th_newI (atype := .int) (cI := cA 0) (N' := 5) hx hb (hts (.arrayClass .int) (List.mem_cons_of_mem _ (List.mem_append_left _ (List.mem_of_getElem? (i := 6) rfl)))) hK 0 rfl (fun h => h) hH hS hA 33 (by decide) (by decide) (by decide) (Nat.le_of_ble_eq_true rfl) (Nat.le_of_ble_eq_true rfl) rfl (fun _ => rfl) (fun _ _ => trivial) dX7_init_36 (fun q17 H s17 y17 n17 o17 hH hS => ?_)
  have le17 : s.heap.size ≤ q17 := th_leE s17 hle17
  have hR_h0 := th_P1 hR_h0 (o17 _ (th_ltE s17 lt17_h0))
  obtain ⟨τ17, et17⟩ : ∃ t, t = va_up τ11 q17 33 := ⟨_, rfl⟩
  have zz17 := hE.z n17
  obtain ⟨gi17, eg17⟩ : ∃ g, g = va_up gi11 q17 (fun _ => 0) := ⟨_, rfl⟩
  have hE := hE.add (k0 := 33) (f := (fun _ => 0)) (r := gr1 q17) n17 (Or.inr le17)
  rw [th_upid gr1 q17, ← et17, ← eg17] at hE
  rw [← et17, ← eg17] at hH
  have og17 : ∀ b, b ≠ q17 → gi17 b = gi11 b := th_upO eg17
  have t18 : τ17 h1 = 1 := (th_tkE et17 t12 rfl n17)
  have t19 : τ17 q1 = 30 := (th_tkE et17 t13 rfl n17)
  have t20 : τ17 q6 = 31 := (th_tkE et17 t14 rfl n17)
  have t21 : τ17 q11 = 32 := (th_tkE et17 tn11 rfl n17)
  have z22 : τ17 h0 = 0 := (th_tzE et17 z15 (Nat.ne_of_lt (th_ltE s17 lt17_h0)))
  have tn17 : τ17 q17 = 33 := th_upS et17
  refine W.widen (k := 4) (n := 340) (Nat.le_of_ble_eq_true rfl) (Nat.le_of_ble_eq_true rfl) ?_
  refine th_rputF (ci := 6) (v := .ref q17) (T := TX7) (C := RX7) (N := 8) (ty := (.array .int)) hx hb hts (fun w h => List.mem_cons_of_mem _ (List.mem_append_right _ h)) tyX7 tyX7_ok nmX7 hown hK hH hS z22 (Or.inl rfl) hR_h0 rfl 5 (by decide) (hts (.fieldLink RX7 28 "BayMoorings$Search" "trial" "[I") (List.mem_cons_of_mem _ (List.mem_append_left _ (List.mem_of_getElem? (i := 9) rfl)))) (fun _ h9 => h9) rfl hin rfl (by decide +kernel) rfl rfl (Nat.le_of_ble_eq_true rfl) dX7_init_38 (fun H locs hR_h0 hH hS y23 o23 => ?_)
  have hR_h0 : va_P D vwCl [(h0, .inr (6, [.null, .ref q1, .int 0, .ref q6, .ref q11, .ref q17, .null, .int 0]))] H := hR_h0
  refine lv_aload_n hx hb dX7_init_41 rfl (lv_at hl 0 rfl) ?_
  refine lv_iconst (v := 5) hx hb dX7_init_42 ic_5 ?_
  have hle24 := hS.1
  have lt24_h0 := (hR_h0 0 _ rfl).lt
  refine th_newI (atype := .int) (cI := cA 0) (N' := 5) hx hb (hts (.arrayClass .int) (List.mem_cons_of_mem _ (List.mem_append_left _ (List.mem_of_getElem? (i := 6) rfl)))) hK 0 rfl (fun h => h) hH hS hA 34 (by decide) (by decide) (by decide) (Nat.le_of_ble_eq_true rfl) (Nat.le_of_ble_eq_true rfl) rfl (fun _ => rfl) (fun _ _ => trivial) dX7_init_43 (fun q24 H s24 y24 n24 o24 hH hS => ?_)
  have le24 : s.heap.size ≤ q24 := th_leE s24 hle24
  have hR_h0 := th_P1 hR_h0 (o24 _ (th_ltE s24 lt24_h0))
  obtain ⟨τ24, et24⟩ : ∃ t, t = va_up τ17 q24 34 := ⟨_, rfl⟩
  have zz24 := hE.z n24
  obtain ⟨gi24, eg24⟩ : ∃ g, g = va_up gi17 q24 (fun _ => 0) := ⟨_, rfl⟩
  have hE := hE.add (k0 := 34) (f := (fun _ => 0)) (r := gr1 q24) n24 (Or.inr le24)
  rw [th_upid gr1 q24, ← et24, ← eg24] at hE
  rw [← et24, ← eg24] at hH
  have og24 : ∀ b, b ≠ q24 → gi24 b = gi17 b := th_upO eg24
  have t25 : τ24 h1 = 1 := (th_tkE et24 t18 rfl n24)
  have t26 : τ24 q1 = 30 := (th_tkE et24 t19 rfl n24)
  have t27 : τ24 q6 = 31 := (th_tkE et24 t20 rfl n24)
  have t28 : τ24 q11 = 32 := (th_tkE et24 t21 rfl n24)
  have t29 : τ24 q17 = 33 := (th_tkE et24 tn17 rfl n24)
  have z30 : τ24 h0 = 0 := (th_tzE et24 z22 (Nat.ne_of_lt (th_ltE s24 lt24_h0)))
  have tn24 : τ24 q24 = 34 := th_upS et24
  refine W.widen (k := 5) (n := 345) (Nat.le_of_ble_eq_true rfl) (Nat.le_of_ble_eq_true rfl) ?_
  refine th_rputF (ci := 6) (v := .ref q24) (T := TX7) (C := RX7) (N := 8) (ty := (.array .int)) hx hb hts (fun w h => List.mem_cons_of_mem _ (List.mem_append_right _ h)) tyX7 tyX7_ok nmX7 hown hK hH hS z30 (Or.inl rfl) hR_h0 rfl 6 (by decide) (hts (.fieldLink RX7 31 "BayMoorings$Search" "best" "[I") (List.mem_cons_of_mem _ (List.mem_append_left _ (List.mem_of_getElem? (i := 10) rfl)))) (fun _ h9 => h9) rfl hin rfl (by decide +kernel) rfl rfl (Nat.le_of_ble_eq_true rfl) dX7_init_45 (fun H locs hR_h0 hH hS y31 o31 => ?_)
  have hR_h0 : va_P D vwCl [(h0, .inr (6, [.null, .ref q1, .int 0, .ref q6, .ref q11, .ref q17, .ref q24, .int 0]))] H := hR_h0
  refine lv_aload_n hx hb dX7_init_48 rfl (lv_at hl 0 rfl) ?_
  refine lv_iconst (v := 0) hx hb dX7_init_49 ic_0 ?_
  refine th_rput (ci := 6) (v := .int 0) (T := TX7) (C := RX7) (N := 8) (ty := .int) hx hb hts (fun w h => List.mem_cons_of_mem _ (List.mem_append_right _ h)) tyX7 tyX7_ok nmX7 hown hK hH hS z30 (Or.inl rfl) hR_h0 rfl 7 (by decide) (hts (.fieldLink RX7 34 "BayMoorings$Search" "bestCount" "I") (List.mem_cons_of_mem _ (List.mem_append_left _ (List.mem_of_getElem? (i := 11) rfl)))) (fun _ h9 => h9) rfl (by decide +kernel) rfl rfl (Nat.le_of_ble_eq_true rfl) dX7_init_50 (fun H locs hR_h0 hH hS y32 o32 => ?_)
  have hR_h0 : va_P D vwCl [(h0, .inr (6, [.null, .ref q1, .int 0, .ref q6, .ref q11, .ref q17, .ref q24, .int 0]))] H := hR_h0
  refine lv_aload_n hx hb dX7_init_53 rfl (lv_at hl 0 rfl) ?_
  refine lv_aload_n hx hb dX7_init_54 rfl (lv_at hl 1 rfl) ?_
  refine th_rputF (ci := 6) (v := .ref h1) (T := TX7) (C := RX7) (N := 8) (ty := (.object "BayMoorings$Bay")) hx hb hts (fun w h => List.mem_cons_of_mem _ (List.mem_append_right _ h)) tyX7 tyX7_ok nmX7 hown hK hH hS z30 (Or.inl rfl) hR_h0 rfl 0 (by decide) (hts (.fieldLink RX7 37 "BayMoorings$Search" "bay" "LBayMoorings$Bay;") (List.mem_cons_of_mem _ (List.mem_append_left _ (List.mem_of_getElem? (i := 12) rfl)))) (fun _ h9 => h9) rfl hin rfl (by decide +kernel) rfl rfl (Nat.le_of_ble_eq_true rfl) dX7_init_55 (fun H locs hR_h0 hH hS y33 o33 => ?_)
  have hR_h0 : va_P D vwCl [(h0, .inr (6, [.ref h1, .ref q1, .int 0, .ref q6, .ref q11, .ref q17, .ref q24, .int 0]))] H := hR_h0
  have hFp := hH.push (k0 := 7) (f := (fun _ => 0)) (r := (fun k => match k with | 0 => some h1 | 1 => some q1 | 3 => some q6 | 4 => some q11 | 5 => some q17 | 6 => some q24 | _ => none)) (H1 := _) z30 (hR_h0 0 _ rfl) (⟨⟨h1, rfl, th_tk t25 (by decide) z30⟩, ⟨q1, rfl, th_tk t26 (by decide) z30⟩, (rg_w rgc_0 (th_leI rfl) (th_leI rfl)), ⟨q6, rfl, th_tk t27 (by decide) z30⟩, ⟨q11, rfl, th_tk t28 (by decide) z30⟩, ⟨q17, rfl, th_tk t29 (by decide) z30⟩, ⟨q24, rfl, th_tk tn24 (by decide) z30⟩⟩) (fun _ _ => rfl)
  exact W.vret hx hb hr (fun t ht hW => ⟨⟨(va_up τ24 h0 7, va_up gi24 h0 (fun _ => 0), va_up gr1 h0 (fun k => match k with | 0 => some h1 | 1 => some q1 | 3 => some q6 | 4 => some q11 | 5 => some q17 | 6 => some q24 | _ => none)), rfl, ⟨hE.add z30 (Or.inl rfl), va_up_self _ _ _, (hF _ _ _ (by (try simp only [M_X7_init]); refine ⟨q1, n1, Nat.ne_of_lt (th_ltE s1 lt1_h0), ?_⟩; (try simp only [← et1, ← eg1]); refine ⟨q6, n6, Nat.ne_of_lt (th_ltE s6 lt6_h0), ?_⟩; (try simp only [← et6, ← eg6]); refine ⟨q11, n11, Nat.ne_of_lt (th_ltE s11 lt11_h0), ?_⟩; (try simp only [← et11, ← eg11]); refine ⟨q17, n17, Nat.ne_of_lt (th_ltE s17 lt17_h0), ?_⟩; (try simp only [← et17, ← eg17]); refine ⟨q24, n24, Nat.ne_of_lt (th_ltE s24 lt24_h0), ?_⟩; (try simp only [← et1, ← eg1, ← et6, ← eg6, ← et11, ← eg11, ← et17, ← eg17, ← et24, ← eg24]); first | done | exact ⟨(by first | rfl | trivial), (by first | rfl | trivial), (by first | rfl | trivial)⟩))⟩, th_Ht ht hFp⟩, hS.F ht⟩) hS.2.2 dX7_init_58

noncomputable def M_X6_init (τ : th_t) (Z : th_Zt) (gi : th_i) (gr : th_r) (h0 : Nat) (h1 : Nat) (tO : th_t) (gO : th_i) (qO : th_r) : Prop :=
  ∃ (q1 : Nat), τ q1 = 0 ∧ h0 ≠ q1 ∧ (
  let τ1 : th_t := va_up τ q1 28
  let gi1 : th_i := va_up gi q1 (fun _ => 0)
  ∃ (q5 : Nat), τ1 q5 = 0 ∧ h0 ≠ q5 ∧ (
  let τ5 : th_t := va_up τ1 q5 29
  let gi5 : th_i := va_up gi1 q5 (fun _ => 0)
  tO = va_up τ5 h0 6 ∧ gO = va_up gi5 h0 (fun _ => 0) ∧ qO = va_up gr h0 (fun k => match k with | 0 => some h1 | 1 => some q1 | 2 => some q5 | _ => none)))
set_option maxHeartbeats 20000000 in
set_option maxRecDepth 100000 in
theorem k_X6_init (l : Launch) (D : va_G) (cA : Nat → ClassId) (Z : th_Zt) (τ : th_t) (gi : th_i) (gr : th_r) (sz : Nat) (h0 : Nat) (h1 : Nat) (t_h1 : τ h1 = 1) : Met l yX6_init wsX6_init ({ frames := 1, cells := 2, slots := 32, locals := 30 }) (va_Pc [.ref h0, .ref h1] (th_PreC D cA Z τ gi gr sz h0 (.inr (5, [.null, .null, .null, .int 0])))) (va_Qv (fun (u : th_t × th_i × th_r) => th_Ext [] τ gi gr sz h0 u.1 u.2.1 u.2.2 ∧ u.1 h0 = 6 ∧ (M_X6_init τ Z gi gr h0 h1 u.1 u.2.1 u.2.2)) (fun (u : th_t × th_i × th_r) t => th_H D cA u.1 u.2.1 u.2.2 t.heap) (th_AC τ sz h0)) 2 32 (th_AC τ sz h0) := by
  refine Met.ofW (cc := cX6_init) (maxL := 2) (ret := none) (by decide) rfl ?_
  intro p e s m args below meth c s₁ B hml hv
  obtain ⟨rfl, hsz, hH, hK, hN, hZ, z_h0, hR_h0⟩ := hv
  have hx := B.exec
  have hb := B.bytes
  have hr := B.returns
  have hts := atoms_spec (ws := wsX6_init) B.pre
  have hown : s.vm.findClass RX6 = some m.cls := findClass_of_methodNamed B.named
  have hlocks := B.notSynchronized
  have hin : meth.name = "<init>" := (name_of_methodNamed B.named B.method).1
  subst hsz
  have hA : ∀ q : Nat, s.heap.size ≤ q → (th_AC τ s.heap.size h0) q := fun q h => Or.inr (Or.inr h)
  have hE : th_Ext [] τ gi gr s.heap.size h0 τ gi gr := th_Ext.rf
  have hS : va_S (th_AC τ s.heap.size h0) s.heap s.heap [] := va_S.rf
  have hl := lv_entry ([.ref h0, .ref h1]) (n := 2) (Nat.le_of_ble_eq_true rfl)
  rw [lg_entry_eq]
  generalize (lg_sl ([.ref h0, .ref h1]) ++ List.replicate (2 - (lg_sl ([.ref h0, .ref h1])).length) Slot.unset).toArray = ls at hl ⊢
  have hl : lv_has ls 2 [(0, .ref h0), (1, .ref h1)] := hl
  have hF : (∀ (tO : th_t) (gO : th_i) (qO : th_r), M_X6_init τ Z gi gr h0 h1 tO gO qO → M_X6_init τ Z gi gr h0 h1 tO gO qO) := fun tO gO qO h9 => h9
  refine lv_aload_n hx hb dX6_init_0 rfl (lv_at hl 0 rfl) ?_
  refine W.objInit hx hb hown (hts (.methodLink RX6 3 objectInit) (List.mem_cons_of_mem _ (List.mem_append_left _ (List.mem_of_getElem? (i := 0) rfl)))) (hts (.instanceMethod objectInit) (List.mem_cons_of_mem _ (List.mem_append_left _ (List.mem_of_getElem? (i := 1) rfl)))) (hts (.code objectInit ⟨#[0xb1]⟩ 1 none) (List.mem_cons_of_mem _ (List.mem_append_left _ (List.mem_of_getElem? (i := 2) rfl)))) rfl (by rw [hml]; exact hl.1) rfl dX6_init_1 (Nat.le_of_ble_eq_true rfl) (Nat.le_of_ble_eq_true rfl) ?_
  refine W.eq (g2 := F0 m 4 ls []) rfl ?_
  refine lv_aload_n hx hb dX6_init_4 rfl (lv_at hl 0 rfl) ?_
  refine lv_bipush (v := 16) hx hb dX6_init_5 bp_16 ?_
  have hle1 := hS.1
  have lt1_h0 := (hR_h0 0 _ rfl).lt
  refine th_newI (atype := .int) (cI := cA 0) (N' := 16) hx hb (hts (.arrayClass .int) (List.mem_cons_of_mem _ (List.mem_append_left _ (List.mem_of_getElem? (i := 3) rfl)))) hK 0 rfl (fun h => h) hH hS hA 28 (by decide) (by decide) (by decide) (Nat.le_of_ble_eq_true rfl) (Nat.le_of_ble_eq_true rfl) rfl (fun _ => rfl) (fun _ _ => trivial) dX6_init_7 (fun q1 H s1 y1 n1 o1 hH hS => ?_)
  have le1 : s.heap.size ≤ q1 := th_leE s1 hle1
  have hR_h0 := th_P1 hR_h0 (o1 _ (th_ltE s1 lt1_h0))
  obtain ⟨τ1, et1⟩ : ∃ t, t = va_up τ q1 28 := ⟨_, rfl⟩
  have zz1 := hE.z n1
  obtain ⟨gi1, eg1⟩ : ∃ g, g = va_up gi q1 (fun _ => 0) := ⟨_, rfl⟩
  have hE := hE.add (k0 := 28) (f := (fun _ => 0)) (r := gr q1) n1 (Or.inr le1)
  rw [th_upid gr q1, ← et1, ← eg1] at hE
  rw [← et1, ← eg1] at hH
  have og1 : ∀ b, b ≠ q1 → gi1 b = gi b := th_upO eg1
  have t2 : τ1 h1 = 1 := (th_tkE et1 t_h1 rfl n1)
  have z3 : τ1 h0 = 0 := (th_tzE et1 z_h0 (Nat.ne_of_lt (th_ltE s1 lt1_h0)))
  have tn1 : τ1 q1 = 28 := th_upS et1
  refine W.widen (k := 1) (n := 16) (Nat.le_of_ble_eq_true rfl) (Nat.le_of_ble_eq_true rfl) ?_
  refine th_rputF (ci := 5) (v := .ref q1) (T := TX6) (C := RX6) (N := 4) (ty := (.array .int)) hx hb hts (fun w h => List.mem_cons_of_mem _ (List.mem_append_right _ h)) tyX6 tyX6_ok nmX6 hown hK hH hS z3 (Or.inl rfl) hR_h0 rfl 1 (by decide) (hts (.fieldLink RX6 9 "BayMoorings$Rings" "gets" "[I") (List.mem_cons_of_mem _ (List.mem_append_left _ (List.mem_of_getElem? (i := 4) rfl)))) (fun _ h9 => h9) rfl hin rfl (by decide +kernel) rfl rfl (Nat.le_of_ble_eq_true rfl) dX6_init_9 (fun H locs hR_h0 hH hS y4 o4 => ?_)
  have hR_h0 : va_P D vwCl [(h0, .inr (5, [.null, .ref q1, .null, .int 0]))] H := hR_h0
  refine lv_aload_n hx hb dX6_init_12 rfl (lv_at hl 0 rfl) ?_
  refine lv_bipush (v := 16) hx hb dX6_init_13 bp_16 ?_
  have hle5 := hS.1
  have lt5_h0 := (hR_h0 0 _ rfl).lt
  refine th_newI (atype := .int) (cI := cA 0) (N' := 16) hx hb (hts (.arrayClass .int) (List.mem_cons_of_mem _ (List.mem_append_left _ (List.mem_of_getElem? (i := 3) rfl)))) hK 0 rfl (fun h => h) hH hS hA 29 (by decide) (by decide) (by decide) (Nat.le_of_ble_eq_true rfl) (Nat.le_of_ble_eq_true rfl) rfl (fun _ => rfl) (fun _ _ => trivial) dX6_init_15 (fun q5 H s5 y5 n5 o5 hH hS => ?_)
  have le5 : s.heap.size ≤ q5 := th_leE s5 hle5
  have hR_h0 := th_P1 hR_h0 (o5 _ (th_ltE s5 lt5_h0))
  obtain ⟨τ5, et5⟩ : ∃ t, t = va_up τ1 q5 29 := ⟨_, rfl⟩
  have zz5 := hE.z n5
  obtain ⟨gi5, eg5⟩ : ∃ g, g = va_up gi1 q5 (fun _ => 0) := ⟨_, rfl⟩
  have hE := hE.add (k0 := 29) (f := (fun _ => 0)) (r := gr q5) n5 (Or.inr le5)
  rw [th_upid gr q5, ← et5, ← eg5] at hE
  rw [← et5, ← eg5] at hH
  have og5 : ∀ b, b ≠ q5 → gi5 b = gi1 b := th_upO eg5
  have t6 : τ5 h1 = 1 := (th_tkE et5 t2 rfl n5)
  have t7 : τ5 q1 = 28 := (th_tkE et5 tn1 rfl n5)
  have z8 : τ5 h0 = 0 := (th_tzE et5 z3 (Nat.ne_of_lt (th_ltE s5 lt5_h0)))
  have tn5 : τ5 q5 = 29 := th_upS et5
  refine W.widen (k := 2) (n := 32) (Nat.le_of_ble_eq_true rfl) (Nat.le_of_ble_eq_true rfl) ?_
  refine th_rputF (ci := 5) (v := .ref q5) (T := TX6) (C := RX6) (N := 4) (ty := (.array .int)) hx hb hts (fun w h => List.mem_cons_of_mem _ (List.mem_append_right _ h)) tyX6 tyX6_ok nmX6 hown hK hH hS z8 (Or.inl rfl) hR_h0 rfl 2 (by decide) (hts (.fieldLink RX6 15 "BayMoorings$Rings" "pointsAt" "[I") (List.mem_cons_of_mem _ (List.mem_append_left _ (List.mem_of_getElem? (i := 5) rfl)))) (fun _ h9 => h9) rfl hin rfl (by decide +kernel) rfl rfl (Nat.le_of_ble_eq_true rfl) dX6_init_17 (fun H locs hR_h0 hH hS y9 o9 => ?_)
  have hR_h0 : va_P D vwCl [(h0, .inr (5, [.null, .ref q1, .ref q5, .int 0]))] H := hR_h0
  refine lv_aload_n hx hb dX6_init_20 rfl (lv_at hl 0 rfl) ?_
  refine lv_iconst (v := 0) hx hb dX6_init_21 ic_0 ?_
  refine th_rput (ci := 5) (v := .int 0) (T := TX6) (C := RX6) (N := 4) (ty := .int) hx hb hts (fun w h => List.mem_cons_of_mem _ (List.mem_append_right _ h)) tyX6 tyX6_ok nmX6 hown hK hH hS z8 (Or.inl rfl) hR_h0 rfl 3 (by decide) (hts (.fieldLink RX6 18 "BayMoorings$Rings" "left" "I") (List.mem_cons_of_mem _ (List.mem_append_left _ (List.mem_of_getElem? (i := 6) rfl)))) (fun _ h9 => h9) rfl (by decide +kernel) rfl rfl (Nat.le_of_ble_eq_true rfl) dX6_init_22 (fun H locs hR_h0 hH hS y10 o10 => ?_)
  have hR_h0 : va_P D vwCl [(h0, .inr (5, [.null, .ref q1, .ref q5, .int 0]))] H := hR_h0
  refine lv_aload_n hx hb dX6_init_25 rfl (lv_at hl 0 rfl) ?_
  refine lv_aload_n hx hb dX6_init_26 rfl (lv_at hl 1 rfl) ?_
  refine th_rputF (ci := 5) (v := .ref h1) (T := TX6) (C := RX6) (N := 4) (ty := (.object "BayMoorings$Bay")) hx hb hts (fun w h => List.mem_cons_of_mem _ (List.mem_append_right _ h)) tyX6 tyX6_ok nmX6 hown hK hH hS z8 (Or.inl rfl) hR_h0 rfl 0 (by decide) (hts (.fieldLink RX6 22 "BayMoorings$Rings" "bay" "LBayMoorings$Bay;") (List.mem_cons_of_mem _ (List.mem_append_left _ (List.mem_of_getElem? (i := 7) rfl)))) (fun _ h9 => h9) rfl hin rfl (by decide +kernel) rfl rfl (Nat.le_of_ble_eq_true rfl) dX6_init_27 (fun H locs hR_h0 hH hS y11 o11 => ?_)
  have hR_h0 : va_P D vwCl [(h0, .inr (5, [.ref h1, .ref q1, .ref q5, .int 0]))] H := hR_h0
  have hFp := hH.push (k0 := 6) (f := (fun _ => 0)) (r := (fun k => match k with | 0 => some h1 | 1 => some q1 | 2 => some q5 | _ => none)) (H1 := _) z8 (hR_h0 0 _ rfl) (⟨⟨h1, rfl, th_tk t6 (by decide) z8⟩, ⟨q1, rfl, th_tk t7 (by decide) z8⟩, ⟨q5, rfl, th_tk tn5 (by decide) z8⟩⟩) (fun _ _ => rfl)
  exact W.vret hx hb hr (fun t ht hW => ⟨⟨(va_up τ5 h0 6, va_up gi5 h0 (fun _ => 0), va_up gr h0 (fun k => match k with | 0 => some h1 | 1 => some q1 | 2 => some q5 | _ => none)), rfl, ⟨hE.add z8 (Or.inl rfl), va_up_self _ _ _, (hF _ _ _ (by (try simp only [M_X6_init]); refine ⟨q1, n1, Nat.ne_of_lt (th_ltE s1 lt1_h0), ?_⟩; (try simp only [← et1, ← eg1]); refine ⟨q5, n5, Nat.ne_of_lt (th_ltE s5 lt5_h0), ?_⟩; (try simp only [← et1, ← eg1, ← et5, ← eg5]); first | done | exact ⟨(by first | rfl | trivial), (by first | rfl | trivial), (by first | rfl | trivial)⟩))⟩, th_Ht ht hFp⟩, hS.F ht⟩) hS.2.2 dX6_init_30

noncomputable def M_X5_init (τ : th_t) (Z : th_Zt) (gi : th_i) (gr : th_r) (h0 : Nat) (h1 : Nat) (tO : th_t) (gO : th_i) (qO : th_r) : Prop :=
  ∃ (q1 : Nat), τ q1 = 0 ∧ h0 ≠ q1 ∧ (
  ∃ (τ2 : th_t) (gi2 : th_i) (gr2 : th_r), M_X1_init τ Z gi gr q1 τ2 gi2 gr2 ∧ τ2 h0 = 0 ∧ (
  tO = va_up τ2 h0 5 ∧ gO = va_up gi2 h0 (fun _ => 0) ∧ qO = va_up gr2 h0 (fun k => match k with | 0 => some h1 | 1 => some q1 | _ => none)))
set_option maxHeartbeats 20000000 in
set_option maxRecDepth 100000 in
theorem k_X5_init (l : Launch) (D : va_G) (cA : Nat → ClassId) (Z : th_Zt) (τ : th_t) (gi : th_i) (gr : th_r) (sz : Nat) (h0 : Nat) (h1 : Nat) (t_h1 : τ h1 = 1) : Met l yX5_init wsX5_init ({ frames := 2, cells := 3, slots := 30, locals := 50 }) (va_Pc [.ref h0, .ref h1] (th_PreC D cA Z τ gi gr sz h0 (.inr (4, [.null, .null, .int 0])))) (va_Qv (fun (u : th_t × th_i × th_r) => th_Ext [2400, 2500] τ gi gr sz h0 u.1 u.2.1 u.2.2 ∧ u.1 h0 = 5 ∧ (M_X5_init τ Z gi gr h0 h1 u.1 u.2.1 u.2.2)) (fun (u : th_t × th_i × th_r) t => th_H D cA u.1 u.2.1 u.2.2 t.heap) (th_AC τ sz h0)) 3 30 (th_AC τ sz h0) := by
  refine Met.ofW (cc := cX5_init) (maxL := 2) (ret := none) (by decide) rfl ?_
  intro p e s m args below meth c s₁ B hml hv
  obtain ⟨rfl, hsz, hH, hK, hN, hZ, z_h0, hR_h0⟩ := hv
  have hx := B.exec
  have hb := B.bytes
  have hr := B.returns
  have hts := atoms_spec (ws := wsX5_init) B.pre
  have hown : s.vm.findClass RX5 = some m.cls := findClass_of_methodNamed B.named
  have hlocks := B.notSynchronized
  have hin : meth.name = "<init>" := (name_of_methodNamed B.named B.method).1
  subst hsz
  have hA : ∀ q : Nat, s.heap.size ≤ q → (th_AC τ s.heap.size h0) q := fun q h => Or.inr (Or.inr h)
  have hE : th_Ext [2400, 2500] τ gi gr s.heap.size h0 τ gi gr := th_Ext.rf
  have hS : va_S (th_AC τ s.heap.size h0) s.heap s.heap [] := va_S.rf
  have hl := lv_entry ([.ref h0, .ref h1]) (n := 2) (Nat.le_of_ble_eq_true rfl)
  rw [lg_entry_eq]
  generalize (lg_sl ([.ref h0, .ref h1]) ++ List.replicate (2 - (lg_sl ([.ref h0, .ref h1])).length) Slot.unset).toArray = ls at hl ⊢
  have hl : lv_has ls 2 [(0, .ref h0), (1, .ref h1)] := hl
  have hF : (∀ (tO : th_t) (gO : th_i) (qO : th_r), M_X5_init τ Z gi gr h0 h1 tO gO qO → M_X5_init τ Z gi gr h0 h1 tO gO qO) := fun tO gO qO h9 => h9
  refine lv_aload_n hx hb dX5_init_0 rfl (lv_at hl 0 rfl) ?_
  refine W.objInit hx hb hown (hts (.methodLink RX5 3 objectInit) (List.mem_cons_of_mem _ (List.mem_append_left _ (List.mem_append_left _ (List.mem_of_getElem? (i := 0) rfl))))) (hts (.instanceMethod objectInit) (List.mem_cons_of_mem _ (List.mem_append_left _ (List.mem_append_left _ (List.mem_of_getElem? (i := 1) rfl))))) (hts (.code objectInit ⟨#[0xb1]⟩ 1 none) (List.mem_cons_of_mem _ (List.mem_append_left _ (List.mem_append_left _ (List.mem_of_getElem? (i := 2) rfl))))) rfl (by rw [hml]; exact hl.1) rfl dX5_init_1 (Nat.le_of_ble_eq_true rfl) (Nat.le_of_ble_eq_true rfl) ?_
  refine W.eq (g2 := F0 m 4 ls []) rfl ?_
  refine lv_aload_n hx hb dX5_init_4 rfl (lv_at hl 0 rfl) ?_
  have hle1 := hS.1
  have lt1_h0 := (hR_h0 0 _ rfl).lt
  refine th_newO (ci := 1) (fs := [.null, .null]) (C := RX1) (T := TX1) (N := 2) hx hb hts (fun w h => List.mem_cons_of_mem _ (List.mem_append_left _ (List.mem_append_right _ h))) tyX1 tyX1_ok hown (hts (.classLink RX5 9 RX1) (List.mem_cons_of_mem _ (List.mem_append_left _ (List.mem_append_left _ (List.mem_of_getElem? (i := 3) rfl))))) (hts (.instantiable RX1 2) (List.mem_cons_of_mem _ (List.mem_append_left _ (List.mem_append_left _ (List.mem_of_getElem? (i := 4) rfl))))) (hts (.initialized RX1) (List.mem_cons_of_mem _ (List.mem_append_left _ (List.mem_append_left _ (List.mem_of_getElem? (i := 5) rfl))))) hK hH hS hA rfl (fun j hj => by rcases (show j = 0 ∨ j = 1 by omega) with rfl | rfl <;> rfl) (Nat.le_of_ble_eq_true rfl) (Nat.le_of_ble_eq_true rfl) dX5_init_5 (fun q1 H s1 y1 n1 o1 hR_q1 hH hS => ?_)
  have le1 : s.heap.size ≤ q1 := th_leE s1 hle1
  have hR_h0 := th_P1 hR_h0 (o1 _ (th_ltE s1 lt1_h0))
  have ne_h0_q1 : h0 ≠ q1 := Nat.ne_of_lt (th_ltE s1 lt1_h0)
  refine W.widen (k := 1) (n := 2) (Nat.le_of_ble_eq_true rfl) (Nat.le_of_ble_eq_true rfl) ?_
  refine lv_dup hx hb dX5_init_8 rfl ?_
  have hle2 := hS.1
  have lt2_h0 := (hR_h0 0 _ rfl).lt
  have lt2_q1 := (hR_q1 0 _ rfl).lt
  have hAC2 : ∀ x, th_AC τ _ q1 x → (th_AC τ s.heap.size h0) x := th_ACn hE hS le1
  refine va_callv (va_runI (As := []) (rest := [.ref q1, .ref h0]) ⟨hx, hb, hml, hown, hts⟩ (k_X1_init l D cA Z τ gi gr _ q1) (cwI 0 hts gX5_init_X1_init rfl rfl rfl (hts (.initialized RX1) (List.mem_cons_of_mem _ (List.mem_append_left _ (List.mem_append_left _ (List.mem_of_getElem? (i := 5) rfl))))) (hts (.methodLink RX5 11 yX1_init) (List.mem_cons_of_mem _ (List.mem_append_left _ (List.mem_append_left _ (List.mem_of_getElem? (i := 9) rfl))))) (hts (.instanceMethod yX1_init) (List.mem_cons_of_mem _ (List.mem_append_left _ (List.mem_append_left _ (List.mem_of_getElem? (i := 10) rfl))))) rfl (by decide +kernel) ⟨Nat.le_of_ble_eq_true rfl, Nat.le_of_ble_eq_true rfl⟩) ⟨th_blindC, th_preC hH hK hN hZ hS hAC2 n1 hR_q1⟩ rfl rfl hl.1 rfl (lv_room (Nat.le_of_ble_eq_true rfl)) dX5_init_9 ⟨Nat.le_of_ble_eq_true rfl, Nat.le_of_ble_eq_true rfl⟩) hS (fun x _ h => hAC2 x h) hAC2 (fun u t H locs ht hvm hw2 hB hz2 hk2 hS => ?_)
  obtain ⟨τ2, gi2, gr2⟩ := u
  try dsimp only at hw2 hB
  rw [ht] at hB
  have hH := hB
  have hR_h0 := th_P1 hR_h0 (hk2 _ lt2_h0 (th_nAC z_h0 ne_h0_q1 lt2_h0))
  have t3 : τ2 h1 = 1 := ((hw2.1.1 h1 (by rw [t_h1]; decide)).trans t_h1)
  have z4 : τ2 h0 = 0 := (th_zx hw2.1 z_h0 ne_h0_q1 lt2_h0)
  have hE := hE.tr hw2.1 (Or.inr le1) hle2 (by decide)
  have tn2 := hw2.2.1
  refine W.widen (k := 3) (n := 30) (Nat.le_of_ble_eq_true rfl) (Nat.le_of_ble_eq_true rfl) ?_
  refine th_rputF (ci := 4) (v := .ref q1) (T := TX5) (C := RX5) (N := 3) (ty := (.object "BayMoorings$Berths")) hx hb hts (fun w h => List.mem_cons_of_mem _ (List.mem_append_right _ h)) tyX5 tyX5_ok nmX5 hown hK hH hS z4 (Or.inl rfl) hR_h0 rfl 1 (by decide) (hts (.fieldLink RX5 12 "BayMoorings$Flight" "berths" "LBayMoorings$Berths;") (List.mem_cons_of_mem _ (List.mem_append_left _ (List.mem_append_left _ (List.mem_of_getElem? (i := 6) rfl))))) (fun _ h9 => h9) rfl hin rfl (by decide +kernel) rfl rfl (Nat.le_of_ble_eq_true rfl) dX5_init_12 (fun H locs hR_h0 hH hS y5 o5 => ?_)
  have hR_h0 : va_P D vwCl [(h0, .inr (4, [.null, .ref q1, .int 0]))] H := hR_h0
  refine lv_aload_n hx hb dX5_init_15 rfl (lv_at hl 0 rfl) ?_
  refine lv_iconst (v := 0) hx hb dX5_init_16 ic_0 ?_
  refine th_rput (ci := 4) (v := .int 0) (T := TX5) (C := RX5) (N := 3) (ty := .int) hx hb hts (fun w h => List.mem_cons_of_mem _ (List.mem_append_right _ h)) tyX5 tyX5_ok nmX5 hown hK hH hS z4 (Or.inl rfl) hR_h0 rfl 2 (by decide) (hts (.fieldLink RX5 18 "BayMoorings$Flight" "fleeing" "I") (List.mem_cons_of_mem _ (List.mem_append_left _ (List.mem_append_left _ (List.mem_of_getElem? (i := 7) rfl))))) (fun _ h9 => h9) rfl (by decide +kernel) rfl rfl (Nat.le_of_ble_eq_true rfl) dX5_init_17 (fun H locs hR_h0 hH hS y6 o6 => ?_)
  have hR_h0 : va_P D vwCl [(h0, .inr (4, [.null, .ref q1, .int 0]))] H := hR_h0
  refine lv_aload_n hx hb dX5_init_20 rfl (lv_at hl 0 rfl) ?_
  refine lv_aload_n hx hb dX5_init_21 rfl (lv_at hl 1 rfl) ?_
  refine th_rputF (ci := 4) (v := .ref h1) (T := TX5) (C := RX5) (N := 3) (ty := (.object "BayMoorings$Bay")) hx hb hts (fun w h => List.mem_cons_of_mem _ (List.mem_append_right _ h)) tyX5 tyX5_ok nmX5 hown hK hH hS z4 (Or.inl rfl) hR_h0 rfl 0 (by decide) (hts (.fieldLink RX5 22 "BayMoorings$Flight" "bay" "LBayMoorings$Bay;") (List.mem_cons_of_mem _ (List.mem_append_left _ (List.mem_append_left _ (List.mem_of_getElem? (i := 8) rfl))))) (fun _ h9 => h9) rfl hin rfl (by decide +kernel) rfl rfl (Nat.le_of_ble_eq_true rfl) dX5_init_22 (fun H locs hR_h0 hH hS y7 o7 => ?_)
  have hR_h0 : va_P D vwCl [(h0, .inr (4, [.ref h1, .ref q1, .int 0]))] H := hR_h0
  have hFp := hH.push (k0 := 5) (f := (fun _ => 0)) (r := (fun k => match k with | 0 => some h1 | 1 => some q1 | _ => none)) (H1 := _) z4 (hR_h0 0 _ rfl) (⟨⟨h1, rfl, th_tk t3 (by decide) z4⟩, ⟨q1, rfl, th_tk tn2 (by decide) z4⟩⟩) (fun _ _ => rfl)
  exact W.vret hx hb hr (fun t ht hW => ⟨⟨(va_up τ2 h0 5, va_up gi2 h0 (fun _ => 0), va_up gr2 h0 (fun k => match k with | 0 => some h1 | 1 => some q1 | _ => none)), rfl, ⟨hE.add z4 (Or.inl rfl), va_up_self _ _ _, (hF _ _ _ (by (try simp only [M_X5_init]); refine ⟨q1, n1, ne_h0_q1, ?_⟩; refine ⟨τ2, gi2, gr2, hw2.2.2, z4, ?_⟩; first | done | exact ⟨(by first | rfl | trivial), (by first | rfl | trivial), (by first | rfl | trivial)⟩))⟩, th_Ht ht hFp⟩, hS.F ht⟩) hS.2.2 dX5_init_25
end
section
noncomputable def M_X3_init (τ : th_t) (Z : th_Zt) (gi : th_i) (gr : th_r) (h0 : Nat) (p1 : Int32) (p2 : Int32) (p3 : Int32) (p4 : Int32) (p5 : Int32) (tO : th_t) (gO : th_i) (qO : th_r) : Prop :=
  ∃ (q1 : Nat), τ q1 = 0 ∧ h0 ≠ q1 ∧ (
  let τ1 : th_t := va_up τ q1 26
  let gi1 : th_i := va_up gi q1 (fun _ => 0)
  tO = va_up τ1 h0 3 ∧ gO = va_up gi1 h0 (fun k => match k with | 0 => p1 | 1 => p2 | 2 => p3 | 3 => p4 | 4 => p5 | _ => 0) ∧ qO = va_up gr h0 (fun k => match k with | 5 => some q1 | _ => none))
set_option maxHeartbeats 20000000 in
set_option maxRecDepth 100000 in
theorem k_X3_init (l : Launch) (D : va_G) (cA : Nat → ClassId) (Z : th_Zt) (τ : th_t) (gi : th_i) (gr : th_r) (sz : Nat) (h0 : Nat) (p1 : Int32) (p2 : Int32) (p3 : Int32) (p4 : Int32) (p5 : Int32) : Met l yX3_init wsX3_init ({ frames := 1, cells := 1, slots := 24, locals := 30 }) (va_Pc [.ref h0, .int p1, .int p2, .int p3, .int p4, .int p5] (th_PreC D cA Z τ gi gr sz h0 (.inr (2, [.int 0, .int 0, .int 0, .int 0, .int 0, .null, .int 0, .int 0])))) (va_Qv (fun (u : th_t × th_i × th_r) => th_Ext [] τ gi gr sz h0 u.1 u.2.1 u.2.2 ∧ u.1 h0 = 3 ∧ (M_X3_init τ Z gi gr h0 p1 p2 p3 p4 p5 u.1 u.2.1 u.2.2)) (fun (u : th_t × th_i × th_r) t => th_H D cA u.1 u.2.1 u.2.2 t.heap) (th_AC τ sz h0)) 1 24 (th_AC τ sz h0) := by
  refine Met.ofW (cc := cX3_init) (maxL := 6) (ret := none) (by decide) rfl ?_
  intro p e s m args below meth c s₁ B hml hv
  obtain ⟨rfl, hsz, hH, hK, hN, hZ, z_h0, hR_h0⟩ := hv
  have hx := B.exec
  have hb := B.bytes
  have hr := B.returns
  have hts := atoms_spec (ws := wsX3_init) B.pre
  have hown : s.vm.findClass RX3 = some m.cls := findClass_of_methodNamed B.named
  have hlocks := B.notSynchronized
  have hin : meth.name = "<init>" := (name_of_methodNamed B.named B.method).1
  subst hsz
  have hA : ∀ q : Nat, s.heap.size ≤ q → (th_AC τ s.heap.size h0) q := fun q h => Or.inr (Or.inr h)
  have hE : th_Ext [] τ gi gr s.heap.size h0 τ gi gr := th_Ext.rf
  have hS : va_S (th_AC τ s.heap.size h0) s.heap s.heap [] := va_S.rf
  have hl := lv_entry ([.ref h0, .int p1, .int p2, .int p3, .int p4, .int p5]) (n := 6) (Nat.le_of_ble_eq_true rfl)
  rw [lg_entry_eq]
  generalize (lg_sl ([.ref h0, .int p1, .int p2, .int p3, .int p4, .int p5]) ++ List.replicate (6 - (lg_sl ([.ref h0, .int p1, .int p2, .int p3, .int p4, .int p5])).length) Slot.unset).toArray = ls at hl ⊢
  have hl : lv_has ls 6 [(0, .ref h0), (1, .int p1), (2, .int p2), (3, .int p3), (4, .int p4), (5, .int p5)] := hl
  have hF : (∀ (tO : th_t) (gO : th_i) (qO : th_r), M_X3_init τ Z gi gr h0 p1 p2 p3 p4 p5 tO gO qO → M_X3_init τ Z gi gr h0 p1 p2 p3 p4 p5 tO gO qO) := fun tO gO qO h9 => h9
  refine lv_aload_n hx hb dX3_init_0 rfl (lv_at hl 0 rfl) ?_
  refine W.objInit hx hb hown (hts (.methodLink RX3 3 objectInit) (List.mem_cons_of_mem _ (List.mem_append_left _ (List.mem_of_getElem? (i := 0) rfl)))) (hts (.instanceMethod objectInit) (List.mem_cons_of_mem _ (List.mem_append_left _ (List.mem_of_getElem? (i := 1) rfl)))) (hts (.code objectInit ⟨#[0xb1]⟩ 1 none) (List.mem_cons_of_mem _ (List.mem_append_left _ (List.mem_of_getElem? (i := 2) rfl)))) rfl (by rw [hml]; exact hl.1) rfl dX3_init_1 (Nat.le_of_ble_eq_true rfl) (Nat.le_of_ble_eq_true rfl) ?_
  refine W.eq (g2 := F0 m 4 ls []) rfl ?_
  refine lv_aload_n hx hb dX3_init_4 rfl (lv_at hl 0 rfl) ?_
  refine lv_bipush (v := 24) hx hb dX3_init_5 bp_24 ?_
  have hle1 := hS.1
  have lt1_h0 := (hR_h0 0 _ rfl).lt
  refine th_newI (atype := .int) (cI := cA 0) (N' := 24) hx hb (hts (.arrayClass .int) (List.mem_cons_of_mem _ (List.mem_append_left _ (List.mem_of_getElem? (i := 3) rfl)))) hK 0 rfl (fun h => h) hH hS hA 26 (by decide) (by decide) (by decide) (Nat.le_of_ble_eq_true rfl) (Nat.le_of_ble_eq_true rfl) rfl (fun _ => rfl) (fun _ _ => trivial) dX3_init_7 (fun q1 H s1 y1 n1 o1 hH hS => ?_)
  have le1 : s.heap.size ≤ q1 := th_leE s1 hle1
  have hR_h0 := th_P1 hR_h0 (o1 _ (th_ltE s1 lt1_h0))
  obtain ⟨τ1, et1⟩ : ∃ t, t = va_up τ q1 26 := ⟨_, rfl⟩
  have zz1 := hE.z n1
  obtain ⟨gi1, eg1⟩ : ∃ g, g = va_up gi q1 (fun _ => 0) := ⟨_, rfl⟩
  have hE := hE.add (k0 := 26) (f := (fun _ => 0)) (r := gr q1) n1 (Or.inr le1)
  rw [th_upid gr q1, ← et1, ← eg1] at hE
  rw [← et1, ← eg1] at hH
  have og1 : ∀ b, b ≠ q1 → gi1 b = gi b := th_upO eg1
  have z2 : τ1 h0 = 0 := (th_tzE et1 z_h0 (Nat.ne_of_lt (th_ltE s1 lt1_h0)))
  have tn1 : τ1 q1 = 26 := th_upS et1
  refine W.widen (k := 1) (n := 24) (Nat.le_of_ble_eq_true rfl) (Nat.le_of_ble_eq_true rfl) ?_
  refine th_rputF (ci := 2) (v := .ref q1) (T := TX3) (C := RX3) (N := 8) (ty := (.array .int)) hx hb hts (fun w h => List.mem_cons_of_mem _ (List.mem_append_right _ h)) tyX3 tyX3_ok nmX3 hown hK hH hS z2 (Or.inl rfl) hR_h0 rfl 5 (by decide) (hts (.fieldLink RX3 9 "BayMoorings$Buoy" "slack" "[I") (List.mem_cons_of_mem _ (List.mem_append_left _ (List.mem_of_getElem? (i := 4) rfl)))) (fun _ h9 => h9) rfl hin rfl (by decide +kernel) rfl rfl (Nat.le_of_ble_eq_true rfl) dX3_init_9 (fun H locs hR_h0 hH hS y3 o3 => ?_)
  have hR_h0 : va_P D vwCl [(h0, .inr (2, [.int 0, .int 0, .int 0, .int 0, .int 0, .ref q1, .int 0, .int 0]))] H := hR_h0
  refine lv_aload_n hx hb dX3_init_12 rfl (lv_at hl 0 rfl) ?_
  refine lv_iconst (v := 0) hx hb dX3_init_13 ic_0 ?_
  refine th_rput (ci := 2) (v := .int 0) (T := TX3) (C := RX3) (N := 8) (ty := .int) hx hb hts (fun w h => List.mem_cons_of_mem _ (List.mem_append_right _ h)) tyX3 tyX3_ok nmX3 hown hK hH hS z2 (Or.inl rfl) hR_h0 rfl 6 (by decide) (hts (.fieldLink RX3 15 "BayMoorings$Buoy" "low" "I") (List.mem_cons_of_mem _ (List.mem_append_left _ (List.mem_of_getElem? (i := 5) rfl)))) (fun _ h9 => h9) rfl (by decide +kernel) rfl rfl (Nat.le_of_ble_eq_true rfl) dX3_init_14 (fun H locs hR_h0 hH hS y4 o4 => ?_)
  have hR_h0 : va_P D vwCl [(h0, .inr (2, [.int 0, .int 0, .int 0, .int 0, .int 0, .ref q1, .int 0, .int 0]))] H := hR_h0
  refine lv_aload_n hx hb dX3_init_17 rfl (lv_at hl 0 rfl) ?_
  refine lv_iconst (v := 0) hx hb dX3_init_18 ic_0 ?_
  refine th_rput (ci := 2) (v := .int 0) (T := TX3) (C := RX3) (N := 8) (ty := .int) hx hb hts (fun w h => List.mem_cons_of_mem _ (List.mem_append_right _ h)) tyX3 tyX3_ok nmX3 hown hK hH hS z2 (Or.inl rfl) hR_h0 rfl 7 (by decide) (hts (.fieldLink RX3 19 "BayMoorings$Buoy" "high" "I") (List.mem_cons_of_mem _ (List.mem_append_left _ (List.mem_of_getElem? (i := 6) rfl)))) (fun _ h9 => h9) rfl (by decide +kernel) rfl rfl (Nat.le_of_ble_eq_true rfl) dX3_init_19 (fun H locs hR_h0 hH hS y5 o5 => ?_)
  have hR_h0 : va_P D vwCl [(h0, .inr (2, [.int 0, .int 0, .int 0, .int 0, .int 0, .ref q1, .int 0, .int 0]))] H := hR_h0
  refine lv_aload_n hx hb dX3_init_22 rfl (lv_at hl 0 rfl) ?_
  refine lv_iload_n hx hb dX3_init_23 rfl (lv_at hl 1 rfl) ?_
  refine th_rputF (ci := 2) (v := .int p1) (T := TX3) (C := RX3) (N := 8) (ty := .int) hx hb hts (fun w h => List.mem_cons_of_mem _ (List.mem_append_right _ h)) tyX3 tyX3_ok nmX3 hown hK hH hS z2 (Or.inl rfl) hR_h0 rfl 0 (by decide) (hts (.fieldLink RX3 22 "BayMoorings$Buoy" "number" "I") (List.mem_cons_of_mem _ (List.mem_append_left _ (List.mem_of_getElem? (i := 7) rfl)))) (fun _ h9 => h9) rfl hin rfl (by decide +kernel) rfl rfl (Nat.le_of_ble_eq_true rfl) dX3_init_24 (fun H locs hR_h0 hH hS y6 o6 => ?_)
  have hR_h0 : va_P D vwCl [(h0, .inr (2, [.int p1, .int 0, .int 0, .int 0, .int 0, .ref q1, .int 0, .int 0]))] H := hR_h0
  refine lv_aload_n hx hb dX3_init_27 rfl (lv_at hl 0 rfl) ?_
  refine lv_iload_n hx hb dX3_init_28 rfl (lv_at hl 2 rfl) ?_
  refine th_rputF (ci := 2) (v := .int p2) (T := TX3) (C := RX3) (N := 8) (ty := .int) hx hb hts (fun w h => List.mem_cons_of_mem _ (List.mem_append_right _ h)) tyX3 tyX3_ok nmX3 hown hK hH hS z2 (Or.inl rfl) hR_h0 rfl 1 (by decide) (hts (.fieldLink RX3 25 "BayMoorings$Buoy" "x" "I") (List.mem_cons_of_mem _ (List.mem_append_left _ (List.mem_of_getElem? (i := 8) rfl)))) (fun _ h9 => h9) rfl hin rfl (by decide +kernel) rfl rfl (Nat.le_of_ble_eq_true rfl) dX3_init_29 (fun H locs hR_h0 hH hS y7 o7 => ?_)
  have hR_h0 : va_P D vwCl [(h0, .inr (2, [.int p1, .int p2, .int 0, .int 0, .int 0, .ref q1, .int 0, .int 0]))] H := hR_h0
  refine lv_aload_n hx hb dX3_init_32 rfl (lv_at hl 0 rfl) ?_
  refine lv_iload_n hx hb dX3_init_33 rfl (lv_at hl 3 rfl) ?_
  refine th_rputF (ci := 2) (v := .int p3) (T := TX3) (C := RX3) (N := 8) (ty := .int) hx hb hts (fun w h => List.mem_cons_of_mem _ (List.mem_append_right _ h)) tyX3 tyX3_ok nmX3 hown hK hH hS z2 (Or.inl rfl) hR_h0 rfl 2 (by decide) (hts (.fieldLink RX3 28 "BayMoorings$Buoy" "y" "I") (List.mem_cons_of_mem _ (List.mem_append_left _ (List.mem_of_getElem? (i := 9) rfl)))) (fun _ h9 => h9) rfl hin rfl (by decide +kernel) rfl rfl (Nat.le_of_ble_eq_true rfl) dX3_init_34 (fun H locs hR_h0 hH hS y8 o8 => ?_)
  have hR_h0 : va_P D vwCl [(h0, .inr (2, [.int p1, .int p2, .int p3, .int 0, .int 0, .ref q1, .int 0, .int 0]))] H := hR_h0
  refine lv_aload_n hx hb dX3_init_37 rfl (lv_at hl 0 rfl) ?_
  refine lv_iload hx hb dX3_init_38 (lv_at hl 4 rfl) ?_
  refine th_rputF (ci := 2) (v := .int p4) (T := TX3) (C := RX3) (N := 8) (ty := .int) hx hb hts (fun w h => List.mem_cons_of_mem _ (List.mem_append_right _ h)) tyX3 tyX3_ok nmX3 hown hK hH hS z2 (Or.inl rfl) hR_h0 rfl 3 (by decide) (hts (.fieldLink RX3 31 "BayMoorings$Buoy" "depth" "I") (List.mem_cons_of_mem _ (List.mem_append_left _ (List.mem_of_getElem? (i := 10) rfl)))) (fun _ h9 => h9) rfl hin rfl (by decide +kernel) rfl rfl (Nat.le_of_ble_eq_true rfl) dX3_init_40 (fun H locs hR_h0 hH hS y9 o9 => ?_)
  have hR_h0 : va_P D vwCl [(h0, .inr (2, [.int p1, .int p2, .int p3, .int p4, .int 0, .ref q1, .int 0, .int 0]))] H := hR_h0
  refine lv_aload_n hx hb dX3_init_43 rfl (lv_at hl 0 rfl) ?_
  refine lv_iload hx hb dX3_init_44 (lv_at hl 5 rfl) ?_
  refine th_rputF (ci := 2) (v := .int p5) (T := TX3) (C := RX3) (N := 8) (ty := .int) hx hb hts (fun w h => List.mem_cons_of_mem _ (List.mem_append_right _ h)) tyX3 tyX3_ok nmX3 hown hK hH hS z2 (Or.inl rfl) hR_h0 rfl 4 (by decide) (hts (.fieldLink RX3 34 "BayMoorings$Buoy" "chain" "I") (List.mem_cons_of_mem _ (List.mem_append_left _ (List.mem_of_getElem? (i := 11) rfl)))) (fun _ h9 => h9) rfl hin rfl (by decide +kernel) rfl rfl (Nat.le_of_ble_eq_true rfl) dX3_init_46 (fun H locs hR_h0 hH hS y10 o10 => ?_)
  have hR_h0 : va_P D vwCl [(h0, .inr (2, [.int p1, .int p2, .int p3, .int p4, .int p5, .ref q1, .int 0, .int 0]))] H := hR_h0
  have hFp := hH.push (k0 := 3) (f := (fun k => match k with | 0 => p1 | 1 => p2 | 2 => p3 | 3 => p4 | 4 => p5 | _ => 0)) (r := (fun k => match k with | 5 => some q1 | _ => none)) (H1 := _) z2 (hR_h0 0 _ rfl) (⟨q1, rfl, th_tk tn1 (by decide) z2⟩) (fun _ _ => rfl)
  exact W.vret hx hb hr (fun t ht hW => ⟨⟨(va_up τ1 h0 3, va_up gi1 h0 (fun k => match k with | 0 => p1 | 1 => p2 | 2 => p3 | 3 => p4 | 4 => p5 | _ => 0), va_up gr h0 (fun k => match k with | 5 => some q1 | _ => none)), rfl, ⟨hE.add z2 (Or.inl rfl), va_up_self _ _ _, (hF _ _ _ (by (try simp only [M_X3_init]); refine ⟨q1, n1, Nat.ne_of_lt (th_ltE s1 lt1_h0), ?_⟩; (try simp only [← et1, ← eg1]); first | done | exact ⟨(by first | rfl | trivial), (by first | rfl | trivial), (by first | rfl | trivial)⟩))⟩, th_Ht ht hFp⟩, hS.F ht⟩) hS.2.2 dX3_init_49

noncomputable def M_X2_init_8 (τ : th_t) (Z : th_Zt) (gi : th_i) (gr : th_r) (h0 : Nat) (p1 : Int32) (p2 : Int32) (p3 : Int32) (tO : th_t) (gO : th_i) (qO : th_r) : Prop :=
  ∃ (q1 : Nat), τ q1 = 0 ∧ h0 ≠ q1 ∧ (
  let τ1 : th_t := va_up τ q1 27
  let gi1 : th_i := va_up gi q1 (fun _ => 0)
  tO = va_up τ1 h0 8 ∧ gO = va_up gi1 h0 (fun k => match k with | 0 => p1 | 1 => p2 | 2 => p3 | _ => 0) ∧ qO = va_up gr h0 (fun k => match k with | 3 => some q1 | _ => none))
set_option maxHeartbeats 20000000 in
set_option maxRecDepth 100000 in
theorem k_X2_init_8 (l : Launch) (D : va_G) (cA : Nat → ClassId) (Z : th_Zt) (τ : th_t) (gi : th_i) (gr : th_r) (sz : Nat) (h0 : Nat) (p1 : Int32) (p2 : Int32) (p3 : Int32) : Met l yX2_init wsX2_init ({ frames := 1, cells := 1, slots := 4, locals := 30 }) (va_Pc [.ref h0, .int p1, .int p2, .int p3] (th_PreC D cA Z τ gi gr sz h0 (.inr (7, [.int 0, .int 0, .int 0, .null, .int 0, .int 0])))) (va_Qv (fun (u : th_t × th_i × th_r) => th_Ext [] τ gi gr sz h0 u.1 u.2.1 u.2.2 ∧ u.1 h0 = 8 ∧ (M_X2_init_8 τ Z gi gr h0 p1 p2 p3 u.1 u.2.1 u.2.2)) (fun (u : th_t × th_i × th_r) t => th_H D cA u.1 u.2.1 u.2.2 t.heap) (th_AC τ sz h0)) 1 4 (th_AC τ sz h0) := by
  refine Met.ofW (cc := cX2_init) (maxL := 4) (ret := none) (by decide) rfl ?_
  intro p e s m args below meth c s₁ B hml hv
  obtain ⟨rfl, hsz, hH, hK, hN, hZ, z_h0, hR_h0⟩ := hv
  have hx := B.exec
  have hb := B.bytes
  have hr := B.returns
  have hts := atoms_spec (ws := wsX2_init) B.pre
  have hown : s.vm.findClass RX2 = some m.cls := findClass_of_methodNamed B.named
  have hlocks := B.notSynchronized
  have hin : meth.name = "<init>" := (name_of_methodNamed B.named B.method).1
  subst hsz
  have hA : ∀ q : Nat, s.heap.size ≤ q → (th_AC τ s.heap.size h0) q := fun q h => Or.inr (Or.inr h)
  have hE : th_Ext [] τ gi gr s.heap.size h0 τ gi gr := th_Ext.rf
  have hS : va_S (th_AC τ s.heap.size h0) s.heap s.heap [] := va_S.rf
  have hl := lv_entry ([.ref h0, .int p1, .int p2, .int p3]) (n := 4) (Nat.le_of_ble_eq_true rfl)
  rw [lg_entry_eq]
  generalize (lg_sl ([.ref h0, .int p1, .int p2, .int p3]) ++ List.replicate (4 - (lg_sl ([.ref h0, .int p1, .int p2, .int p3])).length) Slot.unset).toArray = ls at hl ⊢
  have hl : lv_has ls 4 [(0, .ref h0), (1, .int p1), (2, .int p2), (3, .int p3)] := hl
  have hF : (∀ (tO : th_t) (gO : th_i) (qO : th_r), M_X2_init_8 τ Z gi gr h0 p1 p2 p3 tO gO qO → M_X2_init_8 τ Z gi gr h0 p1 p2 p3 tO gO qO) := fun tO gO qO h9 => h9
  refine lv_aload_n hx hb dX2_init_0 rfl (lv_at hl 0 rfl) ?_
  refine W.objInit hx hb hown (hts (.methodLink RX2 3 objectInit) (List.mem_cons_of_mem _ (List.mem_append_left _ (List.mem_append_left _ (List.mem_append_left _ (List.mem_of_getElem? (i := 0) rfl)))))) (hts (.instanceMethod objectInit) (List.mem_cons_of_mem _ (List.mem_append_left _ (List.mem_append_left _ (List.mem_append_left _ (List.mem_of_getElem? (i := 1) rfl)))))) (hts (.code objectInit ⟨#[0xb1]⟩ 1 none) (List.mem_cons_of_mem _ (List.mem_append_left _ (List.mem_append_left _ (List.mem_append_left _ (List.mem_of_getElem? (i := 2) rfl)))))) rfl (by rw [hml]; exact hl.1) rfl dX2_init_1 (Nat.le_of_ble_eq_true rfl) (Nat.le_of_ble_eq_true rfl) ?_
  refine W.eq (g2 := F0 m 4 ls []) rfl ?_
  refine lv_aload_n hx hb dX2_init_4 rfl (lv_at hl 0 rfl) ?_
  refine lv_iconst (v := 4) hx hb dX2_init_5 ic_4 ?_
  have hle1 := hS.1
  have lt1_h0 := (hR_h0 0 _ rfl).lt
  refine th_newI (atype := .int) (cI := cA 0) (N' := 4) hx hb (hts (.arrayClass .int) (List.mem_cons_of_mem _ (List.mem_append_left _ (List.mem_append_left _ (List.mem_append_left _ (List.mem_of_getElem? (i := 3) rfl)))))) hK 0 rfl (fun h => h) hH hS hA 27 (by decide) (by decide) (by decide) (Nat.le_of_ble_eq_true rfl) (Nat.le_of_ble_eq_true rfl) rfl (fun _ => rfl) (fun _ _ => trivial) dX2_init_6 (fun q1 H s1 y1 n1 o1 hH hS => ?_)
  have le1 : s.heap.size ≤ q1 := th_leE s1 hle1
  have hR_h0 := th_P1 hR_h0 (o1 _ (th_ltE s1 lt1_h0))
  obtain ⟨τ1, et1⟩ : ∃ t, t = va_up τ q1 27 := ⟨_, rfl⟩
  have zz1 := hE.z n1
  obtain ⟨gi1, eg1⟩ : ∃ g, g = va_up gi q1 (fun _ => 0) := ⟨_, rfl⟩
  have hE := hE.add (k0 := 27) (f := (fun _ => 0)) (r := gr q1) n1 (Or.inr le1)
  rw [th_upid gr q1, ← et1, ← eg1] at hE
  rw [← et1, ← eg1] at hH
  have og1 : ∀ b, b ≠ q1 → gi1 b = gi b := th_upO eg1
  have z2 : τ1 h0 = 0 := (th_tzE et1 z_h0 (Nat.ne_of_lt (th_ltE s1 lt1_h0)))
  have tn1 : τ1 q1 = 27 := th_upS et1
  refine W.widen (k := 1) (n := 4) (Nat.le_of_ble_eq_true rfl) (Nat.le_of_ble_eq_true rfl) ?_
  refine th_rputF (ci := 7) (v := .ref q1) (T := TX8) (C := RX8) (N := 6) (ty := (.array .int)) hx hb hts (fun w h => List.mem_cons_of_mem _ (List.mem_append_left _ (List.mem_append_right _ h))) tyX8 tyX8_ok nmX8 hown hK hH hS z2 (Or.inl rfl) hR_h0 rfl 3 (by decide) (hts (.fieldLink RX2 9 "BayMoorings$Boat" "wishes" "[I") (List.mem_cons_of_mem _ (List.mem_append_left _ (List.mem_append_left _ (List.mem_append_left _ (List.mem_of_getElem? (i := 4) rfl)))))) (fun _ h9 => h9) rfl hin rfl (by decide +kernel) rfl rfl (Nat.le_of_ble_eq_true rfl) dX2_init_8 (fun H locs hR_h0 hH hS y3 o3 => ?_)
  have hR_h0 : va_P D vwCl [(h0, .inr (7, [.int 0, .int 0, .int 0, .ref q1, .int 0, .int 0]))] H := hR_h0
  refine lv_aload_n hx hb dX2_init_11 rfl (lv_at hl 0 rfl) ?_
  refine lv_iconst (v := 0) hx hb dX2_init_12 ic_0 ?_
  refine th_rput (ci := 7) (v := .int 0) (T := TX8) (C := RX8) (N := 6) (ty := .int) hx hb hts (fun w h => List.mem_cons_of_mem _ (List.mem_append_left _ (List.mem_append_right _ h))) tyX8 tyX8_ok nmX8 hown hK hH hS z2 (Or.inl rfl) hR_h0 rfl 4 (by decide) (hts (.fieldLink RX2 15 "BayMoorings$Boat" "wishCount" "I") (List.mem_cons_of_mem _ (List.mem_append_left _ (List.mem_append_left _ (List.mem_append_left _ (List.mem_of_getElem? (i := 5) rfl)))))) (fun _ h9 => h9) rfl (by decide +kernel) rfl rfl (Nat.le_of_ble_eq_true rfl) dX2_init_13 (fun H locs hR_h0 hH hS y4 o4 => ?_)
  have hR_h0 : va_P D vwCl [(h0, .inr (7, [.int 0, .int 0, .int 0, .ref q1, .int 0, .int 0]))] H := hR_h0
  refine lv_aload_n hx hb dX2_init_16 rfl (lv_at hl 0 rfl) ?_
  refine lv_iconst (v := 0) hx hb dX2_init_17 ic_0 ?_
  refine th_rput (ci := 7) (v := .int 0) (T := TX8) (C := RX8) (N := 6) (ty := .int) hx hb hts (fun w h => List.mem_cons_of_mem _ (List.mem_append_left _ (List.mem_append_right _ h))) tyX8 tyX8_ok nmX8 hown hK hH hS z2 (Or.inl rfl) hR_h0 rfl 5 (by decide) (hts (.fieldLink RX2 19 "BayMoorings$Boat" "refused" "I") (List.mem_cons_of_mem _ (List.mem_append_left _ (List.mem_append_left _ (List.mem_append_left _ (List.mem_of_getElem? (i := 6) rfl)))))) (fun _ h9 => h9) rfl (by decide +kernel) rfl rfl (Nat.le_of_ble_eq_true rfl) dX2_init_18 (fun H locs hR_h0 hH hS y5 o5 => ?_)
  have hR_h0 : va_P D vwCl [(h0, .inr (7, [.int 0, .int 0, .int 0, .ref q1, .int 0, .int 0]))] H := hR_h0
  refine lv_aload_n hx hb dX2_init_21 rfl (lv_at hl 0 rfl) ?_
  refine lv_iload_n hx hb dX2_init_22 rfl (lv_at hl 1 rfl) ?_
  refine th_rputF (ci := 7) (v := .int p1) (T := TX8) (C := RX8) (N := 6) (ty := .int) hx hb hts (fun w h => List.mem_cons_of_mem _ (List.mem_append_left _ (List.mem_append_right _ h))) tyX8 tyX8_ok nmX8 hown hK hH hS z2 (Or.inl rfl) hR_h0 rfl 0 (by decide) (hts (.fieldLink RX2 22 "BayMoorings$Boat" "number" "I") (List.mem_cons_of_mem _ (List.mem_append_left _ (List.mem_append_left _ (List.mem_append_left _ (List.mem_of_getElem? (i := 7) rfl)))))) (fun _ h9 => h9) rfl hin rfl (by decide +kernel) rfl rfl (Nat.le_of_ble_eq_true rfl) dX2_init_23 (fun H locs hR_h0 hH hS y6 o6 => ?_)
  have hR_h0 : va_P D vwCl [(h0, .inr (7, [.int p1, .int 0, .int 0, .ref q1, .int 0, .int 0]))] H := hR_h0
  refine lv_aload_n hx hb dX2_init_26 rfl (lv_at hl 0 rfl) ?_
  refine lv_iload_n hx hb dX2_init_27 rfl (lv_at hl 2 rfl) ?_
  refine th_rputF (ci := 7) (v := .int p2) (T := TX8) (C := RX8) (N := 6) (ty := .int) hx hb hts (fun w h => List.mem_cons_of_mem _ (List.mem_append_left _ (List.mem_append_right _ h))) tyX8 tyX8_ok nmX8 hown hK hH hS z2 (Or.inl rfl) hR_h0 rfl 1 (by decide) (hts (.fieldLink RX2 25 "BayMoorings$Boat" "length" "I") (List.mem_cons_of_mem _ (List.mem_append_left _ (List.mem_append_left _ (List.mem_append_left _ (List.mem_of_getElem? (i := 8) rfl)))))) (fun _ h9 => h9) rfl hin rfl (by decide +kernel) rfl rfl (Nat.le_of_ble_eq_true rfl) dX2_init_28 (fun H locs hR_h0 hH hS y7 o7 => ?_)
  have hR_h0 : va_P D vwCl [(h0, .inr (7, [.int p1, .int p2, .int 0, .ref q1, .int 0, .int 0]))] H := hR_h0
  refine lv_aload_n hx hb dX2_init_31 rfl (lv_at hl 0 rfl) ?_
  refine lv_iload_n hx hb dX2_init_32 rfl (lv_at hl 3 rfl) ?_
  refine th_rputF (ci := 7) (v := .int p3) (T := TX8) (C := RX8) (N := 6) (ty := .int) hx hb hts (fun w h => List.mem_cons_of_mem _ (List.mem_append_left _ (List.mem_append_right _ h))) tyX8 tyX8_ok nmX8 hown hK hH hS z2 (Or.inl rfl) hR_h0 rfl 2 (by decide) (hts (.fieldLink RX2 28 "BayMoorings$Boat" "draught" "I") (List.mem_cons_of_mem _ (List.mem_append_left _ (List.mem_append_left _ (List.mem_append_left _ (List.mem_of_getElem? (i := 9) rfl)))))) (fun _ h9 => h9) rfl hin rfl (by decide +kernel) rfl rfl (Nat.le_of_ble_eq_true rfl) dX2_init_33 (fun H locs hR_h0 hH hS y8 o8 => ?_)
  have hR_h0 : va_P D vwCl [(h0, .inr (7, [.int p1, .int p2, .int p3, .ref q1, .int 0, .int 0]))] H := hR_h0
  have hFp := hH.push (k0 := 8) (f := (fun k => match k with | 0 => p1 | 1 => p2 | 2 => p3 | _ => 0)) (r := (fun k => match k with | 3 => some q1 | _ => none)) (H1 := _) z2 (hR_h0 0 _ rfl) (⟨⟨q1, rfl, th_tk tn1 (by decide) z2⟩, (rg_w rgc_0 (th_leI rfl) (th_leI rfl))⟩) (fun _ _ => rfl)
  exact W.vret hx hb hr (fun t ht hW => ⟨⟨(va_up τ1 h0 8, va_up gi1 h0 (fun k => match k with | 0 => p1 | 1 => p2 | 2 => p3 | _ => 0), va_up gr h0 (fun k => match k with | 3 => some q1 | _ => none)), rfl, ⟨hE.add z2 (Or.inl rfl), va_up_self _ _ _, (hF _ _ _ (by (try simp only [M_X2_init_8]); refine ⟨q1, n1, Nat.ne_of_lt (th_ltE s1 lt1_h0), ?_⟩; (try simp only [← et1, ← eg1]); first | done | exact ⟨(by first | rfl | trivial), (by first | rfl | trivial), (by first | rfl | trivial)⟩))⟩, th_Ht ht hFp⟩, hS.F ht⟩) hS.2.2 dX2_init_36

noncomputable def M_X2_init_9 (τ : th_t) (Z : th_Zt) (gi : th_i) (gr : th_r) (h0 : Nat) (p1 : Int32) (p2 : Int32) (p3 : Int32) (tO : th_t) (gO : th_i) (qO : th_r) : Prop :=
  ∃ (q1 : Nat), τ q1 = 0 ∧ h0 ≠ q1 ∧ (
  let τ1 : th_t := va_up τ q1 27
  let gi1 : th_i := va_up gi q1 (fun _ => 0)
  tO = va_up τ1 h0 9 ∧ gO = va_up gi1 h0 (fun k => match k with | 0 => p1 | 1 => p2 | 2 => p3 | _ => 0) ∧ qO = va_up gr h0 (fun k => match k with | 3 => some q1 | _ => none))
set_option maxHeartbeats 20000000 in
set_option maxRecDepth 100000 in
theorem k_X2_init_9 (l : Launch) (D : va_G) (cA : Nat → ClassId) (Z : th_Zt) (τ : th_t) (gi : th_i) (gr : th_r) (sz : Nat) (h0 : Nat) (p1 : Int32) (p2 : Int32) (p3 : Int32) : Met l yX2_init wsX2_init ({ frames := 1, cells := 1, slots := 4, locals := 30 }) (va_Pc [.ref h0, .int p1, .int p2, .int p3] (th_PreC D cA Z τ gi gr sz h0 (.inr (8, [.int 0, .int 0, .int 0, .null, .int 0, .int 0])))) (va_Qv (fun (u : th_t × th_i × th_r) => th_Ext [] τ gi gr sz h0 u.1 u.2.1 u.2.2 ∧ u.1 h0 = 9 ∧ (M_X2_init_9 τ Z gi gr h0 p1 p2 p3 u.1 u.2.1 u.2.2)) (fun (u : th_t × th_i × th_r) t => th_H D cA u.1 u.2.1 u.2.2 t.heap) (th_AC τ sz h0)) 1 4 (th_AC τ sz h0) := by
  refine Met.ofW (cc := cX2_init) (maxL := 4) (ret := none) (by decide) rfl ?_
  intro p e s m args below meth c s₁ B hml hv
  obtain ⟨rfl, hsz, hH, hK, hN, hZ, z_h0, hR_h0⟩ := hv
  have hx := B.exec
  have hb := B.bytes
  have hr := B.returns
  have hts := atoms_spec (ws := wsX2_init) B.pre
  have hown : s.vm.findClass RX2 = some m.cls := findClass_of_methodNamed B.named
  have hlocks := B.notSynchronized
  have hin : meth.name = "<init>" := (name_of_methodNamed B.named B.method).1
  subst hsz
  have hA : ∀ q : Nat, s.heap.size ≤ q → (th_AC τ s.heap.size h0) q := fun q h => Or.inr (Or.inr h)
  have hE : th_Ext [] τ gi gr s.heap.size h0 τ gi gr := th_Ext.rf
  have hS : va_S (th_AC τ s.heap.size h0) s.heap s.heap [] := va_S.rf
  have hl := lv_entry ([.ref h0, .int p1, .int p2, .int p3]) (n := 4) (Nat.le_of_ble_eq_true rfl)
  rw [lg_entry_eq]
  generalize (lg_sl ([.ref h0, .int p1, .int p2, .int p3]) ++ List.replicate (4 - (lg_sl ([.ref h0, .int p1, .int p2, .int p3])).length) Slot.unset).toArray = ls at hl ⊢
  have hl : lv_has ls 4 [(0, .ref h0), (1, .int p1), (2, .int p2), (3, .int p3)] := hl
  have hF : (∀ (tO : th_t) (gO : th_i) (qO : th_r), M_X2_init_9 τ Z gi gr h0 p1 p2 p3 tO gO qO → M_X2_init_9 τ Z gi gr h0 p1 p2 p3 tO gO qO) := fun tO gO qO h9 => h9
  refine lv_aload_n hx hb dX2_init_0 rfl (lv_at hl 0 rfl) ?_
  refine W.objInit hx hb hown (hts (.methodLink RX2 3 objectInit) (List.mem_cons_of_mem _ (List.mem_append_left _ (List.mem_append_left _ (List.mem_append_left _ (List.mem_of_getElem? (i := 0) rfl)))))) (hts (.instanceMethod objectInit) (List.mem_cons_of_mem _ (List.mem_append_left _ (List.mem_append_left _ (List.mem_append_left _ (List.mem_of_getElem? (i := 1) rfl)))))) (hts (.code objectInit ⟨#[0xb1]⟩ 1 none) (List.mem_cons_of_mem _ (List.mem_append_left _ (List.mem_append_left _ (List.mem_append_left _ (List.mem_of_getElem? (i := 2) rfl)))))) rfl (by rw [hml]; exact hl.1) rfl dX2_init_1 (Nat.le_of_ble_eq_true rfl) (Nat.le_of_ble_eq_true rfl) ?_
  refine W.eq (g2 := F0 m 4 ls []) rfl ?_
  refine lv_aload_n hx hb dX2_init_4 rfl (lv_at hl 0 rfl) ?_
  refine lv_iconst (v := 4) hx hb dX2_init_5 ic_4 ?_
  have hle1 := hS.1
  have lt1_h0 := (hR_h0 0 _ rfl).lt
  refine th_newI (atype := .int) (cI := cA 0) (N' := 4) hx hb (hts (.arrayClass .int) (List.mem_cons_of_mem _ (List.mem_append_left _ (List.mem_append_left _ (List.mem_append_left _ (List.mem_of_getElem? (i := 3) rfl)))))) hK 0 rfl (fun h => h) hH hS hA 27 (by decide) (by decide) (by decide) (Nat.le_of_ble_eq_true rfl) (Nat.le_of_ble_eq_true rfl) rfl (fun _ => rfl) (fun _ _ => trivial) dX2_init_6 (fun q1 H s1 y1 n1 o1 hH hS => ?_)
  have le1 : s.heap.size ≤ q1 := th_leE s1 hle1
  have hR_h0 := th_P1 hR_h0 (o1 _ (th_ltE s1 lt1_h0))
  obtain ⟨τ1, et1⟩ : ∃ t, t = va_up τ q1 27 := ⟨_, rfl⟩
  have zz1 := hE.z n1
  obtain ⟨gi1, eg1⟩ : ∃ g, g = va_up gi q1 (fun _ => 0) := ⟨_, rfl⟩
  have hE := hE.add (k0 := 27) (f := (fun _ => 0)) (r := gr q1) n1 (Or.inr le1)
  rw [th_upid gr q1, ← et1, ← eg1] at hE
  rw [← et1, ← eg1] at hH
  have og1 : ∀ b, b ≠ q1 → gi1 b = gi b := th_upO eg1
  have z2 : τ1 h0 = 0 := (th_tzE et1 z_h0 (Nat.ne_of_lt (th_ltE s1 lt1_h0)))
  have tn1 : τ1 q1 = 27 := th_upS et1
  refine W.widen (k := 1) (n := 4) (Nat.le_of_ble_eq_true rfl) (Nat.le_of_ble_eq_true rfl) ?_
  refine th_rputF (ci := 8) (v := .ref q1) (T := TX9) (C := RX9) (N := 6) (ty := (.array .int)) hx hb hts (fun w h => List.mem_cons_of_mem _ (List.mem_append_right _ h)) tyX9 tyX9_ok nmX9 hown hK hH hS z2 (Or.inl rfl) hR_h0 rfl 3 (by decide) (hts (.fieldLink RX2 9 "BayMoorings$Boat" "wishes" "[I") (List.mem_cons_of_mem _ (List.mem_append_left _ (List.mem_append_left _ (List.mem_append_left _ (List.mem_of_getElem? (i := 4) rfl)))))) (fun _ h9 => h9) rfl hin rfl (by decide +kernel) rfl rfl (Nat.le_of_ble_eq_true rfl) dX2_init_8 (fun H locs hR_h0 hH hS y3 o3 => ?_)
  have hR_h0 : va_P D vwCl [(h0, .inr (8, [.int 0, .int 0, .int 0, .ref q1, .int 0, .int 0]))] H := hR_h0
  refine lv_aload_n hx hb dX2_init_11 rfl (lv_at hl 0 rfl) ?_
  refine lv_iconst (v := 0) hx hb dX2_init_12 ic_0 ?_
  refine th_rput (ci := 8) (v := .int 0) (T := TX9) (C := RX9) (N := 6) (ty := .int) hx hb hts (fun w h => List.mem_cons_of_mem _ (List.mem_append_right _ h)) tyX9 tyX9_ok nmX9 hown hK hH hS z2 (Or.inl rfl) hR_h0 rfl 4 (by decide) (hts (.fieldLink RX2 15 "BayMoorings$Boat" "wishCount" "I") (List.mem_cons_of_mem _ (List.mem_append_left _ (List.mem_append_left _ (List.mem_append_left _ (List.mem_of_getElem? (i := 5) rfl)))))) (fun _ h9 => h9) rfl (by decide +kernel) rfl rfl (Nat.le_of_ble_eq_true rfl) dX2_init_13 (fun H locs hR_h0 hH hS y4 o4 => ?_)
  have hR_h0 : va_P D vwCl [(h0, .inr (8, [.int 0, .int 0, .int 0, .ref q1, .int 0, .int 0]))] H := hR_h0
  refine lv_aload_n hx hb dX2_init_16 rfl (lv_at hl 0 rfl) ?_
  refine lv_iconst (v := 0) hx hb dX2_init_17 ic_0 ?_
  refine th_rput (ci := 8) (v := .int 0) (T := TX9) (C := RX9) (N := 6) (ty := .int) hx hb hts (fun w h => List.mem_cons_of_mem _ (List.mem_append_right _ h)) tyX9 tyX9_ok nmX9 hown hK hH hS z2 (Or.inl rfl) hR_h0 rfl 5 (by decide) (hts (.fieldLink RX2 19 "BayMoorings$Boat" "refused" "I") (List.mem_cons_of_mem _ (List.mem_append_left _ (List.mem_append_left _ (List.mem_append_left _ (List.mem_of_getElem? (i := 6) rfl)))))) (fun _ h9 => h9) rfl (by decide +kernel) rfl rfl (Nat.le_of_ble_eq_true rfl) dX2_init_18 (fun H locs hR_h0 hH hS y5 o5 => ?_)
  have hR_h0 : va_P D vwCl [(h0, .inr (8, [.int 0, .int 0, .int 0, .ref q1, .int 0, .int 0]))] H := hR_h0
  refine lv_aload_n hx hb dX2_init_21 rfl (lv_at hl 0 rfl) ?_
  refine lv_iload_n hx hb dX2_init_22 rfl (lv_at hl 1 rfl) ?_
  refine th_rputF (ci := 8) (v := .int p1) (T := TX9) (C := RX9) (N := 6) (ty := .int) hx hb hts (fun w h => List.mem_cons_of_mem _ (List.mem_append_right _ h)) tyX9 tyX9_ok nmX9 hown hK hH hS z2 (Or.inl rfl) hR_h0 rfl 0 (by decide) (hts (.fieldLink RX2 22 "BayMoorings$Boat" "number" "I") (List.mem_cons_of_mem _ (List.mem_append_left _ (List.mem_append_left _ (List.mem_append_left _ (List.mem_of_getElem? (i := 7) rfl)))))) (fun _ h9 => h9) rfl hin rfl (by decide +kernel) rfl rfl (Nat.le_of_ble_eq_true rfl) dX2_init_23 (fun H locs hR_h0 hH hS y6 o6 => ?_)
  have hR_h0 : va_P D vwCl [(h0, .inr (8, [.int p1, .int 0, .int 0, .ref q1, .int 0, .int 0]))] H := hR_h0
  refine lv_aload_n hx hb dX2_init_26 rfl (lv_at hl 0 rfl) ?_
  refine lv_iload_n hx hb dX2_init_27 rfl (lv_at hl 2 rfl) ?_
  refine th_rputF (ci := 8) (v := .int p2) (T := TX9) (C := RX9) (N := 6) (ty := .int) hx hb hts (fun w h => List.mem_cons_of_mem _ (List.mem_append_right _ h)) tyX9 tyX9_ok nmX9 hown hK hH hS z2 (Or.inl rfl) hR_h0 rfl 1 (by decide) (hts (.fieldLink RX2 25 "BayMoorings$Boat" "length" "I") (List.mem_cons_of_mem _ (List.mem_append_left _ (List.mem_append_left _ (List.mem_append_left _ (List.mem_of_getElem? (i := 8) rfl)))))) (fun _ h9 => h9) rfl hin rfl (by decide +kernel) rfl rfl (Nat.le_of_ble_eq_true rfl) dX2_init_28 (fun H locs hR_h0 hH hS y7 o7 => ?_)
  have hR_h0 : va_P D vwCl [(h0, .inr (8, [.int p1, .int p2, .int 0, .ref q1, .int 0, .int 0]))] H := hR_h0
  refine lv_aload_n hx hb dX2_init_31 rfl (lv_at hl 0 rfl) ?_
  refine lv_iload_n hx hb dX2_init_32 rfl (lv_at hl 3 rfl) ?_
  refine th_rputF (ci := 8) (v := .int p3) (T := TX9) (C := RX9) (N := 6) (ty := .int) hx hb hts (fun w h => List.mem_cons_of_mem _ (List.mem_append_right _ h)) tyX9 tyX9_ok nmX9 hown hK hH hS z2 (Or.inl rfl) hR_h0 rfl 2 (by decide) (hts (.fieldLink RX2 28 "BayMoorings$Boat" "draught" "I") (List.mem_cons_of_mem _ (List.mem_append_left _ (List.mem_append_left _ (List.mem_append_left _ (List.mem_of_getElem? (i := 9) rfl)))))) (fun _ h9 => h9) rfl hin rfl (by decide +kernel) rfl rfl (Nat.le_of_ble_eq_true rfl) dX2_init_33 (fun H locs hR_h0 hH hS y8 o8 => ?_)
  have hR_h0 : va_P D vwCl [(h0, .inr (8, [.int p1, .int p2, .int p3, .ref q1, .int 0, .int 0]))] H := hR_h0
  have hFp := hH.push (k0 := 9) (f := (fun k => match k with | 0 => p1 | 1 => p2 | 2 => p3 | _ => 0)) (r := (fun k => match k with | 3 => some q1 | _ => none)) (H1 := _) z2 (hR_h0 0 _ rfl) (⟨⟨q1, rfl, th_tk tn1 (by decide) z2⟩, (rg_w rgc_0 (th_leI rfl) (th_leI rfl))⟩) (fun _ _ => rfl)
  exact W.vret hx hb hr (fun t ht hW => ⟨⟨(va_up τ1 h0 9, va_up gi1 h0 (fun k => match k with | 0 => p1 | 1 => p2 | 2 => p3 | _ => 0), va_up gr h0 (fun k => match k with | 3 => some q1 | _ => none)), rfl, ⟨hE.add z2 (Or.inl rfl), va_up_self _ _ _, (hF _ _ _ (by (try simp only [M_X2_init_9]); refine ⟨q1, n1, Nat.ne_of_lt (th_ltE s1 lt1_h0), ?_⟩; (try simp only [← et1, ← eg1]); first | done | exact ⟨(by first | rfl | trivial), (by first | rfl | trivial), (by first | rfl | trivial)⟩))⟩, th_Ht ht hFp⟩, hS.F ht⟩) hS.2.2 dX2_init_36

noncomputable def M_X2_init_4 (τ : th_t) (Z : th_Zt) (gi : th_i) (gr : th_r) (h0 : Nat) (p1 : Int32) (p2 : Int32) (p3 : Int32) (tO : th_t) (gO : th_i) (qO : th_r) : Prop :=
  ∃ (q1 : Nat), τ q1 = 0 ∧ h0 ≠ q1 ∧ (
  let τ1 : th_t := va_up τ q1 27
  let gi1 : th_i := va_up gi q1 (fun _ => 0)
  tO = va_up τ1 h0 4 ∧ gO = va_up gi1 h0 (fun k => match k with | 0 => p1 | 1 => p2 | 2 => p3 | _ => 0) ∧ qO = va_up gr h0 (fun k => match k with | 3 => some q1 | _ => none))
set_option maxHeartbeats 20000000 in
set_option maxRecDepth 100000 in
theorem k_X2_init_4 (l : Launch) (D : va_G) (cA : Nat → ClassId) (Z : th_Zt) (τ : th_t) (gi : th_i) (gr : th_r) (sz : Nat) (h0 : Nat) (p1 : Int32) (p2 : Int32) (p3 : Int32) : Met l yX2_init wsX2_init ({ frames := 1, cells := 1, slots := 4, locals := 30 }) (va_Pc [.ref h0, .int p1, .int p2, .int p3] (th_PreC D cA Z τ gi gr sz h0 (.inr (3, [.int 0, .int 0, .int 0, .null, .int 0, .int 0])))) (va_Qv (fun (u : th_t × th_i × th_r) => th_Ext [] τ gi gr sz h0 u.1 u.2.1 u.2.2 ∧ u.1 h0 = 4 ∧ (M_X2_init_4 τ Z gi gr h0 p1 p2 p3 u.1 u.2.1 u.2.2)) (fun (u : th_t × th_i × th_r) t => th_H D cA u.1 u.2.1 u.2.2 t.heap) (th_AC τ sz h0)) 1 4 (th_AC τ sz h0) := by
  refine Met.ofW (cc := cX2_init) (maxL := 4) (ret := none) (by decide) rfl ?_
  intro p e s m args below meth c s₁ B hml hv
  obtain ⟨rfl, hsz, hH, hK, hN, hZ, z_h0, hR_h0⟩ := hv
  have hx := B.exec
  have hb := B.bytes
  have hr := B.returns
  have hts := atoms_spec (ws := wsX2_init) B.pre
  have hown : s.vm.findClass RX2 = some m.cls := findClass_of_methodNamed B.named
  have hlocks := B.notSynchronized
  have hin : meth.name = "<init>" := (name_of_methodNamed B.named B.method).1
  subst hsz
  have hA : ∀ q : Nat, s.heap.size ≤ q → (th_AC τ s.heap.size h0) q := fun q h => Or.inr (Or.inr h)
  have hE : th_Ext [] τ gi gr s.heap.size h0 τ gi gr := th_Ext.rf
  have hS : va_S (th_AC τ s.heap.size h0) s.heap s.heap [] := va_S.rf
  have hl := lv_entry ([.ref h0, .int p1, .int p2, .int p3]) (n := 4) (Nat.le_of_ble_eq_true rfl)
  rw [lg_entry_eq]
  generalize (lg_sl ([.ref h0, .int p1, .int p2, .int p3]) ++ List.replicate (4 - (lg_sl ([.ref h0, .int p1, .int p2, .int p3])).length) Slot.unset).toArray = ls at hl ⊢
  have hl : lv_has ls 4 [(0, .ref h0), (1, .int p1), (2, .int p2), (3, .int p3)] := hl
  have hF : (∀ (tO : th_t) (gO : th_i) (qO : th_r), M_X2_init_4 τ Z gi gr h0 p1 p2 p3 tO gO qO → M_X2_init_4 τ Z gi gr h0 p1 p2 p3 tO gO qO) := fun tO gO qO h9 => h9
  refine lv_aload_n hx hb dX2_init_0 rfl (lv_at hl 0 rfl) ?_
  refine W.objInit hx hb hown (hts (.methodLink RX2 3 objectInit) (List.mem_cons_of_mem _ (List.mem_append_left _ (List.mem_append_left _ (List.mem_append_left _ (List.mem_of_getElem? (i := 0) rfl)))))) (hts (.instanceMethod objectInit) (List.mem_cons_of_mem _ (List.mem_append_left _ (List.mem_append_left _ (List.mem_append_left _ (List.mem_of_getElem? (i := 1) rfl)))))) (hts (.code objectInit ⟨#[0xb1]⟩ 1 none) (List.mem_cons_of_mem _ (List.mem_append_left _ (List.mem_append_left _ (List.mem_append_left _ (List.mem_of_getElem? (i := 2) rfl)))))) rfl (by rw [hml]; exact hl.1) rfl dX2_init_1 (Nat.le_of_ble_eq_true rfl) (Nat.le_of_ble_eq_true rfl) ?_
  refine W.eq (g2 := F0 m 4 ls []) rfl ?_
  refine lv_aload_n hx hb dX2_init_4 rfl (lv_at hl 0 rfl) ?_
  refine lv_iconst (v := 4) hx hb dX2_init_5 ic_4 ?_
  have hle1 := hS.1
  have lt1_h0 := (hR_h0 0 _ rfl).lt
  refine th_newI (atype := .int) (cI := cA 0) (N' := 4) hx hb (hts (.arrayClass .int) (List.mem_cons_of_mem _ (List.mem_append_left _ (List.mem_append_left _ (List.mem_append_left _ (List.mem_of_getElem? (i := 3) rfl)))))) hK 0 rfl (fun h => h) hH hS hA 27 (by decide) (by decide) (by decide) (Nat.le_of_ble_eq_true rfl) (Nat.le_of_ble_eq_true rfl) rfl (fun _ => rfl) (fun _ _ => trivial) dX2_init_6 (fun q1 H s1 y1 n1 o1 hH hS => ?_)
  have le1 : s.heap.size ≤ q1 := th_leE s1 hle1
  have hR_h0 := th_P1 hR_h0 (o1 _ (th_ltE s1 lt1_h0))
  obtain ⟨τ1, et1⟩ : ∃ t, t = va_up τ q1 27 := ⟨_, rfl⟩
  have zz1 := hE.z n1
  obtain ⟨gi1, eg1⟩ : ∃ g, g = va_up gi q1 (fun _ => 0) := ⟨_, rfl⟩
  have hE := hE.add (k0 := 27) (f := (fun _ => 0)) (r := gr q1) n1 (Or.inr le1)
  rw [th_upid gr q1, ← et1, ← eg1] at hE
  rw [← et1, ← eg1] at hH
  have og1 : ∀ b, b ≠ q1 → gi1 b = gi b := th_upO eg1
  have z2 : τ1 h0 = 0 := (th_tzE et1 z_h0 (Nat.ne_of_lt (th_ltE s1 lt1_h0)))
  have tn1 : τ1 q1 = 27 := th_upS et1
  refine W.widen (k := 1) (n := 4) (Nat.le_of_ble_eq_true rfl) (Nat.le_of_ble_eq_true rfl) ?_
  refine th_rputF (ci := 3) (v := .ref q1) (T := TX4) (C := RX4) (N := 6) (ty := (.array .int)) hx hb hts (fun w h => List.mem_cons_of_mem _ (List.mem_append_left _ (List.mem_append_left _ (List.mem_append_right _ h)))) tyX4 tyX4_ok nmX4 hown hK hH hS z2 (Or.inl rfl) hR_h0 rfl 3 (by decide) (hts (.fieldLink RX2 9 "BayMoorings$Boat" "wishes" "[I") (List.mem_cons_of_mem _ (List.mem_append_left _ (List.mem_append_left _ (List.mem_append_left _ (List.mem_of_getElem? (i := 4) rfl)))))) (fun _ h9 => h9) rfl hin rfl (by decide +kernel) rfl rfl (Nat.le_of_ble_eq_true rfl) dX2_init_8 (fun H locs hR_h0 hH hS y3 o3 => ?_)
  have hR_h0 : va_P D vwCl [(h0, .inr (3, [.int 0, .int 0, .int 0, .ref q1, .int 0, .int 0]))] H := hR_h0
  refine lv_aload_n hx hb dX2_init_11 rfl (lv_at hl 0 rfl) ?_
  refine lv_iconst (v := 0) hx hb dX2_init_12 ic_0 ?_
  refine th_rput (ci := 3) (v := .int 0) (T := TX4) (C := RX4) (N := 6) (ty := .int) hx hb hts (fun w h => List.mem_cons_of_mem _ (List.mem_append_left _ (List.mem_append_left _ (List.mem_append_right _ h)))) tyX4 tyX4_ok nmX4 hown hK hH hS z2 (Or.inl rfl) hR_h0 rfl 4 (by decide) (hts (.fieldLink RX2 15 "BayMoorings$Boat" "wishCount" "I") (List.mem_cons_of_mem _ (List.mem_append_left _ (List.mem_append_left _ (List.mem_append_left _ (List.mem_of_getElem? (i := 5) rfl)))))) (fun _ h9 => h9) rfl (by decide +kernel) rfl rfl (Nat.le_of_ble_eq_true rfl) dX2_init_13 (fun H locs hR_h0 hH hS y4 o4 => ?_)
  have hR_h0 : va_P D vwCl [(h0, .inr (3, [.int 0, .int 0, .int 0, .ref q1, .int 0, .int 0]))] H := hR_h0
  refine lv_aload_n hx hb dX2_init_16 rfl (lv_at hl 0 rfl) ?_
  refine lv_iconst (v := 0) hx hb dX2_init_17 ic_0 ?_
  refine th_rput (ci := 3) (v := .int 0) (T := TX4) (C := RX4) (N := 6) (ty := .int) hx hb hts (fun w h => List.mem_cons_of_mem _ (List.mem_append_left _ (List.mem_append_left _ (List.mem_append_right _ h)))) tyX4 tyX4_ok nmX4 hown hK hH hS z2 (Or.inl rfl) hR_h0 rfl 5 (by decide) (hts (.fieldLink RX2 19 "BayMoorings$Boat" "refused" "I") (List.mem_cons_of_mem _ (List.mem_append_left _ (List.mem_append_left _ (List.mem_append_left _ (List.mem_of_getElem? (i := 6) rfl)))))) (fun _ h9 => h9) rfl (by decide +kernel) rfl rfl (Nat.le_of_ble_eq_true rfl) dX2_init_18 (fun H locs hR_h0 hH hS y5 o5 => ?_)
  have hR_h0 : va_P D vwCl [(h0, .inr (3, [.int 0, .int 0, .int 0, .ref q1, .int 0, .int 0]))] H := hR_h0
  refine lv_aload_n hx hb dX2_init_21 rfl (lv_at hl 0 rfl) ?_
  refine lv_iload_n hx hb dX2_init_22 rfl (lv_at hl 1 rfl) ?_
  refine th_rputF (ci := 3) (v := .int p1) (T := TX4) (C := RX4) (N := 6) (ty := .int) hx hb hts (fun w h => List.mem_cons_of_mem _ (List.mem_append_left _ (List.mem_append_left _ (List.mem_append_right _ h)))) tyX4 tyX4_ok nmX4 hown hK hH hS z2 (Or.inl rfl) hR_h0 rfl 0 (by decide) (hts (.fieldLink RX2 22 "BayMoorings$Boat" "number" "I") (List.mem_cons_of_mem _ (List.mem_append_left _ (List.mem_append_left _ (List.mem_append_left _ (List.mem_of_getElem? (i := 7) rfl)))))) (fun _ h9 => h9) rfl hin rfl (by decide +kernel) rfl rfl (Nat.le_of_ble_eq_true rfl) dX2_init_23 (fun H locs hR_h0 hH hS y6 o6 => ?_)
  have hR_h0 : va_P D vwCl [(h0, .inr (3, [.int p1, .int 0, .int 0, .ref q1, .int 0, .int 0]))] H := hR_h0
  refine lv_aload_n hx hb dX2_init_26 rfl (lv_at hl 0 rfl) ?_
  refine lv_iload_n hx hb dX2_init_27 rfl (lv_at hl 2 rfl) ?_
  refine th_rputF (ci := 3) (v := .int p2) (T := TX4) (C := RX4) (N := 6) (ty := .int) hx hb hts (fun w h => List.mem_cons_of_mem _ (List.mem_append_left _ (List.mem_append_left _ (List.mem_append_right _ h)))) tyX4 tyX4_ok nmX4 hown hK hH hS z2 (Or.inl rfl) hR_h0 rfl 1 (by decide) (hts (.fieldLink RX2 25 "BayMoorings$Boat" "length" "I") (List.mem_cons_of_mem _ (List.mem_append_left _ (List.mem_append_left _ (List.mem_append_left _ (List.mem_of_getElem? (i := 8) rfl)))))) (fun _ h9 => h9) rfl hin rfl (by decide +kernel) rfl rfl (Nat.le_of_ble_eq_true rfl) dX2_init_28 (fun H locs hR_h0 hH hS y7 o7 => ?_)
  have hR_h0 : va_P D vwCl [(h0, .inr (3, [.int p1, .int p2, .int 0, .ref q1, .int 0, .int 0]))] H := hR_h0
  refine lv_aload_n hx hb dX2_init_31 rfl (lv_at hl 0 rfl) ?_
  refine lv_iload_n hx hb dX2_init_32 rfl (lv_at hl 3 rfl) ?_
  refine th_rputF (ci := 3) (v := .int p3) (T := TX4) (C := RX4) (N := 6) (ty := .int) hx hb hts (fun w h => List.mem_cons_of_mem _ (List.mem_append_left _ (List.mem_append_left _ (List.mem_append_right _ h)))) tyX4 tyX4_ok nmX4 hown hK hH hS z2 (Or.inl rfl) hR_h0 rfl 2 (by decide) (hts (.fieldLink RX2 28 "BayMoorings$Boat" "draught" "I") (List.mem_cons_of_mem _ (List.mem_append_left _ (List.mem_append_left _ (List.mem_append_left _ (List.mem_of_getElem? (i := 9) rfl)))))) (fun _ h9 => h9) rfl hin rfl (by decide +kernel) rfl rfl (Nat.le_of_ble_eq_true rfl) dX2_init_33 (fun H locs hR_h0 hH hS y8 o8 => ?_)
  have hR_h0 : va_P D vwCl [(h0, .inr (3, [.int p1, .int p2, .int p3, .ref q1, .int 0, .int 0]))] H := hR_h0
  have hFp := hH.push (k0 := 4) (f := (fun k => match k with | 0 => p1 | 1 => p2 | 2 => p3 | _ => 0)) (r := (fun k => match k with | 3 => some q1 | _ => none)) (H1 := _) z2 (hR_h0 0 _ rfl) (⟨⟨q1, rfl, th_tk tn1 (by decide) z2⟩, (rg_w rgc_0 (th_leI rfl) (th_leI rfl))⟩) (fun _ _ => rfl)
  exact W.vret hx hb hr (fun t ht hW => ⟨⟨(va_up τ1 h0 4, va_up gi1 h0 (fun k => match k with | 0 => p1 | 1 => p2 | 2 => p3 | _ => 0), va_up gr h0 (fun k => match k with | 3 => some q1 | _ => none)), rfl, ⟨hE.add z2 (Or.inl rfl), va_up_self _ _ _, (hF _ _ _ (by (try simp only [M_X2_init_4]); refine ⟨q1, n1, Nat.ne_of_lt (th_ltE s1 lt1_h0), ?_⟩; (try simp only [← et1, ← eg1]); first | done | exact ⟨(by first | rfl | trivial), (by first | rfl | trivial), (by first | rfl | trivial)⟩))⟩, th_Ht ht hFp⟩, hS.F ht⟩) hS.2.2 dX2_init_36

noncomputable def M_X8_init (τ : th_t) (Z : th_Zt) (gi : th_i) (gr : th_r) (h0 : Nat) (p1 : Int32) (p2 : Int32) (p3 : Int32) (tO : th_t) (gO : th_i) (qO : th_r) : Prop :=
  ∃ (τ1 : th_t) (gi1 : th_i) (gr1 : th_r), M_X2_init_8 τ Z gi gr h0 p1 p2 p3 τ1 gi1 gr1 ∧ (
  tO = τ1 ∧ gO = gi1 ∧ qO = gr1)
set_option maxHeartbeats 20000000 in
set_option maxRecDepth 100000 in
theorem k_X8_init (l : Launch) (D : va_G) (cA : Nat → ClassId) (Z : th_Zt) (τ : th_t) (gi : th_i) (gr : th_r) (sz : Nat) (h0 : Nat) (p1 : Int32) (p2 : Int32) (p3 : Int32) : Met l yX8_init wsX8_init ({ frames := 2, cells := 1, slots := 4, locals := 53 }) (va_Pc [.ref h0, .int p1, .int p2, .int p3] (th_PreC D cA Z τ gi gr sz h0 (.inr (7, [.int 0, .int 0, .int 0, .null, .int 0, .int 0])))) (va_Qv (fun (u : th_t × th_i × th_r) => th_Ext [] τ gi gr sz h0 u.1 u.2.1 u.2.2 ∧ u.1 h0 = 8 ∧ (M_X8_init τ Z gi gr h0 p1 p2 p3 u.1 u.2.1 u.2.2)) (fun (u : th_t × th_i × th_r) t => th_H D cA u.1 u.2.1 u.2.2 t.heap) (th_AC τ sz h0)) 1 4 (th_AC τ sz h0) := by
  refine Met.ofW (cc := cX8_init) (maxL := 4) (ret := none) (by decide) rfl ?_
  intro p e s m args below meth c s₁ B hml hv
  obtain ⟨rfl, hsz, hH, hK, hN, hZ, z_h0, hR_h0⟩ := hv
  have hx := B.exec
  have hb := B.bytes
  have hr := B.returns
  have hts := atoms_spec (ws := wsX8_init) B.pre
  have hown : s.vm.findClass RX8 = some m.cls := findClass_of_methodNamed B.named
  have hlocks := B.notSynchronized
  have hin : meth.name = "<init>" := (name_of_methodNamed B.named B.method).1
  subst hsz
  have hA : ∀ q : Nat, s.heap.size ≤ q → (th_AC τ s.heap.size h0) q := fun q h => Or.inr (Or.inr h)
  have hE : th_Ext [] τ gi gr s.heap.size h0 τ gi gr := th_Ext.rf
  have hS : va_S (th_AC τ s.heap.size h0) s.heap s.heap [] := va_S.rf
  have hl := lv_entry ([.ref h0, .int p1, .int p2, .int p3]) (n := 4) (Nat.le_of_ble_eq_true rfl)
  rw [lg_entry_eq]
  generalize (lg_sl ([.ref h0, .int p1, .int p2, .int p3]) ++ List.replicate (4 - (lg_sl ([.ref h0, .int p1, .int p2, .int p3])).length) Slot.unset).toArray = ls at hl ⊢
  have hl : lv_has ls 4 [(0, .ref h0), (1, .int p1), (2, .int p2), (3, .int p3)] := hl
  have hF : (∀ (tO : th_t) (gO : th_i) (qO : th_r), M_X8_init τ Z gi gr h0 p1 p2 p3 tO gO qO → M_X8_init τ Z gi gr h0 p1 p2 p3 tO gO qO) := fun tO gO qO h9 => h9
  refine lv_aload_n hx hb dX8_init_0 rfl (lv_at hl 0 rfl) ?_
  refine lv_iload_n hx hb dX8_init_1 rfl (lv_at hl 1 rfl) ?_
  refine lv_iload_n hx hb dX8_init_2 rfl (lv_at hl 2 rfl) ?_
  refine lv_iload_n hx hb dX8_init_3 rfl (lv_at hl 3 rfl) ?_
  have hle1 := hS.1
  have lt1_h0 := (hR_h0 0 _ rfl).lt
  have hAC1 : ∀ x, th_AC τ _ h0 x → (th_AC τ s.heap.size h0) x := th_ACo hE hS
  refine va_callv (va_runI (As := [.int p1, .int p2, .int p3]) (rest := []) ⟨hx, hb, hml, hown, hts⟩ (k_X2_init_8 l D cA Z τ gi gr _ h0 p1 p2 p3) (cwI 3 hts gX8_init_X2_init rfl rfl rfl (hts (.initialized RX2) (List.mem_cons_of_mem _ (List.mem_append_left _ (List.mem_append_left _ (List.mem_append_left _ (List.mem_of_getElem? (i := 2) rfl)))))) (hts (.methodLink RX8 3 yX2_init) (List.mem_cons_of_mem _ (List.mem_append_left _ (List.mem_append_left _ (List.mem_append_left _ (List.mem_of_getElem? (i := 0) rfl)))))) (hts (.instanceMethod yX2_init) (List.mem_cons_of_mem _ (List.mem_append_left _ (List.mem_append_left _ (List.mem_append_left _ (List.mem_of_getElem? (i := 1) rfl)))))) rfl (by decide +kernel) ⟨Nat.le_of_ble_eq_true rfl, Nat.le_of_ble_eq_true rfl⟩) ⟨th_blindC, th_preC hH hK hN hZ hS hAC1 z_h0 hR_h0⟩ rfl rfl hl.1 rfl (lv_room (Nat.le_of_ble_eq_true rfl)) dX8_init_4 ⟨Nat.le_of_ble_eq_true rfl, Nat.le_of_ble_eq_true rfl⟩) hS (fun x _ h => hAC1 x h) hAC1 (fun u t H locs ht hvm hw1 hB hz1 hk1 hS => ?_)
  obtain ⟨τ1, gi1, gr1⟩ := u
  try dsimp only at hw1 hB
  rw [ht] at hB
  have hH := hB
  have hE := hE.tr hw1.1 (Or.inl rfl) hle1 (by decide)
  have tn1 := hw1.2.1
  refine W.widen (k := 1) (n := 4) (Nat.le_of_ble_eq_true rfl) (Nat.le_of_ble_eq_true rfl) ?_
  exact W.vret hx hb hr (fun t ht hW => ⟨⟨(τ1, gi1, gr1), rfl, ⟨hE, tn1, (hF _ _ _ (by (try simp only [M_X8_init]); refine ⟨τ1, gi1, gr1, hw1.2.2, ?_⟩; first | done | exact ⟨(by first | rfl | trivial), (by first | rfl | trivial), (by first | rfl | trivial)⟩))⟩, th_Ht ht hH⟩, hS.F ht⟩) hS.2.2 dX8_init_7

noncomputable def M_X9_init (τ : th_t) (Z : th_Zt) (gi : th_i) (gr : th_r) (h0 : Nat) (p1 : Int32) (p2 : Int32) (p3 : Int32) (tO : th_t) (gO : th_i) (qO : th_r) : Prop :=
  ∃ (τ1 : th_t) (gi1 : th_i) (gr1 : th_r), M_X2_init_9 τ Z gi gr h0 p1 p2 p3 τ1 gi1 gr1 ∧ (
  tO = τ1 ∧ gO = gi1 ∧ qO = gr1)
set_option maxHeartbeats 20000000 in
set_option maxRecDepth 100000 in
theorem k_X9_init (l : Launch) (D : va_G) (cA : Nat → ClassId) (Z : th_Zt) (τ : th_t) (gi : th_i) (gr : th_r) (sz : Nat) (h0 : Nat) (p1 : Int32) (p2 : Int32) (p3 : Int32) : Met l yX9_init wsX9_init ({ frames := 2, cells := 1, slots := 4, locals := 53 }) (va_Pc [.ref h0, .int p1, .int p2, .int p3] (th_PreC D cA Z τ gi gr sz h0 (.inr (8, [.int 0, .int 0, .int 0, .null, .int 0, .int 0])))) (va_Qv (fun (u : th_t × th_i × th_r) => th_Ext [] τ gi gr sz h0 u.1 u.2.1 u.2.2 ∧ u.1 h0 = 9 ∧ (M_X9_init τ Z gi gr h0 p1 p2 p3 u.1 u.2.1 u.2.2)) (fun (u : th_t × th_i × th_r) t => th_H D cA u.1 u.2.1 u.2.2 t.heap) (th_AC τ sz h0)) 1 4 (th_AC τ sz h0) := by
  refine Met.ofW (cc := cX9_init) (maxL := 4) (ret := none) (by decide) rfl ?_
  intro p e s m args below meth c s₁ B hml hv
  obtain ⟨rfl, hsz, hH, hK, hN, hZ, z_h0, hR_h0⟩ := hv
  have hx := B.exec
  have hb := B.bytes
  have hr := B.returns
  have hts := atoms_spec (ws := wsX9_init) B.pre
  have hown : s.vm.findClass RX9 = some m.cls := findClass_of_methodNamed B.named
  have hlocks := B.notSynchronized
  have hin : meth.name = "<init>" := (name_of_methodNamed B.named B.method).1
  subst hsz
  have hA : ∀ q : Nat, s.heap.size ≤ q → (th_AC τ s.heap.size h0) q := fun q h => Or.inr (Or.inr h)
  have hE : th_Ext [] τ gi gr s.heap.size h0 τ gi gr := th_Ext.rf
  have hS : va_S (th_AC τ s.heap.size h0) s.heap s.heap [] := va_S.rf
  have hl := lv_entry ([.ref h0, .int p1, .int p2, .int p3]) (n := 4) (Nat.le_of_ble_eq_true rfl)
  rw [lg_entry_eq]
  generalize (lg_sl ([.ref h0, .int p1, .int p2, .int p3]) ++ List.replicate (4 - (lg_sl ([.ref h0, .int p1, .int p2, .int p3])).length) Slot.unset).toArray = ls at hl ⊢
  have hl : lv_has ls 4 [(0, .ref h0), (1, .int p1), (2, .int p2), (3, .int p3)] := hl
  have hF : (∀ (tO : th_t) (gO : th_i) (qO : th_r), M_X9_init τ Z gi gr h0 p1 p2 p3 tO gO qO → M_X9_init τ Z gi gr h0 p1 p2 p3 tO gO qO) := fun tO gO qO h9 => h9
  refine lv_aload_n hx hb dX9_init_0 rfl (lv_at hl 0 rfl) ?_
  refine lv_iload_n hx hb dX9_init_1 rfl (lv_at hl 1 rfl) ?_
  refine lv_iload_n hx hb dX9_init_2 rfl (lv_at hl 2 rfl) ?_
  refine lv_iload_n hx hb dX9_init_3 rfl (lv_at hl 3 rfl) ?_
  have hle1 := hS.1
  have lt1_h0 := (hR_h0 0 _ rfl).lt
  have hAC1 : ∀ x, th_AC τ _ h0 x → (th_AC τ s.heap.size h0) x := th_ACo hE hS
  refine va_callv (va_runI (As := [.int p1, .int p2, .int p3]) (rest := []) ⟨hx, hb, hml, hown, hts⟩ (k_X2_init_9 l D cA Z τ gi gr _ h0 p1 p2 p3) (cwI 3 hts gX9_init_X2_init rfl rfl rfl (hts (.initialized RX2) (List.mem_cons_of_mem _ (List.mem_append_left _ (List.mem_append_left _ (List.mem_append_left _ (List.mem_of_getElem? (i := 2) rfl)))))) (hts (.methodLink RX9 3 yX2_init) (List.mem_cons_of_mem _ (List.mem_append_left _ (List.mem_append_left _ (List.mem_append_left _ (List.mem_of_getElem? (i := 0) rfl)))))) (hts (.instanceMethod yX2_init) (List.mem_cons_of_mem _ (List.mem_append_left _ (List.mem_append_left _ (List.mem_append_left _ (List.mem_of_getElem? (i := 1) rfl)))))) rfl (by decide +kernel) ⟨Nat.le_of_ble_eq_true rfl, Nat.le_of_ble_eq_true rfl⟩) ⟨th_blindC, th_preC hH hK hN hZ hS hAC1 z_h0 hR_h0⟩ rfl rfl hl.1 rfl (lv_room (Nat.le_of_ble_eq_true rfl)) dX9_init_4 ⟨Nat.le_of_ble_eq_true rfl, Nat.le_of_ble_eq_true rfl⟩) hS (fun x _ h => hAC1 x h) hAC1 (fun u t H locs ht hvm hw1 hB hz1 hk1 hS => ?_)
  obtain ⟨τ1, gi1, gr1⟩ := u
  try dsimp only at hw1 hB
  rw [ht] at hB
  have hH := hB
  have hE := hE.tr hw1.1 (Or.inl rfl) hle1 (by decide)
  have tn1 := hw1.2.1
  refine W.widen (k := 1) (n := 4) (Nat.le_of_ble_eq_true rfl) (Nat.le_of_ble_eq_true rfl) ?_
  exact W.vret hx hb hr (fun t ht hW => ⟨⟨(τ1, gi1, gr1), rfl, ⟨hE, tn1, (hF _ _ _ (by (try simp only [M_X9_init]); refine ⟨τ1, gi1, gr1, hw1.2.2, ?_⟩; first | done | exact ⟨(by first | rfl | trivial), (by first | rfl | trivial), (by first | rfl | trivial)⟩))⟩, th_Ht ht hH⟩, hS.F ht⟩) hS.2.2 dX9_init_7

noncomputable def M_X4_init (τ : th_t) (Z : th_Zt) (gi : th_i) (gr : th_r) (h0 : Nat) (p1 : Int32) (p2 : Int32) (p3 : Int32) (tO : th_t) (gO : th_i) (qO : th_r) : Prop :=
  ∃ (τ1 : th_t) (gi1 : th_i) (gr1 : th_r), M_X2_init_4 τ Z gi gr h0 p1 p2 p3 τ1 gi1 gr1 ∧ (
  tO = τ1 ∧ gO = gi1 ∧ qO = gr1)
set_option maxHeartbeats 20000000 in
set_option maxRecDepth 100000 in
theorem k_X4_init (l : Launch) (D : va_G) (cA : Nat → ClassId) (Z : th_Zt) (τ : th_t) (gi : th_i) (gr : th_r) (sz : Nat) (h0 : Nat) (p1 : Int32) (p2 : Int32) (p3 : Int32) : Met l yX4_init wsX4_init ({ frames := 2, cells := 1, slots := 4, locals := 53 }) (va_Pc [.ref h0, .int p1, .int p2, .int p3] (th_PreC D cA Z τ gi gr sz h0 (.inr (3, [.int 0, .int 0, .int 0, .null, .int 0, .int 0])))) (va_Qv (fun (u : th_t × th_i × th_r) => th_Ext [] τ gi gr sz h0 u.1 u.2.1 u.2.2 ∧ u.1 h0 = 4 ∧ (M_X4_init τ Z gi gr h0 p1 p2 p3 u.1 u.2.1 u.2.2)) (fun (u : th_t × th_i × th_r) t => th_H D cA u.1 u.2.1 u.2.2 t.heap) (th_AC τ sz h0)) 1 4 (th_AC τ sz h0) := by
  refine Met.ofW (cc := cX4_init) (maxL := 4) (ret := none) (by decide) rfl ?_
  intro p e s m args below meth c s₁ B hml hv
  obtain ⟨rfl, hsz, hH, hK, hN, hZ, z_h0, hR_h0⟩ := hv
  have hx := B.exec
  have hb := B.bytes
  have hr := B.returns
  have hts := atoms_spec (ws := wsX4_init) B.pre
  have hown : s.vm.findClass RX4 = some m.cls := findClass_of_methodNamed B.named
  have hlocks := B.notSynchronized
  have hin : meth.name = "<init>" := (name_of_methodNamed B.named B.method).1
  subst hsz
  have hA : ∀ q : Nat, s.heap.size ≤ q → (th_AC τ s.heap.size h0) q := fun q h => Or.inr (Or.inr h)
  have hE : th_Ext [] τ gi gr s.heap.size h0 τ gi gr := th_Ext.rf
  have hS : va_S (th_AC τ s.heap.size h0) s.heap s.heap [] := va_S.rf
  have hl := lv_entry ([.ref h0, .int p1, .int p2, .int p3]) (n := 4) (Nat.le_of_ble_eq_true rfl)
  rw [lg_entry_eq]
  generalize (lg_sl ([.ref h0, .int p1, .int p2, .int p3]) ++ List.replicate (4 - (lg_sl ([.ref h0, .int p1, .int p2, .int p3])).length) Slot.unset).toArray = ls at hl ⊢
  have hl : lv_has ls 4 [(0, .ref h0), (1, .int p1), (2, .int p2), (3, .int p3)] := hl
  have hF : (∀ (tO : th_t) (gO : th_i) (qO : th_r), M_X4_init τ Z gi gr h0 p1 p2 p3 tO gO qO → M_X4_init τ Z gi gr h0 p1 p2 p3 tO gO qO) := fun tO gO qO h9 => h9
  refine lv_aload_n hx hb dX4_init_0 rfl (lv_at hl 0 rfl) ?_
  refine lv_iload_n hx hb dX4_init_1 rfl (lv_at hl 1 rfl) ?_
  refine lv_iload_n hx hb dX4_init_2 rfl (lv_at hl 2 rfl) ?_
  refine lv_iload_n hx hb dX4_init_3 rfl (lv_at hl 3 rfl) ?_
  have hle1 := hS.1
  have lt1_h0 := (hR_h0 0 _ rfl).lt
  have hAC1 : ∀ x, th_AC τ _ h0 x → (th_AC τ s.heap.size h0) x := th_ACo hE hS
  refine va_callv (va_runI (As := [.int p1, .int p2, .int p3]) (rest := []) ⟨hx, hb, hml, hown, hts⟩ (k_X2_init_4 l D cA Z τ gi gr _ h0 p1 p2 p3) (cwI 3 hts gX4_init_X2_init rfl rfl rfl (hts (.initialized RX2) (List.mem_cons_of_mem _ (List.mem_append_left _ (List.mem_append_left _ (List.mem_append_left _ (List.mem_of_getElem? (i := 2) rfl)))))) (hts (.methodLink RX4 3 yX2_init) (List.mem_cons_of_mem _ (List.mem_append_left _ (List.mem_append_left _ (List.mem_append_left _ (List.mem_of_getElem? (i := 0) rfl)))))) (hts (.instanceMethod yX2_init) (List.mem_cons_of_mem _ (List.mem_append_left _ (List.mem_append_left _ (List.mem_append_left _ (List.mem_of_getElem? (i := 1) rfl)))))) rfl (by decide +kernel) ⟨Nat.le_of_ble_eq_true rfl, Nat.le_of_ble_eq_true rfl⟩) ⟨th_blindC, th_preC hH hK hN hZ hS hAC1 z_h0 hR_h0⟩ rfl rfl hl.1 rfl (lv_room (Nat.le_of_ble_eq_true rfl)) dX4_init_4 ⟨Nat.le_of_ble_eq_true rfl, Nat.le_of_ble_eq_true rfl⟩) hS (fun x _ h => hAC1 x h) hAC1 (fun u t H locs ht hvm hw1 hB hz1 hk1 hS => ?_)
  obtain ⟨τ1, gi1, gr1⟩ := u
  try dsimp only at hw1 hB
  rw [ht] at hB
  have hH := hB
  have hE := hE.tr hw1.1 (Or.inl rfl) hle1 (by decide)
  have tn1 := hw1.2.1
  refine W.widen (k := 1) (n := 4) (Nat.le_of_ble_eq_true rfl) (Nat.le_of_ble_eq_true rfl) ?_
  exact W.vret hx hb hr (fun t ht hW => ⟨⟨(τ1, gi1, gr1), rfl, ⟨hE, tn1, (hF _ _ _ (by (try simp only [M_X4_init]); refine ⟨τ1, gi1, gr1, hw1.2.2, ?_⟩; first | done | exact ⟨(by first | rfl | trivial), (by first | rfl | trivial), (by first | rfl | trivial)⟩))⟩, th_Ht ht hH⟩, hS.F ht⟩) hS.2.2 dX4_init_7

noncomputable def M_X0_newBoat (τ : th_t) (Z : th_Zt) (gi : th_i) (gr : th_r) (p0 : Int32) (p1 : Int32) (p2 : Int32) (p3 : Int32) (rO : Nat) (tO : th_t) (gO : th_i) (qO : th_r) : Prop :=
  if p0.toInt = 1 then (
    ∃ (q2 : Nat), τ q2 = 0 ∧ (
    ∃ (τ3 : th_t) (gi3 : th_i) (gr3 : th_r), M_X9_init τ Z gi gr q2 p1 p2 p3 τ3 gi3 gr3 ∧ (
    rO = q2 ∧ tO = τ3 ∧ gO = gi3 ∧ qO = gr3))) else (
    if p0.toInt = 2 then (
      ∃ (q4 : Nat), τ q4 = 0 ∧ (
      ∃ (τ5 : th_t) (gi5 : th_i) (gr5 : th_r), M_X4_init τ Z gi gr q4 p1 p2 p3 τ5 gi5 gr5 ∧ (
      rO = q4 ∧ tO = τ5 ∧ gO = gi5 ∧ qO = gr5))) else (
      ∃ (q6 : Nat), τ q6 = 0 ∧ (
      ∃ (τ7 : th_t) (gi7 : th_i) (gr7 : th_r), M_X8_init τ Z gi gr q6 p1 p2 p3 τ7 gi7 gr7 ∧ (
      rO = q6 ∧ tO = τ7 ∧ gO = gi7 ∧ qO = gr7))))
set_option maxHeartbeats 20000000 in
set_option maxRecDepth 100000 in
theorem k_X0_newBoat (l : Launch) (D : va_G) (cA : Nat → ClassId) (Z : th_Zt) (τ : th_t) (gi : th_i) (gr : th_r) (sz : Nat) (p0 : Int32) (p1 : Int32) (p2 : Int32) (p3 : Int32) : Met l yX0_newBoat wsX0_newBoat ({ frames := 3, cells := 2, slots := 10, locals := 76 }) (va_Pc [.int p0, .int p1, .int p2, .int p3] (th_Pre D cA Z τ gi gr sz)) (va_Qr (fun (u : th_t × th_i × th_r) => th_Ext [] τ gi gr sz sz u.1 u.2.1 u.2.2) (fun (u : th_t × th_i × th_r) a t => th_H D cA u.1 u.2.1 u.2.2 t.heap ∧ (u.1 a = 8 ∨ u.1 a = 9 ∨ u.1 a = 4) ∧ (M_X0_newBoat τ Z gi gr p0 p1 p2 p3 a u.1 u.2.1 u.2.2)) (th_A τ sz)) 2 10 (th_A τ sz) := by
  refine Met.ofW (cc := cX0_newBoat) (maxL := 4) (ret := (some (.object "BayMoorings$Boat"))) (by decide) rfl ?_
  intro p e s m args below meth c s₁ B hml hv
  obtain ⟨rfl, hsz, hH, hK, hN, hZ⟩ := hv
  have hx := B.exec
  have hb := B.bytes
  have hr := B.returns
  have hts := atoms_spec (ws := wsX0_newBoat) B.pre
  have hown : s.vm.findClass RX0 = some m.cls := findClass_of_methodNamed B.named
  have hlocks := B.notSynchronized
  subst hsz
  have hA : ∀ q : Nat, s.heap.size ≤ q → (th_A τ s.heap.size) q := fun q h => Or.inr h
  have hE : th_Ext [] τ gi gr s.heap.size s.heap.size τ gi gr := th_Ext.rf
  have hS : va_S (th_A τ s.heap.size) s.heap s.heap [] := va_S.rf
  have hl := lv_entry ([.int p0, .int p1, .int p2, .int p3]) (n := 4) (Nat.le_of_ble_eq_true rfl)
  rw [lg_entry_eq]
  generalize (lg_sl ([.int p0, .int p1, .int p2, .int p3]) ++ List.replicate (4 - (lg_sl ([.int p0, .int p1, .int p2, .int p3])).length) Slot.unset).toArray = ls at hl ⊢
  have hl : lv_has ls 4 [(0, .int p0), (1, .int p1), (2, .int p2), (3, .int p3)] := hl
  have hF : (∀ (rO : Nat) (tO : th_t) (gO : th_i) (qO : th_r), M_X0_newBoat τ Z gi gr p0 p1 p2 p3 rO tO gO qO → M_X0_newBoat τ Z gi gr p0 p1 p2 p3 rO tO gO qO) := fun rO tO gO qO h9 => h9
  refine lv_iload_n hx hb dX0_newBoat_0 rfl (lv_at hl 0 rfl) ?_
  by_cases w1_0 : p0.toInt = 1
  · refine lv_lookup (tgt := 28) (off := 27) hx hb dX0_newBoat_1 (by decide) (by rw [w1_0]; first | done | rfl) (by decide) ?_
    have hle2 := hS.1
    refine th_newO (ci := 8) (fs := [.int 0, .int 0, .int 0, .null, .int 0, .int 0]) (C := RX9) (T := TX9) (N := 6) hx hb hts (fun w h => List.mem_cons_of_mem _ (List.mem_append_left _ (List.mem_append_left _ (List.mem_append_right _ h)))) tyX9 tyX9_ok hown (hts (.classLink RX0 66 RX9) (List.mem_cons_of_mem _ (List.mem_append_left _ (List.mem_append_left _ (List.mem_append_left _ (List.mem_append_left _ (List.mem_of_getElem? (i := 0) rfl))))))) (hts (.instantiable RX9 6) (List.mem_cons_of_mem _ (List.mem_append_left _ (List.mem_append_left _ (List.mem_append_left _ (List.mem_append_left _ (List.mem_of_getElem? (i := 1) rfl))))))) (hts (.initialized RX9) (List.mem_cons_of_mem _ (List.mem_append_left _ (List.mem_append_left _ (List.mem_append_left _ (List.mem_append_left _ (List.mem_of_getElem? (i := 2) rfl))))))) hK hH hS hA rfl (fun j hj => by rcases (show j = 0 ∨ j = 1 ∨ j = 2 ∨ j = 3 ∨ j = 4 ∨ j = 5 by omega) with rfl | rfl | rfl | rfl | rfl | rfl <;> rfl) (Nat.le_of_ble_eq_true rfl) (Nat.le_of_ble_eq_true rfl) dX0_newBoat_28 (fun q2 H s2 y2 n2 o2 hR_q2 hH hS => ?_)
    have le2 : s.heap.size ≤ q2 := th_leE s2 hle2
    refine W.widen (k := 1) (n := 6) (Nat.le_of_ble_eq_true rfl) (Nat.le_of_ble_eq_true rfl) ?_
    refine lv_dup hx hb dX0_newBoat_31 rfl ?_
    refine lv_iload_n hx hb dX0_newBoat_32 rfl (lv_at hl 1 rfl) ?_
    refine lv_iload_n hx hb dX0_newBoat_33 rfl (lv_at hl 2 rfl) ?_
    refine lv_iload_n hx hb dX0_newBoat_34 rfl (lv_at hl 3 rfl) ?_
    have hle3 := hS.1
    have lt3_q2 := (hR_q2 0 _ rfl).lt
    have hAC3 : ∀ x, th_AC τ _ q2 x → (th_A τ s.heap.size) x := th_ACa hE hS le2
    refine va_callv (va_runI (As := [.int p1, .int p2, .int p3]) (rest := [.ref q2]) ⟨hx, hb, hml, hown, hts⟩ (k_X9_init l D cA Z τ gi gr _ q2 p1 p2 p3) (cwI 3 hts gX0_newBoat_X9_init rfl rfl rfl (hts (.initialized RX9) (List.mem_cons_of_mem _ (List.mem_append_left _ (List.mem_append_left _ (List.mem_append_left _ (List.mem_append_left _ (List.mem_of_getElem? (i := 2) rfl))))))) (hts (.methodLink RX0 68 yX9_init) (List.mem_cons_of_mem _ (List.mem_append_left _ (List.mem_append_left _ (List.mem_append_left _ (List.mem_append_left _ (List.mem_of_getElem? (i := 9) rfl))))))) (hts (.instanceMethod yX9_init) (List.mem_cons_of_mem _ (List.mem_append_left _ (List.mem_append_left _ (List.mem_append_left _ (List.mem_append_left _ (List.mem_of_getElem? (i := 10) rfl))))))) rfl (by decide +kernel) ⟨Nat.le_of_ble_eq_true rfl, Nat.le_of_ble_eq_true rfl⟩) ⟨th_blindC, th_preC hH hK hN hZ hS hAC3 n2 hR_q2⟩ rfl rfl hl.1 rfl (lv_room (Nat.le_of_ble_eq_true rfl)) dX0_newBoat_35 ⟨Nat.le_of_ble_eq_true rfl, Nat.le_of_ble_eq_true rfl⟩) hS (fun x _ h => hAC3 x h) hAC3 (fun u t H locs ht hvm hw3 hB hz3 hk3 hS => ?_)
    obtain ⟨τ3, gi3, gr3⟩ := u
    try dsimp only at hw3 hB
    rw [ht] at hB
    have hH := hB
    have hE := hE.tr hw3.1 (Or.inr le2) hle3 (by decide)
    have tn3 := hw3.2.1
    refine W.widen (k := 2) (n := 10) (Nat.le_of_ble_eq_true rfl) (Nat.le_of_ble_eq_true rfl) ?_
    exact W.aret (v := .ref q2) hx hb hr (Or.inl ⟨_, rfl⟩) (Or.inr ⟨_, rfl⟩) (fun t ht hW => ⟨⟨(τ3, gi3, gr3), q2, rfl, hE, th_Ht ht hH, (Or.inr (Or.inl tn3)), (hF _ _ _ _ (by (try simp only [M_X0_newBoat, if_pos w1_0]); refine ⟨q2, n2, ?_⟩; refine ⟨τ3, gi3, gr3, hw3.2.2, ?_⟩; (try simp only [if_pos w1_0]); first | done | exact ⟨(by first | rfl | trivial), (by first | rfl | trivial), (by first | rfl | trivial), (by first | rfl | trivial)⟩))⟩, hS.F ht⟩) hS.2.2 dX0_newBoat_38
  have vw1_0 : ¬ 1 = p0.toInt := fun h => w1_0 h.symm
  by_cases w1_1 : p0.toInt = 2
  · refine lv_lookup (tgt := 39) (off := 38) hx hb dX0_newBoat_1 (by decide) (by rw [w1_1]; first | done | rfl) (by decide) ?_
    have hle4 := hS.1
    refine th_newO (ci := 3) (fs := [.int 0, .int 0, .int 0, .null, .int 0, .int 0]) (C := RX4) (T := TX4) (N := 6) hx hb hts (fun w h => List.mem_cons_of_mem _ (List.mem_append_left _ (List.mem_append_right _ h))) tyX4 tyX4_ok hown (hts (.classLink RX0 71 RX4) (List.mem_cons_of_mem _ (List.mem_append_left _ (List.mem_append_left _ (List.mem_append_left _ (List.mem_append_left _ (List.mem_of_getElem? (i := 3) rfl))))))) (hts (.instantiable RX4 6) (List.mem_cons_of_mem _ (List.mem_append_left _ (List.mem_append_left _ (List.mem_append_left _ (List.mem_append_left _ (List.mem_of_getElem? (i := 4) rfl))))))) (hts (.initialized RX4) (List.mem_cons_of_mem _ (List.mem_append_left _ (List.mem_append_left _ (List.mem_append_left _ (List.mem_append_left _ (List.mem_of_getElem? (i := 5) rfl))))))) hK hH hS hA rfl (fun j hj => by rcases (show j = 0 ∨ j = 1 ∨ j = 2 ∨ j = 3 ∨ j = 4 ∨ j = 5 by omega) with rfl | rfl | rfl | rfl | rfl | rfl <;> rfl) (Nat.le_of_ble_eq_true rfl) (Nat.le_of_ble_eq_true rfl) dX0_newBoat_39 (fun q4 H s4 y4 n4 o4 hR_q4 hH hS => ?_)
    have le4 : s.heap.size ≤ q4 := th_leE s4 hle4
    refine W.widen (k := 1) (n := 6) (Nat.le_of_ble_eq_true rfl) (Nat.le_of_ble_eq_true rfl) ?_
    refine lv_dup hx hb dX0_newBoat_42 rfl ?_
    refine lv_iload_n hx hb dX0_newBoat_43 rfl (lv_at hl 1 rfl) ?_
    refine lv_iload_n hx hb dX0_newBoat_44 rfl (lv_at hl 2 rfl) ?_
    refine lv_iload_n hx hb dX0_newBoat_45 rfl (lv_at hl 3 rfl) ?_
    have hle5 := hS.1
    have lt5_q4 := (hR_q4 0 _ rfl).lt
    have hAC5 : ∀ x, th_AC τ _ q4 x → (th_A τ s.heap.size) x := th_ACa hE hS le4
    refine va_callv (va_runI (As := [.int p1, .int p2, .int p3]) (rest := [.ref q4]) ⟨hx, hb, hml, hown, hts⟩ (k_X4_init l D cA Z τ gi gr _ q4 p1 p2 p3) (cwI 3 hts gX0_newBoat_X4_init rfl rfl rfl (hts (.initialized RX4) (List.mem_cons_of_mem _ (List.mem_append_left _ (List.mem_append_left _ (List.mem_append_left _ (List.mem_append_left _ (List.mem_of_getElem? (i := 5) rfl))))))) (hts (.methodLink RX0 73 yX4_init) (List.mem_cons_of_mem _ (List.mem_append_left _ (List.mem_append_left _ (List.mem_append_left _ (List.mem_append_right _ (List.mem_of_getElem? (i := 2) rfl))))))) (hts (.instanceMethod yX4_init) (List.mem_cons_of_mem _ (List.mem_append_left _ (List.mem_append_left _ (List.mem_append_left _ (List.mem_append_right _ (List.mem_of_getElem? (i := 3) rfl))))))) rfl (by decide +kernel) ⟨Nat.le_of_ble_eq_true rfl, Nat.le_of_ble_eq_true rfl⟩) ⟨th_blindC, th_preC hH hK hN hZ hS hAC5 n4 hR_q4⟩ rfl rfl hl.1 rfl (lv_room (Nat.le_of_ble_eq_true rfl)) dX0_newBoat_46 ⟨Nat.le_of_ble_eq_true rfl, Nat.le_of_ble_eq_true rfl⟩) hS (fun x _ h => hAC5 x h) hAC5 (fun u t H locs ht hvm hw5 hB hz5 hk5 hS => ?_)
    obtain ⟨τ5, gi5, gr5⟩ := u
    try dsimp only at hw5 hB
    rw [ht] at hB
    have hH := hB
    have hE := hE.tr hw5.1 (Or.inr le4) hle5 (by decide)
    have tn5 := hw5.2.1
    refine W.widen (k := 2) (n := 10) (Nat.le_of_ble_eq_true rfl) (Nat.le_of_ble_eq_true rfl) ?_
    exact W.aret (v := .ref q4) hx hb hr (Or.inl ⟨_, rfl⟩) (Or.inr ⟨_, rfl⟩) (fun t ht hW => ⟨⟨(τ5, gi5, gr5), q4, rfl, hE, th_Ht ht hH, (Or.inr (Or.inr tn5)), (hF _ _ _ _ (by (try simp only [M_X0_newBoat, if_neg w1_0, if_pos w1_1]); refine ⟨q4, n4, ?_⟩; refine ⟨τ5, gi5, gr5, hw5.2.2, ?_⟩; (try simp only [if_neg w1_0, if_pos w1_1]); first | done | exact ⟨(by first | rfl | trivial), (by first | rfl | trivial), (by first | rfl | trivial), (by first | rfl | trivial)⟩))⟩, hS.F ht⟩) hS.2.2 dX0_newBoat_49
  have vw1_1 : ¬ 2 = p0.toInt := fun h => w1_1 h.symm
  refine lv_lookup (tgt := 50) (off := 49) hx hb dX0_newBoat_1 (by decide) (by simp [Op.lookupswitch.offset, vw1_0, vw1_1]) (by decide) ?_
  have hle6 := hS.1
  refine th_newO (ci := 7) (fs := [.int 0, .int 0, .int 0, .null, .int 0, .int 0]) (C := RX8) (T := TX8) (N := 6) hx hb hts (fun w h => List.mem_cons_of_mem _ (List.mem_append_right _ h)) tyX8 tyX8_ok hown (hts (.classLink RX0 74 RX8) (List.mem_cons_of_mem _ (List.mem_append_left _ (List.mem_append_left _ (List.mem_append_left _ (List.mem_append_left _ (List.mem_of_getElem? (i := 6) rfl))))))) (hts (.instantiable RX8 6) (List.mem_cons_of_mem _ (List.mem_append_left _ (List.mem_append_left _ (List.mem_append_left _ (List.mem_append_left _ (List.mem_of_getElem? (i := 7) rfl))))))) (hts (.initialized RX8) (List.mem_cons_of_mem _ (List.mem_append_left _ (List.mem_append_left _ (List.mem_append_left _ (List.mem_append_left _ (List.mem_of_getElem? (i := 8) rfl))))))) hK hH hS hA rfl (fun j hj => by rcases (show j = 0 ∨ j = 1 ∨ j = 2 ∨ j = 3 ∨ j = 4 ∨ j = 5 by omega) with rfl | rfl | rfl | rfl | rfl | rfl <;> rfl) (Nat.le_of_ble_eq_true rfl) (Nat.le_of_ble_eq_true rfl) dX0_newBoat_50 (fun q6 H s6 y6 n6 o6 hR_q6 hH hS => ?_)
  have le6 : s.heap.size ≤ q6 := th_leE s6 hle6
  refine W.widen (k := 1) (n := 6) (Nat.le_of_ble_eq_true rfl) (Nat.le_of_ble_eq_true rfl) ?_
  refine lv_dup hx hb dX0_newBoat_53 rfl ?_
  refine lv_iload_n hx hb dX0_newBoat_54 rfl (lv_at hl 1 rfl) ?_
  refine lv_iload_n hx hb dX0_newBoat_55 rfl (lv_at hl 2 rfl) ?_
  refine lv_iload_n hx hb dX0_newBoat_56 rfl (lv_at hl 3 rfl) ?_
  have hle7 := hS.1
  have lt7_q6 := (hR_q6 0 _ rfl).lt
  have hAC7 : ∀ x, th_AC τ _ q6 x → (th_A τ s.heap.size) x := th_ACa hE hS le6
  refine va_callv (va_runI (As := [.int p1, .int p2, .int p3]) (rest := [.ref q6]) ⟨hx, hb, hml, hown, hts⟩ (k_X8_init l D cA Z τ gi gr _ q6 p1 p2 p3) (cwI 3 hts gX0_newBoat_X8_init rfl rfl rfl (hts (.initialized RX8) (List.mem_cons_of_mem _ (List.mem_append_left _ (List.mem_append_left _ (List.mem_append_left _ (List.mem_append_left _ (List.mem_of_getElem? (i := 8) rfl))))))) (hts (.methodLink RX0 76 yX8_init) (List.mem_cons_of_mem _ (List.mem_append_left _ (List.mem_append_left _ (List.mem_append_left _ (List.mem_append_right _ (List.mem_of_getElem? (i := 6) rfl))))))) (hts (.instanceMethod yX8_init) (List.mem_cons_of_mem _ (List.mem_append_left _ (List.mem_append_left _ (List.mem_append_left _ (List.mem_append_right _ (List.mem_of_getElem? (i := 7) rfl))))))) rfl (by decide +kernel) ⟨Nat.le_of_ble_eq_true rfl, Nat.le_of_ble_eq_true rfl⟩) ⟨th_blindC, th_preC hH hK hN hZ hS hAC7 n6 hR_q6⟩ rfl rfl hl.1 rfl (lv_room (Nat.le_of_ble_eq_true rfl)) dX0_newBoat_57 ⟨Nat.le_of_ble_eq_true rfl, Nat.le_of_ble_eq_true rfl⟩) hS (fun x _ h => hAC7 x h) hAC7 (fun u t H locs ht hvm hw7 hB hz7 hk7 hS => ?_)
  obtain ⟨τ7, gi7, gr7⟩ := u
  try dsimp only at hw7 hB
  rw [ht] at hB
  have hH := hB
  have hE := hE.tr hw7.1 (Or.inr le6) hle7 (by decide)
  have tn7 := hw7.2.1
  refine W.widen (k := 2) (n := 10) (Nat.le_of_ble_eq_true rfl) (Nat.le_of_ble_eq_true rfl) ?_
  exact W.aret (v := .ref q6) hx hb hr (Or.inl ⟨_, rfl⟩) (Or.inr ⟨_, rfl⟩) (fun t ht hW => ⟨⟨(τ7, gi7, gr7), q6, rfl, hE, th_Ht ht hH, (Or.inl tn7), (hF _ _ _ _ (by (try simp only [M_X0_newBoat, if_neg w1_0, if_neg w1_1]); refine ⟨q6, n6, ?_⟩; refine ⟨τ7, gi7, gr7, hw7.2.2, ?_⟩; (try simp only [if_neg w1_0, if_neg w1_1]); first | done | exact ⟨(by first | rfl | trivial), (by first | rfl | trivial), (by first | rfl | trivial), (by first | rfl | trivial)⟩))⟩, hS.F ht⟩) hS.2.2 dX0_newBoat_60

noncomputable def M_X0_addBoat (τ : th_t) (Z : th_Zt) (gi : th_i) (gr : th_r) (h0 : Nat) (p1 : Int32) (p2 : Int32) (p3 : Int32) (rO : Int32) (tO : th_t) (gO : th_i) (qO : th_r) : Prop :=
  let x1 : Int32 := gi h0 6
  if (16 : Int32) ≤ x1 then (
    rO = x1 ∧ tO = τ ∧ gO = gi ∧ qO = gr) else (
    let q5 : Nat := (gr h0 1).getD 0
    ∃ (q6 : Nat) (τ6 : th_t) (gi6 : th_i) (gr6 : th_r), M_X0_newBoat τ Z gi gr p1 x1 p2 p3 q6 τ6 gi6 gr6 ∧ (
    let gr11 : th_r := va_up gr6 q5 (va_up (gr6 q5) x1.toNatClampNeg (some q6))
    let x13 : Int32 := x1 + 1
    ∃ (gi14 : th_i), gi14 = va_up gi6 h0 (upd (gi6 h0) 6 x13) ∧ (
    rO = x1 ∧ tO = τ6 ∧ gO = gi14 ∧ qO = gr11)))
set_option maxHeartbeats 20000000 in
set_option maxRecDepth 100000 in
theorem k_X0_addBoat (l : Launch) (D : va_G) (cA : Nat → ClassId) (Z : th_Zt) (τ : th_t) (gi : th_i) (gr : th_r) (sz : Nat) (h0 : Nat) (t_h0 : τ h0 = 1) (p1 : Int32) (p2 : Int32) (p3 : Int32) : Met l yX0_addBoat wsX0_addBoat ({ frames := 4, cells := 2, slots := 10, locals := 99 }) (va_Pc [.ref h0, .int p1, .int p2, .int p3] (th_Pre D cA Z τ gi gr sz)) (va_Qi (fun (r : Int32) (u : th_t × th_i × th_r) => th_Ext [106, 2100] τ gi gr sz sz u.1 u.2.1 u.2.2 ∧ (M_X0_addBoat τ Z gi gr h0 p1 p2 p3 r u.1 u.2.1 u.2.2)) (fun (u : th_t × th_i × th_r) t => th_H D cA u.1 u.2.1 u.2.2 t.heap) (th_A τ sz)) 2 10 (th_A τ sz) := by
  refine Met.ofW (cc := cX0_addBoat) (maxL := 5) (ret := (some .int)) (by decide) rfl ?_
  intro p e s m args below meth c s₁ B hml hv
  obtain ⟨rfl, hsz, hH, hK, hN, hZ⟩ := hv
  have hx := B.exec
  have hb := B.bytes
  have hr := B.returns
  have hts := atoms_spec (ws := wsX0_addBoat) B.pre
  have hown : s.vm.findClass RX0 = some m.cls := findClass_of_methodNamed B.named
  have hlocks := B.notSynchronized
  subst hsz
  have hA : ∀ q : Nat, s.heap.size ≤ q → (th_A τ s.heap.size) q := fun q h => Or.inr h
  have hE : th_Ext [106, 2100] τ gi gr s.heap.size s.heap.size τ gi gr := th_Ext.rf
  have hS : va_S (th_A τ s.heap.size) s.heap s.heap [] := va_S.rf
  have hl := lv_entry ([.ref h0, .int p1, .int p2, .int p3]) (n := 5) (Nat.le_of_ble_eq_true rfl)
  rw [lg_entry_eq]
  generalize (lg_sl ([.ref h0, .int p1, .int p2, .int p3]) ++ List.replicate (5 - (lg_sl ([.ref h0, .int p1, .int p2, .int p3])).length) Slot.unset).toArray = ls at hl ⊢
  have hl : lv_has ls 5 [(0, .ref h0), (1, .int p1), (2, .int p2), (3, .int p3)] := hl
  have hF : (∀ (rO : Int32) (tO : th_t) (gO : th_i) (qO : th_r), M_X0_addBoat τ Z gi gr h0 p1 p2 p3 rO tO gO qO → M_X0_addBoat τ Z gi gr h0 p1 p2 p3 rO tO gO qO) := fun rO tO gO qO h9 => h9
  refine lv_aload_n hx hb dX0_addBoat_0 rfl (lv_at hl 0 rfl) ?_
  obtain ⟨x1, e1⟩ : ∃ y : Int32, y = gi h0 6 := ⟨_, rfl⟩
  refine th_get (ci := 0) (v := .int x1) (T := TX0) (C := RX0) (N := 9) hx hb hts (fun w h => List.mem_cons_of_mem _ (List.mem_append_left _ (List.mem_append_left _ (List.mem_append_left _ (List.mem_append_right _ h))))) hown hK hH t_h0 (th_nz rfl) (thE_1 _ _ _) rfl 6 (th_ltN rfl) (hts (.fieldLink RX0 42 "BayMoorings$Bay" "boatCount" "I") (List.mem_cons_of_mem _ (List.mem_append_left _ (List.mem_append_left _ (List.mem_append_left _ (List.mem_append_left _ (List.mem_append_left _ (List.mem_of_getElem? (i := 0) rfl)))))))) (fun _ h9 => h9) (th_fI e1 rfl) dX0_addBoat_1 ?_
  have f1 : rg 0 16 x1 := rg_e e1 ((thI_1 hH t_h0).2.2.2.2.2.2)
  refine lv_istore (i := 4) (lv' := [(4, .int x1), (0, .ref h0), (1, .int p1), (2, .int p2), (3, .int p3)]) hx hb dX0_addBoat_4 hl (th_ltN rfl) rfl (fun ls hl => ?_)
  refine lv_iload hx hb dX0_addBoat_6 (lv_at hl 0 rfl) ?_
  refine lv_bipush (v := 16) hx hb dX0_addBoat_8 bp_16 ?_
  refine lv_icmp_ge (tgt := 38) hx hb dX0_addBoat_10 (th_eqI rfl) (fun c2 => ?_) (fun c2 => ?_)
  · skip
    have f3 : rg 16 16 x1 := rg_w (rg_le rgc_16 f1 c2).2 (th_leI rfl) (th_leI rfl)
    refine lv_iload hx hb dX0_addBoat_38 (lv_at hl 0 rfl) ?_
    refine W.widen (k := 2) (n := 10) (Nat.le_of_ble_eq_true rfl) (Nat.le_of_ble_eq_true rfl) ?_
    exact W.iret (v := x1) hx hb hr (fun t ht hW => ⟨⟨x1, (τ, gi, gr), rfl, ⟨hE, (hF _ _ _ _ (by (try simp only [M_X0_addBoat, ← e1, if_pos c2]); first | done | exact ⟨(by first | rfl | trivial), (by first | rfl | trivial), (by first | rfl | trivial), (by first | rfl | trivial)⟩))⟩, th_Ht ht hH⟩, hS.F ht⟩) hS.2.2 dX0_addBoat_40
  · skip
    have f4 : rg 0 15 x1 := rg_w (rg_nle rgc_16 f1 c2).2 (th_leI rfl) (th_leI rfl)
    refine lv_aload_n hx hb dX0_addBoat_13 rfl (lv_at hl 1 rfl) ?_
    obtain ⟨q5, r5, t5⟩ : ∃ q, gr h0 1 = some q ∧ τ q = 21 := (thI_1 hH t_h0).2.1
    refine th_get (ci := 0) (v := .ref q5) (T := TX0) (C := RX0) (N := 9) hx hb hts (fun w h => List.mem_cons_of_mem _ (List.mem_append_left _ (List.mem_append_left _ (List.mem_append_left _ (List.mem_append_right _ h))))) hown hK hH t_h0 (th_nz rfl) (thE_1 _ _ _) rfl 1 (th_ltN rfl) (hts (.fieldLink RX0 19 "BayMoorings$Bay" "boats" "[LBayMoorings$Boat;") (List.mem_cons_of_mem _ (List.mem_append_left _ (List.mem_append_left _ (List.mem_append_left _ (List.mem_append_left _ (List.mem_append_left _ (List.mem_of_getElem? (i := 1) rfl)))))))) (fun _ h9 => h9) (th_fR r5 rfl) dX0_addBoat_14 ?_
    refine lv_iload hx hb dX0_addBoat_17 (lv_at hl 0 rfl) ?_
    refine lv_iload_n hx hb dX0_addBoat_19 rfl (lv_at hl 2 rfl) ?_
    refine lv_iload hx hb dX0_addBoat_20 (lv_at hl 0 rfl) ?_
    refine lv_iload_n hx hb dX0_addBoat_22 rfl (lv_at hl 3 rfl) ?_
    refine lv_iload_n hx hb dX0_addBoat_23 rfl (lv_at hl 4 rfl) ?_
    have hA6 : ∀ q, th_A τ _ q → (th_A τ s.heap.size) q := th_AEa hE hS
    have hle6 := hS.1
    refine va_callr (va_runS (As := [.int p1, .int x1, .int p2, .int p3]) (rest := [.int x1, .ref q5]) ⟨hx, hb, hml, hown, hts⟩ (k_X0_newBoat l D cA Z τ gi gr _ p1 x1 p2 p3) (va_cwS 4 hts gX0_addBoat_X0_newBoat rfl rfl rfl (by decide +kernel) ⟨Nat.le_of_ble_eq_true rfl, Nat.le_of_ble_eq_true rfl⟩) ⟨th_blind, (th_pre hH hK hN hZ hS hA6)⟩ rfl rfl hl.1 rfl (lv_room (Nat.le_of_ble_eq_true rfl)) dX0_addBoat_24 ⟨Nat.le_of_ble_eq_true rfl, Nat.le_of_ble_eq_true rfl⟩) hS (fun q _ h => hA6 q h) hA6 (fun u q6 t H locs ht hvm hw6 hB hz6 hk6 hS => ?_)
    obtain ⟨τ6, gi6, gr6⟩ := u
    try dsimp only at hw6 hB
    rw [ht] at hB
    have hH := hB.1
    have t7 : τ6 h0 = 1 := ((hw6.1 h0 (by rw [t_h0]; decide)).trans t_h0)
    have t8 : τ6 q5 = 21 := ((hw6.1 q5 (by rw [t5]; decide)).trans t5)
    have hE := hE.tr hw6 (Or.inr hle6) hle6 (by decide)
    have e9 : x1 = gi6 h0 6 := by rw [(hw6.2.2 h0 6 (by rw [t_h0]; decide) (by rw [t_h0]; show (106 : Nat) ∉ _; decide)).1]; exact e1
    have r10 : gr6 h0 1 = some q5 := by rw [(hw6.2.2 h0 1 (by rw [t_h0]; decide) (by rw [t_h0]; show (101 : Nat) ∉ _; decide)).2]; exact r5
    refine W.widen (k := 2) (n := 10) (Nat.le_of_ble_eq_true rfl) (Nat.le_of_ble_eq_true rfl) ?_
    have tn6 := hB.2.1
    refine th_any3 tn6 (fun t9 k9 => th_aast hx hb hK hH hS t8 (th_nz rfl) (th_AEa hE hS _ (Or.inl (by rw [t8]; decide))) 3 (fun _ => thE_21 _ _ _) rfl t9 (th_nz rfl) (thE_8 _ _ _) (ci := 7) rfl (Or.inr hN.2.2.2.2.2.2.2.2.2.2.2.2.2.2.2.1) (rg_in (n := 16) f4 (th_leI rfl) (th_ltI rfl)) (th_ar (P := fun q => τ6 q = 8 ∨ τ6 q = 9 ∨ τ6 q = 4) (thI_21 hH t8) (fun _ h9 => by cases h9; exact (Or.inl t9))) dX0_addBoat_27 k9) (fun t9 k9 => th_aast hx hb hK hH hS t8 (th_nz rfl) (th_AEa hE hS _ (Or.inl (by rw [t8]; decide))) 3 (fun _ => thE_21 _ _ _) rfl t9 (th_nz rfl) (thE_9 _ _ _) (ci := 8) rfl (Or.inr hN.2.2.2.2.2.2.2.2.2.2.2.2.2.2.2.2) (rg_in (n := 16) f4 (th_leI rfl) (th_ltI rfl)) (th_ar (P := fun q => τ6 q = 8 ∨ τ6 q = 9 ∨ τ6 q = 4) (thI_21 hH t8) (fun _ h9 => by cases h9; exact (Or.inr (Or.inl t9)))) dX0_addBoat_27 k9) (fun t9 k9 => th_aast hx hb hK hH hS t8 (th_nz rfl) (th_AEa hE hS _ (Or.inl (by rw [t8]; decide))) 3 (fun _ => thE_21 _ _ _) rfl t9 (th_nz rfl) (thE_4 _ _ _) (ci := 3) rfl (Or.inr hN.2.2.2.2.2.2.2.2.2.2.2.2.2.2.1) (rg_in (n := 16) f4 (th_leI rfl) (th_ltI rfl)) (th_ar (P := fun q => τ6 q = 8 ∨ τ6 q = 9 ∨ τ6 q = 4) (thI_21 hH t8) (fun _ h9 => by cases h9; exact (Or.inr (Or.inr t9)))) dX0_addBoat_27 k9) (fun gr11 H locs hu11 ho11 hH hS => ?_)
    have eg11 : gr11 = va_up gr6 q5 (va_up (gr6 q5) x1.toNatClampNeg (some q6)) := th_upF hu11 ho11
    have hE := hE.mod ((th_Mod.rf (M := [106, 2100])).r t8 (by show (2100 : Nat) ∈ _; decide) ho11) (fun _ h => h)
    refine lv_aload_n hx hb dX0_addBoat_28 rfl (lv_at hl 1 rfl) ?_
    refine lv_dup hx hb dX0_addBoat_29 rfl ?_
    refine th_get (ci := 0) (v := .int x1) (T := TX0) (C := RX0) (N := 9) hx hb hts (fun w h => List.mem_cons_of_mem _ (List.mem_append_left _ (List.mem_append_left _ (List.mem_append_left _ (List.mem_append_right _ h))))) hown hK hH t7 (th_nz rfl) (thE_1 _ _ _) rfl 6 (th_ltN rfl) (hts (.fieldLink RX0 42 "BayMoorings$Bay" "boatCount" "I") (List.mem_cons_of_mem _ (List.mem_append_left _ (List.mem_append_left _ (List.mem_append_left _ (List.mem_append_left _ (List.mem_append_left _ (List.mem_of_getElem? (i := 0) rfl)))))))) (fun _ h9 => h9) (th_fI e9 rfl) dX0_addBoat_30 ?_
    refine lv_iconst (v := 1) hx hb dX0_addBoat_33 ic_1 ?_
    refine lv_iadd hx hb dX0_addBoat_34 ?_
    refine lv_topi (fun x13 e13 => ?_)
    have f13 : rg 1 16 x13 := rg_e e13 (rg_w (rg_add f4 rgc_1 (th_leI rfl) (th_leI rfl)) (th_leI rfl) (th_leI rfl))
    refine th_put (ci := 0) (v := .int x13) (T := TX0) (C := RX0) (N := 9) (ty := .int) (gi' := va_up gi6 h0 (upd (gi6 h0) 6 x13)) (gr' := gr11) hx hb hts (fun w h => List.mem_cons_of_mem _ (List.mem_append_left _ (List.mem_append_left _ (List.mem_append_left _ (List.mem_append_right _ h))))) tyX0 tyX0_ok nmX0 hown hK hH hS t7 (th_nz rfl) (th_AEa hE hS _ (Or.inl (by rw [t7]; decide))) rfl rfl 6 (th_ltN rfl) (hts (.fieldLink RX0 42 "BayMoorings$Bay" "boatCount" "I") (List.mem_cons_of_mem _ (List.mem_append_left _ (List.mem_append_left _ (List.mem_append_left _ (List.mem_append_left _ (List.mem_append_left _ (List.mem_of_getElem? (i := 0) rfl)))))))) (fun _ h9 => h9) rfl (by decide +kernel) rfl rfl (Nat.le_of_ble_eq_true rfl) (by rw [va_up_self]; rfl) (by rw [va_up_self]; show (∃ q, gr11 h0 0 = some q ∧ τ6 q = 20) ∧ (∃ q, gr11 h0 1 = some q ∧ τ6 q = 21) ∧ (∃ q, gr11 h0 2 = some q ∧ τ6 q = 22) ∧ (∃ q, gr11 h0 3 = some q ∧ τ6 q = 23) ∧ (∃ q, gr11 h0 4 = some q ∧ τ6 q = 2) ∧ rg 0 12 (gi6 h0 5) ∧ rg 0 16 x13; exact ⟨(thI_1 hH t7).1, (thI_1 hH t7).2.1, (thI_1 hH t7).2.2.1, (thI_1 hH t7).2.2.2.1, (thI_1 hH t7).2.2.2.2.1, (thI_1 hH t7).2.2.2.2.2.1, (rg_w f13 (th_leI rfl) (th_leI rfl))⟩) (fun b hb => ⟨va_up_ne _ _ hb, rfl⟩) dX0_addBoat_35 (fun H locs hH hS => ?_)
    obtain ⟨gi14, eg14⟩ : ∃ g, g = va_up gi6 h0 (upd (gi6 h0) 6 x13) := ⟨_, rfl⟩
    rw [← eg14] at hH
    have hu14 : gi14 h0 6 = x13 := (th_uI eg14).1
    have ho14 : ∀ b j, b ≠ h0 ∨ j ≠ 6 → gi14 b j = gi6 b j := (th_uI eg14).2
    have hE := hE.mod ((th_Mod.rf (M := [106, 2100])).i t7 (by show (106 : Nat) ∈ _; decide) ho14) (fun _ h => h)
    refine lv_iload hx hb dX0_addBoat_38 (lv_at hl 0 rfl) ?_
    exact W.iret (v := x1) hx hb hr (fun t ht hW => ⟨⟨x1, (τ6, gi14, gr11), rfl, ⟨hE, (hF _ _ _ _ (by (try simp only [M_X0_addBoat, ← e1, if_neg c2, r5, Option.getD_some]); refine ⟨q6, τ6, gi6, gr6, hB.2.2, ?_⟩; (try simp only [← eg11, ← e13]); refine ⟨gi14, eg14, ?_⟩; (try simp only [← e1, if_neg c2, r5, Option.getD_some, ← eg11, ← e13]); first | done | exact ⟨(by first | rfl | trivial), (by first | rfl | trivial), (by first | rfl | trivial), (by first | rfl | trivial)⟩))⟩, th_Ht ht hH⟩, hS.F ht⟩) hS.2.2 dX0_addBoat_40

noncomputable def f_X0_addBuoy_32 (τ : th_t) (Z : th_Zt) (gi : th_i) (gr : th_r) (h0 : Nat) (p1 : Int32) (p2 : Int32) (p3 : Int32) (p4 : Int32) (rO : Int32) (tO : th_t) (gO : th_i) (qO : th_r) (x1 : Int32) (q5 : Nat) (τ6 : th_t) : Nat → th_i → th_r → Int32 → Prop
  | 0, gi_32, gr_32, y32_7 => False
  | n + 1, gi_32, gr_32, y32_7 =>
    if (24 : Int32) ≤ y32_7 then (
      let q11 : Nat := (gr_32 h0 0).getD 0
      let gr12 : th_r := va_up gr_32 q11 (va_up (gr_32 q11) x1.toNatClampNeg (some q5))
      let x14 : Int32 := x1 + 1
      ∃ (gi15 : th_i), gi15 = va_up gi_32 h0 (upd (gi_32 h0) 5 x14) ∧ (
      rO = x1 ∧ tO = τ6 ∧ gO = gi15 ∧ qO = gr12)) else (
      let q18 : Nat := (gr_32 h0 2).getD 0
      let x19 : Int32 := gi_32 q18 y32_7.toNatClampNeg
      let gi21 : th_i := F_X3_flood τ6 Z gi_32 gr_32 q5 y32_7 x19
      let x24 : Int32 := y32_7 + 1
      f_X0_addBuoy_32 τ Z gi gr h0 p1 p2 p3 p4 rO tO gO qO x1 q5 τ6 n gi21 gr_32 x24)
noncomputable def M_X0_addBuoy (τ : th_t) (Z : th_Zt) (gi : th_i) (gr : th_r) (h0 : Nat) (p1 : Int32) (p2 : Int32) (p3 : Int32) (p4 : Int32) (rO : Int32) (tO : th_t) (gO : th_i) (qO : th_r) : Prop :=
  let x1 : Int32 := gi h0 5
  if (12 : Int32) ≤ x1 then (
    rO = x1 ∧ tO = τ ∧ gO = gi ∧ qO = gr) else (
    ∃ (q5 : Nat), τ q5 = 0 ∧ (
    ∃ (τ6 : th_t) (gi6 : th_i) (gr6 : th_r), M_X3_init τ Z gi gr q5 x1 p1 p2 p3 p4 τ6 gi6 gr6 ∧ (
    f_X0_addBuoy_32 τ Z gi gr h0 p1 p2 p3 p4 rO tO gO qO x1 q5 τ6 ((24 - (0 : Int32).toInt).toNat + 1) gi6 gr6 0)))
set_option maxHeartbeats 20000000 in
set_option maxRecDepth 100000 in
theorem k_X0_addBuoy (l : Launch) (D : va_G) (cA : Nat → ClassId) (Z : th_Zt) (τ : th_t) (gi : th_i) (gr : th_r) (sz : Nat) (h0 : Nat) (t_h0 : τ h0 = 1) (p1 : Int32) (p2 : Int32) (p3 : Int32) (p4 : Int32) : Met l yX0_addBuoy wsX0_addBuoy ({ frames := 3, cells := 2, slots := 32, locals := 65 }) (va_Pc [.ref h0, .int p1, .int p2, .int p3, .int p4] (th_Pre D cA Z τ gi gr sz)) (va_Qi (fun (r : Int32) (u : th_t × th_i × th_r) => th_Ext [105, 2000, 2600] τ gi gr sz sz u.1 u.2.1 u.2.2 ∧ (M_X0_addBuoy τ Z gi gr h0 p1 p2 p3 p4 r u.1 u.2.1 u.2.2)) (fun (u : th_t × th_i × th_r) t => th_H D cA u.1 u.2.1 u.2.2 t.heap) (th_A τ sz)) 2 32 (th_A τ sz) := by
  refine Met.ofW (cc := cX0_addBuoy) (maxL := 8) (ret := (some .int)) (by decide) rfl ?_
  intro p e s m args below meth c s₁ B hml hv
  obtain ⟨rfl, hsz, hH, hK, hN, hZ⟩ := hv
  have hx := B.exec
  have hb := B.bytes
  have hr := B.returns
  have hts := atoms_spec (ws := wsX0_addBuoy) B.pre
  have hown : s.vm.findClass RX0 = some m.cls := findClass_of_methodNamed B.named
  have hlocks := B.notSynchronized
  subst hsz
  have hA : ∀ q : Nat, s.heap.size ≤ q → (th_A τ s.heap.size) q := fun q h => Or.inr h
  have hE : th_Ext [105, 2000, 2600] τ gi gr s.heap.size s.heap.size τ gi gr := th_Ext.rf
  have hS : va_S (th_A τ s.heap.size) s.heap s.heap [] := va_S.rf
  have hl := lv_entry ([.ref h0, .int p1, .int p2, .int p3, .int p4]) (n := 8) (Nat.le_of_ble_eq_true rfl)
  rw [lg_entry_eq]
  generalize (lg_sl ([.ref h0, .int p1, .int p2, .int p3, .int p4]) ++ List.replicate (8 - (lg_sl ([.ref h0, .int p1, .int p2, .int p3, .int p4])).length) Slot.unset).toArray = ls at hl ⊢
  have hl : lv_has ls 8 [(0, .ref h0), (1, .int p1), (2, .int p2), (3, .int p3), (4, .int p4)] := hl
  have hF : (∀ (rO : Int32) (tO : th_t) (gO : th_i) (qO : th_r), M_X0_addBuoy τ Z gi gr h0 p1 p2 p3 p4 rO tO gO qO → M_X0_addBuoy τ Z gi gr h0 p1 p2 p3 p4 rO tO gO qO) := fun rO tO gO qO h9 => h9
  refine lv_aload_n hx hb dX0_addBuoy_0 rfl (lv_at hl 0 rfl) ?_
  obtain ⟨x1, e1⟩ : ∃ y : Int32, y = gi h0 5 := ⟨_, rfl⟩
  refine th_get (ci := 0) (v := .int x1) (T := TX0) (C := RX0) (N := 9) hx hb hts (fun w h => List.mem_cons_of_mem _ (List.mem_append_left _ (List.mem_append_right _ h))) hown hK hH t_h0 (th_nz rfl) (thE_1 _ _ _) rfl 5 (th_ltN rfl) (hts (.fieldLink RX0 38 "BayMoorings$Bay" "buoyCount" "I") (List.mem_cons_of_mem _ (List.mem_append_left _ (List.mem_append_left _ (List.mem_append_left _ (List.mem_of_getElem? (i := 0) rfl)))))) (fun _ h9 => h9) (th_fI e1 rfl) dX0_addBuoy_1 ?_
  have f1 : rg 0 12 x1 := rg_e e1 ((thI_1 hH t_h0).2.2.2.2.2.1)
  refine lv_istore (i := 5) (lv' := [(5, .int x1), (0, .ref h0), (1, .int p1), (2, .int p2), (3, .int p3), (4, .int p4)]) hx hb dX0_addBuoy_4 hl (th_ltN rfl) rfl (fun ls hl => ?_)
  refine lv_iload hx hb dX0_addBuoy_6 (lv_at hl 0 rfl) ?_
  refine lv_bipush (v := 12) hx hb dX0_addBuoy_8 bp_12 ?_
  refine lv_icmp_ge (tgt := 78) hx hb dX0_addBuoy_10 (th_eqI rfl) (fun c2 => ?_) (fun c2 => ?_)
  · skip
    have f3 : rg 12 12 x1 := rg_w (rg_le rgc_12 f1 c2).2 (th_leI rfl) (th_leI rfl)
    refine lv_iload hx hb dX0_addBuoy_78 (lv_at hl 0 rfl) ?_
    refine W.widen (k := 2) (n := 32) (Nat.le_of_ble_eq_true rfl) (Nat.le_of_ble_eq_true rfl) ?_
    exact W.iret (v := x1) hx hb hr (fun t ht hW => ⟨⟨x1, (τ, gi, gr), rfl, ⟨hE, (hF _ _ _ _ (by (try simp only [M_X0_addBuoy, ← e1, if_pos c2]); first | done | exact ⟨(by first | rfl | trivial), (by first | rfl | trivial), (by first | rfl | trivial), (by first | rfl | trivial)⟩))⟩, th_Ht ht hH⟩, hS.F ht⟩) hS.2.2 dX0_addBuoy_80
  · skip
    have f4 : rg 0 11 x1 := rg_w (rg_nle rgc_12 f1 c2).2 (th_leI rfl) (th_leI rfl)
    have hle5 := hS.1
    refine th_newO (ci := 2) (fs := [.int 0, .int 0, .int 0, .int 0, .int 0, .null, .int 0, .int 0]) (C := RX3) (T := TX3) (N := 8) hx hb hts (fun w h => List.mem_cons_of_mem _ (List.mem_append_right _ h)) tyX3 tyX3_ok hown (hts (.classLink RX0 9 RX3) (List.mem_cons_of_mem _ (List.mem_append_left _ (List.mem_append_left _ (List.mem_append_left _ (List.mem_of_getElem? (i := 1) rfl)))))) (hts (.instantiable RX3 8) (List.mem_cons_of_mem _ (List.mem_append_left _ (List.mem_append_left _ (List.mem_append_left _ (List.mem_of_getElem? (i := 2) rfl)))))) (hts (.initialized RX3) (List.mem_cons_of_mem _ (List.mem_append_left _ (List.mem_append_left _ (List.mem_append_left _ (List.mem_of_getElem? (i := 3) rfl)))))) hK hH hS hA rfl (fun j hj => by rcases (show j = 0 ∨ j = 1 ∨ j = 2 ∨ j = 3 ∨ j = 4 ∨ j = 5 ∨ j = 6 ∨ j = 7 by omega) with rfl | rfl | rfl | rfl | rfl | rfl | rfl | rfl <;> rfl) (Nat.le_of_ble_eq_true rfl) (Nat.le_of_ble_eq_true rfl) dX0_addBuoy_13 (fun q5 H s5 y5 n5 o5 hR_q5 hH hS => ?_)
    have le5 : s.heap.size ≤ q5 := th_leE s5 hle5
    refine W.widen (k := 1) (n := 8) (Nat.le_of_ble_eq_true rfl) (Nat.le_of_ble_eq_true rfl) ?_
    refine lv_dup hx hb dX0_addBuoy_16 rfl ?_
    refine lv_iload hx hb dX0_addBuoy_17 (lv_at hl 0 rfl) ?_
    refine lv_iload_n hx hb dX0_addBuoy_19 rfl (lv_at hl 2 rfl) ?_
    refine lv_iload_n hx hb dX0_addBuoy_20 rfl (lv_at hl 3 rfl) ?_
    refine lv_iload_n hx hb dX0_addBuoy_21 rfl (lv_at hl 4 rfl) ?_
    refine lv_iload hx hb dX0_addBuoy_22 (lv_at hl 5 rfl) ?_
    have hle6 := hS.1
    have lt6_q5 := (hR_q5 0 _ rfl).lt
    have hAC6 : ∀ x, th_AC τ _ q5 x → (th_A τ s.heap.size) x := th_ACa hE hS le5
    refine va_callv (va_runI (As := [.int x1, .int p1, .int p2, .int p3, .int p4]) (rest := [.ref q5]) ⟨hx, hb, hml, hown, hts⟩ (k_X3_init l D cA Z τ gi gr _ q5 x1 p1 p2 p3 p4) (cwI 5 hts gX0_addBuoy_X3_init rfl rfl rfl (hts (.initialized RX3) (List.mem_cons_of_mem _ (List.mem_append_left _ (List.mem_append_left _ (List.mem_append_left _ (List.mem_of_getElem? (i := 3) rfl)))))) (hts (.methodLink RX0 55 yX3_init) (List.mem_cons_of_mem _ (List.mem_append_left _ (List.mem_append_left _ (List.mem_append_left _ (List.mem_of_getElem? (i := 6) rfl)))))) (hts (.instanceMethod yX3_init) (List.mem_cons_of_mem _ (List.mem_append_left _ (List.mem_append_left _ (List.mem_append_left _ (List.mem_of_getElem? (i := 7) rfl)))))) rfl (by decide +kernel) ⟨Nat.le_of_ble_eq_true rfl, Nat.le_of_ble_eq_true rfl⟩) ⟨th_blindC, th_preC hH hK hN hZ hS hAC6 n5 hR_q5⟩ rfl rfl hl.1 rfl (lv_room (Nat.le_of_ble_eq_true rfl)) dX0_addBuoy_24 ⟨Nat.le_of_ble_eq_true rfl, Nat.le_of_ble_eq_true rfl⟩) hS (fun x _ h => hAC6 x h) hAC6 (fun u t H locs ht hvm hw6 hB hz6 hk6 hS => ?_)
    obtain ⟨τ6, gi6, gr6⟩ := u
    try dsimp only at hw6 hB
    rw [ht] at hB
    have hH := hB
    have e7 : x1 = gi6 h0 5 := by rw [(hw6.1.2.2 h0 5 (by rw [t_h0]; decide) (by rw [t_h0]; show (105 : Nat) ∉ _; decide)).1]; exact e1
    have t8 : τ6 h0 = 1 := ((hw6.1.1 h0 (by rw [t_h0]; decide)).trans t_h0)
    have hE := hE.tr hw6.1 (Or.inr le5) hle6 (by decide)
    have tn6 := hw6.2.1
    refine W.widen (k := 2) (n := 32) (Nat.le_of_ble_eq_true rfl) (Nat.le_of_ble_eq_true rfl) ?_
    refine lv_astore (i := 6) (lv' := [(6, .ref q5), (5, .int x1), (0, .ref h0), (1, .int p1), (2, .int p2), (3, .int p3), (4, .int p4)]) hx hb dX0_addBuoy_27 hl (th_ltN rfl) rfl (fun ls hl => ?_)
    refine lv_iconst (v := 0) hx hb dX0_addBuoy_29 ic_0 ?_
    refine lv_istore (i := 7) (lv' := [(7, .int 0), (6, .ref q5), (5, .int x1), (0, .ref h0), (1, .int p1), (2, .int p2), (3, .int p3), (4, .int p4)]) hx hb dX0_addBuoy_30 hl (th_ltN rfl) rfl (fun ls hl => ?_)
    have J32 : ∀ (n : Nat) (gi_32 : th_i) (gr_32 : th_r) (H : Heap) (locs : List Loc) (ls : Array Slot) (y32_7 : Int32), (24 - y32_7.toInt).toNat < n → th_H D cA τ6 gi_32 gr_32 H → va_S (th_A τ s.heap.size) s.heap H locs → th_Ext [105, 2000, 2600] τ gi gr s.heap.size s.heap.size τ6 gi_32 gr_32 → x1 = gi_32 h0 5 → lv_has ls 8 [(0, .ref h0), (5, .int x1), (6, .ref q5), (7, .int y32_7)] → rg 0 24 y32_7 → (∀ (rO : Int32) (tO : th_t) (gO : th_i) (qO : th_r), f_X0_addBuoy_32 τ Z gi gr h0 p1 p2 p3 p4 rO tO gO qO x1 q5 τ6 n gi_32 gr_32 y32_7 → M_X0_addBuoy τ Z gi gr h0 p1 p2 p3 p4 rO tO gO qO) → W p l e (headSpec wsX0_addBuoy ({ frames := 3, cells := 2, slots := 32, locals := 65 })).room s m [.ref h0, .int p1, .int p2, .int p3, .int p4].toArray below meth c H locs 2 32 (MQ below (va_Qi (fun (r : Int32) (u : th_t × th_i × th_r) => th_Ext [105, 2000, 2600] τ gi gr s.heap.size s.heap.size u.1 u.2.1 u.2.2 ∧ (M_X0_addBuoy τ Z gi gr h0 p1 p2 p3 p4 r u.1 u.2.1 u.2.2)) (fun (u : th_t × th_i × th_r) t => th_H D cA u.1 u.2.1 u.2.2 t.heap) (th_A τ s.heap.size)) [.ref h0, .int p1, .int p2, .int p3, .int p4].toArray s 2 32 (th_A τ s.heap.size)) (F0 m 32 ls []) := by
      intro n
      induction n with
      | zero =>
        intro gi_32 gr_32 H locs ls y32_7 hn
        exact absurd hn (Nat.not_lt_zero _)
      | succ n ih32 =>
        intro gi_32 gr_32 H locs ls y32_7 hn32 hH hS hE em32_0 hl fy32_7 hF
        refine lv_iload hx hb dX0_addBuoy_32 (lv_at hl 3 rfl) ?_
        refine lv_bipush (v := 24) hx hb dX0_addBuoy_34 bp_24 ?_
        refine lv_icmp_ge (tgt := 59) hx hb dX0_addBuoy_36 (th_eqI rfl) (fun c9 => ?_) (fun c9 => ?_)
        · skip
          have f10 : rg 24 24 y32_7 := rg_w (rg_le rgc_24 fy32_7 c9).2 (th_leI rfl) (th_leI rfl)
          refine lv_aload_n hx hb dX0_addBuoy_59 rfl (lv_at hl 0 rfl) ?_
          obtain ⟨q11, r11, t11⟩ : ∃ q, gr_32 h0 0 = some q ∧ τ6 q = 20 := (thI_1 hH t8).1
          refine th_get (ci := 0) (v := .ref q11) (T := TX0) (C := RX0) (N := 9) hx hb hts (fun w h => List.mem_cons_of_mem _ (List.mem_append_left _ (List.mem_append_right _ h))) hown hK hH t8 (th_nz rfl) (thE_1 _ _ _) rfl 0 (th_ltN rfl) (hts (.fieldLink RX0 11 "BayMoorings$Bay" "buoys" "[LBayMoorings$Buoy;") (List.mem_cons_of_mem _ (List.mem_append_left _ (List.mem_append_left _ (List.mem_append_left _ (List.mem_of_getElem? (i := 5) rfl)))))) (fun _ h9 => h9) (th_fR r11 rfl) dX0_addBuoy_60 ?_
          refine lv_iload hx hb dX0_addBuoy_63 (lv_at hl 1 rfl) ?_
          refine lv_aload hx hb dX0_addBuoy_65 (lv_at hl 2 rfl) ?_
          refine th_aast hx hb hK hH hS t11 (th_nz rfl) (th_AEa hE hS _ (Or.inl (by rw [t11]; decide))) 2 (fun _ => thE_20 _ _ _) rfl tn6 (th_nz rfl) (thE_3 _ _ _) (ci := 2) rfl (Or.inl rfl) (rg_in (n := 12) f4 (th_leI rfl) (th_ltI rfl)) (th_ar (P := fun q => τ6 q = 3) (thI_20 hH t11) (fun _ h9 => by cases h9; exact tn6)) dX0_addBuoy_67 (fun gr12 H locs hu12 ho12 hH hS => ?_)
          have eg12 : gr12 = va_up gr_32 q11 (va_up (gr_32 q11) x1.toNatClampNeg (some q5)) := th_upF hu12 ho12
          have hE := hE.mod ((th_Mod.rf (M := [105, 2000, 2600])).r t11 (by show (2000 : Nat) ∈ _; decide) ho12) (fun _ h => h)
          refine lv_aload_n hx hb dX0_addBuoy_68 rfl (lv_at hl 0 rfl) ?_
          refine lv_dup hx hb dX0_addBuoy_69 rfl ?_
          refine th_get (ci := 0) (v := .int x1) (T := TX0) (C := RX0) (N := 9) hx hb hts (fun w h => List.mem_cons_of_mem _ (List.mem_append_left _ (List.mem_append_right _ h))) hown hK hH t8 (th_nz rfl) (thE_1 _ _ _) rfl 5 (th_ltN rfl) (hts (.fieldLink RX0 38 "BayMoorings$Bay" "buoyCount" "I") (List.mem_cons_of_mem _ (List.mem_append_left _ (List.mem_append_left _ (List.mem_append_left _ (List.mem_of_getElem? (i := 0) rfl)))))) (fun _ h9 => h9) (th_fI em32_0 rfl) dX0_addBuoy_70 ?_
          refine lv_iconst (v := 1) hx hb dX0_addBuoy_73 ic_1 ?_
          refine lv_iadd hx hb dX0_addBuoy_74 ?_
          refine lv_topi (fun x14 e14 => ?_)
          have f14 : rg 1 12 x14 := rg_e e14 (rg_w (rg_add f4 rgc_1 (th_leI rfl) (th_leI rfl)) (th_leI rfl) (th_leI rfl))
          refine th_put (ci := 0) (v := .int x14) (T := TX0) (C := RX0) (N := 9) (ty := .int) (gi' := va_up gi_32 h0 (upd (gi_32 h0) 5 x14)) (gr' := gr12) hx hb hts (fun w h => List.mem_cons_of_mem _ (List.mem_append_left _ (List.mem_append_right _ h))) tyX0 tyX0_ok nmX0 hown hK hH hS t8 (th_nz rfl) (th_AEa hE hS _ (Or.inl (by rw [t8]; decide))) rfl rfl 5 (th_ltN rfl) (hts (.fieldLink RX0 38 "BayMoorings$Bay" "buoyCount" "I") (List.mem_cons_of_mem _ (List.mem_append_left _ (List.mem_append_left _ (List.mem_append_left _ (List.mem_of_getElem? (i := 0) rfl)))))) (fun _ h9 => h9) rfl (by decide +kernel) rfl rfl (Nat.le_of_ble_eq_true rfl) (by rw [va_up_self]; rfl) (by rw [va_up_self]; show (∃ q, gr12 h0 0 = some q ∧ τ6 q = 20) ∧ (∃ q, gr12 h0 1 = some q ∧ τ6 q = 21) ∧ (∃ q, gr12 h0 2 = some q ∧ τ6 q = 22) ∧ (∃ q, gr12 h0 3 = some q ∧ τ6 q = 23) ∧ (∃ q, gr12 h0 4 = some q ∧ τ6 q = 2) ∧ rg 0 12 x14 ∧ rg 0 16 (gi_32 h0 6); exact ⟨(thI_1 hH t8).1, (thI_1 hH t8).2.1, (thI_1 hH t8).2.2.1, (thI_1 hH t8).2.2.2.1, (thI_1 hH t8).2.2.2.2.1, (rg_w f14 (th_leI rfl) (th_leI rfl)), (thI_1 hH t8).2.2.2.2.2.2⟩) (fun b hb => ⟨va_up_ne _ _ hb, rfl⟩) dX0_addBuoy_75 (fun H locs hH hS => ?_)
          obtain ⟨gi15, eg15⟩ : ∃ g, g = va_up gi_32 h0 (upd (gi_32 h0) 5 x14) := ⟨_, rfl⟩
          rw [← eg15] at hH
          have hu15 : gi15 h0 5 = x14 := (th_uI eg15).1
          have ho15 : ∀ b j, b ≠ h0 ∨ j ≠ 5 → gi15 b j = gi_32 b j := (th_uI eg15).2
          have hE := hE.mod ((th_Mod.rf (M := [105, 2000, 2600])).i t8 (by show (105 : Nat) ∈ _; decide) ho15) (fun _ h => h)
          refine lv_iload hx hb dX0_addBuoy_78 (lv_at hl 1 rfl) ?_
          exact W.iret (v := x1) hx hb hr (fun t ht hW => ⟨⟨x1, (τ6, gi15, gr12), rfl, ⟨hE, (hF _ _ _ _ (by (try simp only [f_X0_addBuoy_32, if_pos c9, r11, Option.getD_some, ← eg12, ← e14]); refine ⟨gi15, eg15, ?_⟩; (try simp only [if_pos c9, r11, Option.getD_some, ← eg12, ← e14]); first | done | exact ⟨(by first | rfl | trivial), (by first | rfl | trivial), (by first | rfl | trivial), (by first | rfl | trivial)⟩))⟩, th_Ht ht hH⟩, hS.F ht⟩) hS.2.2 dX0_addBuoy_80
        · skip
          have f17 : rg 0 23 y32_7 := rg_w (rg_nle rgc_24 fy32_7 c9).2 (th_leI rfl) (th_leI rfl)
          refine lv_aload hx hb dX0_addBuoy_39 (lv_at hl 2 rfl) ?_
          refine lv_iload hx hb dX0_addBuoy_41 (lv_at hl 3 rfl) ?_
          refine lv_aload_n hx hb dX0_addBuoy_43 rfl (lv_at hl 0 rfl) ?_
          obtain ⟨q18, r18, t18⟩ : ∃ q, gr_32 h0 2 = some q ∧ τ6 q = 22 := (thI_1 hH t8).2.2.1
          refine th_get (ci := 0) (v := .ref q18) (T := TX0) (C := RX0) (N := 9) hx hb hts (fun w h => List.mem_cons_of_mem _ (List.mem_append_left _ (List.mem_append_right _ h))) hown hK hH t8 (th_nz rfl) (thE_1 _ _ _) rfl 2 (th_ltN rfl) (hts (.fieldLink RX0 23 "BayMoorings$Bay" "tides" "[I") (List.mem_cons_of_mem _ (List.mem_append_left _ (List.mem_append_left _ (List.mem_append_left _ (List.mem_of_getElem? (i := 4) rfl)))))) (fun _ h9 => h9) (th_fR r18 rfl) dX0_addBuoy_44 ?_
          refine lv_iload hx hb dX0_addBuoy_47 (lv_at hl 3 rfl) ?_
          refine th_iald hx hb hK hH t18 (th_nz rfl) 0 (thE_22 _ _ _) rfl (rg_in (n := 24) f17 (th_leI rfl) (th_ltI rfl)) dX0_addBuoy_49 ?_
          refine lv_topi (fun x19 e19 => ?_)
          have hA20 : ∀ q, th_A τ6 _ q → (th_A τ s.heap.size) q := th_AEa hE hS
          refine va_callv (va_runV (As := [.int y32_7, .int x19]) (rest := []) ⟨hx, hb, hml, hown, hts⟩ (k_X3_flood l D cA Z τ6 gi_32 gr_32 _ q5 tn6 y32_7 x19) (cwV 2 hts gX0_addBuoy_X3_flood rfl rfl rfl hd_X3_flood__2 ⟨Nat.le_of_ble_eq_true rfl, Nat.le_of_ble_eq_true rfl⟩) ⟨th_blind, tr_3 hK hH tn6, (th_pre hH hK hN hZ hS hA20)⟩ rfl rfl hl.1 rfl (lv_room (Nat.le_of_ble_eq_true rfl)) dX0_addBuoy_50 ⟨Nat.le_of_ble_eq_true rfl, Nat.le_of_ble_eq_true rfl⟩) hS (fun q _ h => hA20 q h) hA20 (fun  u t H locs ht hvm hw21 hB hz1 hk1 hS => ?_)
          try dsimp only at hw21 hB
          rw [ht] at hB
          have hH := hB
          obtain ⟨gi21, gr21⟩ := u
          try dsimp only at hw21 hH
          obtain rfl : gr_32 = gr21 := (hw21.2.1).symm
          have hE := hE.mod hw21.1 (by decide)
          have e22 : x1 = gi21 h0 5 := Eq.trans em32_0 (Eq.symm (hw21.1 h0 5 (th_nzE t8 rfl) (th_nmE (key := 105) t8 rfl rfl)).1)
          have e23 : x19 = gi21 q18 (y32_7.toNatClampNeg) := Eq.trans e19 (Eq.symm (hw21.1 q18 (y32_7.toNatClampNeg) (th_nzE t18 rfl) (th_nmE (key := 2200) t18 rfl rfl)).1)
          obtain ⟨x24, e24⟩ : ∃ y : Int32, y = y32_7 + 1 := ⟨_, rfl⟩
          have f24 : rg 1 24 x24 := rg_e e24 (rg_w (rg_add f17 rgc_1 (th_leI rfl) (th_leI rfl)) (th_leI rfl) (th_leI rfl))
          refine lv_iinc (v := x24) (lv' := [(7, .int x24), (0, .ref h0), (5, .int x1), (6, .ref q5)]) hx hb dX0_addBuoy_53 hl (k := 3) rfl (by rw [e24]; rfl) (th_ltN rfl) rfl (fun ls hl => ?_)
          refine lv_goto (tgt := 32) hx hb dX0_addBuoy_56 (th_eqI rfl) ?_
          exact ih32 gi21 gr_32 _ _ _ x24 (th_up (rg_dA e24 f17 rgc_1 (th_leI rfl) (th_leI rfl)) f17 hn32 (by decide)) hH hS hE e22 (lv_sub hl [1, 2, 3, 0] rfl) (rg_w f24 (th_leI rfl) (th_leI rfl)) (fun rO tO gO qO h9 => hF rO tO gO qO (by (try simp only [f_X0_addBuoy_32, if_neg c9, r18, Option.getD_some, ← e19, hw21.2.2, ← e24]); exact h9))
    exact J32 _ gi6 gr6 _ _ _ 0 (Nat.lt_succ_self _) hH hS hE e7 (lv_sub hl [3, 2, 1, 0] rfl) (rg_w rgc_0 (th_leI rfl) (th_leI rfl)) (fun rO tO gO qO h9 => hF rO tO gO qO (by (try simp only [M_X0_addBuoy, ← e1, if_neg c2]); refine ⟨q5, n5, ?_⟩; refine ⟨τ6, gi6, gr6, hw6.2.2, ?_⟩; (try simp only [← e1, if_neg c2]); exact h9))
end
