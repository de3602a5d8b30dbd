noncomputable def F_X11_storm (τ : th_t) (Z : th_Zt) (gi : th_i) (gr : th_r) (h0 : Nat) (p1 : Int32) : Int32 × th_i :=
  let x2 : Int32 := F_X11_isForce τ Z gi gr p1
  if x2 = (0 : Int32) then (
    let u13 : Int32 × th_i := F_X11_finding τ Z gi gr h0 1
    let x13 : Int32 := u13.1
    let gi13 : th_i := u13.2
    (x13, gi13)) else (
    let q6 : Nat := (gr h0 4).getD 0
    let gi8 : th_i := F_X5_blow τ Z gi gr q6 p1
    let x10 : Int32 := gi8 q6 2
    (x10, gi8))
set_option maxHeartbeats 8000000 in
set_option maxRecDepth 100000 in
theorem k_X11_storm (l : Launch) (D : va_G) (cA : Nat → ClassId) (Z : th_Zt) (τ : th_t) (gi : th_i) (gr : th_r) (sz : Nat) (h0 : Nat) (t_h0 : τ h0 = 11) (p1 : Int32) : Met l yX11_storm wsX11_storm ({ frames := 6, cells := 0, slots := 0, locals := 172 }) (va_Pc [.ref h0, .int p1] (th_Pre D cA Z τ gi gr sz)) (va_Qi (fun (r : Int32) (u : th_i × th_r) => th_Mod [502, 2400, 2500, 3600] τ gi gr u.1 u.2 ∧ u.2 = gr ∧ (F_X11_storm τ Z gi gr h0 p1 = (r, u.1))) (fun (u : th_i × th_r) t => th_H D cA τ u.1 u.2 t.heap) (th_A τ sz)) 0 0 (th_A τ sz) := by
  refine Met.ofW (cc := cX11_storm) (maxL := 2) (ret := (some .int)) (by decide) rfl ?_
  intro p e s m args below meth c s₁ B hml hv
  obtain ⟨rfl, hsz, hH, hK, hN, hZ⟩ := hv
  have hx := B.exec
  have hb := B.bytes
  have hr := B.returns
  have hts := atoms_spec (ws := wsX11_storm) B.pre
  have hown : s.vm.findClass RX11 = some m.cls := findClass_of_methodNamed B.named
  have hlocks := B.notSynchronized
  subst hsz
  have hM : th_Mod [502, 2400, 2500, 3600] τ gi gr gi gr := th_Mod.rf
  have hS : va_S (th_A τ s.heap.size) s.heap s.heap [] := va_S.rf
  have hl := lv_entry ([.ref h0, .int p1]) (n := 2) (Nat.le_of_ble_eq_true rfl)
  rw [lg_entry_eq]
  generalize (lg_sl ([.ref h0, .int p1]) ++ List.replicate (2 - (lg_sl ([.ref h0, .int p1])).length) Slot.unset).toArray = ls at hl ⊢
  have hl : lv_has ls 2 [(0, .ref h0), (1, .int p1)] := hl
  have hF : F_X11_storm τ Z gi gr h0 p1 = F_X11_storm τ Z gi gr h0 p1 := rfl
  refine lv_iload_n hx hb dX11_storm_0 rfl (lv_at hl 1 rfl) ?_
  have hA1 := th_Asub (τ := τ) hS
  refine va_calli (va_runS (As := [.int p1]) (rest := []) ⟨hx, hb, hml, hown, hts⟩ (k_X11_isForce l D cA Z τ gi gr _ p1) (va_cwS 1 hts gX11_storm_X11_isForce rfl rfl rfl (by decide +kernel) ⟨Nat.le_of_ble_eq_true rfl, Nat.le_of_ble_eq_true rfl⟩) ⟨th_blind, (th_pre hH hK hN hZ hS hA1)⟩ rfl rfl hl.1 rfl (lv_room (Nat.le_of_ble_eq_true rfl)) dX11_storm_1 ⟨Nat.le_of_ble_eq_true rfl, Nat.le_of_ble_eq_true rfl⟩) hS (fun q _ h => hA1 q h) hA1 (fun x2 u t H locs ht hvm hw2 hB hz1 hk1 hS => ?_)
  try dsimp only at hw2 hB
  rw [ht] at hB
  have hH := hB
  refine lv_if_ne (tgt := 13) hx hb dX11_storm_4 (th_eqI rfl) (fun c3 => ?_) (fun c3 => ?_)
  · skip
    have f4 : rg 1 1 x2 := rg_w (rg_neL hw2.1 rgc_0 c3) (th_leI rfl) (th_leI rfl)
    have f5 : rg 1 100 p1 := rg_w (hw2.2.1 c3) (th_leI rfl) (th_leI rfl)
    refine lv_aload_n hx hb dX11_storm_13 rfl (lv_at hl 0 rfl) ?_
    obtain ⟨q6, r6, t6⟩ : ∃ q, gr h0 4 = some q ∧ τ q = 5 := (hH.at t_h0 (th_nz rfl)).2.2.2.2.2.1
    refine th_get (ci := 10) (v := .ref q6) (T := TX11) (C := RX11) (N := 10) hx hb hts (fun w h => List.mem_cons_of_mem _ (List.mem_append_left _ (List.mem_append_left _ (List.mem_append_left _ (List.mem_append_left _ (List.mem_append_left _ (List.mem_append_left _ (List.mem_append_left _ (List.mem_append_right _ h))))))))) hown hK hH t_h0 (th_nz rfl) rfl rfl 4 (th_ltN rfl) (hts (.fieldLink RX11 42 "BayMoorings" "flight" "LBayMoorings$Flight;") (List.mem_cons_of_mem _ (List.mem_append_left _ (List.mem_append_left _ (List.mem_append_left _ (List.mem_append_left _ (List.mem_append_left _ (List.mem_append_left _ (List.mem_append_left _ (List.mem_append_left _ (List.mem_append_left _ (List.mem_of_getElem? (i := 0) rfl)))))))))))) (fun _ h9 => h9) (th_fR r6 rfl) dX11_storm_14 ?_
    refine lv_iload_n hx hb dX11_storm_17 rfl (lv_at hl 1 rfl) ?_
    have hA7 := th_Asub (τ := τ) hS
    refine va_callv (va_runV (As := [.int p1]) (rest := []) ⟨hx, hb, hml, hown, hts⟩ (k_X5_blow l D cA Z τ gi gr _ q6 t6 p1) (cwV 1 hts gX11_storm_X5_blow rfl rfl rfl hd_X5_blow__1 ⟨Nat.le_of_ble_eq_true rfl, Nat.le_of_ble_eq_true rfl⟩) ⟨th_blind, th_recv hK hH t6 (ci := 4) (th_nz rfl) rfl rfl, (th_pre hH hK hN hZ hS hA7)⟩ rfl rfl hl.1 rfl (lv_room (Nat.le_of_ble_eq_true rfl)) dX11_storm_18 ⟨Nat.le_of_ble_eq_true rfl, Nat.le_of_ble_eq_true rfl⟩) hS (fun q _ h => hA7 q h) hA7 (fun  u t H locs ht hvm hw8 hB hz1 hk1 hS => ?_)
    try dsimp only at hw8 hB
    rw [ht] at hB
    have hH := hB
    obtain ⟨gi8, gr8⟩ := u
    try dsimp only at hw8 hH
    obtain rfl : gr = gr8 := (hw8.2.1).symm
    have hM := hM.tr hw8.1 (fun _ h => h) (th_sub rfl)
    refine lv_aload_n hx hb dX11_storm_21 rfl (lv_at hl 0 rfl) ?_
    refine th_get (ci := 10) (v := .ref q6) (T := TX11) (C := RX11) (N := 10) hx hb hts (fun w h => List.mem_cons_of_mem _ (List.mem_append_left _ (List.mem_append_left _ (List.mem_append_left _ (List.mem_append_left _ (List.mem_append_left _ (List.mem_append_left _ (List.mem_append_left _ (List.mem_append_right _ h))))))))) hown hK hH t_h0 (th_nz rfl) rfl rfl 4 (th_ltN rfl) (hts (.fieldLink RX11 42 "BayMoorings" "flight" "LBayMoorings$Flight;") (List.mem_cons_of_mem _ (List.mem_append_left _ (List.mem_append_left _ (List.mem_append_left _ (List.mem_append_left _ (List.mem_append_left _ (List.mem_append_left _ (List.mem_append_left _ (List.mem_append_left _ (List.mem_append_left _ (List.mem_of_getElem? (i := 0) rfl)))))))))))) (fun _ h9 => h9) (th_fR r6 rfl) dX11_storm_22 ?_
    obtain ⟨x10, e10⟩ : ∃ y : Int32, y = gi8 q6 2 := ⟨_, rfl⟩
    refine th_get (ci := 4) (v := .int x10) (T := TX5) (C := RX5) (N := 3) hx hb hts (fun w h => List.mem_cons_of_mem _ (List.mem_append_left _ (List.mem_append_left _ (List.mem_append_left _ (List.mem_append_left _ (List.mem_append_left _ (List.mem_append_left _ (List.mem_append_right _ h)))))))) hown hK hH t6 (th_nz rfl) rfl rfl 2 (th_ltN rfl) (hts (.fieldLink RX11 271 "BayMoorings$Flight" "fleeing" "I") (List.mem_cons_of_mem _ (List.mem_append_left _ (List.mem_append_left _ (List.mem_append_left _ (List.mem_append_left _ (List.mem_append_left _ (List.mem_append_left _ (List.mem_append_left _ (List.mem_append_left _ (List.mem_append_left _ (List.mem_of_getElem? (i := 1) rfl)))))))))))) (fun _ h9 => h9) (th_fI e10 rfl) dX11_storm_25 ?_
    exact W.iret (v := x10) hx hb hr (fun t ht hW => ⟨⟨x10, (gi8, gr), rfl, ⟨hM, rfl, (hF.trans (by simp only [↓reduceIte, F_X11_storm, hw2.2.2.1, eq_false c3, r6, Option.getD_some, hw8.2.2, ← e10]))⟩, th_Ht ht hH⟩, hS.F ht⟩) hS.2.2 dX11_storm_28
  · skip
    have f11 : rg 0 0 x2 := rg_w (rg_eq hw2.1 rgc_0 c3).1 (th_leI rfl) (th_leI rfl)
    refine lv_aload_n hx hb dX11_storm_7 rfl (lv_at hl 0 rfl) ?_
    refine lv_iconst (v := 1) hx hb dX11_storm_8 ic_1 ?_
    have hA12 := th_Asub (τ := τ) hS
    refine va_calli (va_runV (As := [.int 1]) (rest := []) ⟨hx, hb, hml, hown, hts⟩ (k_X11_finding l D cA Z τ gi gr _ h0 t_h0 1) (cwV 1 hts gX11_storm_X11_finding rfl rfl rfl hd_X11_finding__1 ⟨Nat.le_of_ble_eq_true rfl, Nat.le_of_ble_eq_true rfl⟩) ⟨th_blind, th_recv hK hH t_h0 (ci := 10) (th_nz rfl) rfl rfl, (th_pre hH hK hN hZ hS hA12)⟩ rfl rfl hl.1 rfl (lv_room (Nat.le_of_ble_eq_true rfl)) dX11_storm_9 ⟨Nat.le_of_ble_eq_true rfl, Nat.le_of_ble_eq_true rfl⟩) hS (fun q _ h => hA12 q h) hA12 (fun x13 u t H locs ht hvm hw13 hB hz1 hk1 hS => ?_)
    try dsimp only at hw13 hB
    rw [ht] at hB
    have hH := hB
    obtain ⟨gi13, gr13⟩ := u
    try dsimp only at hw13 hH
    obtain rfl : gr = gr13 := (hw13.2.1).symm
    have hM := hM.tr hw13.1 (fun _ h => h) (th_sub rfl)
    exact W.iret (v := x13) hx hb hr (fun t ht hW => ⟨⟨x13, (gi13, gr), rfl, ⟨hM, rfl, (hF.trans (by simp only [↓reduceIte, F_X11_storm, hw2.2.2.1, eq_true c3, hw13.2.2.1]))⟩, th_Ht ht hH⟩, hS.F ht⟩) hS.2.2 dX11_storm_12

noncomputable def f_X11_fled_18 (τ : th_t) (Z : th_Zt) (gi : th_i) (gr : th_r) (h0 : Nat) (p1 : Int32) (p2 : Int32) (gi_18 : th_i) : Int32 × th_i :=
  let u2 : Int32 × th_i := F_X11_finding τ Z gi_18 gr h0 1
  let x2 : Int32 := u2.1
  let gi2 : th_i := u2.2
  (x2, gi2)
noncomputable def F_X11_fled (τ : th_t) (Z : th_Zt) (gi : th_i) (gr : th_r) (h0 : Nat) (p1 : Int32) (p2 : Int32) : Int32 × th_i :=
  let q3 : Nat := (gr h0 0).getD 0
  let r5 : Option Nat := F_X0_boatAt τ Z gi gr q3 p1
  Option.elim r5 (
    f_X11_fled_18 τ Z gi gr h0 p1 p2 gi) (fun q6 =>
    let x8 : Int32 := F_X11_isForce τ Z gi gr p2
    if x8 = (0 : Int32) then (
      f_X11_fled_18 τ Z gi gr h0 p1 p2 gi) else (
      let q13 : Nat := (gr q3 4).getD 0
      let x15 : Int32 := F_X1_buoyOf τ Z gi gr q13 p1
      if x15 = ((-1) : Int32) then (
        let u26 : Int32 × th_i := F_X11_finding τ Z gi gr h0 3
        let x26 : Int32 := u26.1
        let gi26 : th_i := u26.2
        (x26, gi26)) else (
        let q17 : Nat := (gr h0 4).getD 0
        let gi19 : th_i := F_X5_blow τ Z gi gr q17 p2
        let q21 : Nat := (gr q17 1).getD 0
        let x23 : Int32 := F_X1_buoyOf τ Z gi19 gr q21 p1
        (x23, gi19))))
set_option maxHeartbeats 8000000 in
set_option maxRecDepth 100000 in
theorem k_X11_fled (l : Launch) (D : va_G) (cA : Nat → ClassId) (Z : th_Zt) (τ : th_t) (gi : th_i) (gr : th_r) (sz : Nat) (h0 : Nat) (t_h0 : τ h0 = 11) (p1 : Int32) (p2 : Int32) : Met l yX11_fled wsX11_fled ({ frames := 6, cells := 0, slots := 0, locals := 172 }) (va_Pc [.ref h0, .int p1, .int p2] (th_Pre D cA Z τ gi gr sz)) (va_Qi (fun (r : Int32) (u : th_i × th_r) => th_Mod [502, 2400, 2500, 3600] τ gi gr u.1 u.2 ∧ u.2 = gr ∧ (F_X11_fled τ Z gi gr h0 p1 p2 = (r, u.1))) (fun (u : th_i × th_r) t => th_H D cA τ u.1 u.2 t.heap) (th_A τ sz)) 0 0 (th_A τ sz) := by
  refine Met.ofW (cc := cX11_fled) (maxL := 3) (ret := (some .int)) (by decide) rfl ?_
  intro p e s m args below meth c s₁ B hml hv
  obtain ⟨rfl, hsz, hH, hK, hN, hZ⟩ := hv
  have hx := B.exec
  have hb := B.bytes
  have hr := B.returns
  have hts := atoms_spec (ws := wsX11_fled) B.pre
  have hown : s.vm.findClass RX11 = some m.cls := findClass_of_methodNamed B.named
  have hlocks := B.notSynchronized
  subst hsz
  have hM : th_Mod [502, 2400, 2500, 3600] τ gi gr gi gr := th_Mod.rf
  have J18 : ∀ (gi_18 : th_i) (H : Heap) (locs : List Loc) (ls : Array Slot), th_H D cA τ gi_18 gr H → va_S (th_A τ s.heap.size) s.heap H locs → th_Mod [502, 2400, 2500, 3600] τ gi gr gi_18 gr → lv_has ls 3 [(0, .ref h0)] → F_X11_fled τ Z gi gr h0 p1 p2 = f_X11_fled_18 τ Z gi gr h0 p1 p2 gi_18 → W p l e (headSpec wsX11_fled ({ frames := 6, cells := 0, slots := 0, locals := 172 })).room s m [.ref h0, .int p1, .int p2].toArray below meth c H locs 0 0 (MQ below (va_Qi (fun (r : Int32) (u : th_i × th_r) => th_Mod [502, 2400, 2500, 3600] τ gi gr u.1 u.2 ∧ u.2 = gr ∧ (F_X11_fled τ Z gi gr h0 p1 p2 = (r, u.1))) (fun (u : th_i × th_r) t => th_H D cA τ u.1 u.2 t.heap) (th_A τ s.heap.size)) [.ref h0, .int p1, .int p2].toArray s 0 0 (th_A τ s.heap.size)) (F0 m 18 ls []) := by
    intro gi_18 H locs ls hH hS hM hl hF
    refine lv_aload_n hx hb dX11_fled_18 rfl (lv_at hl 0 rfl) ?_
    refine lv_iconst (v := 1) hx hb dX11_fled_19 ic_1 ?_
    have hA1 := th_Asub (τ := τ) hS
    refine va_calli (va_runV (As := [.int 1]) (rest := []) ⟨hx, hb, hml, hown, hts⟩ (k_X11_finding l D cA Z τ gi_18 gr _ h0 t_h0 1) (cwV 1 hts gX11_fled_X11_finding rfl rfl rfl hd_X11_finding__1 ⟨Nat.le_of_ble_eq_true rfl, Nat.le_of_ble_eq_true rfl⟩) ⟨th_blind, th_recv hK hH t_h0 (ci := 10) (th_nz rfl) rfl rfl, (th_pre hH hK hN hZ hS hA1)⟩ rfl rfl hl.1 rfl (lv_room (Nat.le_of_ble_eq_true rfl)) dX11_fled_20 ⟨Nat.le_of_ble_eq_true rfl, Nat.le_of_ble_eq_true rfl⟩) hS (fun q _ h => hA1 q h) hA1 (fun x2 u t H locs ht hvm hw2 hB hz1 hk1 hS => ?_)
    try dsimp only at hw2 hB
    rw [ht] at hB
    have hH := hB
    obtain ⟨gi2, gr2⟩ := u
    try dsimp only at hw2 hH
    obtain rfl : gr = gr2 := (hw2.2.1).symm
    have hM := hM.tr hw2.1 (fun _ h => h) (th_sub rfl)
    exact W.iret (v := x2) hx hb hr (fun t ht hW => ⟨⟨x2, (gi2, gr), rfl, ⟨hM, rfl, (hF.trans (by simp only [f_X11_fled_18, hw2.2.2.1]))⟩, th_Ht ht hH⟩, hS.F ht⟩) hS.2.2 dX11_fled_23
  have hS : va_S (th_A τ s.heap.size) s.heap s.heap [] := va_S.rf
  have hl := lv_entry ([.ref h0, .int p1, .int p2]) (n := 3) (Nat.le_of_ble_eq_true rfl)
  rw [lg_entry_eq]
  generalize (lg_sl ([.ref h0, .int p1, .int p2]) ++ List.replicate (3 - (lg_sl ([.ref h0, .int p1, .int p2])).length) Slot.unset).toArray = ls at hl ⊢
  have hl : lv_has ls 3 [(0, .ref h0), (1, .int p1), (2, .int p2)] := hl
  have hF : F_X11_fled τ Z gi gr h0 p1 p2 = F_X11_fled τ Z gi gr h0 p1 p2 := rfl
  refine lv_aload_n hx hb dX11_fled_0 rfl (lv_at hl 0 rfl) ?_
  obtain ⟨q3, r3, t3⟩ : ∃ q, gr h0 0 = some q ∧ τ q = 1 := (hH.at t_h0 (th_nz rfl)).2.1
  refine th_get (ci := 10) (v := .ref q3) (T := TX11) (C := RX11) (N := 10) hx hb hts (fun w h => List.mem_cons_of_mem _ (List.mem_append_left _ (List.mem_append_left _ (List.mem_append_left _ (List.mem_append_left _ (List.mem_append_left _ (List.mem_append_left _ (List.mem_append_left _ (List.mem_append_right _ h))))))))) hown hK hH t_h0 (th_nz rfl) rfl rfl 0 (th_ltN rfl) (hts (.fieldLink RX11 10 "BayMoorings" "bay" "LBayMoorings$Bay;") (List.mem_cons_of_mem _ (List.mem_append_left _ (List.mem_append_left _ (List.mem_append_left _ (List.mem_append_left _ (List.mem_append_left _ (List.mem_append_left _ (List.mem_append_left _ (List.mem_append_left _ (List.mem_append_left _ (List.mem_of_getElem? (i := 0) rfl)))))))))))) (fun _ h9 => h9) (th_fR r3 rfl) dX11_fled_1 ?_
  refine lv_iload_n hx hb dX11_fled_4 rfl (lv_at hl 1 rfl) ?_
  have hA4 := th_Asub (τ := τ) hS
  refine va_callq (va_runV (As := [.int p1]) (rest := []) ⟨hx, hb, hml, hown, hts⟩ (k_X0_boatAt l D cA Z τ gi gr _ q3 t3 p1) (cwV 1 hts gX11_fled_X0_boatAt rfl rfl rfl hd_X0_boatAt__1 ⟨Nat.le_of_ble_eq_true rfl, Nat.le_of_ble_eq_true rfl⟩) ⟨th_blind, th_recv hK hH t3 (ci := 0) (th_nz rfl) rfl rfl, (th_pre hH hK hN hZ hS hA4)⟩ rfl rfl hl.1 rfl (lv_room (Nat.le_of_ble_eq_true rfl)) dX11_fled_5 ⟨Nat.le_of_ble_eq_true rfl, Nat.le_of_ble_eq_true rfl⟩) hS (fun q _ h => hA4 q h) hA4 (fun r5 u t H locs ht hvm hw5 hB hz1 hk1 hS => ?_)
  try dsimp only at hw5 hB
  rw [ht] at hB
  have hH := hB
  refine th_ifnull (tgt := 18) hx hb dX11_fled_8 (th_eqI rfl) (fun z6 => ?_) (fun q6 z6 => ?_)
  · skip
    subst z6
    exact J18 gi _ _ _ hH hS hM (lv_sub hl [0] rfl) (hF.trans (by simp only [F_X11_fled, r3, Option.getD_some, hw5.2, Option.elim_none]))
  · skip
    subst z6
    have t6 := hw5.1 q6 rfl
    refine lv_iload_n hx hb dX11_fled_11 rfl (lv_at hl 2 rfl) ?_
    have hA7 := th_Asub (τ := τ) hS
    refine va_calli (va_runS (As := [.int p2]) (rest := []) ⟨hx, hb, hml, hown, hts⟩ (k_X11_isForce l D cA Z τ gi gr _ p2) (va_cwS 1 hts gX11_fled_X11_isForce rfl rfl rfl (by decide +kernel) ⟨Nat.le_of_ble_eq_true rfl, Nat.le_of_ble_eq_true rfl⟩) ⟨th_blind, (th_pre hH hK hN hZ hS hA7)⟩ rfl rfl hl.1 rfl (lv_room (Nat.le_of_ble_eq_true rfl)) dX11_fled_12 ⟨Nat.le_of_ble_eq_true rfl, Nat.le_of_ble_eq_true rfl⟩) hS (fun q _ h => hA7 q h) hA7 (fun x8 u t H locs ht hvm hw8 hB hz1 hk1 hS => ?_)
    try dsimp only at hw8 hB
    rw [ht] at hB
    have hH := hB
    refine lv_if_ne (tgt := 24) hx hb dX11_fled_15 (th_eqI rfl) (fun c9 => ?_) (fun c9 => ?_)
    · skip
      have f10 : rg 1 1 x8 := rg_w (rg_neL hw8.1 rgc_0 c9) (th_leI rfl) (th_leI rfl)
      have f11 : rg 1 100 p2 := rg_w (hw8.2.1 c9) (th_leI rfl) (th_leI rfl)
      refine lv_aload_n hx hb dX11_fled_24 rfl (lv_at hl 0 rfl) ?_
      refine th_get (ci := 10) (v := .ref q3) (T := TX11) (C := RX11) (N := 10) hx hb hts (fun w h => List.mem_cons_of_mem _ (List.mem_append_left _ (List.mem_append_left _ (List.mem_append_left _ (List.mem_append_left _ (List.mem_append_left _ (List.mem_append_left _ (List.mem_append_left _ (List.mem_append_right _ h))))))))) hown hK hH t_h0 (th_nz rfl) rfl rfl 0 (th_ltN rfl) (hts (.fieldLink RX11 10 "BayMoorings" "bay" "LBayMoorings$Bay;") (List.mem_cons_of_mem _ (List.mem_append_left _ (List.mem_append_left _ (List.mem_append_left _ (List.mem_append_left _ (List.mem_append_left _ (List.mem_append_left _ (List.mem_append_left _ (List.mem_append_left _ (List.mem_append_left _ (List.mem_of_getElem? (i := 0) rfl)))))))))))) (fun _ h9 => h9) (th_fR r3 rfl) dX11_fled_25 ?_
      obtain ⟨q13, r13, t13⟩ : ∃ q, gr q3 4 = some q ∧ τ q = 2 := (hH.at t3 (th_nz rfl)).2.2.2.2.2.1
      refine th_get (ci := 0) (v := .ref q13) (T := TX0) (C := RX0) (N := 9) hx hb hts (fun w h => List.mem_cons_of_mem _ (List.mem_append_left _ (List.mem_append_left _ (List.mem_append_left _ (List.mem_append_left _ (List.mem_append_left _ (List.mem_append_left _ (List.mem_append_right _ h)))))))) hown hK hH t3 (th_nz rfl) rfl rfl 4 (th_ltN rfl) (hts (.fieldLink RX11 125 "BayMoorings$Bay" "berths" "LBayMoorings$Berths;") (List.mem_cons_of_mem _ (List.mem_append_left _ (List.mem_append_left _ (List.mem_append_left _ (List.mem_append_left _ (List.mem_append_left _ (List.mem_append_left _ (List.mem_append_left _ (List.mem_append_left _ (List.mem_append_left _ (List.mem_of_getElem? (i := 1) rfl)))))))))))) (fun _ h9 => h9) (th_fR r13 rfl) dX11_fled_28 ?_
      refine lv_iload_n hx hb dX11_fled_31 rfl (lv_at hl 1 rfl) ?_
      have hA14 := th_Asub (τ := τ) hS
      refine va_calli (va_runV (As := [.int p1]) (rest := []) ⟨hx, hb, hml, hown, hts⟩ (k_X1_buoyOf l D cA Z τ gi gr _ q13 t13 p1) (cwV 1 hts gX11_fled_X1_buoyOf rfl rfl rfl hd_X1_buoyOf__1 ⟨Nat.le_of_ble_eq_true rfl, Nat.le_of_ble_eq_true rfl⟩) ⟨th_blind, th_recv hK hH t13 (ci := 1) (th_nz rfl) rfl rfl, (th_pre hH hK hN hZ hS hA14)⟩ rfl rfl hl.1 rfl (lv_room (Nat.le_of_ble_eq_true rfl)) dX11_fled_32 ⟨Nat.le_of_ble_eq_true rfl, Nat.le_of_ble_eq_true rfl⟩) hS (fun q _ h => hA14 q h) hA14 (fun x15 u t H locs ht hvm hw15 hB hz1 hk1 hS => ?_)
      try dsimp only at hw15 hB
      rw [ht] at hB
      have hH := hB
      refine lv_iconst (v := (-1)) hx hb dX11_fled_35 ic_m1 ?_
      refine lv_icmp_ne (tgt := 45) hx hb dX11_fled_36 (th_eqI rfl) (fun c16 => ?_) (fun c16 => ?_)
      · skip
        refine lv_aload_n hx hb dX11_fled_45 rfl (lv_at hl 0 rfl) ?_
        obtain ⟨q17, r17, t17⟩ : ∃ q, gr h0 4 = some q ∧ τ q = 5 := (hH.at t_h0 (th_nz rfl)).2.2.2.2.2.1
        refine th_get (ci := 10) (v := .ref q17) (T := TX11) (C := RX11) (N := 10) hx hb hts (fun w h => List.mem_cons_of_mem _ (List.mem_append_left _ (List.mem_append_left _ (List.mem_append_left _ (List.mem_append_left _ (List.mem_append_left _ (List.mem_append_left _ (List.mem_append_left _ (List.mem_append_right _ h))))))))) hown hK hH t_h0 (th_nz rfl) rfl rfl 4 (th_ltN rfl) (hts (.fieldLink RX11 42 "BayMoorings" "flight" "LBayMoorings$Flight;") (List.mem_cons_of_mem _ (List.mem_append_left _ (List.mem_append_left _ (List.mem_append_left _ (List.mem_append_left _ (List.mem_append_left _ (List.mem_append_left _ (List.mem_append_left _ (List.mem_append_left _ (List.mem_append_left _ (List.mem_of_getElem? (i := 2) rfl)))))))))))) (fun _ h9 => h9) (th_fR r17 rfl) dX11_fled_46 ?_
        refine lv_iload_n hx hb dX11_fled_49 rfl (lv_at hl 2 rfl) ?_
        have hA18 := th_Asub (τ := τ) hS
        refine va_callv (va_runV (As := [.int p2]) (rest := []) ⟨hx, hb, hml, hown, hts⟩ (k_X5_blow l D cA Z τ gi gr _ q17 t17 p2) (cwV 1 hts gX11_fled_X5_blow rfl rfl rfl hd_X5_blow__1 ⟨Nat.le_of_ble_eq_true rfl, Nat.le_of_ble_eq_true rfl⟩) ⟨th_blind, th_recv hK hH t17 (ci := 4) (th_nz rfl) rfl rfl, (th_pre hH hK hN hZ hS hA18)⟩ rfl rfl hl.1 rfl (lv_room (Nat.le_of_ble_eq_true rfl)) dX11_fled_50 ⟨Nat.le_of_ble_eq_true rfl, Nat.le_of_ble_eq_true rfl⟩) hS (fun q _ h => hA18 q h) hA18 (fun  u t H locs ht hvm hw19 hB hz1 hk1 hS => ?_)
        try dsimp only at hw19 hB
        rw [ht] at hB
        have hH := hB
        obtain ⟨gi19, gr19⟩ := u
        try dsimp only at hw19 hH
        obtain rfl : gr = gr19 := (hw19.2.1).symm
        have hM := hM.tr hw19.1 (fun _ h => h) (th_sub rfl)
        refine lv_aload_n hx hb dX11_fled_53 rfl (lv_at hl 0 rfl) ?_
        refine th_get (ci := 10) (v := .ref q17) (T := TX11) (C := RX11) (N := 10) hx hb hts (fun w h => List.mem_cons_of_mem _ (List.mem_append_left _ (List.mem_append_left _ (List.mem_append_left _ (List.mem_append_left _ (List.mem_append_left _ (List.mem_append_left _ (List.mem_append_left _ (List.mem_append_right _ h))))))))) hown hK hH t_h0 (th_nz rfl) rfl rfl 4 (th_ltN rfl) (hts (.fieldLink RX11 42 "BayMoorings" "flight" "LBayMoorings$Flight;") (List.mem_cons_of_mem _ (List.mem_append_left _ (List.mem_append_left _ (List.mem_append_left _ (List.mem_append_left _ (List.mem_append_left _ (List.mem_append_left _ (List.mem_append_left _ (List.mem_append_left _ (List.mem_append_left _ (List.mem_of_getElem? (i := 2) rfl)))))))))))) (fun _ h9 => h9) (th_fR r17 rfl) dX11_fled_54 ?_
        obtain ⟨q21, r21, t21⟩ : ∃ q, gr q17 1 = some q ∧ τ q = 2 := (hH.at t17 (th_nz rfl)).2.2
        refine th_get (ci := 4) (v := .ref q21) (T := TX5) (C := RX5) (N := 3) hx hb hts (fun w h => List.mem_cons_of_mem _ (List.mem_append_left _ (List.mem_append_left _ (List.mem_append_left _ (List.mem_append_left _ (List.mem_append_left _ (List.mem_append_right _ h))))))) hown hK hH t17 (th_nz rfl) rfl rfl 1 (th_ltN rfl) (hts (.fieldLink RX11 274 "BayMoorings$Flight" "berths" "LBayMoorings$Berths;") (List.mem_cons_of_mem _ (List.mem_append_left _ (List.mem_append_left _ (List.mem_append_left _ (List.mem_append_left _ (List.mem_append_left _ (List.mem_append_left _ (List.mem_append_left _ (List.mem_append_left _ (List.mem_append_left _ (List.mem_of_getElem? (i := 3) rfl)))))))))))) (fun _ h9 => h9) (th_fR r21 rfl) dX11_fled_57 ?_
        refine lv_iload_n hx hb dX11_fled_60 rfl (lv_at hl 1 rfl) ?_
        have hA22 := th_Asub (τ := τ) hS
        refine va_calli (va_runV (As := [.int p1]) (rest := []) ⟨hx, hb, hml, hown, hts⟩ (k_X1_buoyOf l D cA Z τ gi19 gr _ q21 t21 p1) (cwV 1 hts gX11_fled_X1_buoyOf rfl rfl rfl hd_X1_buoyOf__1 ⟨Nat.le_of_ble_eq_true rfl, Nat.le_of_ble_eq_true rfl⟩) ⟨th_blind, th_recv hK hH t21 (ci := 1) (th_nz rfl) rfl rfl, (th_pre hH hK hN hZ hS hA22)⟩ rfl rfl hl.1 rfl (lv_room (Nat.le_of_ble_eq_true rfl)) dX11_fled_61 ⟨Nat.le_of_ble_eq_true rfl, Nat.le_of_ble_eq_true rfl⟩) hS (fun q _ h => hA22 q h) hA22 (fun x23 u t H locs ht hvm hw23 hB hz1 hk1 hS => ?_)
        try dsimp only at hw23 hB
        rw [ht] at hB
        have hH := hB
        exact W.iret (v := x23) hx hb hr (fun t ht hW => ⟨⟨x23, (gi19, gr), rfl, ⟨hM, rfl, (hF.trans (by simp only [↓reduceIte, F_X11_fled, r3, Option.getD_some, hw5.2, Option.elim_some, hw8.2.2.1, eq_false c9, r13, hw15, eq_false c16, r17, hw19.2.2, r21, hw23]))⟩, th_Ht ht hH⟩, hS.F ht⟩) hS.2.2 dX11_fled_64
      · skip
        have f24 : rg (-1) (-1) x15 := rg_w (rg_eq (rg_any x15) rgc_m1 c16).1 (th_leI rfl) (th_leI rfl)
        refine lv_aload_n hx hb dX11_fled_39 rfl (lv_at hl 0 rfl) ?_
        refine lv_iconst (v := 3) hx hb dX11_fled_40 ic_3 ?_
        have hA25 := th_Asub (τ := τ) hS
        refine va_calli (va_runV (As := [.int 3]) (rest := []) ⟨hx, hb, hml, hown, hts⟩ (k_X11_finding l D cA Z τ gi gr _ h0 t_h0 3) (cwV 1 hts gX11_fled_X11_finding rfl rfl rfl hd_X11_finding__1 ⟨Nat.le_of_ble_eq_true rfl, Nat.le_of_ble_eq_true rfl⟩) ⟨th_blind, th_recv hK hH t_h0 (ci := 10) (th_nz rfl) rfl rfl, (th_pre hH hK hN hZ hS hA25)⟩ rfl rfl hl.1 rfl (lv_room (Nat.le_of_ble_eq_true rfl)) dX11_fled_41 ⟨Nat.le_of_ble_eq_true rfl, Nat.le_of_ble_eq_true rfl⟩) hS (fun q _ h => hA25 q h) hA25 (fun x26 u t H locs ht hvm hw26 hB hz1 hk1 hS => ?_)
        try dsimp only at hw26 hB
        rw [ht] at hB
        have hH := hB
        obtain ⟨gi26, gr26⟩ := u
        try dsimp only at hw26 hH
        obtain rfl : gr = gr26 := (hw26.2.1).symm
        have hM := hM.tr hw26.1 (fun _ h => h) (th_sub rfl)
        exact W.iret (v := x26) hx hb hr (fun t ht hW => ⟨⟨x26, (gi26, gr), rfl, ⟨hM, rfl, (hF.trans (by simp only [↓reduceIte, F_X11_fled, r3, Option.getD_some, hw5.2, Option.elim_some, hw8.2.2.1, eq_false c9, r13, hw15, eq_true c16, hw26.2.2.1]))⟩, th_Ht ht hH⟩, hS.F ht⟩) hS.2.2 dX11_fled_44
    · skip
      have f27 : rg 0 0 x8 := rg_w (rg_eq hw8.1 rgc_0 c9).1 (th_leI rfl) (th_leI rfl)
      exact J18 gi _ _ _ hH hS hM (lv_sub hl [0] rfl) (hF.trans (by simp only [↓reduceIte, F_X11_fled, r3, Option.getD_some, hw5.2, Option.elim_some, hw8.2.2.1, eq_true c9]))

noncomputable def f_X11_most_43 (τ : th_t) (Z : th_Zt) (gi : th_i) (gr : th_r) (h0 : Nat) (p1 : Int32) (p2 : Int32) (gi_43 : th_i) (gr_43 : th_r) : Int32 × th_i × th_r :=
  let u2 : Int32 × th_i := F_X11_finding τ Z gi_43 gr_43 h0 1
  let x2 : Int32 := u2.1
  let gi2 : th_i := u2.2
  (x2, gi2, gr_43)
noncomputable def f_X11_most_22 (τ : th_t) (Z : th_Zt) (gi : th_i) (gr : th_r) (h0 : Nat) (p1 : Int32) (p2 : Int32) (gi_22 : th_i) (gr_22 : th_r) (y22_3 : Int32) (z22_0 : Int32) : Int32 × th_i × th_r :=
  if z22_0 = (0 : Int32) then (
    f_X11_most_43 τ Z gi gr h0 p1 p2 gi_22 gr_22) else (
    if (5 : Int32) < y22_3 then (
      f_X11_most_43 τ Z gi gr h0 p1 p2 gi_22 gr_22) else (
      let x10 : Int32 := F_X11_within τ Z gi_22 gr_22 p2 0 y22_3
      if x10 = (0 : Int32) then (
        f_X11_most_43 τ Z gi gr h0 p1 p2 gi_22 gr_22) else (
        let q17 : Nat := (gr_22 h0 0).getD 0
        let x19 : Int32 := F_X0_anyLies τ Z gi_22 gr_22 q17 p1
        if x19 = (0 : Int32) then (
          let q22 : Nat := (gr_22 h0 2).getD 0
          let u24 : th_i × th_r := F_X7_run τ Z gi_22 gr_22 q22 p1
          let gi24 : th_i := u24.1
          let gr24 : th_r := u24.2
          if p2 = (0 : Int32) then (
            let x35 : Int32 := gi24 q22 7
            (x35, gi24, gr24)) else (
            let x30 : Int32 := p2 - 1
            let x32 : Int32 := F_X7_buoyFor τ Z gi24 gr24 q22 x30
            (x32, gi24, gr24))) else (
          let u38 : Int32 × th_i := F_X11_finding τ Z gi_22 gr_22 h0 3
          let x38 : Int32 := u38.1
          let gi38 : th_i := u38.2
          (x38, gi38, gr_22)))))
noncomputable def F_X11_most (τ : th_t) (Z : th_Zt) (gi : th_i) (gr : th_r) (h0 : Nat) (p1 : Int32) (p2 : Int32) : Int32 × th_i × th_r :=
  let x41 : Int32 := F_J6_bitCount_0f7a4 τ Z gi gr p1
  let q42 : Nat := (gr h0 0).getD 0
  let x43 : Int32 := gi q42 6
  let x44 : Int32 := (p1.toUInt32 >>> (Int32.toUInt32 x43 &&& Int32.toUInt32 31)).toInt32
  if x44 = (0 : Int32) then (
    f_X11_most_22 τ Z gi gr h0 p1 p2 gi gr x41 1) else (
    f_X11_most_22 τ Z gi gr h0 p1 p2 gi gr x41 0)
set_option maxHeartbeats 8000000 in
set_option maxRecDepth 100000 in
theorem k_X11_most (l : Launch) (D : va_G) (cA : Nat → ClassId) (Z : th_Zt) (τ : th_t) (gi : th_i) (gr : th_r) (sz : Nat) (h0 : Nat) (t_h0 : τ h0 = 11) (p1 : Int32) (p2 : Int32) : Met l yX11_most wsX11_most ({ frames := 11, cells := 0, slots := 0, locals := 295 }) (va_Pc [.ref h0, .int p1, .int p2] (th_Pre D cA Z τ gi gr sz)) (va_Qi (fun (r : Int32) (u : th_i × th_r) => th_Mod [702, 707, 3000, 3100, 3200, 3300, 3400, 3600] τ gi gr u.1 u.2 ∧ (F_X11_most τ Z gi gr h0 p1 p2 = (r, u.1, u.2))) (fun (u : th_i × th_r) t => th_H D cA τ u.1 u.2 t.heap) (th_A τ sz)) 0 0 (th_A τ sz) := by
  refine Met.ofW (cc := cX11_most) (maxL := 5) (ret := (some .int)) (by decide) rfl ?_
  intro p e s m args below meth c s₁ B hml hv
  obtain ⟨rfl, hsz, hH, hK, hN, hZ⟩ := hv
  have hx := B.exec
  have hb := B.bytes
  have hr := B.returns
  have hts := atoms_spec (ws := wsX11_most) B.pre
  have hown : s.vm.findClass RX11 = some m.cls := findClass_of_methodNamed B.named
  have hlocks := B.notSynchronized
  subst hsz
  have hM : th_Mod [702, 707, 3000, 3100, 3200, 3300, 3400, 3600] τ gi gr gi gr := th_Mod.rf
  have J43 : ∀ (gi_43 : th_i) (gr_43 : th_r) (H : Heap) (locs : List Loc) (ls : Array Slot), th_H D cA τ gi_43 gr_43 H → va_S (th_A τ s.heap.size) s.heap H locs → th_Mod [702, 707, 3000, 3100, 3200, 3300, 3400, 3600] τ gi gr gi_43 gr_43 → lv_has ls 5 [(0, .ref h0)] → F_X11_most τ Z gi gr h0 p1 p2 = f_X11_most_43 τ Z gi gr h0 p1 p2 gi_43 gr_43 → W p l e (headSpec wsX11_most ({ frames := 11, cells := 0, slots := 0, locals := 295 })).room s m [.ref h0, .int p1, .int p2].toArray below meth c H locs 0 0 (MQ below (va_Qi (fun (r : Int32) (u : th_i × th_r) => th_Mod [702, 707, 3000, 3100, 3200, 3300, 3400, 3600] τ gi gr u.1 u.2 ∧ (F_X11_most τ Z gi gr h0 p1 p2 = (r, u.1, u.2))) (fun (u : th_i × th_r) t => th_H D cA τ u.1 u.2 t.heap) (th_A τ s.heap.size)) [.ref h0, .int p1, .int p2].toArray s 0 0 (th_A τ s.heap.size)) (F0 m 43 ls []) := by
    intro gi_43 gr_43 H locs ls hH hS hM hl hF
    refine lv_aload_n hx hb dX11_most_43 rfl (lv_at hl 0 rfl) ?_
    refine lv_iconst (v := 1) hx hb dX11_most_44 ic_1 ?_
    have hA1 := th_Asub (τ := τ) hS
    refine va_calli (va_runV (As := [.int 1]) (rest := []) ⟨hx, hb, hml, hown, hts⟩ (k_X11_finding l D cA Z τ gi_43 gr_43 _ h0 t_h0 1) (cwV 1 hts gX11_most_X11_finding rfl rfl rfl hd_X11_finding__1 ⟨Nat.le_of_ble_eq_true rfl, Nat.le_of_ble_eq_true rfl⟩) ⟨th_blind, th_recv hK hH t_h0 (ci := 10) (th_nz rfl) rfl rfl, (th_pre hH hK hN hZ hS hA1)⟩ rfl rfl hl.1 rfl (lv_room (Nat.le_of_ble_eq_true rfl)) dX11_most_45 ⟨Nat.le_of_ble_eq_true rfl, Nat.le_of_ble_eq_true rfl⟩) hS (fun q _ h => hA1 q h) hA1 (fun x2 u t H locs ht hvm hw2 hB hz1 hk1 hS => ?_)
    try dsimp only at hw2 hB
    rw [ht] at hB
    have hH := hB
    obtain ⟨gi2, gr2⟩ := u
    try dsimp only at hw2 hH
    obtain rfl : gr_43 = gr2 := (hw2.2.1).symm
    have hM := hM.tr hw2.1 (fun _ h => h) (th_sub rfl)
    exact W.iret (v := x2) hx hb hr (fun t ht hW => ⟨⟨x2, (gi2, gr_43), rfl, ⟨hM, (hF.trans (by simp only [f_X11_most_43, hw2.2.2.1]))⟩, th_Ht ht hH⟩, hS.F ht⟩) hS.2.2 dX11_most_48
  have J22 : ∀ (gi_22 : th_i) (gr_22 : th_r) (H : Heap) (locs : List Loc) (ls : Array Slot) (y22_3 : Int32) (z22_0 : Int32), th_H D cA τ gi_22 gr_22 H → va_S (th_A τ s.heap.size) s.heap H locs → th_Mod [702, 707, 3000, 3100, 3200, 3300, 3400, 3600] τ gi gr gi_22 gr_22 → lv_has ls 5 [(0, .ref h0), (1, .int p1), (2, .int p2), (3, .int y22_3)] → rg 0 1 z22_0 → F_X11_most τ Z gi gr h0 p1 p2 = f_X11_most_22 τ Z gi gr h0 p1 p2 gi_22 gr_22 y22_3 z22_0 → W p l e (headSpec wsX11_most ({ frames := 11, cells := 0, slots := 0, locals := 295 })).room s m [.ref h0, .int p1, .int p2].toArray below meth c H locs 0 0 (MQ below (va_Qi (fun (r : Int32) (u : th_i × th_r) => th_Mod [702, 707, 3000, 3100, 3200, 3300, 3400, 3600] τ gi gr u.1 u.2 ∧ (F_X11_most τ Z gi gr h0 p1 p2 = (r, u.1, u.2))) (fun (u : th_i × th_r) t => th_H D cA τ u.1 u.2 t.heap) (th_A τ s.heap.size)) [.ref h0, .int p1, .int p2].toArray s 0 0 (th_A τ s.heap.size)) (F0 m 22 ls [.int z22_0]) := by
    intro gi_22 gr_22 H locs ls y22_3 z22_0 hH hS hM hl fz22_0 hF
    refine lv_istore (i := 4) (lv' := [(4, .int z22_0), (0, .ref h0), (1, .int p1), (2, .int p2), (3, .int y22_3)]) hx hb dX11_most_22 hl (th_ltN rfl) rfl (fun ls hl => ?_)
    refine lv_iload hx hb dX11_most_24 (lv_at hl 0 rfl) ?_
    refine lv_if_eq (tgt := 43) hx hb dX11_most_26 (th_eqI rfl) (fun c3 => ?_) (fun c3 => ?_)
    · skip
      have f4 : rg 0 0 z22_0 := rg_w (rg_eq fz22_0 rgc_0 c3).1 (th_leI rfl) (th_leI rfl)
      exact J43 gi_22 gr_22 _ _ _ hH hS hM (lv_sub hl [1] rfl) (hF.trans (by simp only [↓reduceIte, f_X11_most_22, eq_true c3]))
    · skip
      have f5 : rg 1 1 z22_0 := rg_w (rg_neL fz22_0 rgc_0 c3) (th_leI rfl) (th_leI rfl)
      refine lv_iload_n hx hb dX11_most_29 rfl (lv_at hl 4 rfl) ?_
      refine lv_iconst (v := 5) hx hb dX11_most_30 ic_5 ?_
      refine lv_icmp_gt (tgt := 43) hx hb dX11_most_31 (th_eqI rfl) (fun c6 => ?_) (fun c6 => ?_)
      · skip
        have f7 : rg 6 2147483647 y22_3 := rg_w (rg_lt rgc_5 (rg_any y22_3) c6).2 (th_leI rfl) (th_leI rfl)
        exact J43 gi_22 gr_22 _ _ _ hH hS hM (lv_sub hl [1] rfl) (hF.trans (by simp only [↓reduceIte, f_X11_most_22, eq_false c3, eq_true c6]))
      · skip
        have f8 : rg (-2147483648) 5 y22_3 := rg_w (rg_nlt rgc_5 (rg_any y22_3) c6).2 (th_leI rfl) (th_leI rfl)
        refine lv_iload_n hx hb dX11_most_34 rfl (lv_at hl 3 rfl) ?_
        refine lv_iconst (v := 0) hx hb dX11_most_35 ic_0 ?_
        refine lv_iload_n hx hb dX11_most_36 rfl (lv_at hl 4 rfl) ?_
        have hA9 := th_Asub (τ := τ) hS
        refine va_calli (va_runS (As := [.int p2, .int 0, .int y22_3]) (rest := []) ⟨hx, hb, hml, hown, hts⟩ (k_X11_within l D cA Z τ gi_22 gr_22 _ p2 0 y22_3) (va_cwS 3 hts gX11_most_X11_within rfl rfl rfl (by decide +kernel) ⟨Nat.le_of_ble_eq_true rfl, Nat.le_of_ble_eq_true rfl⟩) ⟨th_blind, (th_pre hH hK hN hZ hS hA9)⟩ rfl rfl hl.1 rfl (lv_room (Nat.le_of_ble_eq_true rfl)) dX11_most_37 ⟨Nat.le_of_ble_eq_true rfl, Nat.le_of_ble_eq_true rfl⟩) hS (fun q _ h => hA9 q h) hA9 (fun x10 u t H locs ht hvm hw10 hB hz1 hk1 hS => ?_)
        try dsimp only at hw10 hB
        rw [ht] at hB
        have hH := hB
        refine lv_if_ne (tgt := 49) hx hb dX11_most_40 (th_eqI rfl) (fun c11 => ?_) (fun c11 => ?_)
        · skip
          have f12 : rg 1 1 x10 := rg_w (rg_neL hw10.1 rgc_0 c11) (th_leI rfl) (th_leI rfl)
          have g13 := hw10.2.1 c11
          have f14 : rg 0 2147483647 p2 := rg_w (rg_le rgc_0 (rg_any p2) g13.1).2 (th_leI rfl) (th_leI rfl)
          have f15 : rg 0 5 p2 := rg_w (rg_le f14 f8 g13.2).1 (th_leI rfl) (th_leI rfl)
          have f16 : rg 0 5 y22_3 := rg_w (rg_le f15 f8 g13.2).2 (th_leI rfl) (th_leI rfl)
          refine lv_aload_n hx hb dX11_most_49 rfl (lv_at hl 1 rfl) ?_
          obtain ⟨q17, r17, t17⟩ : ∃ q, gr_22 h0 0 = some q ∧ τ q = 1 := (hH.at t_h0 (th_nz rfl)).2.1
          refine th_get (ci := 10) (v := .ref q17) (T := TX11) (C := RX11) (N := 10) hx hb hts (fun w h => List.mem_cons_of_mem _ (List.mem_append_left _ (List.mem_append_left _ (List.mem_append_left _ (List.mem_append_left _ (List.mem_append_left _ (List.mem_append_left _ (List.mem_append_left _ (List.mem_append_right _ h))))))))) hown hK hH t_h0 (th_nz rfl) rfl rfl 0 (th_ltN rfl) (hts (.fieldLink RX11 10 "BayMoorings" "bay" "LBayMoorings$Bay;") (List.mem_cons_of_mem _ (List.mem_append_left _ (List.mem_append_left _ (List.mem_append_left _ (List.mem_append_left _ (List.mem_append_left _ (List.mem_append_left _ (List.mem_append_left _ (List.mem_append_left _ (List.mem_append_left _ (List.mem_of_getElem? (i := 0) rfl)))))))))))) (fun _ h9 => h9) (th_fR r17 rfl) dX11_most_50 ?_
          refine lv_iload_n hx hb dX11_most_53 rfl (lv_at hl 2 rfl) ?_
          have hA18 := th_Asub (τ := τ) hS
          refine va_calli (va_runV (As := [.int p1]) (rest := []) ⟨hx, hb, hml, hown, hts⟩ (k_X0_anyLies l D cA Z τ gi_22 gr_22 _ q17 t17 p1) (cwV 1 hts gX11_most_X0_anyLies rfl rfl rfl hd_X0_anyLies__1 ⟨Nat.le_of_ble_eq_true rfl, Nat.le_of_ble_eq_true rfl⟩) ⟨th_blind, th_recv hK hH t17 (ci := 0) (th_nz rfl) rfl rfl, (th_pre hH hK hN hZ hS hA18)⟩ rfl rfl hl.1 rfl (lv_room (Nat.le_of_ble_eq_true rfl)) dX11_most_54 ⟨Nat.le_of_ble_eq_true rfl, Nat.le_of_ble_eq_true rfl⟩) hS (fun q _ h => hA18 q h) hA18 (fun x19 u t H locs ht hvm hw19 hB hz1 hk1 hS => ?_)
          try dsimp only at hw19 hB
          rw [ht] at hB
          have hH := hB
          refine lv_if_eq (tgt := 66) hx hb dX11_most_57 (th_eqI rfl) (fun c20 => ?_) (fun c20 => ?_)
          · skip
            have f21 : rg 0 0 x19 := rg_w (rg_eq hw19.1 rgc_0 c20).1 (th_leI rfl) (th_leI rfl)
            refine lv_aload_n hx hb dX11_most_66 rfl (lv_at hl 1 rfl) ?_
            obtain ⟨q22, r22, t22⟩ : ∃ q, gr_22 h0 2 = some q ∧ τ q = 7 := (hH.at t_h0 (th_nz rfl)).2.2.2.1
            refine th_get (ci := 10) (v := .ref q22) (T := TX11) (C := RX11) (N := 10) hx hb hts (fun w h => List.mem_cons_of_mem _ (List.mem_append_left _ (List.mem_append_left _ (List.mem_append_left _ (List.mem_append_left _ (List.mem_append_left _ (List.mem_append_left _ (List.mem_append_left _ (List.mem_append_right _ h))))))))) hown hK hH t_h0 (th_nz rfl) rfl rfl 2 (th_ltN rfl) (hts (.fieldLink RX11 28 "BayMoorings" "search" "LBayMoorings$Search;") (List.mem_cons_of_mem _ (List.mem_append_left _ (List.mem_append_left _ (List.mem_append_left _ (List.mem_append_left _ (List.mem_append_left _ (List.mem_append_left _ (List.mem_append_left _ (List.mem_append_left _ (List.mem_append_left _ (List.mem_of_getElem? (i := 2) rfl)))))))))))) (fun _ h9 => h9) (th_fR r22 rfl) dX11_most_67 ?_
            refine lv_iload_n hx hb dX11_most_70 rfl (lv_at hl 2 rfl) ?_
            have hA23 := th_Asub (τ := τ) hS
            refine va_callv (va_runV (As := [.int p1]) (rest := []) ⟨hx, hb, hml, hown, hts⟩ (k_X7_run l D cA Z τ gi_22 gr_22 _ q22 t22 p1) (cwV 1 hts gX11_most_X7_run rfl rfl rfl hd_X7_run__1 ⟨Nat.le_of_ble_eq_true rfl, Nat.le_of_ble_eq_true rfl⟩) ⟨th_blind, th_recv hK hH t22 (ci := 6) (th_nz rfl) rfl rfl, (th_pre hH hK hN hZ hS hA23)⟩ rfl rfl hl.1 rfl (lv_room (Nat.le_of_ble_eq_true rfl)) dX11_most_71 ⟨Nat.le_of_ble_eq_true rfl, Nat.le_of_ble_eq_true rfl⟩) hS (fun q _ h => hA23 q h) hA23 (fun  u t H locs ht hvm hw24 hB hz1 hk1 hS => ?_)
            try dsimp only at hw24 hB
            rw [ht] at hB
            have hH := hB
            obtain ⟨gi24, gr24⟩ := u
            try dsimp only at hw24 hH
            have hM := hM.tr hw24.1 (fun _ h => h) (th_sub rfl)
            have r25 : gr24 h0 0 = some q17 := Eq.trans (hw24.1 h0 0 (th_nzE t_h0 rfl) (th_nmE (key := 1100) t_h0 rfl rfl)).2 r17
            have r26 : gr24 h0 2 = some q22 := Eq.trans (hw24.1 h0 2 (th_nzE t_h0 rfl) (th_nmE (key := 1102) t_h0 rfl rfl)).2 r22
            refine lv_iload_n hx hb dX11_most_74 rfl (lv_at hl 3 rfl) ?_
            refine lv_if_ne (tgt := 88) hx hb dX11_most_75 (th_eqI rfl) (fun c27 => ?_) (fun c27 => ?_)
            · skip
              have f28 : rg 1 5 p2 := rg_w (rg_neL f15 rgc_0 c27) (th_leI rfl) (th_leI rfl)
              refine lv_aload_n hx hb dX11_most_88 rfl (lv_at hl 1 rfl) ?_
              refine th_get (ci := 10) (v := .ref q22) (T := TX11) (C := RX11) (N := 10) hx hb hts (fun w h => List.mem_cons_of_mem _ (List.mem_append_left _ (List.mem_append_left _ (List.mem_append_left _ (List.mem_append_left _ (List.mem_append_left _ (List.mem_append_left _ (List.mem_append_left _ (List.mem_append_right _ h))))))))) hown hK hH t_h0 (th_nz rfl) rfl rfl 2 (th_ltN rfl) (hts (.fieldLink RX11 28 "BayMoorings" "search" "LBayMoorings$Search;") (List.mem_cons_of_mem _ (List.mem_append_left _ (List.mem_append_left _ (List.mem_append_left _ (List.mem_append_left _ (List.mem_append_left _ (List.mem_append_left _ (List.mem_append_left _ (List.mem_append_left _ (List.mem_append_left _ (List.mem_of_getElem? (i := 2) rfl)))))))))))) (fun _ h9 => h9) (th_fR r26 rfl) dX11_most_89 ?_
              refine lv_iload_n hx hb dX11_most_92 rfl (lv_at hl 3 rfl) ?_
              refine lv_iconst (v := 1) hx hb dX11_most_93 ic_1 ?_
              refine lv_isub hx hb dX11_most_94 ?_
              refine lv_topi (fun x30 e30 => ?_)
              have f30 : rg 0 4 x30 := rg_e e30 (rg_w (rg_sub f28 rgc_1 (th_leI rfl) (th_leI rfl)) (th_leI rfl) (th_leI rfl))
              have hA31 := th_Asub (τ := τ) hS
              refine va_calli (va_runV (As := [.int x30]) (rest := []) ⟨hx, hb, hml, hown, hts⟩ (k_X7_buoyFor l D cA Z τ gi24 gr24 _ q22 t22 x30) (cwV 1 hts gX11_most_X7_buoyFor rfl rfl rfl hd_X7_buoyFor__1 ⟨Nat.le_of_ble_eq_true rfl, Nat.le_of_ble_eq_true rfl⟩) ⟨th_blind, th_recv hK hH t22 (ci := 6) (th_nz rfl) rfl rfl, (th_pre hH hK hN hZ hS hA31)⟩ rfl rfl hl.1 rfl (lv_room (Nat.le_of_ble_eq_true rfl)) dX11_most_95 ⟨Nat.le_of_ble_eq_true rfl, Nat.le_of_ble_eq_true rfl⟩) hS (fun q _ h => hA31 q h) hA31 (fun x32 u t H locs ht hvm hw32 hB hz1 hk1 hS => ?_)
              try dsimp only at hw32 hB
              rw [ht] at hB
              have hH := hB
              exact W.iret (v := x32) hx hb hr (fun t ht hW => ⟨⟨x32, (gi24, gr24), rfl, ⟨hM, (hF.trans (by simp only [↓reduceIte, f_X11_most_22, eq_false c3, eq_false c6, hw10.2.2.1, eq_false c11, r17, Option.getD_some, hw19.2, eq_true c20, r22, hw24.2, eq_false c27, ← e30, hw32]))⟩, th_Ht ht hH⟩, hS.F ht⟩) hS.2.2 dX11_most_98
            · skip
              have f33 : rg 0 0 p2 := rg_w (rg_eq f15 rgc_0 c27).1 (th_leI rfl) (th_leI rfl)
              refine lv_aload_n hx hb dX11_most_78 rfl (lv_at hl 1 rfl) ?_
              refine th_get (ci := 10) (v := .ref q22) (T := TX11) (C := RX11) (N := 10) hx hb hts (fun w h => List.mem_cons_of_mem _ (List.mem_append_left _ (List.mem_append_left _ (List.mem_append_left _ (List.mem_append_left _ (List.mem_append_left _ (List.mem_append_left _ (List.mem_append_left _ (List.mem_append_right _ h))))))))) hown hK hH t_h0 (th_nz rfl) rfl rfl 2 (th_ltN rfl) (hts (.fieldLink RX11 28 "BayMoorings" "search" "LBayMoorings$Search;") (List.mem_cons_of_mem _ (List.mem_append_left _ (List.mem_append_left _ (List.mem_append_left _ (List.mem_append_left _ (List.mem_append_left _ (List.mem_append_left _ (List.mem_append_left _ (List.mem_append_left _ (List.mem_append_left _ (List.mem_of_getElem? (i := 2) rfl)))))))))))) (fun _ h9 => h9) (th_fR r26 rfl) dX11_most_79 ?_
              obtain ⟨x35, e35⟩ : ∃ y : Int32, y = gi24 q22 7 := ⟨_, rfl⟩
              refine th_get (ci := 6) (v := .int x35) (T := TX7) (C := RX7) (N := 8) hx hb hts (fun w h => List.mem_cons_of_mem _ (List.mem_append_left _ (List.mem_append_left _ (List.mem_append_left _ (List.mem_append_left _ (List.mem_append_left _ (List.mem_append_right _ h))))))) hown hK hH t22 (th_nz rfl) rfl rfl 7 (th_ltN rfl) (hts (.fieldLink RX11 207 "BayMoorings$Search" "bestCount" "I") (List.mem_cons_of_mem _ (List.mem_append_left _ (List.mem_append_left _ (List.mem_append_left _ (List.mem_append_left _ (List.mem_append_left _ (List.mem_append_left _ (List.mem_append_left _ (List.mem_append_left _ (List.mem_append_left _ (List.mem_of_getElem? (i := 3) rfl)))))))))))) (fun _ h9 => h9) (th_fI e35 rfl) dX11_most_82 ?_
              refine lv_goto (tgt := 98) hx hb dX11_most_85 (th_eqI rfl) ?_
              exact W.iret (v := x35) hx hb hr (fun t ht hW => ⟨⟨x35, (gi24, gr24), rfl, ⟨hM, (hF.trans (by simp only [↓reduceIte, f_X11_most_22, eq_false c3, eq_false c6, hw10.2.2.1, eq_false c11, r17, Option.getD_some, hw19.2, eq_true c20, r22, hw24.2, eq_true c27, ← e35]))⟩, th_Ht ht hH⟩, hS.F ht⟩) hS.2.2 dX11_most_98
          · skip
            have f36 : rg 1 1 x19 := rg_w (rg_neL hw19.1 rgc_0 c20) (th_leI rfl) (th_leI rfl)
            refine lv_aload_n hx hb dX11_most_60 rfl (lv_at hl 1 rfl) ?_
            refine lv_iconst (v := 3) hx hb dX11_most_61 ic_3 ?_
            have hA37 := th_Asub (τ := τ) hS
            refine va_calli (va_runV (As := [.int 3]) (rest := []) ⟨hx, hb, hml, hown, hts⟩ (k_X11_finding l D cA Z τ gi_22 gr_22 _ h0 t_h0 3) (cwV 1 hts gX11_most_X11_finding rfl rfl rfl hd_X11_finding__1 ⟨Nat.le_of_ble_eq_true rfl, Nat.le_of_ble_eq_true rfl⟩) ⟨th_blind, th_recv hK hH t_h0 (ci := 10) (th_nz rfl) rfl rfl, (th_pre hH hK hN hZ hS hA37)⟩ rfl rfl hl.1 rfl (lv_room (Nat.le_of_ble_eq_true rfl)) dX11_most_62 ⟨Nat.le_of_ble_eq_true rfl, Nat.le_of_ble_eq_true rfl⟩) hS (fun q _ h => hA37 q h) hA37 (fun x38 u t H locs ht hvm hw38 hB hz1 hk1 hS => ?_)
            try dsimp only at hw38 hB
            rw [ht] at hB
            have hH := hB
            obtain ⟨gi38, gr38⟩ := u
            try dsimp only at hw38 hH
            obtain rfl : gr_22 = gr38 := (hw38.2.1).symm
            have hM := hM.tr hw38.1 (fun _ h => h) (th_sub rfl)
            exact W.iret (v := x38) hx hb hr (fun t ht hW => ⟨⟨x38, (gi38, gr_22), rfl, ⟨hM, (hF.trans (by simp only [↓reduceIte, f_X11_most_22, eq_false c3, eq_false c6, hw10.2.2.1, eq_false c11, r17, Option.getD_some, hw19.2, eq_false c20, hw38.2.2.1]))⟩, th_Ht ht hH⟩, hS.F ht⟩) hS.2.2 dX11_most_65
        · skip
          have f39 : rg 0 0 x10 := rg_w (rg_eq hw10.1 rgc_0 c11).1 (th_leI rfl) (th_leI rfl)
          exact J43 gi_22 gr_22 _ _ _ hH hS hM (lv_sub hl [1] rfl) (hF.trans (by simp only [↓reduceIte, f_X11_most_22, eq_false c3, eq_false c6, hw10.2.2.1, eq_true c11]))
  have hS : va_S (th_A τ s.heap.size) s.heap s.heap [] := va_S.rf
  have hl := lv_entry ([.ref h0, .int p1, .int p2]) (n := 5) (Nat.le_of_ble_eq_true rfl)
  rw [lg_entry_eq]
  generalize (lg_sl ([.ref h0, .int p1, .int p2]) ++ List.replicate (5 - (lg_sl ([.ref h0, .int p1, .int p2])).length) Slot.unset).toArray = ls at hl ⊢
  have hl : lv_has ls 5 [(0, .ref h0), (1, .int p1), (2, .int p2)] := hl
  have hF : F_X11_most τ Z gi gr h0 p1 p2 = F_X11_most τ Z gi gr h0 p1 p2 := rfl
  refine lv_iload_n hx hb dX11_most_0 rfl (lv_at hl 1 rfl) ?_
  have hA40 := th_Asub (τ := τ) hS
  refine va_calli (va_runS (As := [.int p1]) (rest := []) ⟨hx, hb, hml, hown, hts⟩ (k_J6_bitCount_0f7a4 l D cA Z τ gi gr _ p1) (va_cwS 1 hts gX11_most_J6_bitCount_0f7a4 rfl rfl rfl (by decide +kernel) ⟨Nat.le_of_ble_eq_true rfl, Nat.le_of_ble_eq_true rfl⟩) ⟨th_blind, (th_pre hH hK hN hZ hS hA40)⟩ rfl rfl hl.1 rfl (lv_room (Nat.le_of_ble_eq_true rfl)) dX11_most_1 ⟨Nat.le_of_ble_eq_true rfl, Nat.le_of_ble_eq_true rfl⟩) hS (fun q _ h => hA40 q h) hA40 (fun x41 u t H locs ht hvm hw41 hB hz1 hk1 hS => ?_)
  try dsimp only at hw41 hB
  rw [ht] at hB
  have hH := hB
  refine lv_istore_n (i := 3) (lv' := [(3, .int x41), (0, .ref h0), (1, .int p1), (2, .int p2)]) hx hb dX11_most_4 rfl hl (th_ltN rfl) rfl (fun ls hl => ?_)
  refine lv_iload_n hx hb dX11_most_5 rfl (lv_at hl 2 rfl) ?_
  refine lv_aload_n hx hb dX11_most_6 rfl (lv_at hl 1 rfl) ?_
  obtain ⟨q42, r42, t42⟩ : ∃ q, gr h0 0 = some q ∧ τ q = 1 := (hH.at t_h0 (th_nz rfl)).2.1
  refine th_get (ci := 10) (v := .ref q42) (T := TX11) (C := RX11) (N := 10) hx hb hts (fun w h => List.mem_cons_of_mem _ (List.mem_append_left _ (List.mem_append_left _ (List.mem_append_left _ (List.mem_append_left _ (List.mem_append_left _ (List.mem_append_left _ (List.mem_append_left _ (List.mem_append_right _ h))))))))) hown hK hH t_h0 (th_nz rfl) rfl rfl 0 (th_ltN rfl) (hts (.fieldLink RX11 10 "BayMoorings" "bay" "LBayMoorings$Bay;") (List.mem_cons_of_mem _ (List.mem_append_left _ (List.mem_append_left _ (List.mem_append_left _ (List.mem_append_left _ (List.mem_append_left _ (List.mem_append_left _ (List.mem_append_left _ (List.mem_append_left _ (List.mem_append_left _ (List.mem_of_getElem? (i := 0) rfl)))))))))))) (fun _ h9 => h9) (th_fR r42 rfl) dX11_most_7 ?_
  obtain ⟨x43, e43⟩ : ∃ y : Int32, y = gi q42 6 := ⟨_, rfl⟩
  refine th_get (ci := 0) (v := .int x43) (T := TX0) (C := RX0) (N := 9) hx hb hts (fun w h => List.mem_cons_of_mem _ (List.mem_append_left _ (List.mem_append_left _ (List.mem_append_left _ (List.mem_append_left _ (List.mem_append_left _ (List.mem_append_left _ (List.mem_append_right _ h)))))))) hown hK hH t42 (th_nz rfl) rfl rfl 6 (th_ltN rfl) (hts (.fieldLink RX11 83 "BayMoorings$Bay" "boatCount" "I") (List.mem_cons_of_mem _ (List.mem_append_left _ (List.mem_append_left _ (List.mem_append_left _ (List.mem_append_left _ (List.mem_append_left _ (List.mem_append_left _ (List.mem_append_left _ (List.mem_append_left _ (List.mem_append_left _ (List.mem_of_getElem? (i := 1) rfl)))))))))))) (fun _ h9 => h9) (th_fI e43 rfl) dX11_most_10 ?_
  have f43 : rg 0 16 x43 := rg_e e43 ((hH.at t42 (th_nz rfl)).2.2.2.2.2.2.2)
  refine lv_iushr hx hb dX11_most_13 rfl ?_
  refine lv_topi (fun x44 e44 => ?_)
  refine lv_if_ne (tgt := 21) hx hb dX11_most_14 (th_eqI rfl) (fun c45 => ?_) (fun c45 => ?_)
  · skip
    refine lv_iconst (v := 0) hx hb dX11_most_21 ic_0 ?_
    exact J22 gi gr _ _ _ x41 0 hH hS hM (lv_sub hl [1, 2, 3, 0] rfl) (rg_w rgc_0 (th_leI rfl) (th_leI rfl)) (hF.trans (by simp only [↓reduceIte, F_X11_most, hw41, r42, Option.getD_some, ← e43, ← e44, eq_false c45]))
  · skip
    have f46 : rg 0 0 x44 := rg_w (rg_eq (rg_any x44) rgc_0 c45).1 (th_leI rfl) (th_leI rfl)
    refine lv_iconst (v := 1) hx hb dX11_most_17 ic_1 ?_
    refine lv_goto (tgt := 22) hx hb dX11_most_18 (th_eqI rfl) ?_
    exact J22 gi gr _ _ _ x41 1 hH hS hM (lv_sub hl [1, 2, 3, 0] rfl) (rg_w rgc_1 (th_leI rfl) (th_leI rfl)) (hF.trans (by simp only [↓reduceIte, F_X11_most, hw41, r42, Option.getD_some, ← e43, ← e44, eq_true c45]))

noncomputable def F_X11_count (τ : th_t) (Z : th_Zt) (gi : th_i) (gr : th_r) (h0 : Nat) (p1 : Int32) : Int32 × th_i :=
  if p1.toInt < 0 then (
    let u3 : Int32 × th_i := F_X11_finding τ Z gi gr h0 1
    let x3 : Int32 := u3.1
    let gi3 : th_i := u3.2
    (x3, gi3)) else (
    if 6 < p1.toInt then (
      let u5 : Int32 × th_i := F_X11_finding τ Z gi gr h0 1
      let x5 : Int32 := u5.1
      let gi5 : th_i := u5.2
      (x5, gi5)) else (
      if p1.toInt = 0 then (
        let q7 : Nat := (gr h0 0).getD 0
        let x8 : Int32 := gi q7 5
        (x8, gi)) else (
        if p1.toInt = 1 then (
          let q10 : Nat := (gr h0 0).getD 0
          let x11 : Int32 := gi q10 6
          (x11, gi)) else (
          if p1.toInt = 2 then (
            let q13 : Nat := (gr h0 0).getD 0
            let x15 : Int32 := F_X0_lyingBoats τ Z gi gr q13
            (x15, gi)) else (
            if p1.toInt = 3 then (
              let q17 : Nat := (gr h0 1).getD 0
              let x18 : Int32 := gi q17 2
              (x18, gi)) else (
              if p1.toInt = 4 then (
                let x20 : Int32 := gi h0 7
                (x20, gi)) else (
                if p1.toInt = 5 then (
                  let q22 : Nat := (gr h0 0).getD 0
                  let x24 : Int32 := F_X0_partedChains τ Z gi gr q22
                  (x24, gi)) else (
                  if p1.toInt = 6 then (
                    let q26 : Nat := (gr h0 0).getD 0
                    let x27 : Int32 := gi q26 7
                    let x29 : Int32 := F_J6_bitCount_0f7a4 τ Z gi gr x27
                    (x29, gi)) else (
                    (0, gi))))))))))
set_option maxHeartbeats 8000000 in
set_option maxRecDepth 100000 in
theorem k_X11_count (l : Launch) (D : va_G) (cA : Nat → ClassId) (Z : th_Zt) (τ : th_t) (gi : th_i) (gr : th_r) (sz : Nat) (h0 : Nat) (t_h0 : τ h0 = 11) (p1 : Int32) : Met l yX11_count wsX11_count ({ frames := 3, cells := 0, slots := 0, locals := 66 }) (va_Pc [.ref h0, .int p1] (th_Pre D cA Z τ gi gr sz)) (va_Qi (fun (r : Int32) (u : th_i × th_r) => th_Mod [3600] τ gi gr u.1 u.2 ∧ u.2 = gr ∧ (F_X11_count τ Z gi gr h0 p1 = (r, u.1))) (fun (u : th_i × th_r) t => th_H D cA τ u.1 u.2 t.heap) (th_A τ sz)) 0 0 (th_A τ sz) := by
  refine Met.ofW (cc := cX11_count) (maxL := 2) (ret := (some .int)) (by decide) rfl ?_
  intro p e s m args below meth c s₁ B hml hv
  obtain ⟨rfl, hsz, hH, hK, hN, hZ⟩ := hv
  have hx := B.exec
  have hb := B.bytes
  have hr := B.returns
  have hts := atoms_spec (ws := wsX11_count) B.pre
  have hown : s.vm.findClass RX11 = some m.cls := findClass_of_methodNamed B.named
  have hlocks := B.notSynchronized
  subst hsz
  have hM : th_Mod [3600] τ gi gr gi gr := th_Mod.rf
  have hS : va_S (th_A τ s.heap.size) s.heap s.heap [] := va_S.rf
  have hl := lv_entry ([.ref h0, .int p1]) (n := 2) (Nat.le_of_ble_eq_true rfl)
  rw [lg_entry_eq]
  generalize (lg_sl ([.ref h0, .int p1]) ++ List.replicate (2 - (lg_sl ([.ref h0, .int p1])).length) Slot.unset).toArray = ls at hl ⊢
  have hl : lv_has ls 2 [(0, .ref h0), (1, .int p1)] := hl
  have hF : F_X11_count τ Z gi gr h0 p1 = F_X11_count τ Z gi gr h0 p1 := rfl
  refine lv_iload_n hx hb dX11_count_0 rfl (lv_at hl 1 rfl) ?_
  rcases Int.lt_or_le p1.toInt 0 with z1 | z1
  · refine lv_tableOut (tgt := 100) hx hb dX11_count_1 (Or.inl z1) (th_eqI rfl) ?_
    refine lv_aload_n hx hb dX11_count_100 rfl (lv_at hl 0 rfl) ?_
    refine lv_iconst (v := 1) hx hb dX11_count_101 ic_1 ?_
    have hA2 := th_Asub (τ := τ) hS
    refine va_calli (va_runV (As := [.int 1]) (rest := []) ⟨hx, hb, hml, hown, hts⟩ (k_X11_finding l D cA Z τ gi gr _ h0 t_h0 1) (cwV 1 hts gX11_count_X11_finding rfl rfl rfl hd_X11_finding__1 ⟨Nat.le_of_ble_eq_true rfl, Nat.le_of_ble_eq_true rfl⟩) ⟨th_blind, th_recv hK hH t_h0 (ci := 10) (th_nz rfl) rfl rfl, (th_pre hH hK hN hZ hS hA2)⟩ rfl rfl hl.1 rfl (lv_room (Nat.le_of_ble_eq_true rfl)) dX11_count_102 ⟨Nat.le_of_ble_eq_true rfl, Nat.le_of_ble_eq_true rfl⟩) hS (fun q _ h => hA2 q h) hA2 (fun x3 u t H locs ht hvm hw3 hB hz1 hk1 hS => ?_)
    try dsimp only at hw3 hB
    rw [ht] at hB
    have hH := hB
    obtain ⟨gi3, gr3⟩ := u
    try dsimp only at hw3 hH
    obtain rfl : gr = gr3 := (hw3.2.1).symm
    have hM := hM.tr hw3.1 (fun _ h => h) (th_sub rfl)
    exact W.iret (v := x3) hx hb hr (fun t ht hW => ⟨⟨x3, (gi3, gr), rfl, ⟨hM, rfl, (hF.trans (by simp only [↓reduceIte, F_X11_count, eq_true z1, hw3.2.2.1]))⟩, th_Ht ht hH⟩, hS.F ht⟩) hS.2.2 dX11_count_105
  rcases Int.lt_or_le 6 p1.toInt with y1 | y1
  · refine lv_tableOut (tgt := 100) hx hb dX11_count_1 (Or.inr y1) (th_eqI rfl) ?_
    refine lv_aload_n hx hb dX11_count_100 rfl (lv_at hl 0 rfl) ?_
    refine lv_iconst (v := 1) hx hb dX11_count_101 ic_1 ?_
    have hA4 := th_Asub (τ := τ) hS
    refine va_calli (va_runV (As := [.int 1]) (rest := []) ⟨hx, hb, hml, hown, hts⟩ (k_X11_finding l D cA Z τ gi gr _ h0 t_h0 1) (cwV 1 hts gX11_count_X11_finding rfl rfl rfl hd_X11_finding__1 ⟨Nat.le_of_ble_eq_true rfl, Nat.le_of_ble_eq_true rfl⟩) ⟨th_blind, th_recv hK hH t_h0 (ci := 10) (th_nz rfl) rfl rfl, (th_pre hH hK hN hZ hS hA4)⟩ rfl rfl hl.1 rfl (lv_room (Nat.le_of_ble_eq_true rfl)) dX11_count_102 ⟨Nat.le_of_ble_eq_true rfl, Nat.le_of_ble_eq_true rfl⟩) hS (fun q _ h => hA4 q h) hA4 (fun x5 u t H locs ht hvm hw5 hB hz1 hk1 hS => ?_)
    try dsimp only at hw5 hB
    rw [ht] at hB
    have hH := hB
    obtain ⟨gi5, gr5⟩ := u
    try dsimp only at hw5 hH
    obtain rfl : gr = gr5 := (hw5.2.1).symm
    have hM := hM.tr hw5.1 (fun _ h => h) (th_sub rfl)
    exact W.iret (v := x5) hx hb hr (fun t ht hW => ⟨⟨x5, (gi5, gr), rfl, ⟨hM, rfl, (hF.trans (by simp only [↓reduceIte, F_X11_count, eq_false (Int.not_lt.mpr z1), eq_true y1, hw5.2.2.1]))⟩, th_Ht ht hH⟩, hS.F ht⟩) hS.2.2 dX11_count_105
  rcases (show p1.toInt = 0 ∨ p1.toInt = 1 ∨ p1.toInt = 2 ∨ p1.toInt = 3 ∨ p1.toInt = 4 ∨ p1.toInt = 5 ∨ p1.toInt = 6 by omega) with w1 | w1 | w1 | w1 | w1 | w1 | w1
  · refine lv_tableIn (tgt := 44) hx hb dX11_count_1 (by omega) (by omega) (by rw [w1]; rfl) (th_eqI rfl) ?_
    have f6 : rg 0 0 p1 := ⟨by omega, by omega⟩
    refine lv_aload_n hx hb dX11_count_44 rfl (lv_at hl 0 rfl) ?_
    obtain ⟨q7, r7, t7⟩ : ∃ q, gr h0 0 = some q ∧ τ q = 1 := (hH.at t_h0 (th_nz rfl)).2.1
    refine th_get (ci := 10) (v := .ref q7) (T := TX11) (C := RX11) (N := 10) hx hb hts (fun w h => List.mem_cons_of_mem _ (List.mem_append_left _ (List.mem_append_left _ (List.mem_append_left _ (List.mem_append_left _ (List.mem_append_right _ h)))))) hown hK hH t_h0 (th_nz rfl) rfl rfl 0 (th_ltN rfl) (hts (.fieldLink RX11 10 "BayMoorings" "bay" "LBayMoorings$Bay;") (List.mem_cons_of_mem _ (List.mem_append_left _ (List.mem_append_left _ (List.mem_append_left _ (List.mem_append_left _ (List.mem_append_left _ (List.mem_append_left _ (List.mem_of_getElem? (i := 0) rfl))))))))) (fun _ h9 => h9) (th_fR r7 rfl) dX11_count_45 ?_
    obtain ⟨x8, e8⟩ : ∃ y : Int32, y = gi q7 5 := ⟨_, rfl⟩
    refine th_get (ci := 0) (v := .int x8) (T := TX0) (C := RX0) (N := 9) hx hb hts (fun w h => List.mem_cons_of_mem _ (List.mem_append_left _ (List.mem_append_left _ (List.mem_append_left _ (List.mem_append_right _ h))))) hown hK hH t7 (th_nz rfl) rfl rfl 5 (th_ltN rfl) (hts (.fieldLink RX11 72 "BayMoorings$Bay" "buoyCount" "I") (List.mem_cons_of_mem _ (List.mem_append_left _ (List.mem_append_left _ (List.mem_append_left _ (List.mem_append_left _ (List.mem_append_left _ (List.mem_append_left _ (List.mem_of_getElem? (i := 1) rfl))))))))) (fun _ h9 => h9) (th_fI e8 rfl) dX11_count_48 ?_
    have f8 : rg 0 12 x8 := rg_e e8 ((hH.at t7 (th_nz rfl)).2.2.2.2.2.2.1)
    exact W.iret (v := x8) hx hb hr (fun t ht hW => ⟨⟨x8, (gi, gr), rfl, ⟨hM, rfl, (hF.trans (by simp only [↓reduceIte, F_X11_count, eq_false (Int.not_lt.mpr z1), eq_false (Int.not_lt.mpr y1), eq_true w1, r7, Option.getD_some, ← e8]))⟩, th_Ht ht hH⟩, hS.F ht⟩) hS.2.2 dX11_count_51
  · refine lv_tableIn (tgt := 52) hx hb dX11_count_1 (by omega) (by omega) (by rw [w1]; rfl) (th_eqI rfl) ?_
    have f9 : rg 1 1 p1 := ⟨by omega, by omega⟩
    refine lv_aload_n hx hb dX11_count_52 rfl (lv_at hl 0 rfl) ?_
    obtain ⟨q10, r10, t10⟩ : ∃ q, gr h0 0 = some q ∧ τ q = 1 := (hH.at t_h0 (th_nz rfl)).2.1
    refine th_get (ci := 10) (v := .ref q10) (T := TX11) (C := RX11) (N := 10) hx hb hts (fun w h => List.mem_cons_of_mem _ (List.mem_append_left _ (List.mem_append_left _ (List.mem_append_left _ (List.mem_append_left _ (List.mem_append_right _ h)))))) hown hK hH t_h0 (th_nz rfl) rfl rfl 0 (th_ltN rfl) (hts (.fieldLink RX11 10 "BayMoorings" "bay" "LBayMoorings$Bay;") (List.mem_cons_of_mem _ (List.mem_append_left _ (List.mem_append_left _ (List.mem_append_left _ (List.mem_append_left _ (List.mem_append_left _ (List.mem_append_left _ (List.mem_of_getElem? (i := 0) rfl))))))))) (fun _ h9 => h9) (th_fR r10 rfl) dX11_count_53 ?_
    obtain ⟨x11, e11⟩ : ∃ y : Int32, y = gi q10 6 := ⟨_, rfl⟩
    refine th_get (ci := 0) (v := .int x11) (T := TX0) (C := RX0) (N := 9) hx hb hts (fun w h => List.mem_cons_of_mem _ (List.mem_append_left _ (List.mem_append_left _ (List.mem_append_left _ (List.mem_append_right _ h))))) hown hK hH t10 (th_nz rfl) rfl rfl 6 (th_ltN rfl) (hts (.fieldLink RX11 83 "BayMoorings$Bay" "boatCount" "I") (List.mem_cons_of_mem _ (List.mem_append_left _ (List.mem_append_left _ (List.mem_append_left _ (List.mem_append_left _ (List.mem_append_left _ (List.mem_append_left _ (List.mem_of_getElem? (i := 2) rfl))))))))) (fun _ h9 => h9) (th_fI e11 rfl) dX11_count_56 ?_
    have f11 : rg 0 16 x11 := rg_e e11 ((hH.at t10 (th_nz rfl)).2.2.2.2.2.2.2)
    exact W.iret (v := x11) hx hb hr (fun t ht hW => ⟨⟨x11, (gi, gr), rfl, ⟨hM, rfl, (hF.trans (by simp only [↓reduceIte, F_X11_count, eq_false (Int.not_lt.mpr z1), eq_false (Int.not_lt.mpr y1), eq_false (show ¬ p1.toInt = 0 by omega), eq_true w1, r10, Option.getD_some, ← e11]))⟩, th_Ht ht hH⟩, hS.F ht⟩) hS.2.2 dX11_count_59
  · refine lv_tableIn (tgt := 60) hx hb dX11_count_1 (by omega) (by omega) (by rw [w1]; rfl) (th_eqI rfl) ?_
    have f12 : rg 2 2 p1 := ⟨by omega, by omega⟩
    refine lv_aload_n hx hb dX11_count_60 rfl (lv_at hl 0 rfl) ?_
    obtain ⟨q13, r13, t13⟩ : ∃ q, gr h0 0 = some q ∧ τ q = 1 := (hH.at t_h0 (th_nz rfl)).2.1
    refine th_get (ci := 10) (v := .ref q13) (T := TX11) (C := RX11) (N := 10) hx hb hts (fun w h => List.mem_cons_of_mem _ (List.mem_append_left _ (List.mem_append_left _ (List.mem_append_left _ (List.mem_append_left _ (List.mem_append_right _ h)))))) hown hK hH t_h0 (th_nz rfl) rfl rfl 0 (th_ltN rfl) (hts (.fieldLink RX11 10 "BayMoorings" "bay" "LBayMoorings$Bay;") (List.mem_cons_of_mem _ (List.mem_append_left _ (List.mem_append_left _ (List.mem_append_left _ (List.mem_append_left _ (List.mem_append_left _ (List.mem_append_left _ (List.mem_of_getElem? (i := 0) rfl))))))))) (fun _ h9 => h9) (th_fR r13 rfl) dX11_count_61 ?_
    have hA14 := th_Asub (τ := τ) hS
    refine va_calli (va_runV (As := []) (rest := []) ⟨hx, hb, hml, hown, hts⟩ (k_X0_lyingBoats l D cA Z τ gi gr _ q13 t13) (cwV 0 hts gX11_count_X0_lyingBoats rfl rfl rfl hd_X0_lyingBoats__0 ⟨Nat.le_of_ble_eq_true rfl, Nat.le_of_ble_eq_true rfl⟩) ⟨th_blind, th_recv hK hH t13 (ci := 0) (th_nz rfl) rfl rfl, (th_pre hH hK hN hZ hS hA14)⟩ rfl rfl hl.1 rfl (lv_room (Nat.le_of_ble_eq_true rfl)) dX11_count_64 ⟨Nat.le_of_ble_eq_true rfl, Nat.le_of_ble_eq_true rfl⟩) hS (fun q _ h => hA14 q h) hA14 (fun x15 u t H locs ht hvm hw15 hB hz1 hk1 hS => ?_)
    try dsimp only at hw15 hB
    rw [ht] at hB
    have hH := hB
    exact W.iret (v := x15) hx hb hr (fun t ht hW => ⟨⟨x15, (gi, gr), rfl, ⟨hM, rfl, (hF.trans (by simp only [↓reduceIte, F_X11_count, eq_false (Int.not_lt.mpr z1), eq_false (Int.not_lt.mpr y1), eq_false (show ¬ p1.toInt = 0 by omega), eq_false (show ¬ p1.toInt = 1 by omega), eq_true w1, r13, Option.getD_some, hw15]))⟩, th_Ht ht hH⟩, hS.F ht⟩) hS.2.2 dX11_count_67
  · refine lv_tableIn (tgt := 68) hx hb dX11_count_1 (by omega) (by omega) (by rw [w1]; rfl) (th_eqI rfl) ?_
    have f16 : rg 3 3 p1 := ⟨by omega, by omega⟩
    refine lv_aload_n hx hb dX11_count_68 rfl (lv_at hl 0 rfl) ?_
    obtain ⟨q17, r17, t17⟩ : ∃ q, gr h0 1 = some q ∧ τ q = 10 := (hH.at t_h0 (th_nz rfl)).2.2.1
    refine th_get (ci := 10) (v := .ref q17) (T := TX11) (C := RX11) (N := 10) hx hb hts (fun w h => List.mem_cons_of_mem _ (List.mem_append_left _ (List.mem_append_left _ (List.mem_append_left _ (List.mem_append_left _ (List.mem_append_right _ h)))))) hown hK hH t_h0 (th_nz rfl) rfl rfl 1 (th_ltN rfl) (hts (.fieldLink RX11 21 "BayMoorings" "waiting" "LBayMoorings$WaitingList;") (List.mem_cons_of_mem _ (List.mem_append_left _ (List.mem_append_left _ (List.mem_append_left _ (List.mem_append_left _ (List.mem_append_left _ (List.mem_append_left _ (List.mem_of_getElem? (i := 3) rfl))))))))) (fun _ h9 => h9) (th_fR r17 rfl) dX11_count_69 ?_
    obtain ⟨x18, e18⟩ : ∃ y : Int32, y = gi q17 2 := ⟨_, rfl⟩
    refine th_get (ci := 9) (v := .int x18) (T := TX10) (C := RX10) (N := 3) hx hb hts (fun w h => List.mem_cons_of_mem _ (List.mem_append_left _ (List.mem_append_left _ (List.mem_append_right _ h)))) hown hK hH t17 (th_nz rfl) rfl rfl 2 (th_ltN rfl) (hts (.fieldLink RX11 213 "BayMoorings$WaitingList" "size" "I") (List.mem_cons_of_mem _ (List.mem_append_left _ (List.mem_append_left _ (List.mem_append_left _ (List.mem_append_left _ (List.mem_append_left _ (List.mem_append_left _ (List.mem_of_getElem? (i := 4) rfl))))))))) (fun _ h9 => h9) (th_fI e18 rfl) dX11_count_72 ?_
    have f18 : rg 0 10 x18 := rg_e e18 ((hH.at t17 (th_nz rfl)).2.2.2)
    exact W.iret (v := x18) hx hb hr (fun t ht hW => ⟨⟨x18, (gi, gr), rfl, ⟨hM, rfl, (hF.trans (by simp only [↓reduceIte, F_X11_count, eq_false (Int.not_lt.mpr z1), eq_false (Int.not_lt.mpr y1), eq_false (show ¬ p1.toInt = 0 by omega), eq_false (show ¬ p1.toInt = 1 by omega), eq_false (show ¬ p1.toInt = 2 by omega), eq_true w1, r17, Option.getD_some, ← e18]))⟩, th_Ht ht hH⟩, hS.F ht⟩) hS.2.2 dX11_count_75
  · refine lv_tableIn (tgt := 76) hx hb dX11_count_1 (by omega) (by omega) (by rw [w1]; rfl) (th_eqI rfl) ?_
    have f19 : rg 4 4 p1 := ⟨by omega, by omega⟩
    refine lv_aload_n hx hb dX11_count_76 rfl (lv_at hl 0 rfl) ?_
    obtain ⟨x20, e20⟩ : ∃ y : Int32, y = gi h0 7 := ⟨_, rfl⟩
    refine th_get (ci := 10) (v := .int x20) (T := TX11) (C := RX11) (N := 10) hx hb hts (fun w h => List.mem_cons_of_mem _ (List.mem_append_left _ (List.mem_append_left _ (List.mem_append_left _ (List.mem_append_left _ (List.mem_append_right _ h)))))) hown hK hH t_h0 (th_nz rfl) rfl rfl 7 (th_ltN rfl) (hts (.fieldLink RX11 53 "BayMoorings" "numberCount" "I") (List.mem_cons_of_mem _ (List.mem_append_left _ (List.mem_append_left _ (List.mem_append_left _ (List.mem_append_left _ (List.mem_append_left _ (List.mem_append_left _ (List.mem_of_getElem? (i := 5) rfl))))))))) (fun _ h9 => h9) (th_fI e20 rfl) dX11_count_77 ?_
    have f20 : rg 0 24 x20 := rg_e e20 ((hH.at t_h0 (th_nz rfl)).2.2.2.2.2.2.2.2.1)
    exact W.iret (v := x20) hx hb hr (fun t ht hW => ⟨⟨x20, (gi, gr), rfl, ⟨hM, rfl, (hF.trans (by simp only [↓reduceIte, F_X11_count, eq_false (Int.not_lt.mpr z1), eq_false (Int.not_lt.mpr y1), eq_false (show ¬ p1.toInt = 0 by omega), eq_false (show ¬ p1.toInt = 1 by omega), eq_false (show ¬ p1.toInt = 2 by omega), eq_false (show ¬ p1.toInt = 3 by omega), eq_true w1, ← e20]))⟩, th_Ht ht hH⟩, hS.F ht⟩) hS.2.2 dX11_count_80
  · refine lv_tableIn (tgt := 81) hx hb dX11_count_1 (by omega) (by omega) (by rw [w1]; rfl) (th_eqI rfl) ?_
    have f21 : rg 5 5 p1 := ⟨by omega, by omega⟩
    refine lv_aload_n hx hb dX11_count_81 rfl (lv_at hl 0 rfl) ?_
    obtain ⟨q22, r22, t22⟩ : ∃ q, gr h0 0 = some q ∧ τ q = 1 := (hH.at t_h0 (th_nz rfl)).2.1
    refine th_get (ci := 10) (v := .ref q22) (T := TX11) (C := RX11) (N := 10) hx hb hts (fun w h => List.mem_cons_of_mem _ (List.mem_append_left _ (List.mem_append_left _ (List.mem_append_left _ (List.mem_append_left _ (List.mem_append_right _ h)))))) hown hK hH t_h0 (th_nz rfl) rfl rfl 0 (th_ltN rfl) (hts (.fieldLink RX11 10 "BayMoorings" "bay" "LBayMoorings$Bay;") (List.mem_cons_of_mem _ (List.mem_append_left _ (List.mem_append_left _ (List.mem_append_left _ (List.mem_append_left _ (List.mem_append_left _ (List.mem_append_left _ (List.mem_of_getElem? (i := 0) rfl))))))))) (fun _ h9 => h9) (th_fR r22 rfl) dX11_count_82 ?_
    have hA23 := th_Asub (τ := τ) hS
    refine va_calli (va_runV (As := []) (rest := []) ⟨hx, hb, hml, hown, hts⟩ (k_X0_partedChains l D cA Z τ gi gr _ q22 t22) (cwV 0 hts gX11_count_X0_partedChains rfl rfl rfl hd_X0_partedChains__0 ⟨Nat.le_of_ble_eq_true rfl, Nat.le_of_ble_eq_true rfl⟩) ⟨th_blind, th_recv hK hH t22 (ci := 0) (th_nz rfl) rfl rfl, (th_pre hH hK hN hZ hS hA23)⟩ rfl rfl hl.1 rfl (lv_room (Nat.le_of_ble_eq_true rfl)) dX11_count_85 ⟨Nat.le_of_ble_eq_true rfl, Nat.le_of_ble_eq_true rfl⟩) hS (fun q _ h => hA23 q h) hA23 (fun x24 u t H locs ht hvm hw24 hB hz1 hk1 hS => ?_)
    try dsimp only at hw24 hB
    rw [ht] at hB
    have hH := hB
    exact W.iret (v := x24) hx hb hr (fun t ht hW => ⟨⟨x24, (gi, gr), rfl, ⟨hM, rfl, (hF.trans (by simp only [↓reduceIte, F_X11_count, eq_false (Int.not_lt.mpr z1), eq_false (Int.not_lt.mpr y1), eq_false (show ¬ p1.toInt = 0 by omega), eq_false (show ¬ p1.toInt = 1 by omega), eq_false (show ¬ p1.toInt = 2 by omega), eq_false (show ¬ p1.toInt = 3 by omega), eq_false (show ¬ p1.toInt = 4 by omega), eq_true w1, r22, Option.getD_some, hw24]))⟩, th_Ht ht hH⟩, hS.F ht⟩) hS.2.2 dX11_count_88
  · refine lv_tableIn (tgt := 89) hx hb dX11_count_1 (by omega) (by omega) (by rw [w1]; rfl) (th_eqI rfl) ?_
    have f25 : rg 6 6 p1 := ⟨by omega, by omega⟩
    refine lv_aload_n hx hb dX11_count_89 rfl (lv_at hl 0 rfl) ?_
    obtain ⟨q26, r26, t26⟩ : ∃ q, gr h0 0 = some q ∧ τ q = 1 := (hH.at t_h0 (th_nz rfl)).2.1
    refine th_get (ci := 10) (v := .ref q26) (T := TX11) (C := RX11) (N := 10) hx hb hts (fun w h => List.mem_cons_of_mem _ (List.mem_append_left _ (List.mem_append_left _ (List.mem_append_left _ (List.mem_append_left _ (List.mem_append_right _ h)))))) hown hK hH t_h0 (th_nz rfl) rfl rfl 0 (th_ltN rfl) (hts (.fieldLink RX11 10 "BayMoorings" "bay" "LBayMoorings$Bay;") (List.mem_cons_of_mem _ (List.mem_append_left _ (List.mem_append_left _ (List.mem_append_left _ (List.mem_append_left _ (List.mem_append_left _ (List.mem_append_left _ (List.mem_of_getElem? (i := 0) rfl))))))))) (fun _ h9 => h9) (th_fR r26 rfl) dX11_count_90 ?_
    obtain ⟨x27, e27⟩ : ∃ y : Int32, y = gi q26 7 := ⟨_, rfl⟩
    refine th_get (ci := 0) (v := .int x27) (T := TX0) (C := RX0) (N := 9) hx hb hts (fun w h => List.mem_cons_of_mem _ (List.mem_append_left _ (List.mem_append_left _ (List.mem_append_left _ (List.mem_append_right _ h))))) hown hK hH t26 (th_nz rfl) rfl rfl 7 (th_ltN rfl) (hts (.fieldLink RX11 112 "BayMoorings$Bay" "windBits" "I") (List.mem_cons_of_mem _ (List.mem_append_left _ (List.mem_append_left _ (List.mem_append_left _ (List.mem_append_left _ (List.mem_append_left _ (List.mem_append_left _ (List.mem_of_getElem? (i := 6) rfl))))))))) (fun _ h9 => h9) (th_fI e27 rfl) dX11_count_93 ?_
    have hA28 := th_Asub (τ := τ) hS
    refine va_calli (va_runS (As := [.int x27]) (rest := []) ⟨hx, hb, hml, hown, hts⟩ (k_J6_bitCount_0f7a4 l D cA Z τ gi gr _ x27) (va_cwS 1 hts gX11_count_J6_bitCount_0f7a4 rfl rfl rfl (by decide +kernel) ⟨Nat.le_of_ble_eq_true rfl, Nat.le_of_ble_eq_true rfl⟩) ⟨th_blind, (th_pre hH hK hN hZ hS hA28)⟩ rfl rfl hl.1 rfl (lv_room (Nat.le_of_ble_eq_true rfl)) dX11_count_96 ⟨Nat.le_of_ble_eq_true rfl, Nat.le_of_ble_eq_true rfl⟩) hS (fun q _ h => hA28 q h) hA28 (fun x29 u t H locs ht hvm hw29 hB hz1 hk1 hS => ?_)
    try dsimp only at hw29 hB
    rw [ht] at hB
    have hH := hB
    exact W.iret (v := x29) hx hb hr (fun t ht hW => ⟨⟨x29, (gi, gr), rfl, ⟨hM, rfl, (hF.trans (by simp only [↓reduceIte, F_X11_count, eq_false (Int.not_lt.mpr z1), eq_false (Int.not_lt.mpr y1), eq_false (show ¬ p1.toInt = 0 by omega), eq_false (show ¬ p1.toInt = 1 by omega), eq_false (show ¬ p1.toInt = 2 by omega), eq_false (show ¬ p1.toInt = 3 by omega), eq_false (show ¬ p1.toInt = 4 by omega), eq_false (show ¬ p1.toInt = 5 by omega), eq_true w1, r26, Option.getD_some, ← e27, hw29]))⟩, th_Ht ht hH⟩, hS.F ht⟩) hS.2.2 dX11_count_99
