noncomputable def f_X11_moor_28 (τ : th_t) (Z : th_Zt) (gi : th_i) (gr : th_r) (h0 : Nat) (p1 : Int32) (p2 : Int32) (gi_28 : th_i) : Int32 × th_i :=
  let u4 : Int32 × th_i := F_X11_finding τ Z gi_28 gr h0 1
  let x4 : Int32 := u4.1
  let gi4 : th_i := u4.2
  (x4, gi4)
noncomputable def f_X11_moor_64 (τ : th_t) (Z : th_Zt) (gi : th_i) (gr : th_r) (h0 : Nat) (p1 : Int32) (p2 : Int32) (gi_64 : th_i) : Int32 × th_i :=
  let u2 : Int32 × th_i := F_X11_finding τ Z gi_64 gr h0 3
  let x2 : Int32 := u2.1
  let gi2 : th_i := u2.2
  (x2, gi2)
noncomputable def F_X11_moor (τ : th_t) (Z : th_Zt) (gi : th_i) (gr : th_r) (h0 : Nat) (p1 : Int32) (p2 : Int32) : Int32 × th_i :=
  let q5 : Nat := (gr h0 0).getD 0
  let r7 : Option Nat := F_X0_boatAt τ Z gi gr q5 p1
  let r10 : Option Nat := F_X0_buoyAt τ Z gi gr q5 p2
  Option.elim r7 (
    f_X11_moor_28 τ Z gi gr h0 p1 p2 gi) (fun q11 =>
    Option.elim r10 (
      f_X11_moor_28 τ Z gi gr h0 p1 p2 gi) (fun q12 =>
      let q14 : Nat := (gr q5 4).getD 0
      let x16 : Int32 := F_X1_buoyOf τ Z gi gr q14 p1
      if x16 = ((-1) : Int32) then (
        let x22 : Int32 := F_X1_boatOf τ Z gi gr q14 p2
        if x22 = ((-1) : Int32) then (
          let x29 : Int32 := F_X0_mayLie τ Z gi gr q5 q11 q12 q14
          if x29 = (0 : Int32) then (
            let u44 : Int32 × th_i := F_X11_finding τ Z gi gr h0 2
            let x44 : Int32 := u44.1
            let gi44 : th_i := u44.2
            (x44, gi44)) else (
            let gi35 : th_i := F_X1_put τ Z gi gr q14 p1 p2
            let q36 : Nat := (gr h0 1).getD 0
            let x39 : Int32 := F_X10_placeOf τ Z gi35 gr q36 p1
            let gi41 : th_i := F_X10_drop τ Z gi35 gr q36 x39
            (1, gi41))) else (
          f_X11_moor_64 τ Z gi gr h0 p1 p2 gi)) else (
        f_X11_moor_64 τ Z gi gr h0 p1 p2 gi)))
set_option maxHeartbeats 8000000 in
set_option maxRecDepth 100000 in
theorem k_X11_moor (l : Launch) (D : va_G) (cA : Nat → ClassId) (Z : th_Zt) (τ : th_t) (gi : th_i) (gr : th_r) (sz : Nat) (h0 : Nat) (t_h0 : τ h0 = 11) (p1 : Int32) (p2 : Int32) : Met l yX11_moor wsX11_moor ({ frames := 4, cells := 0, slots := 0, locals := 123 }) (va_Pc [.ref h0, .int p1, .int p2] (th_Pre D cA Z τ gi gr sz)) (va_Qi (fun (r : Int32) (u : th_i × th_r) => th_Mod [1002, 2400, 2500, 3500, 3600] τ gi gr u.1 u.2 ∧ u.2 = gr ∧ (F_X11_moor τ Z gi gr h0 p1 p2 = (r, u.1))) (fun (u : th_i × th_r) t => th_H D cA τ u.1 u.2 t.heap) (th_A τ sz)) 0 0 (th_A τ sz) := by
  refine Met.ofW (cc := cX11_moor) (maxL := 5) (ret := (some .int)) (by decide) rfl ?_
  intro p e s m args below meth c s₁ B hml hv
  obtain ⟨rfl, hsz, hH, hK, hN, hZ⟩ := hv
  have hx := B.exec
  have hb := B.bytes
  have hr := B.returns
  have hts := atoms_spec (ws := wsX11_moor) B.pre
  have hown : s.vm.findClass RX11 = some m.cls := findClass_of_methodNamed B.named
  have hlocks := B.notSynchronized
  subst hsz
  have hM : th_Mod [1002, 2400, 2500, 3500, 3600] τ gi gr gi gr := th_Mod.rf
  have J64 : ∀ (gi_64 : th_i) (H : Heap) (locs : List Loc) (ls : Array Slot), th_H D cA τ gi_64 gr H → va_S (th_A τ s.heap.size) s.heap H locs → th_Mod [1002, 2400, 2500, 3500, 3600] τ gi gr gi_64 gr → lv_has ls 5 [(0, .ref h0)] → F_X11_moor τ Z gi gr h0 p1 p2 = f_X11_moor_64 τ Z gi gr h0 p1 p2 gi_64 → W p l e (headSpec wsX11_moor ({ frames := 4, cells := 0, slots := 0, locals := 123 })).room s m [.ref h0, .int p1, .int p2].toArray below meth c H locs 0 0 (MQ below (va_Qi (fun (r : Int32) (u : th_i × th_r) => th_Mod [1002, 2400, 2500, 3500, 3600] τ gi gr u.1 u.2 ∧ u.2 = gr ∧ (F_X11_moor τ Z gi gr h0 p1 p2 = (r, u.1))) (fun (u : th_i × th_r) t => th_H D cA τ u.1 u.2 t.heap) (th_A τ s.heap.size)) [.ref h0, .int p1, .int p2].toArray s 0 0 (th_A τ s.heap.size)) (F0 m 64 ls []) := by
    intro gi_64 H locs ls hH hS hM hl hF
    refine lv_aload_n hx hb dX11_moor_64 rfl (lv_at hl 0 rfl) ?_
    refine lv_iconst (v := 3) hx hb dX11_moor_65 ic_3 ?_
    have hA1 := th_Asub (τ := τ) hS
    refine va_calli (va_runV (As := [.int 3]) (rest := []) ⟨hx, hb, hml, hown, hts⟩ (k_X11_finding l D cA Z τ gi_64 gr _ h0 t_h0 3) (cwV 1 hts gX11_moor_X11_finding rfl rfl rfl hd_X11_finding__1 ⟨Nat.le_of_ble_eq_true rfl, Nat.le_of_ble_eq_true rfl⟩) ⟨th_blind, tr_11 hK hH t_h0, (th_pre hH hK hN hZ hS hA1)⟩ rfl rfl hl.1 rfl (lv_room (Nat.le_of_ble_eq_true rfl)) dX11_moor_66 ⟨Nat.le_of_ble_eq_true rfl, Nat.le_of_ble_eq_true rfl⟩) hS (fun q _ h => hA1 q h) hA1 (fun x2 u t H locs ht hvm hw2 hB hz1 hk1 hS => ?_)
    try dsimp only at hw2 hB
    rw [ht] at hB
    have hH := hB
    obtain ⟨gi2, gr2⟩ := u
    try dsimp only at hw2 hH
    obtain rfl : gr = gr2 := (hw2.2.1).symm
    have hM := hM.tr hw2.1 (fun _ h => h) (th_sub rfl)
    exact W.iret (v := x2) hx hb hr (fun t ht hW => ⟨⟨x2, (gi2, gr), rfl, ⟨hM, rfl, (hF.trans (by simp only [f_X11_moor_64, hw2.2.2.1]))⟩, th_Ht ht hH⟩, hS.F ht⟩) hS.2.2 dX11_moor_69
  have J28 : ∀ (gi_28 : th_i) (H : Heap) (locs : List Loc) (ls : Array Slot), th_H D cA τ gi_28 gr H → va_S (th_A τ s.heap.size) s.heap H locs → th_Mod [1002, 2400, 2500, 3500, 3600] τ gi gr gi_28 gr → lv_has ls 5 [(0, .ref h0)] → F_X11_moor τ Z gi gr h0 p1 p2 = f_X11_moor_28 τ Z gi gr h0 p1 p2 gi_28 → W p l e (headSpec wsX11_moor ({ frames := 4, cells := 0, slots := 0, locals := 123 })).room s m [.ref h0, .int p1, .int p2].toArray below meth c H locs 0 0 (MQ below (va_Qi (fun (r : Int32) (u : th_i × th_r) => th_Mod [1002, 2400, 2500, 3500, 3600] τ gi gr u.1 u.2 ∧ u.2 = gr ∧ (F_X11_moor τ Z gi gr h0 p1 p2 = (r, u.1))) (fun (u : th_i × th_r) t => th_H D cA τ u.1 u.2 t.heap) (th_A τ s.heap.size)) [.ref h0, .int p1, .int p2].toArray s 0 0 (th_A τ s.heap.size)) (F0 m 28 ls []) := by
    intro gi_28 H locs ls hH hS hM hl hF
    refine lv_aload_n hx hb dX11_moor_28 rfl (lv_at hl 0 rfl) ?_
    refine lv_iconst (v := 1) hx hb dX11_moor_29 ic_1 ?_
    have hA3 := th_Asub (τ := τ) hS
    refine va_calli (va_runV (As := [.int 1]) (rest := []) ⟨hx, hb, hml, hown, hts⟩ (k_X11_finding l D cA Z τ gi_28 gr _ h0 t_h0 1) (cwV 1 hts gX11_moor_X11_finding rfl rfl rfl hd_X11_finding__1 ⟨Nat.le_of_ble_eq_true rfl, Nat.le_of_ble_eq_true rfl⟩) ⟨th_blind, tr_11 hK hH t_h0, (th_pre hH hK hN hZ hS hA3)⟩ rfl rfl hl.1 rfl (lv_room (Nat.le_of_ble_eq_true rfl)) dX11_moor_30 ⟨Nat.le_of_ble_eq_true rfl, Nat.le_of_ble_eq_true rfl⟩) hS (fun q _ h => hA3 q h) hA3 (fun x4 u t H locs ht hvm hw4 hB hz1 hk1 hS => ?_)
    try dsimp only at hw4 hB
    rw [ht] at hB
    have hH := hB
    obtain ⟨gi4, gr4⟩ := u
    try dsimp only at hw4 hH
    obtain rfl : gr = gr4 := (hw4.2.1).symm
    have hM := hM.tr hw4.1 (fun _ h => h) (th_sub rfl)
    exact W.iret (v := x4) hx hb hr (fun t ht hW => ⟨⟨x4, (gi4, gr), rfl, ⟨hM, rfl, (hF.trans (by simp only [f_X11_moor_28, hw4.2.2.1]))⟩, th_Ht ht hH⟩, hS.F ht⟩) hS.2.2 dX11_moor_33
  have hS : va_S (th_A τ s.heap.size) s.heap s.heap [] := va_S.rf
  have hl := lv_entry ([.ref h0, .int p1, .int p2]) (n := 5) (Nat.le_of_ble_eq_true rfl)
  rw [lg_entry_eq]
  generalize (lg_sl ([.ref h0, .int p1, .int p2]) ++ List.replicate (5 - (lg_sl ([.ref h0, .int p1, .int p2])).length) Slot.unset).toArray = ls at hl ⊢
  have hl : lv_has ls 5 [(0, .ref h0), (1, .int p1), (2, .int p2)] := hl
  have hF : F_X11_moor τ Z gi gr h0 p1 p2 = F_X11_moor τ Z gi gr h0 p1 p2 := rfl
  refine lv_aload_n hx hb dX11_moor_0 rfl (lv_at hl 0 rfl) ?_
  obtain ⟨q5, r5, t5⟩ : ∃ q, gr h0 0 = some q ∧ τ q = 1 := (thI_11 hH t_h0).1
  refine th_get (ci := 10) (v := .ref q5) (T := TX11) (C := RX11) (N := 10) hx hb hts (fun w h => List.mem_cons_of_mem _ (List.mem_append_left _ (List.mem_append_left _ (List.mem_append_left _ (List.mem_append_left _ (List.mem_append_left _ (List.mem_append_left _ (List.mem_append_left _ (List.mem_append_right _ h))))))))) hown hK hH t_h0 (th_nz rfl) (thE_11 _ _ _) rfl 0 (th_ltN rfl) (hts (.fieldLink RX11 10 "BayMoorings" "bay" "LBayMoorings$Bay;") (List.mem_cons_of_mem _ (List.mem_append_left _ (List.mem_append_left _ (List.mem_append_left _ (List.mem_append_left _ (List.mem_append_left _ (List.mem_append_left _ (List.mem_append_left _ (List.mem_append_left _ (List.mem_append_left _ (List.mem_of_getElem? (i := 0) rfl)))))))))))) (fun _ h9 => h9) (th_fR r5 rfl) dX11_moor_1 ?_
  refine lv_iload_n hx hb dX11_moor_4 rfl (lv_at hl 1 rfl) ?_
  have hA6 := th_Asub (τ := τ) hS
  refine va_callq (va_runV (As := [.int p1]) (rest := []) ⟨hx, hb, hml, hown, hts⟩ (k_X0_boatAt l D cA Z τ gi gr _ q5 t5 p1) (cwV 1 hts gX11_moor_X0_boatAt rfl rfl rfl hd_X0_boatAt__1 ⟨Nat.le_of_ble_eq_true rfl, Nat.le_of_ble_eq_true rfl⟩) ⟨th_blind, tr_1 hK hH t5, (th_pre hH hK hN hZ hS hA6)⟩ rfl rfl hl.1 rfl (lv_room (Nat.le_of_ble_eq_true rfl)) dX11_moor_5 ⟨Nat.le_of_ble_eq_true rfl, Nat.le_of_ble_eq_true rfl⟩) hS (fun q _ h => hA6 q h) hA6 (fun r7 u t H locs ht hvm hw7 hB hz1 hk1 hS => ?_)
  try dsimp only at hw7 hB
  rw [ht] at hB
  have hH := hB
  refine th_astoreq_n (i := 3) (lv' := [(3, va_rf r7), (0, .ref h0), (1, .int p1), (2, .int p2)]) hx hb dX11_moor_8 rfl hl (th_ltN rfl) rfl (fun ls hl => ?_)
  refine lv_aload_n hx hb dX11_moor_9 rfl (lv_at hl 1 rfl) ?_
  refine th_get (ci := 10) (v := .ref q5) (T := TX11) (C := RX11) (N := 10) hx hb hts (fun w h => List.mem_cons_of_mem _ (List.mem_append_left _ (List.mem_append_left _ (List.mem_append_left _ (List.mem_append_left _ (List.mem_append_left _ (List.mem_append_left _ (List.mem_append_left _ (List.mem_append_right _ h))))))))) hown hK hH t_h0 (th_nz rfl) (thE_11 _ _ _) rfl 0 (th_ltN rfl) (hts (.fieldLink RX11 10 "BayMoorings" "bay" "LBayMoorings$Bay;") (List.mem_cons_of_mem _ (List.mem_append_left _ (List.mem_append_left _ (List.mem_append_left _ (List.mem_append_left _ (List.mem_append_left _ (List.mem_append_left _ (List.mem_append_left _ (List.mem_append_left _ (List.mem_append_left _ (List.mem_of_getElem? (i := 0) rfl)))))))))))) (fun _ h9 => h9) (th_fR r5 rfl) dX11_moor_10 ?_
  refine lv_iload_n hx hb dX11_moor_13 rfl (lv_at hl 3 rfl) ?_
  have hA9 := th_Asub (τ := τ) hS
  refine va_callq (va_runV (As := [.int p2]) (rest := []) ⟨hx, hb, hml, hown, hts⟩ (k_X0_buoyAt l D cA Z τ gi gr _ q5 t5 p2) (cwV 1 hts gX11_moor_X0_buoyAt rfl rfl rfl hd_X0_buoyAt__1 ⟨Nat.le_of_ble_eq_true rfl, Nat.le_of_ble_eq_true rfl⟩) ⟨th_blind, tr_1 hK hH t5, (th_pre hH hK hN hZ hS hA9)⟩ rfl rfl hl.1 rfl (lv_room (Nat.le_of_ble_eq_true rfl)) dX11_moor_14 ⟨Nat.le_of_ble_eq_true rfl, Nat.le_of_ble_eq_true rfl⟩) hS (fun q _ h => hA9 q h) hA9 (fun r10 u t H locs ht hvm hw10 hB hz1 hk1 hS => ?_)
  try dsimp only at hw10 hB
  rw [ht] at hB
  have hH := hB
  refine th_astoreq (i := 4) (lv' := [(4, va_rf r10), (3, va_rf r7), (0, .ref h0), (1, .int p1), (2, .int p2)]) hx hb dX11_moor_17 hl (th_ltN rfl) (by simp [th_cat]) (fun ls hl => ?_)
  refine th_aloadq_n hx hb dX11_moor_19 rfl (lv_at hl 1 rfl) ?_
  refine th_ifnull (tgt := 28) hx hb dX11_moor_20 (th_eqI rfl) (fun z11 => ?_) (fun q11 z11 => ?_)
  · skip
    subst z11
    have hl : lv_has ls 5 [(4, va_rf r10), (3, .null), (0, .ref h0), (1, .int p1), (2, .int p2)] := hl
    exact J28 gi _ _ _ hH hS hM (lv_sub hl [2] rfl) (hF.trans (by simp only [F_X11_moor, r5, Option.getD_some, hw7.2, hw10.2, Option.elim_none]))
  · skip
    subst z11
    have t11 := hw7.1 q11 rfl
    have hl : lv_has ls 5 [(4, va_rf r10), (3, .ref q11), (0, .ref h0), (1, .int p1), (2, .int p2)] := hl
    refine th_aloadq hx hb dX11_moor_23 (lv_at hl 0 rfl) ?_
    refine th_ifnonnull (tgt := 34) hx hb dX11_moor_25 (th_eqI rfl) (fun q12 z12 => ?_) (fun z12 => ?_)
    · skip
      subst z12
      have t12 := hw10.1 q12 rfl
      have hl : lv_has ls 5 [(4, .ref q12), (3, .ref q11), (0, .ref h0), (1, .int p1), (2, .int p2)] := hl
      refine lv_aload_n hx hb dX11_moor_34 rfl (lv_at hl 2 rfl) ?_
      refine th_get (ci := 10) (v := .ref q5) (T := TX11) (C := RX11) (N := 10) hx hb hts (fun w h => List.mem_cons_of_mem _ (List.mem_append_left _ (List.mem_append_left _ (List.mem_append_left _ (List.mem_append_left _ (List.mem_append_left _ (List.mem_append_left _ (List.mem_append_left _ (List.mem_append_right _ h))))))))) hown hK hH t_h0 (th_nz rfl) (thE_11 _ _ _) rfl 0 (th_ltN rfl) (hts (.fieldLink RX11 10 "BayMoorings" "bay" "LBayMoorings$Bay;") (List.mem_cons_of_mem _ (List.mem_append_left _ (List.mem_append_left _ (List.mem_append_left _ (List.mem_append_left _ (List.mem_append_left _ (List.mem_append_left _ (List.mem_append_left _ (List.mem_append_left _ (List.mem_append_left _ (List.mem_of_getElem? (i := 0) rfl)))))))))))) (fun _ h9 => h9) (th_fR r5 rfl) dX11_moor_35 ?_
      obtain ⟨q14, r14, t14⟩ : ∃ q, gr q5 4 = some q ∧ τ q = 2 := (thI_1 hH t5).2.2.2.2.1
      refine th_get (ci := 0) (v := .ref q14) (T := TX0) (C := RX0) (N := 9) hx hb hts (fun w h => List.mem_cons_of_mem _ (List.mem_append_left _ (List.mem_append_left _ (List.mem_append_left _ (List.mem_append_left _ (List.mem_append_left _ (List.mem_append_left _ (List.mem_append_right _ h)))))))) hown hK hH t5 (th_nz rfl) (thE_1 _ _ _) rfl 4 (th_ltN rfl) (hts (.fieldLink RX11 125 "BayMoorings$Bay" "berths" "LBayMoorings$Berths;") (List.mem_cons_of_mem _ (List.mem_append_left _ (List.mem_append_left _ (List.mem_append_left _ (List.mem_append_left _ (List.mem_append_left _ (List.mem_append_left _ (List.mem_append_left _ (List.mem_append_left _ (List.mem_append_left _ (List.mem_of_getElem? (i := 1) rfl)))))))))))) (fun _ h9 => h9) (th_fR r14 rfl) dX11_moor_38 ?_
      refine lv_iload_n hx hb dX11_moor_41 rfl (lv_at hl 3 rfl) ?_
      have hA15 := th_Asub (τ := τ) hS
      refine va_calli (va_runV (As := [.int p1]) (rest := []) ⟨hx, hb, hml, hown, hts⟩ (k_X1_buoyOf l D cA Z τ gi gr _ q14 t14 p1) (cwV 1 hts gX11_moor_X1_buoyOf rfl rfl rfl hd_X1_buoyOf__1 ⟨Nat.le_of_ble_eq_true rfl, Nat.le_of_ble_eq_true rfl⟩) ⟨th_blind, tr_2 hK hH t14, (th_pre hH hK hN hZ hS hA15)⟩ rfl rfl hl.1 rfl (lv_room (Nat.le_of_ble_eq_true rfl)) dX11_moor_42 ⟨Nat.le_of_ble_eq_true rfl, Nat.le_of_ble_eq_true rfl⟩) hS (fun q _ h => hA15 q h) hA15 (fun x16 u t H locs ht hvm hw16 hB hz1 hk1 hS => ?_)
      try dsimp only at hw16 hB
      rw [ht] at hB
      have hH := hB
      refine lv_iconst (v := (-1)) hx hb dX11_moor_45 ic_m1 ?_
      refine lv_icmp_ne (tgt := 64) hx hb dX11_moor_46 (th_eqI rfl) (fun c17 => ?_) (fun c17 => ?_)
      · skip
        exact J64 gi _ _ _ hH hS hM (lv_sub hl [2] rfl) (hF.trans (by simp only [↓reduceIte, F_X11_moor, r5, Option.getD_some, hw7.2, hw10.2, Option.elim_some, r14, hw16, eq_false c17]))
      · skip
        have f18 : rg (-1) (-1) x16 := rg_w (rg_eq (rg_any x16) rgc_m1 c17).1 (th_leI rfl) (th_leI rfl)
        refine lv_aload_n hx hb dX11_moor_49 rfl (lv_at hl 2 rfl) ?_
        refine th_get (ci := 10) (v := .ref q5) (T := TX11) (C := RX11) (N := 10) hx hb hts (fun w h => List.mem_cons_of_mem _ (List.mem_append_left _ (List.mem_append_left _ (List.mem_append_left _ (List.mem_append_left _ (List.mem_append_left _ (List.mem_append_left _ (List.mem_append_left _ (List.mem_append_right _ h))))))))) hown hK hH t_h0 (th_nz rfl) (thE_11 _ _ _) rfl 0 (th_ltN rfl) (hts (.fieldLink RX11 10 "BayMoorings" "bay" "LBayMoorings$Bay;") (List.mem_cons_of_mem _ (List.mem_append_left _ (List.mem_append_left _ (List.mem_append_left _ (List.mem_append_left _ (List.mem_append_left _ (List.mem_append_left _ (List.mem_append_left _ (List.mem_append_left _ (List.mem_append_left _ (List.mem_of_getElem? (i := 0) rfl)))))))))))) (fun _ h9 => h9) (th_fR r5 rfl) dX11_moor_50 ?_
        refine th_get (ci := 0) (v := .ref q14) (T := TX0) (C := RX0) (N := 9) hx hb hts (fun w h => List.mem_cons_of_mem _ (List.mem_append_left _ (List.mem_append_left _ (List.mem_append_left _ (List.mem_append_left _ (List.mem_append_left _ (List.mem_append_left _ (List.mem_append_right _ h)))))))) hown hK hH t5 (th_nz rfl) (thE_1 _ _ _) rfl 4 (th_ltN rfl) (hts (.fieldLink RX11 125 "BayMoorings$Bay" "berths" "LBayMoorings$Berths;") (List.mem_cons_of_mem _ (List.mem_append_left _ (List.mem_append_left _ (List.mem_append_left _ (List.mem_append_left _ (List.mem_append_left _ (List.mem_append_left _ (List.mem_append_left _ (List.mem_append_left _ (List.mem_append_left _ (List.mem_of_getElem? (i := 1) rfl)))))))))))) (fun _ h9 => h9) (th_fR r14 rfl) dX11_moor_53 ?_
        refine lv_iload_n hx hb dX11_moor_56 rfl (lv_at hl 4 rfl) ?_
        have hA21 := th_Asub (τ := τ) hS
        refine va_calli (va_runV (As := [.int p2]) (rest := []) ⟨hx, hb, hml, hown, hts⟩ (k_X1_boatOf l D cA Z τ gi gr _ q14 t14 p2) (cwV 1 hts gX11_moor_X1_boatOf rfl rfl rfl hd_X1_boatOf__1 ⟨Nat.le_of_ble_eq_true rfl, Nat.le_of_ble_eq_true rfl⟩) ⟨th_blind, tr_2 hK hH t14, (th_pre hH hK hN hZ hS hA21)⟩ rfl rfl hl.1 rfl (lv_room (Nat.le_of_ble_eq_true rfl)) dX11_moor_57 ⟨Nat.le_of_ble_eq_true rfl, Nat.le_of_ble_eq_true rfl⟩) hS (fun q _ h => hA21 q h) hA21 (fun x22 u t H locs ht hvm hw22 hB hz1 hk1 hS => ?_)
        try dsimp only at hw22 hB
        rw [ht] at hB
        have hH := hB
        refine lv_iconst (v := (-1)) hx hb dX11_moor_60 ic_m1 ?_
        refine lv_icmp_eq (tgt := 70) hx hb dX11_moor_61 (th_eqI rfl) (fun c23 => ?_) (fun c23 => ?_)
        · skip
          have f24 : rg (-1) (-1) x22 := rg_w (rg_eq (rg_any x22) rgc_m1 c23).1 (th_leI rfl) (th_leI rfl)
          refine lv_aload_n hx hb dX11_moor_70 rfl (lv_at hl 2 rfl) ?_
          refine th_get (ci := 10) (v := .ref q5) (T := TX11) (C := RX11) (N := 10) hx hb hts (fun w h => List.mem_cons_of_mem _ (List.mem_append_left _ (List.mem_append_left _ (List.mem_append_left _ (List.mem_append_left _ (List.mem_append_left _ (List.mem_append_left _ (List.mem_append_left _ (List.mem_append_right _ h))))))))) hown hK hH t_h0 (th_nz rfl) (thE_11 _ _ _) rfl 0 (th_ltN rfl) (hts (.fieldLink RX11 10 "BayMoorings" "bay" "LBayMoorings$Bay;") (List.mem_cons_of_mem _ (List.mem_append_left _ (List.mem_append_left _ (List.mem_append_left _ (List.mem_append_left _ (List.mem_append_left _ (List.mem_append_left _ (List.mem_append_left _ (List.mem_append_left _ (List.mem_append_left _ (List.mem_of_getElem? (i := 0) rfl)))))))))))) (fun _ h9 => h9) (th_fR r5 rfl) dX11_moor_71 ?_
          refine lv_aload_n hx hb dX11_moor_74 rfl (lv_at hl 1 rfl) ?_
          refine lv_aload hx hb dX11_moor_75 (lv_at hl 0 rfl) ?_
          refine lv_aload_n hx hb dX11_moor_77 rfl (lv_at hl 2 rfl) ?_
          refine th_get (ci := 10) (v := .ref q5) (T := TX11) (C := RX11) (N := 10) hx hb hts (fun w h => List.mem_cons_of_mem _ (List.mem_append_left _ (List.mem_append_left _ (List.mem_append_left _ (List.mem_append_left _ (List.mem_append_left _ (List.mem_append_left _ (List.mem_append_left _ (List.mem_append_right _ h))))))))) hown hK hH t_h0 (th_nz rfl) (thE_11 _ _ _) rfl 0 (th_ltN rfl) (hts (.fieldLink RX11 10 "BayMoorings" "bay" "LBayMoorings$Bay;") (List.mem_cons_of_mem _ (List.mem_append_left _ (List.mem_append_left _ (List.mem_append_left _ (List.mem_append_left _ (List.mem_append_left _ (List.mem_append_left _ (List.mem_append_left _ (List.mem_append_left _ (List.mem_append_left _ (List.mem_of_getElem? (i := 0) rfl)))))))))))) (fun _ h9 => h9) (th_fR r5 rfl) dX11_moor_78 ?_
          refine th_get (ci := 0) (v := .ref q14) (T := TX0) (C := RX0) (N := 9) hx hb hts (fun w h => List.mem_cons_of_mem _ (List.mem_append_left _ (List.mem_append_left _ (List.mem_append_left _ (List.mem_append_left _ (List.mem_append_left _ (List.mem_append_left _ (List.mem_append_right _ h)))))))) hown hK hH t5 (th_nz rfl) (thE_1 _ _ _) rfl 4 (th_ltN rfl) (hts (.fieldLink RX11 125 "BayMoorings$Bay" "berths" "LBayMoorings$Berths;") (List.mem_cons_of_mem _ (List.mem_append_left _ (List.mem_append_left _ (List.mem_append_left _ (List.mem_append_left _ (List.mem_append_left _ (List.mem_append_left _ (List.mem_append_left _ (List.mem_append_left _ (List.mem_append_left _ (List.mem_of_getElem? (i := 1) rfl)))))))))))) (fun _ h9 => h9) (th_fR r14 rfl) dX11_moor_81 ?_
          have hA28 := th_Asub (τ := τ) hS
          refine va_calli (va_runV (As := [.ref q11, .ref q12, .ref q14]) (rest := []) ⟨hx, hb, hml, hown, hts⟩ (k_X0_mayLie l D cA Z τ gi gr _ q5 t5 q11 t11 q12 t12 q14 t14) (cwV 3 hts gX11_moor_X0_mayLie rfl rfl rfl hd_X0_mayLie__3 ⟨Nat.le_of_ble_eq_true rfl, Nat.le_of_ble_eq_true rfl⟩) ⟨th_blind, tr_1 hK hH t5, (th_pre hH hK hN hZ hS hA28)⟩ rfl rfl hl.1 rfl (lv_room (Nat.le_of_ble_eq_true rfl)) dX11_moor_84 ⟨Nat.le_of_ble_eq_true rfl, Nat.le_of_ble_eq_true rfl⟩) hS (fun q _ h => hA28 q h) hA28 (fun x29 u t H locs ht hvm hw29 hB hz1 hk1 hS => ?_)
          try dsimp only at hw29 hB
          rw [ht] at hB
          have hH := hB
          refine lv_if_ne (tgt := 96) hx hb dX11_moor_87 (th_eqI rfl) (fun c30 => ?_) (fun c30 => ?_)
          · skip
            have f31 : rg 1 1 x29 := rg_w (rg_neL hw29.1 rgc_0 c30) (th_leI rfl) (th_leI rfl)
            refine lv_aload_n hx hb dX11_moor_96 rfl (lv_at hl 2 rfl) ?_
            refine th_get (ci := 10) (v := .ref q5) (T := TX11) (C := RX11) (N := 10) hx hb hts (fun w h => List.mem_cons_of_mem _ (List.mem_append_left _ (List.mem_append_left _ (List.mem_append_left _ (List.mem_append_left _ (List.mem_append_left _ (List.mem_append_left _ (List.mem_append_left _ (List.mem_append_right _ h))))))))) hown hK hH t_h0 (th_nz rfl) (thE_11 _ _ _) rfl 0 (th_ltN rfl) (hts (.fieldLink RX11 10 "BayMoorings" "bay" "LBayMoorings$Bay;") (List.mem_cons_of_mem _ (List.mem_append_left _ (List.mem_append_left _ (List.mem_append_left _ (List.mem_append_left _ (List.mem_append_left _ (List.mem_append_left _ (List.mem_append_left _ (List.mem_append_left _ (List.mem_append_left _ (List.mem_of_getElem? (i := 0) rfl)))))))))))) (fun _ h9 => h9) (th_fR r5 rfl) dX11_moor_97 ?_
            refine th_get (ci := 0) (v := .ref q14) (T := TX0) (C := RX0) (N := 9) hx hb hts (fun w h => List.mem_cons_of_mem _ (List.mem_append_left _ (List.mem_append_left _ (List.mem_append_left _ (List.mem_append_left _ (List.mem_append_left _ (List.mem_append_left _ (List.mem_append_right _ h)))))))) hown hK hH t5 (th_nz rfl) (thE_1 _ _ _) rfl 4 (th_ltN rfl) (hts (.fieldLink RX11 125 "BayMoorings$Bay" "berths" "LBayMoorings$Berths;") (List.mem_cons_of_mem _ (List.mem_append_left _ (List.mem_append_left _ (List.mem_append_left _ (List.mem_append_left _ (List.mem_append_left _ (List.mem_append_left _ (List.mem_append_left _ (List.mem_append_left _ (List.mem_append_left _ (List.mem_of_getElem? (i := 1) rfl)))))))))))) (fun _ h9 => h9) (th_fR r14 rfl) dX11_moor_100 ?_
            refine lv_iload_n hx hb dX11_moor_103 rfl (lv_at hl 3 rfl) ?_
            refine lv_iload_n hx hb dX11_moor_104 rfl (lv_at hl 4 rfl) ?_
            have hA34 := th_Asub (τ := τ) hS
            refine va_callv (va_runV (As := [.int p1, .int p2]) (rest := []) ⟨hx, hb, hml, hown, hts⟩ (k_X1_put l D cA Z τ gi gr _ q14 t14 p1 p2) (cwV 2 hts gX11_moor_X1_put rfl rfl rfl hd_X1_put__2 ⟨Nat.le_of_ble_eq_true rfl, Nat.le_of_ble_eq_true rfl⟩) ⟨th_blind, tr_2 hK hH t14, (th_pre hH hK hN hZ hS hA34)⟩ rfl rfl hl.1 rfl (lv_room (Nat.le_of_ble_eq_true rfl)) dX11_moor_105 ⟨Nat.le_of_ble_eq_true rfl, Nat.le_of_ble_eq_true rfl⟩) hS (fun q _ h => hA34 q h) hA34 (fun  u t H locs ht hvm hw35 hB hz1 hk1 hS => ?_)
            try dsimp only at hw35 hB
            rw [ht] at hB
            have hH := hB
            obtain ⟨gi35, gr35⟩ := u
            try dsimp only at hw35 hH
            obtain rfl : gr = gr35 := (hw35.2.1).symm
            have hM := hM.tr hw35.1 (fun _ h => h) (th_sub rfl)
            refine lv_aload_n hx hb dX11_moor_108 rfl (lv_at hl 2 rfl) ?_
            obtain ⟨q36, r36, t36⟩ : ∃ q, gr h0 1 = some q ∧ τ q = 10 := (thI_11 hH t_h0).2.1
            refine th_get (ci := 10) (v := .ref q36) (T := TX11) (C := RX11) (N := 10) hx hb hts (fun w h => List.mem_cons_of_mem _ (List.mem_append_left _ (List.mem_append_left _ (List.mem_append_left _ (List.mem_append_left _ (List.mem_append_left _ (List.mem_append_left _ (List.mem_append_left _ (List.mem_append_right _ h))))))))) hown hK hH t_h0 (th_nz rfl) (thE_11 _ _ _) rfl 1 (th_ltN rfl) (hts (.fieldLink RX11 21 "BayMoorings" "waiting" "LBayMoorings$WaitingList;") (List.mem_cons_of_mem _ (List.mem_append_left _ (List.mem_append_left _ (List.mem_append_left _ (List.mem_append_left _ (List.mem_append_left _ (List.mem_append_left _ (List.mem_append_left _ (List.mem_append_left _ (List.mem_append_left _ (List.mem_of_getElem? (i := 2) rfl)))))))))))) (fun _ h9 => h9) (th_fR r36 rfl) dX11_moor_109 ?_
            refine lv_aload_n hx hb dX11_moor_112 rfl (lv_at hl 2 rfl) ?_
            refine th_get (ci := 10) (v := .ref q36) (T := TX11) (C := RX11) (N := 10) hx hb hts (fun w h => List.mem_cons_of_mem _ (List.mem_append_left _ (List.mem_append_left _ (List.mem_append_left _ (List.mem_append_left _ (List.mem_append_left _ (List.mem_append_left _ (List.mem_append_left _ (List.mem_append_right _ h))))))))) hown hK hH t_h0 (th_nz rfl) (thE_11 _ _ _) rfl 1 (th_ltN rfl) (hts (.fieldLink RX11 21 "BayMoorings" "waiting" "LBayMoorings$WaitingList;") (List.mem_cons_of_mem _ (List.mem_append_left _ (List.mem_append_left _ (List.mem_append_left _ (List.mem_append_left _ (List.mem_append_left _ (List.mem_append_left _ (List.mem_append_left _ (List.mem_append_left _ (List.mem_append_left _ (List.mem_of_getElem? (i := 2) rfl)))))))))))) (fun _ h9 => h9) (th_fR r36 rfl) dX11_moor_113 ?_
            refine lv_iload_n hx hb dX11_moor_116 rfl (lv_at hl 3 rfl) ?_
            have hA38 := th_Asub (τ := τ) hS
            refine va_calli (va_runV (As := [.int p1]) (rest := [.ref q36]) ⟨hx, hb, hml, hown, hts⟩ (k_X10_placeOf l D cA Z τ gi35 gr _ q36 t36 p1) (cwV 1 hts gX11_moor_X10_placeOf rfl rfl rfl hd_X10_placeOf__1 ⟨Nat.le_of_ble_eq_true rfl, Nat.le_of_ble_eq_true rfl⟩) ⟨th_blind, tr_10 hK hH t36, (th_pre hH hK hN hZ hS hA38)⟩ rfl rfl hl.1 rfl (lv_room (Nat.le_of_ble_eq_true rfl)) dX11_moor_117 ⟨Nat.le_of_ble_eq_true rfl, Nat.le_of_ble_eq_true rfl⟩) hS (fun q _ h => hA38 q h) hA38 (fun x39 u t H locs ht hvm hw39 hB hz1 hk1 hS => ?_)
            try dsimp only at hw39 hB
            rw [ht] at hB
            have hH := hB
            have hA40 := th_Asub (τ := τ) hS
            refine va_callv (va_runV (As := [.int x39]) (rest := []) ⟨hx, hb, hml, hown, hts⟩ (k_X10_drop l D cA Z τ gi35 gr _ q36 t36 x39) (cwV 1 hts gX11_moor_X10_drop rfl rfl rfl hd_X10_drop__1 ⟨Nat.le_of_ble_eq_true rfl, Nat.le_of_ble_eq_true rfl⟩) ⟨th_blind, tr_10 hK hH t36, (th_pre hH hK hN hZ hS hA40)⟩ rfl rfl hl.1 rfl (lv_room (Nat.le_of_ble_eq_true rfl)) dX11_moor_120 ⟨Nat.le_of_ble_eq_true rfl, Nat.le_of_ble_eq_true rfl⟩) hS (fun q _ h => hA40 q h) hA40 (fun  u t H locs ht hvm hw41 hB hz1 hk1 hS => ?_)
            try dsimp only at hw41 hB
            rw [ht] at hB
            have hH := hB
            obtain ⟨gi41, gr41⟩ := u
            try dsimp only at hw41 hH
            obtain rfl : gr = gr41 := (hw41.2.1).symm
            have hM := hM.tr hw41.1 (fun _ h => h) (th_sub rfl)
            refine lv_iconst (v := 1) hx hb dX11_moor_123 ic_1 ?_
            exact W.iret (v := 1) hx hb hr (fun t ht hW => ⟨⟨1, (gi41, gr), rfl, ⟨hM, rfl, (hF.trans (by simp only [↓reduceIte, F_X11_moor, r5, Option.getD_some, hw7.2, hw10.2, Option.elim_some, r14, hw16, eq_true c17, hw22, eq_true c23, hw29.2, eq_false c30, hw35.2.2, r36, hw39, hw41.2.2]))⟩, th_Ht ht hH⟩, hS.F ht⟩) hS.2.2 dX11_moor_124
          · skip
            have f42 : rg 0 0 x29 := rg_w (rg_eq hw29.1 rgc_0 c30).1 (th_leI rfl) (th_leI rfl)
            refine lv_aload_n hx hb dX11_moor_90 rfl (lv_at hl 2 rfl) ?_
            refine lv_iconst (v := 2) hx hb dX11_moor_91 ic_2 ?_
            have hA43 := th_Asub (τ := τ) hS
            refine va_calli (va_runV (As := [.int 2]) (rest := []) ⟨hx, hb, hml, hown, hts⟩ (k_X11_finding l D cA Z τ gi gr _ h0 t_h0 2) (cwV 1 hts gX11_moor_X11_finding rfl rfl rfl hd_X11_finding__1 ⟨Nat.le_of_ble_eq_true rfl, Nat.le_of_ble_eq_true rfl⟩) ⟨th_blind, tr_11 hK hH t_h0, (th_pre hH hK hN hZ hS hA43)⟩ rfl rfl hl.1 rfl (lv_room (Nat.le_of_ble_eq_true rfl)) dX11_moor_92 ⟨Nat.le_of_ble_eq_true rfl, Nat.le_of_ble_eq_true rfl⟩) hS (fun q _ h => hA43 q h) hA43 (fun x44 u t H locs ht hvm hw44 hB hz1 hk1 hS => ?_)
            try dsimp only at hw44 hB
            rw [ht] at hB
            have hH := hB
            obtain ⟨gi44, gr44⟩ := u
            try dsimp only at hw44 hH
            obtain rfl : gr = gr44 := (hw44.2.1).symm
            have hM := hM.tr hw44.1 (fun _ h => h) (th_sub rfl)
            exact W.iret (v := x44) hx hb hr (fun t ht hW => ⟨⟨x44, (gi44, gr), rfl, ⟨hM, rfl, (hF.trans (by simp only [↓reduceIte, F_X11_moor, r5, Option.getD_some, hw7.2, hw10.2, Option.elim_some, r14, hw16, eq_true c17, hw22, eq_true c23, hw29.2, eq_true c30, hw44.2.2.1]))⟩, th_Ht ht hH⟩, hS.F ht⟩) hS.2.2 dX11_moor_95
        · skip
          exact J64 gi _ _ _ hH hS hM (lv_sub hl [2] rfl) (hF.trans (by simp only [↓reduceIte, F_X11_moor, r5, Option.getD_some, hw7.2, hw10.2, Option.elim_some, r14, hw16, eq_true c17, hw22, eq_false c23]))
    · skip
      subst z12
      have hl : lv_has ls 5 [(4, .null), (3, .ref q11), (0, .ref h0), (1, .int p1), (2, .int p2)] := hl
      exact J28 gi _ _ _ hH hS hM (lv_sub hl [2] rfl) (hF.trans (by simp only [F_X11_moor, r5, Option.getD_some, hw7.2, hw10.2, Option.elim_some, Option.elim_none]))

noncomputable def F_X11_leave (τ : th_t) (Z : th_Zt) (gi : th_i) (gr : th_r) (h0 : Nat) (p1 : Int32) : Int32 × th_i :=
  let q1 : Nat := (gr h0 0).getD 0
  let r3 : Option Nat := F_X0_boatAt τ Z gi gr q1 p1
  Option.elim r3 (
    let u18 : Int32 × th_i := F_X11_finding τ Z gi gr h0 1
    let x18 : Int32 := u18.1
    let gi18 : th_i := u18.2
    (x18, gi18)) (fun q4 =>
    let q6 : Nat := (gr q1 4).getD 0
    let x8 : Int32 := F_X1_buoyOf τ Z gi gr q6 p1
    if x8 = ((-1) : Int32) then (
      let u16 : Int32 × th_i := F_X11_finding τ Z gi gr h0 3
      let x16 : Int32 := u16.1
      let gi16 : th_i := u16.2
      (x16, gi16)) else (
      let gi13 : th_i := F_X1_lift τ Z gi gr q6 p1
      (x8, gi13)))
set_option maxHeartbeats 8000000 in
set_option maxRecDepth 100000 in
theorem k_X11_leave (l : Launch) (D : va_G) (cA : Nat → ClassId) (Z : th_Zt) (τ : th_t) (gi : th_i) (gr : th_r) (sz : Nat) (h0 : Nat) (t_h0 : τ h0 = 11) (p1 : Int32) : Met l yX11_leave wsX11_leave ({ frames := 3, cells := 0, slots := 0, locals := 65 }) (va_Pc [.ref h0, .int p1] (th_Pre D cA Z τ gi gr sz)) (va_Qi (fun (r : Int32) (u : th_i × th_r) => th_Mod [2400, 2500, 3600] τ gi gr u.1 u.2 ∧ u.2 = gr ∧ (F_X11_leave τ Z gi gr h0 p1 = (r, u.1))) (fun (u : th_i × th_r) t => th_H D cA τ u.1 u.2 t.heap) (th_A τ sz)) 0 0 (th_A τ sz) := by
  refine Met.ofW (cc := cX11_leave) (maxL := 3) (ret := (some .int)) (by decide) rfl ?_
  intro p e s m args below meth c s₁ B hml hv
  obtain ⟨rfl, hsz, hH, hK, hN, hZ⟩ := hv
  have hx := B.exec
  have hb := B.bytes
  have hr := B.returns
  have hts := atoms_spec (ws := wsX11_leave) B.pre
  have hown : s.vm.findClass RX11 = some m.cls := findClass_of_methodNamed B.named
  have hlocks := B.notSynchronized
  subst hsz
  have hM : th_Mod [2400, 2500, 3600] τ gi gr gi gr := th_Mod.rf
  have hS : va_S (th_A τ s.heap.size) s.heap s.heap [] := va_S.rf
  have hl := lv_entry ([.ref h0, .int p1]) (n := 3) (Nat.le_of_ble_eq_true rfl)
  rw [lg_entry_eq]
  generalize (lg_sl ([.ref h0, .int p1]) ++ List.replicate (3 - (lg_sl ([.ref h0, .int p1])).length) Slot.unset).toArray = ls at hl ⊢
  have hl : lv_has ls 3 [(0, .ref h0), (1, .int p1)] := hl
  have hF : F_X11_leave τ Z gi gr h0 p1 = F_X11_leave τ Z gi gr h0 p1 := rfl
  refine lv_aload_n hx hb dX11_leave_0 rfl (lv_at hl 0 rfl) ?_
  obtain ⟨q1, r1, t1⟩ : ∃ q, gr h0 0 = some q ∧ τ q = 1 := (thI_11 hH t_h0).1
  refine th_get (ci := 10) (v := .ref q1) (T := TX11) (C := RX11) (N := 10) hx hb hts (fun w h => List.mem_cons_of_mem _ (List.mem_append_left _ (List.mem_append_left _ (List.mem_append_right _ h)))) hown hK hH t_h0 (th_nz rfl) (thE_11 _ _ _) rfl 0 (th_ltN rfl) (hts (.fieldLink RX11 10 "BayMoorings" "bay" "LBayMoorings$Bay;") (List.mem_cons_of_mem _ (List.mem_append_left _ (List.mem_append_left _ (List.mem_append_left _ (List.mem_append_left _ (List.mem_of_getElem? (i := 0) rfl))))))) (fun _ h9 => h9) (th_fR r1 rfl) dX11_leave_1 ?_
  refine lv_iload_n hx hb dX11_leave_4 rfl (lv_at hl 1 rfl) ?_
  have hA2 := th_Asub (τ := τ) hS
  refine va_callq (va_runV (As := [.int p1]) (rest := []) ⟨hx, hb, hml, hown, hts⟩ (k_X0_boatAt l D cA Z τ gi gr _ q1 t1 p1) (cwV 1 hts gX11_leave_X0_boatAt rfl rfl rfl hd_X0_boatAt__1 ⟨Nat.le_of_ble_eq_true rfl, Nat.le_of_ble_eq_true rfl⟩) ⟨th_blind, tr_1 hK hH t1, (th_pre hH hK hN hZ hS hA2)⟩ rfl rfl hl.1 rfl (lv_room (Nat.le_of_ble_eq_true rfl)) dX11_leave_5 ⟨Nat.le_of_ble_eq_true rfl, Nat.le_of_ble_eq_true rfl⟩) hS (fun q _ h => hA2 q h) hA2 (fun r3 u t H locs ht hvm hw3 hB hz1 hk1 hS => ?_)
  try dsimp only at hw3 hB
  rw [ht] at hB
  have hH := hB
  refine th_ifnonnull (tgt := 17) hx hb dX11_leave_8 (th_eqI rfl) (fun q4 z4 => ?_) (fun z4 => ?_)
  · skip
    subst z4
    have t4 := hw3.1 q4 rfl
    refine lv_aload_n hx hb dX11_leave_17 rfl (lv_at hl 0 rfl) ?_
    refine th_get (ci := 10) (v := .ref q1) (T := TX11) (C := RX11) (N := 10) hx hb hts (fun w h => List.mem_cons_of_mem _ (List.mem_append_left _ (List.mem_append_left _ (List.mem_append_right _ h)))) hown hK hH t_h0 (th_nz rfl) (thE_11 _ _ _) rfl 0 (th_ltN rfl) (hts (.fieldLink RX11 10 "BayMoorings" "bay" "LBayMoorings$Bay;") (List.mem_cons_of_mem _ (List.mem_append_left _ (List.mem_append_left _ (List.mem_append_left _ (List.mem_append_left _ (List.mem_of_getElem? (i := 0) rfl))))))) (fun _ h9 => h9) (th_fR r1 rfl) dX11_leave_18 ?_
    obtain ⟨q6, r6, t6⟩ : ∃ q, gr q1 4 = some q ∧ τ q = 2 := (thI_1 hH t1).2.2.2.2.1
    refine th_get (ci := 0) (v := .ref q6) (T := TX0) (C := RX0) (N := 9) hx hb hts (fun w h => List.mem_cons_of_mem _ (List.mem_append_left _ (List.mem_append_right _ h))) hown hK hH t1 (th_nz rfl) (thE_1 _ _ _) rfl 4 (th_ltN rfl) (hts (.fieldLink RX11 125 "BayMoorings$Bay" "berths" "LBayMoorings$Berths;") (List.mem_cons_of_mem _ (List.mem_append_left _ (List.mem_append_left _ (List.mem_append_left _ (List.mem_append_left _ (List.mem_of_getElem? (i := 1) rfl))))))) (fun _ h9 => h9) (th_fR r6 rfl) dX11_leave_21 ?_
    refine lv_iload_n hx hb dX11_leave_24 rfl (lv_at hl 1 rfl) ?_
    have hA7 := th_Asub (τ := τ) hS
    refine va_calli (va_runV (As := [.int p1]) (rest := []) ⟨hx, hb, hml, hown, hts⟩ (k_X1_buoyOf l D cA Z τ gi gr _ q6 t6 p1) (cwV 1 hts gX11_leave_X1_buoyOf rfl rfl rfl hd_X1_buoyOf__1 ⟨Nat.le_of_ble_eq_true rfl, Nat.le_of_ble_eq_true rfl⟩) ⟨th_blind, tr_2 hK hH t6, (th_pre hH hK hN hZ hS hA7)⟩ rfl rfl hl.1 rfl (lv_room (Nat.le_of_ble_eq_true rfl)) dX11_leave_25 ⟨Nat.le_of_ble_eq_true rfl, Nat.le_of_ble_eq_true rfl⟩) hS (fun q _ h => hA7 q h) hA7 (fun x8 u t H locs ht hvm hw8 hB hz1 hk1 hS => ?_)
    try dsimp only at hw8 hB
    rw [ht] at hB
    have hH := hB
    refine lv_istore_n (i := 2) (lv' := [(2, .int x8), (0, .ref h0), (1, .int p1)]) hx hb dX11_leave_28 rfl hl (th_ltN rfl) rfl (fun ls hl => ?_)
    refine lv_iload_n hx hb dX11_leave_29 rfl (lv_at hl 0 rfl) ?_
    refine lv_iconst (v := (-1)) hx hb dX11_leave_30 ic_m1 ?_
    refine lv_icmp_ne (tgt := 40) hx hb dX11_leave_31 (th_eqI rfl) (fun c9 => ?_) (fun c9 => ?_)
    · skip
      refine lv_aload_n hx hb dX11_leave_40 rfl (lv_at hl 1 rfl) ?_
      refine th_get (ci := 10) (v := .ref q1) (T := TX11) (C := RX11) (N := 10) hx hb hts (fun w h => List.mem_cons_of_mem _ (List.mem_append_left _ (List.mem_append_left _ (List.mem_append_right _ h)))) hown hK hH t_h0 (th_nz rfl) (thE_11 _ _ _) rfl 0 (th_ltN rfl) (hts (.fieldLink RX11 10 "BayMoorings" "bay" "LBayMoorings$Bay;") (List.mem_cons_of_mem _ (List.mem_append_left _ (List.mem_append_left _ (List.mem_append_left _ (List.mem_append_left _ (List.mem_of_getElem? (i := 0) rfl))))))) (fun _ h9 => h9) (th_fR r1 rfl) dX11_leave_41 ?_
      refine th_get (ci := 0) (v := .ref q6) (T := TX0) (C := RX0) (N := 9) hx hb hts (fun w h => List.mem_cons_of_mem _ (List.mem_append_left _ (List.mem_append_right _ h))) hown hK hH t1 (th_nz rfl) (thE_1 _ _ _) rfl 4 (th_ltN rfl) (hts (.fieldLink RX11 125 "BayMoorings$Bay" "berths" "LBayMoorings$Berths;") (List.mem_cons_of_mem _ (List.mem_append_left _ (List.mem_append_left _ (List.mem_append_left _ (List.mem_append_left _ (List.mem_of_getElem? (i := 1) rfl))))))) (fun _ h9 => h9) (th_fR r6 rfl) dX11_leave_44 ?_
      refine lv_iload_n hx hb dX11_leave_47 rfl (lv_at hl 2 rfl) ?_
      have hA12 := th_Asub (τ := τ) hS
      refine va_callv (va_runV (As := [.int p1]) (rest := []) ⟨hx, hb, hml, hown, hts⟩ (k_X1_lift l D cA Z τ gi gr _ q6 t6 p1) (cwV 1 hts gX11_leave_X1_lift rfl rfl rfl hd_X1_lift__1 ⟨Nat.le_of_ble_eq_true rfl, Nat.le_of_ble_eq_true rfl⟩) ⟨th_blind, tr_2 hK hH t6, (th_pre hH hK hN hZ hS hA12)⟩ rfl rfl hl.1 rfl (lv_room (Nat.le_of_ble_eq_true rfl)) dX11_leave_48 ⟨Nat.le_of_ble_eq_true rfl, Nat.le_of_ble_eq_true rfl⟩) hS (fun q _ h => hA12 q h) hA12 (fun  u t H locs ht hvm hw13 hB hz1 hk1 hS => ?_)
      try dsimp only at hw13 hB
      rw [ht] at hB
      have hH := hB
      obtain ⟨gi13, gr13⟩ := u
      try dsimp only at hw13 hH
      obtain rfl : gr = gr13 := (hw13.2.1).symm
      have hM := hM.tr hw13.1 (fun _ h => h) (th_sub rfl)
      refine lv_iload_n hx hb dX11_leave_51 rfl (lv_at hl 0 rfl) ?_
      exact W.iret (v := x8) hx hb hr (fun t ht hW => ⟨⟨x8, (gi13, gr), rfl, ⟨hM, rfl, (hF.trans (by simp only [↓reduceIte, F_X11_leave, r1, Option.getD_some, hw3.2, Option.elim_some, r6, hw8, eq_false c9, hw13.2.2]))⟩, th_Ht ht hH⟩, hS.F ht⟩) hS.2.2 dX11_leave_52
    · skip
      have f14 : rg (-1) (-1) x8 := rg_w (rg_eq (rg_any x8) rgc_m1 c9).1 (th_leI rfl) (th_leI rfl)
      refine lv_aload_n hx hb dX11_leave_34 rfl (lv_at hl 1 rfl) ?_
      refine lv_iconst (v := 3) hx hb dX11_leave_35 ic_3 ?_
      have hA15 := th_Asub (τ := τ) hS
      refine va_calli (va_runV (As := [.int 3]) (rest := []) ⟨hx, hb, hml, hown, hts⟩ (k_X11_finding l D cA Z τ gi gr _ h0 t_h0 3) (cwV 1 hts gX11_leave_X11_finding rfl rfl rfl hd_X11_finding__1 ⟨Nat.le_of_ble_eq_true rfl, Nat.le_of_ble_eq_true rfl⟩) ⟨th_blind, tr_11 hK hH t_h0, (th_pre hH hK hN hZ hS hA15)⟩ rfl rfl hl.1 rfl (lv_room (Nat.le_of_ble_eq_true rfl)) dX11_leave_36 ⟨Nat.le_of_ble_eq_true rfl, Nat.le_of_ble_eq_true rfl⟩) hS (fun q _ h => hA15 q h) hA15 (fun x16 u t H locs ht hvm hw16 hB hz1 hk1 hS => ?_)
      try dsimp only at hw16 hB
      rw [ht] at hB
      have hH := hB
      obtain ⟨gi16, gr16⟩ := u
      try dsimp only at hw16 hH
      obtain rfl : gr = gr16 := (hw16.2.1).symm
      have hM := hM.tr hw16.1 (fun _ h => h) (th_sub rfl)
      exact W.iret (v := x16) hx hb hr (fun t ht hW => ⟨⟨x16, (gi16, gr), rfl, ⟨hM, rfl, (hF.trans (by simp only [↓reduceIte, F_X11_leave, r1, Option.getD_some, hw3.2, Option.elim_some, r6, hw8, eq_true c9, hw16.2.2.1]))⟩, th_Ht ht hH⟩, hS.F ht⟩) hS.2.2 dX11_leave_39
  · skip
    subst z4
    refine lv_aload_n hx hb dX11_leave_11 rfl (lv_at hl 0 rfl) ?_
    refine lv_iconst (v := 1) hx hb dX11_leave_12 ic_1 ?_
    have hA17 := th_Asub (τ := τ) hS
    refine va_calli (va_runV (As := [.int 1]) (rest := []) ⟨hx, hb, hml, hown, hts⟩ (k_X11_finding l D cA Z τ gi gr _ h0 t_h0 1) (cwV 1 hts gX11_leave_X11_finding rfl rfl rfl hd_X11_finding__1 ⟨Nat.le_of_ble_eq_true rfl, Nat.le_of_ble_eq_true rfl⟩) ⟨th_blind, tr_11 hK hH t_h0, (th_pre hH hK hN hZ hS hA17)⟩ rfl rfl hl.1 rfl (lv_room (Nat.le_of_ble_eq_true rfl)) dX11_leave_13 ⟨Nat.le_of_ble_eq_true rfl, Nat.le_of_ble_eq_true rfl⟩) hS (fun q _ h => hA17 q h) hA17 (fun x18 u t H locs ht hvm hw18 hB hz1 hk1 hS => ?_)
    try dsimp only at hw18 hB
    rw [ht] at hB
    have hH := hB
    obtain ⟨gi18, gr18⟩ := u
    try dsimp only at hw18 hH
    obtain rfl : gr = gr18 := (hw18.2.1).symm
    have hM := hM.tr hw18.1 (fun _ h => h) (th_sub rfl)
    exact W.iret (v := x18) hx hb hr (fun t ht hW => ⟨⟨x18, (gi18, gr), rfl, ⟨hM, rfl, (hF.trans (by simp only [F_X11_leave, r1, Option.getD_some, hw3.2, Option.elim_none, hw18.2.2.1]))⟩, th_Ht ht hH⟩, hS.F ht⟩) hS.2.2 dX11_leave_16

noncomputable def f_X11_wait_45 (τ : th_t) (Z : th_Zt) (gi : th_i) (gr : th_r) (h0 : Nat) (p1 : Int32) (gi_45 : th_i) : Int32 × th_i :=
  let u2 : Int32 × th_i := F_X11_finding τ Z gi_45 gr h0 3
  let x2 : Int32 := u2.1
  let gi2 : th_i := u2.2
  (x2, gi2)
noncomputable def F_X11_wait (τ : th_t) (Z : th_Zt) (gi : th_i) (gr : th_r) (h0 : Nat) (p1 : Int32) : Int32 × th_i :=
  let q3 : Nat := (gr h0 0).getD 0
  let r5 : Option Nat := F_X0_boatAt τ Z gi gr q3 p1
  Option.elim r5 (
    let u35 : Int32 × th_i := F_X11_finding τ Z gi gr h0 1
    let x35 : Int32 := u35.1
    let gi35 : th_i := u35.2
    (x35, gi35)) (fun q6 =>
    let q8 : Nat := (gr q3 4).getD 0
    let x10 : Int32 := F_X1_buoyOf τ Z gi gr q8 p1
    if x10 = ((-1) : Int32) then (
      let q13 : Nat := (gr h0 1).getD 0
      let x15 : Int32 := F_X10_placeOf τ Z gi gr q13 p1
      if x15 < (0 : Int32) then (
        let x19 : Int32 := gi q13 2
        if x19 < (10 : Int32) then (
          let gi22 : th_i := va_up gi q6 (upd (gi q6) 5 0)
          let gi26 : th_i := F_X10_append τ Z gi22 gr q13 p1
          let x28 : Int32 := gi26 q13 2
          (x28, gi26)) else (
          let u31 : Int32 × th_i := F_X11_finding τ Z gi gr h0 4
          let x31 : Int32 := u31.1
          let gi31 : th_i := u31.2
          (x31, gi31))) else (
        f_X11_wait_45 τ Z gi gr h0 p1 gi)) else (
      f_X11_wait_45 τ Z gi gr h0 p1 gi))
set_option maxHeartbeats 8000000 in
set_option maxRecDepth 100000 in
theorem k_X11_wait (l : Launch) (D : va_G) (cA : Nat → ClassId) (Z : th_Zt) (τ : th_t) (gi : th_i) (gr : th_r) (sz : Nat) (h0 : Nat) (t_h0 : τ h0 = 11) (p1 : Int32) : Met l yX11_wait wsX11_wait ({ frames := 2, cells := 0, slots := 0, locals := 43 }) (va_Pc [.ref h0, .int p1] (th_Pre D cA Z τ gi gr sz)) (va_Qi (fun (r : Int32) (u : th_i × th_r) => th_Mod [405, 805, 905, 1002, 3500, 3600] τ gi gr u.1 u.2 ∧ u.2 = gr ∧ (F_X11_wait τ Z gi gr h0 p1 = (r, u.1))) (fun (u : th_i × th_r) t => th_H D cA τ u.1 u.2 t.heap) (th_A τ sz)) 0 0 (th_A τ sz) := by
  refine Met.ofW (cc := cX11_wait) (maxL := 3) (ret := (some .int)) (by decide) rfl ?_
  intro p e s m args below meth c s₁ B hml hv
  obtain ⟨rfl, hsz, hH, hK, hN, hZ⟩ := hv
  have hx := B.exec
  have hb := B.bytes
  have hr := B.returns
  have hts := atoms_spec (ws := wsX11_wait) B.pre
  have hown : s.vm.findClass RX11 = some m.cls := findClass_of_methodNamed B.named
  have hlocks := B.notSynchronized
  subst hsz
  have hM : th_Mod [405, 805, 905, 1002, 3500, 3600] τ gi gr gi gr := th_Mod.rf
  have J45 : ∀ (gi_45 : th_i) (H : Heap) (locs : List Loc) (ls : Array Slot), th_H D cA τ gi_45 gr H → va_S (th_A τ s.heap.size) s.heap H locs → th_Mod [405, 805, 905, 1002, 3500, 3600] τ gi gr gi_45 gr → lv_has ls 3 [(0, .ref h0)] → F_X11_wait τ Z gi gr h0 p1 = f_X11_wait_45 τ Z gi gr h0 p1 gi_45 → W p l e (headSpec wsX11_wait ({ frames := 2, cells := 0, slots := 0, locals := 43 })).room s m [.ref h0, .int p1].toArray below meth c H locs 0 0 (MQ below (va_Qi (fun (r : Int32) (u : th_i × th_r) => th_Mod [405, 805, 905, 1002, 3500, 3600] τ gi gr u.1 u.2 ∧ u.2 = gr ∧ (F_X11_wait τ Z gi gr h0 p1 = (r, u.1))) (fun (u : th_i × th_r) t => th_H D cA τ u.1 u.2 t.heap) (th_A τ s.heap.size)) [.ref h0, .int p1].toArray s 0 0 (th_A τ s.heap.size)) (F0 m 45 ls []) := by
    intro gi_45 H locs ls hH hS hM hl hF
    refine lv_aload_n hx hb dX11_wait_45 rfl (lv_at hl 0 rfl) ?_
    refine lv_iconst (v := 3) hx hb dX11_wait_46 ic_3 ?_
    have hA1 := th_Asub (τ := τ) hS
    refine va_calli (va_runV (As := [.int 3]) (rest := []) ⟨hx, hb, hml, hown, hts⟩ (k_X11_finding l D cA Z τ gi_45 gr _ h0 t_h0 3) (cwV 1 hts gX11_wait_X11_finding rfl rfl rfl hd_X11_finding__1 ⟨Nat.le_of_ble_eq_true rfl, Nat.le_of_ble_eq_true rfl⟩) ⟨th_blind, tr_11 hK hH t_h0, (th_pre hH hK hN hZ hS hA1)⟩ rfl rfl hl.1 rfl (lv_room (Nat.le_of_ble_eq_true rfl)) dX11_wait_47 ⟨Nat.le_of_ble_eq_true rfl, Nat.le_of_ble_eq_true rfl⟩) hS (fun q _ h => hA1 q h) hA1 (fun x2 u t H locs ht hvm hw2 hB hz1 hk1 hS => ?_)
    try dsimp only at hw2 hB
    rw [ht] at hB
    have hH := hB
    obtain ⟨gi2, gr2⟩ := u
    try dsimp only at hw2 hH
    obtain rfl : gr = gr2 := (hw2.2.1).symm
    have hM := hM.tr hw2.1 (fun _ h => h) (th_sub rfl)
    exact W.iret (v := x2) hx hb hr (fun t ht hW => ⟨⟨x2, (gi2, gr), rfl, ⟨hM, rfl, (hF.trans (by simp only [f_X11_wait_45, hw2.2.2.1]))⟩, th_Ht ht hH⟩, hS.F ht⟩) hS.2.2 dX11_wait_50
  have hS : va_S (th_A τ s.heap.size) s.heap s.heap [] := va_S.rf
  have hl := lv_entry ([.ref h0, .int p1]) (n := 3) (Nat.le_of_ble_eq_true rfl)
  rw [lg_entry_eq]
  generalize (lg_sl ([.ref h0, .int p1]) ++ List.replicate (3 - (lg_sl ([.ref h0, .int p1])).length) Slot.unset).toArray = ls at hl ⊢
  have hl : lv_has ls 3 [(0, .ref h0), (1, .int p1)] := hl
  have hF : F_X11_wait τ Z gi gr h0 p1 = F_X11_wait τ Z gi gr h0 p1 := rfl
  refine lv_aload_n hx hb dX11_wait_0 rfl (lv_at hl 0 rfl) ?_
  obtain ⟨q3, r3, t3⟩ : ∃ q, gr h0 0 = some q ∧ τ q = 1 := (thI_11 hH t_h0).1
  refine th_get (ci := 10) (v := .ref q3) (T := TX11) (C := RX11) (N := 10) hx hb hts (fun w h => List.mem_cons_of_mem _ (List.mem_append_left _ (List.mem_append_left _ (List.mem_append_left _ (List.mem_append_left _ (List.mem_append_left _ (List.mem_append_left _ (List.mem_append_right _ h)))))))) hown hK hH t_h0 (th_nz rfl) (thE_11 _ _ _) rfl 0 (th_ltN rfl) (hts (.fieldLink RX11 10 "BayMoorings" "bay" "LBayMoorings$Bay;") (List.mem_cons_of_mem _ (List.mem_append_left _ (List.mem_append_left _ (List.mem_append_left _ (List.mem_append_left _ (List.mem_append_left _ (List.mem_append_left _ (List.mem_append_left _ (List.mem_append_left _ (List.mem_of_getElem? (i := 0) rfl))))))))))) (fun _ h9 => h9) (th_fR r3 rfl) dX11_wait_1 ?_
  refine lv_iload_n hx hb dX11_wait_4 rfl (lv_at hl 1 rfl) ?_
  have hA4 := th_Asub (τ := τ) hS
  refine va_callq (va_runV (As := [.int p1]) (rest := []) ⟨hx, hb, hml, hown, hts⟩ (k_X0_boatAt l D cA Z τ gi gr _ q3 t3 p1) (cwV 1 hts gX11_wait_X0_boatAt rfl rfl rfl hd_X0_boatAt__1 ⟨Nat.le_of_ble_eq_true rfl, Nat.le_of_ble_eq_true rfl⟩) ⟨th_blind, tr_1 hK hH t3, (th_pre hH hK hN hZ hS hA4)⟩ rfl rfl hl.1 rfl (lv_room (Nat.le_of_ble_eq_true rfl)) dX11_wait_5 ⟨Nat.le_of_ble_eq_true rfl, Nat.le_of_ble_eq_true rfl⟩) hS (fun q _ h => hA4 q h) hA4 (fun r5 u t H locs ht hvm hw5 hB hz1 hk1 hS => ?_)
  try dsimp only at hw5 hB
  rw [ht] at hB
  have hH := hB
  refine th_astoreq_n (i := 2) (lv' := [(2, va_rf r5), (0, .ref h0), (1, .int p1)]) hx hb dX11_wait_8 rfl hl (th_ltN rfl) rfl (fun ls hl => ?_)
  refine th_aloadq_n hx hb dX11_wait_9 rfl (lv_at hl 0 rfl) ?_
  refine th_ifnonnull (tgt := 19) hx hb dX11_wait_10 (th_eqI rfl) (fun q6 z6 => ?_) (fun z6 => ?_)
  · skip
    subst z6
    have t6 := hw5.1 q6 rfl
    have hl : lv_has ls 3 [(2, .ref q6), (0, .ref h0), (1, .int p1)] := hl
    refine lv_aload_n hx hb dX11_wait_19 rfl (lv_at hl 1 rfl) ?_
    refine th_get (ci := 10) (v := .ref q3) (T := TX11) (C := RX11) (N := 10) hx hb hts (fun w h => List.mem_cons_of_mem _ (List.mem_append_left _ (List.mem_append_left _ (List.mem_append_left _ (List.mem_append_left _ (List.mem_append_left _ (List.mem_append_left _ (List.mem_append_right _ h)))))))) hown hK hH t_h0 (th_nz rfl) (thE_11 _ _ _) rfl 0 (th_ltN rfl) (hts (.fieldLink RX11 10 "BayMoorings" "bay" "LBayMoorings$Bay;") (List.mem_cons_of_mem _ (List.mem_append_left _ (List.mem_append_left _ (List.mem_append_left _ (List.mem_append_left _ (List.mem_append_left _ (List.mem_append_left _ (List.mem_append_left _ (List.mem_append_left _ (List.mem_of_getElem? (i := 0) rfl))))))))))) (fun _ h9 => h9) (th_fR r3 rfl) dX11_wait_20 ?_
    obtain ⟨q8, r8, t8⟩ : ∃ q, gr q3 4 = some q ∧ τ q = 2 := (thI_1 hH t3).2.2.2.2.1
    refine th_get (ci := 0) (v := .ref q8) (T := TX0) (C := RX0) (N := 9) hx hb hts (fun w h => List.mem_cons_of_mem _ (List.mem_append_left _ (List.mem_append_left _ (List.mem_append_left _ (List.mem_append_left _ (List.mem_append_left _ (List.mem_append_right _ h))))))) hown hK hH t3 (th_nz rfl) (thE_1 _ _ _) rfl 4 (th_ltN rfl) (hts (.fieldLink RX11 125 "BayMoorings$Bay" "berths" "LBayMoorings$Berths;") (List.mem_cons_of_mem _ (List.mem_append_left _ (List.mem_append_left _ (List.mem_append_left _ (List.mem_append_left _ (List.mem_append_left _ (List.mem_append_left _ (List.mem_append_left _ (List.mem_append_left _ (List.mem_of_getElem? (i := 1) rfl))))))))))) (fun _ h9 => h9) (th_fR r8 rfl) dX11_wait_23 ?_
    refine lv_iload_n hx hb dX11_wait_26 rfl (lv_at hl 2 rfl) ?_
    have hA9 := th_Asub (τ := τ) hS
    refine va_calli (va_runV (As := [.int p1]) (rest := []) ⟨hx, hb, hml, hown, hts⟩ (k_X1_buoyOf l D cA Z τ gi gr _ q8 t8 p1) (cwV 1 hts gX11_wait_X1_buoyOf rfl rfl rfl hd_X1_buoyOf__1 ⟨Nat.le_of_ble_eq_true rfl, Nat.le_of_ble_eq_true rfl⟩) ⟨th_blind, tr_2 hK hH t8, (th_pre hH hK hN hZ hS hA9)⟩ rfl rfl hl.1 rfl (lv_room (Nat.le_of_ble_eq_true rfl)) dX11_wait_27 ⟨Nat.le_of_ble_eq_true rfl, Nat.le_of_ble_eq_true rfl⟩) hS (fun q _ h => hA9 q h) hA9 (fun x10 u t H locs ht hvm hw10 hB hz1 hk1 hS => ?_)
    try dsimp only at hw10 hB
    rw [ht] at hB
    have hH := hB
    refine lv_iconst (v := (-1)) hx hb dX11_wait_30 ic_m1 ?_
    refine lv_icmp_ne (tgt := 45) hx hb dX11_wait_31 (th_eqI rfl) (fun c11 => ?_) (fun c11 => ?_)
    · skip
      exact J45 gi _ _ _ hH hS hM (lv_sub hl [1] rfl) (hF.trans (by simp only [↓reduceIte, F_X11_wait, r3, Option.getD_some, hw5.2, Option.elim_some, r8, hw10, eq_false c11]))
    · skip
      have f12 : rg (-1) (-1) x10 := rg_w (rg_eq (rg_any x10) rgc_m1 c11).1 (th_leI rfl) (th_leI rfl)
      refine lv_aload_n hx hb dX11_wait_34 rfl (lv_at hl 1 rfl) ?_
      obtain ⟨q13, r13, t13⟩ : ∃ q, gr h0 1 = some q ∧ τ q = 10 := (thI_11 hH t_h0).2.1
      refine th_get (ci := 10) (v := .ref q13) (T := TX11) (C := RX11) (N := 10) hx hb hts (fun w h => List.mem_cons_of_mem _ (List.mem_append_left _ (List.mem_append_left _ (List.mem_append_left _ (List.mem_append_left _ (List.mem_append_left _ (List.mem_append_left _ (List.mem_append_right _ h)))))))) hown hK hH t_h0 (th_nz rfl) (thE_11 _ _ _) rfl 1 (th_ltN rfl) (hts (.fieldLink RX11 21 "BayMoorings" "waiting" "LBayMoorings$WaitingList;") (List.mem_cons_of_mem _ (List.mem_append_left _ (List.mem_append_left _ (List.mem_append_left _ (List.mem_append_left _ (List.mem_append_left _ (List.mem_append_left _ (List.mem_append_left _ (List.mem_append_left _ (List.mem_of_getElem? (i := 2) rfl))))))))))) (fun _ h9 => h9) (th_fR r13 rfl) dX11_wait_35 ?_
      refine lv_iload_n hx hb dX11_wait_38 rfl (lv_at hl 2 rfl) ?_
      have hA14 := th_Asub (τ := τ) hS
      refine va_calli (va_runV (As := [.int p1]) (rest := []) ⟨hx, hb, hml, hown, hts⟩ (k_X10_placeOf l D cA Z τ gi gr _ q13 t13 p1) (cwV 1 hts gX11_wait_X10_placeOf rfl rfl rfl hd_X10_placeOf__1 ⟨Nat.le_of_ble_eq_true rfl, Nat.le_of_ble_eq_true rfl⟩) ⟨th_blind, tr_10 hK hH t13, (th_pre hH hK hN hZ hS hA14)⟩ rfl rfl hl.1 rfl (lv_room (Nat.le_of_ble_eq_true rfl)) dX11_wait_39 ⟨Nat.le_of_ble_eq_true rfl, Nat.le_of_ble_eq_true rfl⟩) hS (fun q _ h => hA14 q h) hA14 (fun x15 u t H locs ht hvm hw15 hB hz1 hk1 hS => ?_)
      try dsimp only at hw15 hB
      rw [ht] at hB
      have hH := hB
      refine lv_if_lt (tgt := 51) hx hb dX11_wait_42 (th_eqI rfl) (fun c16 => ?_) (fun c16 => ?_)
      · skip
        have f17 : rg (-2147483648) (-1) x15 := rg_w (rg_lt (rg_any x15) rgc_0 c16).1 (th_leI rfl) (th_leI rfl)
        refine lv_aload_n hx hb dX11_wait_51 rfl (lv_at hl 1 rfl) ?_
        refine th_get (ci := 10) (v := .ref q13) (T := TX11) (C := RX11) (N := 10) hx hb hts (fun w h => List.mem_cons_of_mem _ (List.mem_append_left _ (List.mem_append_left _ (List.mem_append_left _ (List.mem_append_left _ (List.mem_append_left _ (List.mem_append_left _ (List.mem_append_right _ h)))))))) hown hK hH t_h0 (th_nz rfl) (thE_11 _ _ _) rfl 1 (th_ltN rfl) (hts (.fieldLink RX11 21 "BayMoorings" "waiting" "LBayMoorings$WaitingList;") (List.mem_cons_of_mem _ (List.mem_append_left _ (List.mem_append_left _ (List.mem_append_left _ (List.mem_append_left _ (List.mem_append_left _ (List.mem_append_left _ (List.mem_append_left _ (List.mem_append_left _ (List.mem_of_getElem? (i := 2) rfl))))))))))) (fun _ h9 => h9) (th_fR r13 rfl) dX11_wait_52 ?_
        obtain ⟨x19, e19⟩ : ∃ y : Int32, y = gi q13 2 := ⟨_, rfl⟩
        refine th_get (ci := 9) (v := .int x19) (T := TX10) (C := RX10) (N := 3) hx hb hts (fun w h => List.mem_cons_of_mem _ (List.mem_append_left _ (List.mem_append_left _ (List.mem_append_left _ (List.mem_append_left _ (List.mem_append_right _ h)))))) hown hK hH t13 (th_nz rfl) (thE_10 _ _ _) rfl 2 (th_ltN rfl) (hts (.fieldLink RX11 213 "BayMoorings$WaitingList" "size" "I") (List.mem_cons_of_mem _ (List.mem_append_left _ (List.mem_append_left _ (List.mem_append_left _ (List.mem_append_left _ (List.mem_append_left _ (List.mem_append_left _ (List.mem_append_left _ (List.mem_append_left _ (List.mem_of_getElem? (i := 3) rfl))))))))))) (fun _ h9 => h9) (th_fI e19 rfl) dX11_wait_55 ?_
        have f19 : rg 0 10 x19 := rg_e e19 ((thI_10 hH t13).2.2)
        refine lv_bipush (v := 10) hx hb dX11_wait_58 bp_10 ?_
        refine lv_icmp_lt (tgt := 69) hx hb dX11_wait_60 (th_eqI rfl) (fun c20 => ?_) (fun c20 => ?_)
        · skip
          have f21 : rg 0 9 x19 := rg_w (rg_lt f19 rgc_10 c20).1 (th_leI rfl) (th_leI rfl)
          refine lv_aload_n hx hb dX11_wait_69 rfl (lv_at hl 0 rfl) ?_
          refine lv_iconst (v := 0) hx hb dX11_wait_70 ic_0 ?_
          refine th_any3 t6 (fun t9 k9 => th_put (ci := 7) (v := .int 0) (T := TX8) (C := RX8) (N := 6) (ty := .int) (gi' := va_up gi q6 (upd (gi q6) 5 0)) (gr' := gr) hx hb hts (fun w h => List.mem_cons_of_mem _ (List.mem_append_left _ (List.mem_append_left _ (List.mem_append_right _ h)))) tyX8 tyX8_ok nmX8 hown hK hH hS t9 (th_nz rfl) (Or.inl (th_nzE t9 rfl)) rfl rfl 5 (th_ltN rfl) (hts (.fieldLink RX11 216 "BayMoorings$Boat" "refused" "I") (List.mem_cons_of_mem _ (List.mem_append_left _ (List.mem_append_left _ (List.mem_append_left _ (List.mem_append_left _ (List.mem_append_left _ (List.mem_append_left _ (List.mem_append_left _ (List.mem_append_left _ (List.mem_of_getElem? (i := 4) rfl))))))))))) (fun _ h9 => h9) rfl (by decide +kernel) rfl rfl (Nat.le_of_ble_eq_true rfl) (by rw [va_up_self]; rfl) (by rw [va_up_self]; show (∃ q, gr q6 3 = some q ∧ τ q = 27) ∧ rg 0 4 (gi q6 4); exact ⟨(thI_8 hH t9).1, (thI_8 hH t9).2⟩) (fun b hb => ⟨va_up_ne _ _ hb, rfl⟩) dX11_wait_71 k9) (fun t9 k9 => th_put (ci := 8) (v := .int 0) (T := TX9) (C := RX9) (N := 6) (ty := .int) (gi' := va_up gi q6 (upd (gi q6) 5 0)) (gr' := gr) hx hb hts (fun w h => List.mem_cons_of_mem _ (List.mem_append_left _ (List.mem_append_right _ h))) tyX9 tyX9_ok nmX9 hown hK hH hS t9 (th_nz rfl) (Or.inl (th_nzE t9 rfl)) rfl rfl 5 (th_ltN rfl) (hts (.fieldLink RX11 216 "BayMoorings$Boat" "refused" "I") (List.mem_cons_of_mem _ (List.mem_append_left _ (List.mem_append_left _ (List.mem_append_left _ (List.mem_append_left _ (List.mem_append_left _ (List.mem_append_left _ (List.mem_append_left _ (List.mem_append_left _ (List.mem_of_getElem? (i := 4) rfl))))))))))) (fun _ h9 => h9) rfl (by decide +kernel) rfl rfl (Nat.le_of_ble_eq_true rfl) (by rw [va_up_self]; rfl) (by rw [va_up_self]; show (∃ q, gr q6 3 = some q ∧ τ q = 27) ∧ rg 0 4 (gi q6 4); exact ⟨(thI_9 hH t9).1, (thI_9 hH t9).2⟩) (fun b hb => ⟨va_up_ne _ _ hb, rfl⟩) dX11_wait_71 k9) (fun t9 k9 => th_put (ci := 3) (v := .int 0) (T := TX4) (C := RX4) (N := 6) (ty := .int) (gi' := va_up gi q6 (upd (gi q6) 5 0)) (gr' := gr) hx hb hts (fun w h => List.mem_cons_of_mem _ (List.mem_append_left _ (List.mem_append_left _ (List.mem_append_left _ (List.mem_append_right _ h))))) tyX4 tyX4_ok nmX4 hown hK hH hS t9 (th_nz rfl) (Or.inl (th_nzE t9 rfl)) rfl rfl 5 (th_ltN rfl) (hts (.fieldLink RX11 216 "BayMoorings$Boat" "refused" "I") (List.mem_cons_of_mem _ (List.mem_append_left _ (List.mem_append_left _ (List.mem_append_left _ (List.mem_append_left _ (List.mem_append_left _ (List.mem_append_left _ (List.mem_append_left _ (List.mem_append_left _ (List.mem_of_getElem? (i := 4) rfl))))))))))) (fun _ h9 => h9) rfl (by decide +kernel) rfl rfl (Nat.le_of_ble_eq_true rfl) (by rw [va_up_self]; rfl) (by rw [va_up_self]; show (∃ q, gr q6 3 = some q ∧ τ q = 27) ∧ rg 0 4 (gi q6 4); exact ⟨(thI_4 hH t9).1, (thI_4 hH t9).2⟩) (fun b hb => ⟨va_up_ne _ _ hb, rfl⟩) dX11_wait_71 k9) (fun H locs hH hS => ?_)
          obtain ⟨gi22, eg22⟩ : ∃ g, g = va_up gi q6 (upd (gi q6) 5 0) := ⟨_, rfl⟩
          rw [← eg22] at hH
          have hu22 : gi22 q6 5 = 0 := (th_uI eg22).1
          have ho22 : ∀ b j, b ≠ q6 ∨ j ≠ 5 → gi22 b j = gi b j := (th_uI eg22).2
          have hM := th_or3 t6 (fun t9 => hM.i t9 (th_mem rfl) ho22) (fun t9 => hM.i t9 (th_mem rfl) ho22) (fun t9 => hM.i t9 (th_mem rfl) ho22)
          refine lv_aload_n hx hb dX11_wait_74 rfl (lv_at hl 1 rfl) ?_
          refine th_get (ci := 10) (v := .ref q13) (T := TX11) (C := RX11) (N := 10) hx hb hts (fun w h => List.mem_cons_of_mem _ (List.mem_append_left _ (List.mem_append_left _ (List.mem_append_left _ (List.mem_append_left _ (List.mem_append_left _ (List.mem_append_left _ (List.mem_append_right _ h)))))))) hown hK hH t_h0 (th_nz rfl) (thE_11 _ _ _) rfl 1 (th_ltN rfl) (hts (.fieldLink RX11 21 "BayMoorings" "waiting" "LBayMoorings$WaitingList;") (List.mem_cons_of_mem _ (List.mem_append_left _ (List.mem_append_left _ (List.mem_append_left _ (List.mem_append_left _ (List.mem_append_left _ (List.mem_append_left _ (List.mem_append_left _ (List.mem_append_left _ (List.mem_of_getElem? (i := 2) rfl))))))))))) (fun _ h9 => h9) (th_fR r13 rfl) dX11_wait_75 ?_
          refine lv_iload_n hx hb dX11_wait_78 rfl (lv_at hl 2 rfl) ?_
          have hA25 := th_Asub (τ := τ) hS
          refine va_callv (va_runV (As := [.int p1]) (rest := []) ⟨hx, hb, hml, hown, hts⟩ (k_X10_append l D cA Z τ gi22 gr _ q13 t13 p1) (cwV 1 hts gX11_wait_X10_append rfl rfl rfl hd_X10_append__1 ⟨Nat.le_of_ble_eq_true rfl, Nat.le_of_ble_eq_true rfl⟩) ⟨th_blind, tr_10 hK hH t13, (th_pre hH hK hN hZ hS hA25)⟩ rfl rfl hl.1 rfl (lv_room (Nat.le_of_ble_eq_true rfl)) dX11_wait_79 ⟨Nat.le_of_ble_eq_true rfl, Nat.le_of_ble_eq_true rfl⟩) hS (fun q _ h => hA25 q h) hA25 (fun  u t H locs ht hvm hw26 hB hz1 hk1 hS => ?_)
          try dsimp only at hw26 hB
          rw [ht] at hB
          have hH := hB
          obtain ⟨gi26, gr26⟩ := u
          try dsimp only at hw26 hH
          obtain rfl : gr = gr26 := (hw26.2.1).symm
          have hM := hM.tr hw26.1 (fun _ h => h) (th_sub rfl)
          refine lv_aload_n hx hb dX11_wait_82 rfl (lv_at hl 1 rfl) ?_
          refine th_get (ci := 10) (v := .ref q13) (T := TX11) (C := RX11) (N := 10) hx hb hts (fun w h => List.mem_cons_of_mem _ (List.mem_append_left _ (List.mem_append_left _ (List.mem_append_left _ (List.mem_append_left _ (List.mem_append_left _ (List.mem_append_left _ (List.mem_append_right _ h)))))))) hown hK hH t_h0 (th_nz rfl) (thE_11 _ _ _) rfl 1 (th_ltN rfl) (hts (.fieldLink RX11 21 "BayMoorings" "waiting" "LBayMoorings$WaitingList;") (List.mem_cons_of_mem _ (List.mem_append_left _ (List.mem_append_left _ (List.mem_append_left _ (List.mem_append_left _ (List.mem_append_left _ (List.mem_append_left _ (List.mem_append_left _ (List.mem_append_left _ (List.mem_of_getElem? (i := 2) rfl))))))))))) (fun _ h9 => h9) (th_fR r13 rfl) dX11_wait_83 ?_
          obtain ⟨x28, e28⟩ : ∃ y : Int32, y = gi26 q13 2 := ⟨_, rfl⟩
          refine th_get (ci := 9) (v := .int x28) (T := TX10) (C := RX10) (N := 3) hx hb hts (fun w h => List.mem_cons_of_mem _ (List.mem_append_left _ (List.mem_append_left _ (List.mem_append_left _ (List.mem_append_left _ (List.mem_append_right _ h)))))) hown hK hH t13 (th_nz rfl) (thE_10 _ _ _) rfl 2 (th_ltN rfl) (hts (.fieldLink RX11 213 "BayMoorings$WaitingList" "size" "I") (List.mem_cons_of_mem _ (List.mem_append_left _ (List.mem_append_left _ (List.mem_append_left _ (List.mem_append_left _ (List.mem_append_left _ (List.mem_append_left _ (List.mem_append_left _ (List.mem_append_left _ (List.mem_of_getElem? (i := 3) rfl))))))))))) (fun _ h9 => h9) (th_fI e28 rfl) dX11_wait_86 ?_
          have f28 : rg 0 10 x28 := rg_e e28 ((thI_10 hH t13).2.2)
          exact W.iret (v := x28) hx hb hr (fun t ht hW => ⟨⟨x28, (gi26, gr), rfl, ⟨hM, rfl, (hF.trans (by simp only [↓reduceIte, F_X11_wait, r3, Option.getD_some, hw5.2, Option.elim_some, r8, hw10, eq_true c11, r13, hw15, eq_true c16, ← e19, eq_true c20, ← eg22, hw26.2.2, ← e28]))⟩, th_Ht ht hH⟩, hS.F ht⟩) hS.2.2 dX11_wait_89
        · skip
          have f29 : rg 10 10 x19 := rg_w (rg_nlt f19 rgc_10 c20).1 (th_leI rfl) (th_leI rfl)
          refine lv_aload_n hx hb dX11_wait_63 rfl (lv_at hl 1 rfl) ?_
          refine lv_iconst (v := 4) hx hb dX11_wait_64 ic_4 ?_
          have hA30 := th_Asub (τ := τ) hS
          refine va_calli (va_runV (As := [.int 4]) (rest := []) ⟨hx, hb, hml, hown, hts⟩ (k_X11_finding l D cA Z τ gi gr _ h0 t_h0 4) (cwV 1 hts gX11_wait_X11_finding rfl rfl rfl hd_X11_finding__1 ⟨Nat.le_of_ble_eq_true rfl, Nat.le_of_ble_eq_true rfl⟩) ⟨th_blind, tr_11 hK hH t_h0, (th_pre hH hK hN hZ hS hA30)⟩ rfl rfl hl.1 rfl (lv_room (Nat.le_of_ble_eq_true rfl)) dX11_wait_65 ⟨Nat.le_of_ble_eq_true rfl, Nat.le_of_ble_eq_true rfl⟩) hS (fun q _ h => hA30 q h) hA30 (fun x31 u t H locs ht hvm hw31 hB hz1 hk1 hS => ?_)
          try dsimp only at hw31 hB
          rw [ht] at hB
          have hH := hB
          obtain ⟨gi31, gr31⟩ := u
          try dsimp only at hw31 hH
          obtain rfl : gr = gr31 := (hw31.2.1).symm
          have hM := hM.tr hw31.1 (fun _ h => h) (th_sub rfl)
          have e32 : x19 = gi31 q13 2 := Eq.trans e19 (Eq.symm (hw31.1 q13 2 (th_nzE t13 rfl) (th_nmE (key := 1002) t13 rfl rfl)).1)
          exact W.iret (v := x31) hx hb hr (fun t ht hW => ⟨⟨x31, (gi31, gr), rfl, ⟨hM, rfl, (hF.trans (by simp only [↓reduceIte, F_X11_wait, r3, Option.getD_some, hw5.2, Option.elim_some, r8, hw10, eq_true c11, r13, hw15, eq_true c16, ← e19, eq_false c20, hw31.2.2.1]))⟩, th_Ht ht hH⟩, hS.F ht⟩) hS.2.2 dX11_wait_68
      · skip
        have f33 : rg 0 2147483647 x15 := rg_w (rg_nlt (rg_any x15) rgc_0 c16).1 (th_leI rfl) (th_leI rfl)
        exact J45 gi _ _ _ hH hS hM (lv_sub hl [1] rfl) (hF.trans (by simp only [↓reduceIte, F_X11_wait, r3, Option.getD_some, hw5.2, Option.elim_some, r8, hw10, eq_true c11, r13, hw15, eq_false c16]))
  · skip
    subst z6
    have hl : lv_has ls 3 [(2, .null), (0, .ref h0), (1, .int p1)] := hl
    refine lv_aload_n hx hb dX11_wait_13 rfl (lv_at hl 1 rfl) ?_
    refine lv_iconst (v := 1) hx hb dX11_wait_14 ic_1 ?_
    have hA34 := th_Asub (τ := τ) hS
    refine va_calli (va_runV (As := [.int 1]) (rest := []) ⟨hx, hb, hml, hown, hts⟩ (k_X11_finding l D cA Z τ gi gr _ h0 t_h0 1) (cwV 1 hts gX11_wait_X11_finding rfl rfl rfl hd_X11_finding__1 ⟨Nat.le_of_ble_eq_true rfl, Nat.le_of_ble_eq_true rfl⟩) ⟨th_blind, tr_11 hK hH t_h0, (th_pre hH hK hN hZ hS hA34)⟩ rfl rfl hl.1 rfl (lv_room (Nat.le_of_ble_eq_true rfl)) dX11_wait_15 ⟨Nat.le_of_ble_eq_true rfl, Nat.le_of_ble_eq_true rfl⟩) hS (fun q _ h => hA34 q h) hA34 (fun x35 u t H locs ht hvm hw35 hB hz1 hk1 hS => ?_)
    try dsimp only at hw35 hB
    rw [ht] at hB
    have hH := hB
    obtain ⟨gi35, gr35⟩ := u
    try dsimp only at hw35 hH
    obtain rfl : gr = gr35 := (hw35.2.1).symm
    have hM := hM.tr hw35.1 (fun _ h => h) (th_sub rfl)
    exact W.iret (v := x35) hx hb hr (fun t ht hW => ⟨⟨x35, (gi35, gr), rfl, ⟨hM, rfl, (hF.trans (by simp only [F_X11_wait, r3, Option.getD_some, hw5.2, Option.elim_none, hw35.2.2.1]))⟩, th_Ht ht hH⟩, hS.F ht⟩) hS.2.2 dX11_wait_18

noncomputable def F_X11_away (τ : th_t) (Z : th_Zt) (gi : th_i) (gr : th_r) (h0 : Nat) (p1 : Int32) : Int32 × th_i :=
  let q1 : Nat := (gr h0 0).getD 0
  let r3 : Option Nat := F_X0_boatAt τ Z gi gr q1 p1
  Option.elim r3 (
    let u17 : Int32 × th_i := F_X11_finding τ Z gi gr h0 1
    let x17 : Int32 := u17.1
    let gi17 : th_i := u17.2
    (x17, gi17)) (fun q4 =>
    let q5 : Nat := (gr h0 1).getD 0
    let x7 : Int32 := F_X10_placeOf τ Z gi gr q5 p1
    if (0 : Int32) ≤ x7 then (
      let gi12 : th_i := F_X10_drop τ Z gi gr q5 x7
      (x7, gi12)) else (
      let u15 : Int32 × th_i := F_X11_finding τ Z gi gr h0 3
      let x15 : Int32 := u15.1
      let gi15 : th_i := u15.2
      (x15, gi15)))
set_option maxHeartbeats 8000000 in
set_option maxRecDepth 100000 in
theorem k_X11_away (l : Launch) (D : va_G) (cA : Nat → ClassId) (Z : th_Zt) (τ : th_t) (gi : th_i) (gr : th_r) (sz : Nat) (h0 : Nat) (t_h0 : τ h0 = 11) (p1 : Int32) : Met l yX11_away wsX11_away ({ frames := 2, cells := 0, slots := 0, locals := 44 }) (va_Pc [.ref h0, .int p1] (th_Pre D cA Z τ gi gr sz)) (va_Qi (fun (r : Int32) (u : th_i × th_r) => th_Mod [1002, 3500, 3600] τ gi gr u.1 u.2 ∧ u.2 = gr ∧ (F_X11_away τ Z gi gr h0 p1 = (r, u.1))) (fun (u : th_i × th_r) t => th_H D cA τ u.1 u.2 t.heap) (th_A τ sz)) 0 0 (th_A τ sz) := by
  refine Met.ofW (cc := cX11_away) (maxL := 3) (ret := (some .int)) (by decide) rfl ?_
  intro p e s m args below meth c s₁ B hml hv
  obtain ⟨rfl, hsz, hH, hK, hN, hZ⟩ := hv
  have hx := B.exec
  have hb := B.bytes
  have hr := B.returns
  have hts := atoms_spec (ws := wsX11_away) B.pre
  have hown : s.vm.findClass RX11 = some m.cls := findClass_of_methodNamed B.named
  have hlocks := B.notSynchronized
  subst hsz
  have hM : th_Mod [1002, 3500, 3600] τ gi gr gi gr := th_Mod.rf
  have hS : va_S (th_A τ s.heap.size) s.heap s.heap [] := va_S.rf
  have hl := lv_entry ([.ref h0, .int p1]) (n := 3) (Nat.le_of_ble_eq_true rfl)
  rw [lg_entry_eq]
  generalize (lg_sl ([.ref h0, .int p1]) ++ List.replicate (3 - (lg_sl ([.ref h0, .int p1])).length) Slot.unset).toArray = ls at hl ⊢
  have hl : lv_has ls 3 [(0, .ref h0), (1, .int p1)] := hl
  have hF : F_X11_away τ Z gi gr h0 p1 = F_X11_away τ Z gi gr h0 p1 := rfl
  refine lv_aload_n hx hb dX11_away_0 rfl (lv_at hl 0 rfl) ?_
  obtain ⟨q1, r1, t1⟩ : ∃ q, gr h0 0 = some q ∧ τ q = 1 := (thI_11 hH t_h0).1
  refine th_get (ci := 10) (v := .ref q1) (T := TX11) (C := RX11) (N := 10) hx hb hts (fun w h => List.mem_cons_of_mem _ (List.mem_append_left _ (List.mem_append_left _ (List.mem_append_right _ h)))) hown hK hH t_h0 (th_nz rfl) (thE_11 _ _ _) rfl 0 (th_ltN rfl) (hts (.fieldLink RX11 10 "BayMoorings" "bay" "LBayMoorings$Bay;") (List.mem_cons_of_mem _ (List.mem_append_left _ (List.mem_append_left _ (List.mem_append_left _ (List.mem_append_left _ (List.mem_of_getElem? (i := 0) rfl))))))) (fun _ h9 => h9) (th_fR r1 rfl) dX11_away_1 ?_
  refine lv_iload_n hx hb dX11_away_4 rfl (lv_at hl 1 rfl) ?_
  have hA2 := th_Asub (τ := τ) hS
  refine va_callq (va_runV (As := [.int p1]) (rest := []) ⟨hx, hb, hml, hown, hts⟩ (k_X0_boatAt l D cA Z τ gi gr _ q1 t1 p1) (cwV 1 hts gX11_away_X0_boatAt rfl rfl rfl hd_X0_boatAt__1 ⟨Nat.le_of_ble_eq_true rfl, Nat.le_of_ble_eq_true rfl⟩) ⟨th_blind, tr_1 hK hH t1, (th_pre hH hK hN hZ hS hA2)⟩ rfl rfl hl.1 rfl (lv_room (Nat.le_of_ble_eq_true rfl)) dX11_away_5 ⟨Nat.le_of_ble_eq_true rfl, Nat.le_of_ble_eq_true rfl⟩) hS (fun q _ h => hA2 q h) hA2 (fun r3 u t H locs ht hvm hw3 hB hz1 hk1 hS => ?_)
  try dsimp only at hw3 hB
  rw [ht] at hB
  have hH := hB
  refine th_ifnonnull (tgt := 17) hx hb dX11_away_8 (th_eqI rfl) (fun q4 z4 => ?_) (fun z4 => ?_)
  · skip
    subst z4
    have t4 := hw3.1 q4 rfl
    refine lv_aload_n hx hb dX11_away_17 rfl (lv_at hl 0 rfl) ?_
    obtain ⟨q5, r5, t5⟩ : ∃ q, gr h0 1 = some q ∧ τ q = 10 := (thI_11 hH t_h0).2.1
    refine th_get (ci := 10) (v := .ref q5) (T := TX11) (C := RX11) (N := 10) hx hb hts (fun w h => List.mem_cons_of_mem _ (List.mem_append_left _ (List.mem_append_left _ (List.mem_append_right _ h)))) hown hK hH t_h0 (th_nz rfl) (thE_11 _ _ _) rfl 1 (th_ltN rfl) (hts (.fieldLink RX11 21 "BayMoorings" "waiting" "LBayMoorings$WaitingList;") (List.mem_cons_of_mem _ (List.mem_append_left _ (List.mem_append_left _ (List.mem_append_left _ (List.mem_append_left _ (List.mem_of_getElem? (i := 1) rfl))))))) (fun _ h9 => h9) (th_fR r5 rfl) dX11_away_18 ?_
    refine lv_iload_n hx hb dX11_away_21 rfl (lv_at hl 1 rfl) ?_
    have hA6 := th_Asub (τ := τ) hS
    refine va_calli (va_runV (As := [.int p1]) (rest := []) ⟨hx, hb, hml, hown, hts⟩ (k_X10_placeOf l D cA Z τ gi gr _ q5 t5 p1) (cwV 1 hts gX11_away_X10_placeOf rfl rfl rfl hd_X10_placeOf__1 ⟨Nat.le_of_ble_eq_true rfl, Nat.le_of_ble_eq_true rfl⟩) ⟨th_blind, tr_10 hK hH t5, (th_pre hH hK hN hZ hS hA6)⟩ rfl rfl hl.1 rfl (lv_room (Nat.le_of_ble_eq_true rfl)) dX11_away_22 ⟨Nat.le_of_ble_eq_true rfl, Nat.le_of_ble_eq_true rfl⟩) hS (fun q _ h => hA6 q h) hA6 (fun x7 u t H locs ht hvm hw7 hB hz1 hk1 hS => ?_)
    try dsimp only at hw7 hB
    rw [ht] at hB
    have hH := hB
    refine lv_istore_n (i := 2) (lv' := [(2, .int x7), (0, .ref h0), (1, .int p1)]) hx hb dX11_away_25 rfl hl (th_ltN rfl) rfl (fun ls hl => ?_)
    refine lv_iload_n hx hb dX11_away_26 rfl (lv_at hl 0 rfl) ?_
    refine lv_if_ge (tgt := 36) hx hb dX11_away_27 (th_eqI rfl) (fun c8 => ?_) (fun c8 => ?_)
    · skip
      have f9 : rg 0 2147483647 x7 := rg_w (rg_le rgc_0 (rg_any x7) c8).2 (th_leI rfl) (th_leI rfl)
      refine lv_aload_n hx hb dX11_away_36 rfl (lv_at hl 1 rfl) ?_
      refine th_get (ci := 10) (v := .ref q5) (T := TX11) (C := RX11) (N := 10) hx hb hts (fun w h => List.mem_cons_of_mem _ (List.mem_append_left _ (List.mem_append_left _ (List.mem_append_right _ h)))) hown hK hH t_h0 (th_nz rfl) (thE_11 _ _ _) rfl 1 (th_ltN rfl) (hts (.fieldLink RX11 21 "BayMoorings" "waiting" "LBayMoorings$WaitingList;") (List.mem_cons_of_mem _ (List.mem_append_left _ (List.mem_append_left _ (List.mem_append_left _ (List.mem_append_left _ (List.mem_of_getElem? (i := 1) rfl))))))) (fun _ h9 => h9) (th_fR r5 rfl) dX11_away_37 ?_
      refine lv_iload_n hx hb dX11_away_40 rfl (lv_at hl 0 rfl) ?_
      have hA11 := th_Asub (τ := τ) hS
      refine va_callv (va_runV (As := [.int x7]) (rest := []) ⟨hx, hb, hml, hown, hts⟩ (k_X10_drop l D cA Z τ gi gr _ q5 t5 x7) (cwV 1 hts gX11_away_X10_drop rfl rfl rfl hd_X10_drop__1 ⟨Nat.le_of_ble_eq_true rfl, Nat.le_of_ble_eq_true rfl⟩) ⟨th_blind, tr_10 hK hH t5, (th_pre hH hK hN hZ hS hA11)⟩ rfl rfl hl.1 rfl (lv_room (Nat.le_of_ble_eq_true rfl)) dX11_away_41 ⟨Nat.le_of_ble_eq_true rfl, Nat.le_of_ble_eq_true rfl⟩) hS (fun q _ h => hA11 q h) hA11 (fun  u t H locs ht hvm hw12 hB hz1 hk1 hS => ?_)
      try dsimp only at hw12 hB
      rw [ht] at hB
      have hH := hB
      obtain ⟨gi12, gr12⟩ := u
      try dsimp only at hw12 hH
      obtain rfl : gr = gr12 := (hw12.2.1).symm
      have hM := hM.tr hw12.1 (fun _ h => h) (th_sub rfl)
      refine lv_iload_n hx hb dX11_away_44 rfl (lv_at hl 0 rfl) ?_
      exact W.iret (v := x7) hx hb hr (fun t ht hW => ⟨⟨x7, (gi12, gr), rfl, ⟨hM, rfl, (hF.trans (by simp only [↓reduceIte, F_X11_away, r1, Option.getD_some, hw3.2, Option.elim_some, r5, hw7, eq_true c8, hw12.2.2]))⟩, th_Ht ht hH⟩, hS.F ht⟩) hS.2.2 dX11_away_45
    · skip
      have f13 : rg (-2147483648) (-1) x7 := rg_w (rg_nle rgc_0 (rg_any x7) c8).2 (th_leI rfl) (th_leI rfl)
      refine lv_aload_n hx hb dX11_away_30 rfl (lv_at hl 1 rfl) ?_
      refine lv_iconst (v := 3) hx hb dX11_away_31 ic_3 ?_
      have hA14 := th_Asub (τ := τ) hS
      refine va_calli (va_runV (As := [.int 3]) (rest := []) ⟨hx, hb, hml, hown, hts⟩ (k_X11_finding l D cA Z τ gi gr _ h0 t_h0 3) (cwV 1 hts gX11_away_X11_finding rfl rfl rfl hd_X11_finding__1 ⟨Nat.le_of_ble_eq_true rfl, Nat.le_of_ble_eq_true rfl⟩) ⟨th_blind, tr_11 hK hH t_h0, (th_pre hH hK hN hZ hS hA14)⟩ rfl rfl hl.1 rfl (lv_room (Nat.le_of_ble_eq_true rfl)) dX11_away_32 ⟨Nat.le_of_ble_eq_true rfl, Nat.le_of_ble_eq_true rfl⟩) hS (fun q _ h => hA14 q h) hA14 (fun x15 u t H locs ht hvm hw15 hB hz1 hk1 hS => ?_)
      try dsimp only at hw15 hB
      rw [ht] at hB
      have hH := hB
      obtain ⟨gi15, gr15⟩ := u
      try dsimp only at hw15 hH
      obtain rfl : gr = gr15 := (hw15.2.1).symm
      have hM := hM.tr hw15.1 (fun _ h => h) (th_sub rfl)
      exact W.iret (v := x15) hx hb hr (fun t ht hW => ⟨⟨x15, (gi15, gr), rfl, ⟨hM, rfl, (hF.trans (by simp only [↓reduceIte, F_X11_away, r1, Option.getD_some, hw3.2, Option.elim_some, r5, hw7, eq_false c8, hw15.2.2.1]))⟩, th_Ht ht hH⟩, hS.F ht⟩) hS.2.2 dX11_away_35
  · skip
    subst z4
    refine lv_aload_n hx hb dX11_away_11 rfl (lv_at hl 0 rfl) ?_
    refine lv_iconst (v := 1) hx hb dX11_away_12 ic_1 ?_
    have hA16 := th_Asub (τ := τ) hS
    refine va_calli (va_runV (As := [.int 1]) (rest := []) ⟨hx, hb, hml, hown, hts⟩ (k_X11_finding l D cA Z τ gi gr _ h0 t_h0 1) (cwV 1 hts gX11_away_X11_finding rfl rfl rfl hd_X11_finding__1 ⟨Nat.le_of_ble_eq_true rfl, Nat.le_of_ble_eq_true rfl⟩) ⟨th_blind, tr_11 hK hH t_h0, (th_pre hH hK hN hZ hS hA16)⟩ rfl rfl hl.1 rfl (lv_room (Nat.le_of_ble_eq_true rfl)) dX11_away_13 ⟨Nat.le_of_ble_eq_true rfl, Nat.le_of_ble_eq_true rfl⟩) hS (fun q _ h => hA16 q h) hA16 (fun x17 u t H locs ht hvm hw17 hB hz1 hk1 hS => ?_)
    try dsimp only at hw17 hB
    rw [ht] at hB
    have hH := hB
    obtain ⟨gi17, gr17⟩ := u
    try dsimp only at hw17 hH
    obtain rfl : gr = gr17 := (hw17.2.1).symm
    have hM := hM.tr hw17.1 (fun _ h => h) (th_sub rfl)
    exact W.iret (v := x17) hx hb hr (fun t ht hW => ⟨⟨x17, (gi17, gr), rfl, ⟨hM, rfl, (hF.trans (by simp only [F_X11_away, r1, Option.getD_some, hw3.2, Option.elim_none, hw17.2.2.1]))⟩, th_Ht ht hH⟩, hS.F ht⟩) hS.2.2 dX11_away_16

noncomputable def F_X11_offer (τ : th_t) (Z : th_Zt) (gi : th_i) (gr : th_r) (h0 : Nat) (p1 : Int32) : Int32 × th_i :=
  let u2 : Int32 × th_i := F_X11_offeredBoat τ Z gi gr h0 p1
  let x2 : Int32 := u2.1
  let gi2 : th_i := u2.2
  (x2, gi2)
set_option maxHeartbeats 8000000 in
set_option maxRecDepth 100000 in
theorem k_X11_offer (l : Launch) (D : va_G) (cA : Nat → ClassId) (Z : th_Zt) (τ : th_t) (gi : th_i) (gr : th_r) (sz : Nat) (h0 : Nat) (t_h0 : τ h0 = 11) (p1 : Int32) : Met l yX11_offer wsX11_offer ({ frames := 6, cells := 0, slots := 0, locals := 169 }) (va_Pc [.ref h0, .int p1] (th_Pre D cA Z τ gi gr sz)) (va_Qi (fun (r : Int32) (u : th_i × th_r) => th_Mod [3600] τ gi gr u.1 u.2 ∧ u.2 = gr ∧ (F_X11_offer τ Z gi gr h0 p1 = (r, u.1))) (fun (u : th_i × th_r) t => th_H D cA τ u.1 u.2 t.heap) (th_A τ sz)) 0 0 (th_A τ sz) := by
  refine Met.ofW (cc := cX11_offer) (maxL := 2) (ret := (some .int)) (by decide) rfl ?_
  intro p e s m args below meth c s₁ B hml hv
  obtain ⟨rfl, hsz, hH, hK, hN, hZ⟩ := hv
  have hx := B.exec
  have hb := B.bytes
  have hr := B.returns
  have hts := atoms_spec (ws := wsX11_offer) B.pre
  have hown : s.vm.findClass RX11 = some m.cls := findClass_of_methodNamed B.named
  have hlocks := B.notSynchronized
  subst hsz
  have hM : th_Mod [3600] τ gi gr gi gr := th_Mod.rf
  have hS : va_S (th_A τ s.heap.size) s.heap s.heap [] := va_S.rf
  have hl := lv_entry ([.ref h0, .int p1]) (n := 2) (Nat.le_of_ble_eq_true rfl)
  rw [lg_entry_eq]
  generalize (lg_sl ([.ref h0, .int p1]) ++ List.replicate (2 - (lg_sl ([.ref h0, .int p1])).length) Slot.unset).toArray = ls at hl ⊢
  have hl : lv_has ls 2 [(0, .ref h0), (1, .int p1)] := hl
  have hF : F_X11_offer τ Z gi gr h0 p1 = F_X11_offer τ Z gi gr h0 p1 := rfl
  refine lv_aload_n hx hb dX11_offer_0 rfl (lv_at hl 0 rfl) ?_
  refine lv_iload_n hx hb dX11_offer_1 rfl (lv_at hl 1 rfl) ?_
  have hA1 := th_Asub (τ := τ) hS
  refine va_calli (va_runV (As := [.int p1]) (rest := []) ⟨hx, hb, hml, hown, hts⟩ (k_X11_offeredBoat l D cA Z τ gi gr _ h0 t_h0 p1) (cwV 1 hts gX11_offer_X11_offeredBoat rfl rfl rfl hd_X11_offeredBoat__1 ⟨Nat.le_of_ble_eq_true rfl, Nat.le_of_ble_eq_true rfl⟩) ⟨th_blind, tr_11 hK hH t_h0, (th_pre hH hK hN hZ hS hA1)⟩ rfl rfl hl.1 rfl (lv_room (Nat.le_of_ble_eq_true rfl)) dX11_offer_2 ⟨Nat.le_of_ble_eq_true rfl, Nat.le_of_ble_eq_true rfl⟩) hS (fun q _ h => hA1 q h) hA1 (fun x2 u t H locs ht hvm hw2 hB hz1 hk1 hS => ?_)
  try dsimp only at hw2 hB
  rw [ht] at hB
  have hH := hB
  obtain ⟨gi2, gr2⟩ := u
  try dsimp only at hw2 hH
  obtain rfl : gr = gr2 := (hw2.2.1).symm
  have hM := hM.tr hw2.1 (fun _ h => h) (th_sub rfl)
  exact W.iret (v := x2) hx hb hr (fun t ht hW => ⟨⟨x2, (gi2, gr), rfl, ⟨hM, rfl, (hF.trans (by simp only [F_X11_offer, hw2.2.2]))⟩, th_Ht ht hH⟩, hS.F ht⟩) hS.2.2 dX11_offer_5

noncomputable def F_X11_answer (τ : th_t) (Z : th_Zt) (gi : th_i) (gr : th_r) (h0 : Nat) (p1 : Int32) (p2 : Int32) : Int32 × th_i :=
  let x2 : Int32 := F_X11_isFlag τ Z gi gr p2
  if x2 = (0 : Int32) then (
    let u47 : Int32 × th_i := F_X11_finding τ Z gi gr h0 1
    let x47 : Int32 := u47.1
    let gi47 : th_i := u47.2
    (x47, gi47)) else (
    let u7 : Int32 × th_i := F_X11_offeredBoat τ Z gi gr h0 p1
    let x7 : Int32 := u7.1
    let gi7 : th_i := u7.2
    let q8 : Nat := (gr h0 0).getD 0
    let r10 : Option Nat := F_X0_boatAt τ Z gi7 gr q8 x7
    Option.elim r10 (
      (x7, gi7)) (fun q11 =>
      if p2 = (1 : Int32) then (
        let q35 : Nat := (gr h0 1).getD 0
        let x38 : Int32 := F_X10_placeOf τ Z gi7 gr q35 x7
        let gi40 : th_i := F_X10_drop τ Z gi7 gr q35 x38
        let q42 : Nat := (gr q8 4).getD 0
        let gi44 : th_i := F_X1_put τ Z gi40 gr q42 x7 p1
        (x7, gi44)) else (
        let x14 : Int32 := gi7 q11 5
        let x15 : Int32 := 1 <<< (p1 &&& 31)
        let x16 : Int32 := x14 ||| x15
        let gi17 : th_i := va_up gi7 q11 (upd (gi7 q11) 5 x16)
        let x19 : Int32 := gi17 h0 9
        if x19 = (0 : Int32) then (
          let q23 : Nat := (gr h0 1).getD 0
          let x26 : Int32 := F_X10_placeOf τ Z gi17 gr q23 x7
          let gi28 : th_i := F_X10_drop τ Z gi17 gr q23 x26
          let gi32 : th_i := F_X10_append τ Z gi28 gr q23 x7
          (x7, gi32)) else (
          (x7, gi17)))))
set_option maxHeartbeats 8000000 in
set_option maxRecDepth 100000 in
theorem k_X11_answer (l : Launch) (D : va_G) (cA : Nat → ClassId) (Z : th_Zt) (τ : th_t) (gi : th_i) (gr : th_r) (sz : Nat) (h0 : Nat) (t_h0 : τ h0 = 11) (p1 : Int32) (p2 : Int32) : Met l yX11_answer wsX11_answer ({ frames := 6, cells := 0, slots := 0, locals := 169 }) (va_Pc [.ref h0, .int p1, .int p2] (th_Pre D cA Z τ gi gr sz)) (va_Qi (fun (r : Int32) (u : th_i × th_r) => th_Mod [405, 805, 905, 1002, 2400, 2500, 3500, 3600] τ gi gr u.1 u.2 ∧ u.2 = gr ∧ (F_X11_answer τ Z gi gr h0 p1 p2 = (r, u.1))) (fun (u : th_i × th_r) t => th_H D cA τ u.1 u.2 t.heap) (th_A τ sz)) 0 0 (th_A τ sz) := by
  refine Met.ofW (cc := cX11_answer) (maxL := 5) (ret := (some .int)) (by decide) rfl ?_
  intro p e s m args below meth c s₁ B hml hv
  obtain ⟨rfl, hsz, hH, hK, hN, hZ⟩ := hv
  have hx := B.exec
  have hb := B.bytes
  have hr := B.returns
  have hts := atoms_spec (ws := wsX11_answer) B.pre
  have hown : s.vm.findClass RX11 = some m.cls := findClass_of_methodNamed B.named
  have hlocks := B.notSynchronized
  subst hsz
  have hM : th_Mod [405, 805, 905, 1002, 2400, 2500, 3500, 3600] τ gi gr gi gr := th_Mod.rf
  have hS : va_S (th_A τ s.heap.size) s.heap s.heap [] := va_S.rf
  have hl := lv_entry ([.ref h0, .int p1, .int p2]) (n := 5) (Nat.le_of_ble_eq_true rfl)
  rw [lg_entry_eq]
  generalize (lg_sl ([.ref h0, .int p1, .int p2]) ++ List.replicate (5 - (lg_sl ([.ref h0, .int p1, .int p2])).length) Slot.unset).toArray = ls at hl ⊢
  have hl : lv_has ls 5 [(0, .ref h0), (1, .int p1), (2, .int p2)] := hl
  have hF : F_X11_answer τ Z gi gr h0 p1 p2 = F_X11_answer τ Z gi gr h0 p1 p2 := rfl
  refine lv_iload_n hx hb dX11_answer_0 rfl (lv_at hl 2 rfl) ?_
  have hA1 := th_Asub (τ := τ) hS
  refine va_calli (va_runS (As := [.int p2]) (rest := []) ⟨hx, hb, hml, hown, hts⟩ (k_X11_isFlag l D cA Z τ gi gr _ p2) (va_cwS 1 hts gX11_answer_X11_isFlag rfl rfl rfl (by decide +kernel) ⟨Nat.le_of_ble_eq_true rfl, Nat.le_of_ble_eq_true rfl⟩) ⟨th_blind, (th_pre hH hK hN hZ hS hA1)⟩ rfl rfl hl.1 rfl (lv_room (Nat.le_of_ble_eq_true rfl)) dX11_answer_1 ⟨Nat.le_of_ble_eq_true rfl, Nat.le_of_ble_eq_true rfl⟩) hS (fun q _ h => hA1 q h) hA1 (fun x2 u t H locs ht hvm hw2 hB hz1 hk1 hS => ?_)
  try dsimp only at hw2 hB
  rw [ht] at hB
  have hH := hB
  refine lv_if_ne (tgt := 13) hx hb dX11_answer_4 (th_eqI rfl) (fun c3 => ?_) (fun c3 => ?_)
  · skip
    have f4 : rg 1 1 x2 := rg_w (rg_neL hw2.1 rgc_0 c3) (th_leI rfl) (th_leI rfl)
    have f5 : rg 0 1 p2 := rg_w (hw2.2.1 c3) (th_leI rfl) (th_leI rfl)
    refine lv_aload_n hx hb dX11_answer_13 rfl (lv_at hl 0 rfl) ?_
    refine lv_iload_n hx hb dX11_answer_14 rfl (lv_at hl 1 rfl) ?_
    have hA6 := th_Asub (τ := τ) hS
    refine va_calli (va_runV (As := [.int p1]) (rest := []) ⟨hx, hb, hml, hown, hts⟩ (k_X11_offeredBoat l D cA Z τ gi gr _ h0 t_h0 p1) (cwV 1 hts gX11_answer_X11_offeredBoat rfl rfl rfl hd_X11_offeredBoat__1 ⟨Nat.le_of_ble_eq_true rfl, Nat.le_of_ble_eq_true rfl⟩) ⟨th_blind, tr_11 hK hH t_h0, (th_pre hH hK hN hZ hS hA6)⟩ rfl rfl hl.1 rfl (lv_room (Nat.le_of_ble_eq_true rfl)) dX11_answer_15 ⟨Nat.le_of_ble_eq_true rfl, Nat.le_of_ble_eq_true rfl⟩) hS (fun q _ h => hA6 q h) hA6 (fun x7 u t H locs ht hvm hw7 hB hz1 hk1 hS => ?_)
    try dsimp only at hw7 hB
    rw [ht] at hB
    have hH := hB
    obtain ⟨gi7, gr7⟩ := u
    try dsimp only at hw7 hH
    obtain rfl : gr = gr7 := (hw7.2.1).symm
    have hM := hM.tr hw7.1 (fun _ h => h) (th_sub rfl)
    refine lv_istore_n (i := 3) (lv' := [(3, .int x7), (0, .ref h0), (1, .int p1), (2, .int p2)]) hx hb dX11_answer_18 rfl hl (th_ltN rfl) rfl (fun ls hl => ?_)
    refine lv_aload_n hx hb dX11_answer_19 rfl (lv_at hl 1 rfl) ?_
    obtain ⟨q8, r8, t8⟩ : ∃ q, gr h0 0 = some q ∧ τ q = 1 := (thI_11 hH t_h0).1
    refine th_get (ci := 10) (v := .ref q8) (T := TX11) (C := RX11) (N := 10) hx hb hts (fun w h => List.mem_cons_of_mem _ (List.mem_append_left _ (List.mem_append_left _ (List.mem_append_left _ (List.mem_append_left _ (List.mem_append_left _ (List.mem_append_left _ (List.mem_append_left _ (List.mem_append_right _ h))))))))) hown hK hH t_h0 (th_nz rfl) (thE_11 _ _ _) rfl 0 (th_ltN rfl) (hts (.fieldLink RX11 10 "BayMoorings" "bay" "LBayMoorings$Bay;") (List.mem_cons_of_mem _ (List.mem_append_left _ (List.mem_append_left _ (List.mem_append_left _ (List.mem_append_left _ (List.mem_append_left _ (List.mem_append_left _ (List.mem_append_left _ (List.mem_append_left _ (List.mem_append_left _ (List.mem_of_getElem? (i := 0) rfl)))))))))))) (fun _ h9 => h9) (th_fR r8 rfl) dX11_answer_20 ?_
    refine lv_iload_n hx hb dX11_answer_23 rfl (lv_at hl 0 rfl) ?_
    have hA9 := th_Asub (τ := τ) hS
    refine va_callq (va_runV (As := [.int x7]) (rest := []) ⟨hx, hb, hml, hown, hts⟩ (k_X0_boatAt l D cA Z τ gi7 gr _ q8 t8 x7) (cwV 1 hts gX11_answer_X0_boatAt rfl rfl rfl hd_X0_boatAt__1 ⟨Nat.le_of_ble_eq_true rfl, Nat.le_of_ble_eq_true rfl⟩) ⟨th_blind, tr_1 hK hH t8, (th_pre hH hK hN hZ hS hA9)⟩ rfl rfl hl.1 rfl (lv_room (Nat.le_of_ble_eq_true rfl)) dX11_answer_24 ⟨Nat.le_of_ble_eq_true rfl, Nat.le_of_ble_eq_true rfl⟩) hS (fun q _ h => hA9 q h) hA9 (fun r10 u t H locs ht hvm hw10 hB hz1 hk1 hS => ?_)
    try dsimp only at hw10 hB
    rw [ht] at hB
    have hH := hB
    refine th_astoreq (i := 4) (lv' := [(4, va_rf r10), (3, .int x7), (0, .ref h0), (1, .int p1), (2, .int p2)]) hx hb dX11_answer_27 hl (th_ltN rfl) rfl (fun ls hl => ?_)
    refine th_aloadq hx hb dX11_answer_29 (lv_at hl 0 rfl) ?_
    refine th_ifnonnull (tgt := 36) hx hb dX11_answer_31 (th_eqI rfl) (fun q11 z11 => ?_) (fun z11 => ?_)
    · skip
      subst z11
      have t11 := hw10.1 q11 rfl
      have hl : lv_has ls 5 [(4, .ref q11), (3, .int x7), (0, .ref h0), (1, .int p1), (2, .int p2)] := hl
      refine lv_iload_n hx hb dX11_answer_36 rfl (lv_at hl 4 rfl) ?_
      refine lv_iconst (v := 1) hx hb dX11_answer_37 ic_1 ?_
      refine lv_icmp_ne (tgt := 71) hx hb dX11_answer_38 (th_eqI rfl) (fun c12 => ?_) (fun c12 => ?_)
      · skip
        have f13 : rg 0 0 p2 := rg_w (rg_neR f5 rgc_1 c12) (th_leI rfl) (th_leI rfl)
        refine lv_aload hx hb dX11_answer_71 (lv_at hl 0 rfl) ?_
        refine lv_dup hx hb dX11_answer_73 rfl ?_
        obtain ⟨x14, e14⟩ : ∃ y : Int32, y = gi7 q11 5 := ⟨_, rfl⟩
        refine th_any3 t11 (fun t9 k9 => th_get (ci := 7) (v := .int x14) (T := TX8) (C := RX8) (N := 6) hx hb hts (fun w h => List.mem_cons_of_mem _ (List.mem_append_left _ (List.mem_append_left _ (List.mem_append_left _ (List.mem_append_left _ (List.mem_append_right _ h)))))) hown hK hH t9 (th_nz rfl) (thE_8 _ _ _) rfl 5 (th_ltN rfl) (hts (.fieldLink RX11 216 "BayMoorings$Boat" "refused" "I") (List.mem_cons_of_mem _ (List.mem_append_left _ (List.mem_append_left _ (List.mem_append_left _ (List.mem_append_left _ (List.mem_append_left _ (List.mem_append_left _ (List.mem_append_left _ (List.mem_append_left _ (List.mem_append_left _ (List.mem_of_getElem? (i := 3) rfl)))))))))))) (fun _ h9 => h9) (th_fI e14 rfl) dX11_answer_74 k9) (fun t9 k9 => th_get (ci := 8) (v := .int x14) (T := TX9) (C := RX9) (N := 6) hx hb hts (fun w h => List.mem_cons_of_mem _ (List.mem_append_left _ (List.mem_append_left _ (List.mem_append_left _ (List.mem_append_right _ h))))) hown hK hH t9 (th_nz rfl) (thE_9 _ _ _) rfl 5 (th_ltN rfl) (hts (.fieldLink RX11 216 "BayMoorings$Boat" "refused" "I") (List.mem_cons_of_mem _ (List.mem_append_left _ (List.mem_append_left _ (List.mem_append_left _ (List.mem_append_left _ (List.mem_append_left _ (List.mem_append_left _ (List.mem_append_left _ (List.mem_append_left _ (List.mem_append_left _ (List.mem_of_getElem? (i := 3) rfl)))))))))))) (fun _ h9 => h9) (th_fI e14 rfl) dX11_answer_74 k9) (fun t9 k9 => th_get (ci := 3) (v := .int x14) (T := TX4) (C := RX4) (N := 6) hx hb hts (fun w h => List.mem_cons_of_mem _ (List.mem_append_left _ (List.mem_append_left _ (List.mem_append_left _ (List.mem_append_left _ (List.mem_append_left _ (List.mem_append_right _ h))))))) hown hK hH t9 (th_nz rfl) (thE_4 _ _ _) rfl 5 (th_ltN rfl) (hts (.fieldLink RX11 216 "BayMoorings$Boat" "refused" "I") (List.mem_cons_of_mem _ (List.mem_append_left _ (List.mem_append_left _ (List.mem_append_left _ (List.mem_append_left _ (List.mem_append_left _ (List.mem_append_left _ (List.mem_append_left _ (List.mem_append_left _ (List.mem_append_left _ (List.mem_of_getElem? (i := 3) rfl)))))))))))) (fun _ h9 => h9) (th_fI e14 rfl) dX11_answer_74 k9) ?_
        refine lv_iconst (v := 1) hx hb dX11_answer_77 ic_1 ?_
        refine lv_iload_n hx hb dX11_answer_78 rfl (lv_at hl 3 rfl) ?_
        refine lv_ishl hx hb dX11_answer_79 ?_
        refine lv_topi (fun x15 e15 => ?_)
        refine lv_ior hx hb dX11_answer_80 ?_
        refine lv_topi (fun x16 e16 => ?_)
        refine th_any3 t11 (fun t9 k9 => th_put (ci := 7) (v := .int x16) (T := TX8) (C := RX8) (N := 6) (ty := .int) (gi' := va_up gi7 q11 (upd (gi7 q11) 5 x16)) (gr' := gr) hx hb hts (fun w h => List.mem_cons_of_mem _ (List.mem_append_left _ (List.mem_append_left _ (List.mem_append_left _ (List.mem_append_left _ (List.mem_append_right _ h)))))) tyX8 tyX8_ok nmX8 hown hK hH hS t9 (th_nz rfl) (Or.inl (th_nzE t9 rfl)) rfl rfl 5 (th_ltN rfl) (hts (.fieldLink RX11 216 "BayMoorings$Boat" "refused" "I") (List.mem_cons_of_mem _ (List.mem_append_left _ (List.mem_append_left _ (List.mem_append_left _ (List.mem_append_left _ (List.mem_append_left _ (List.mem_append_left _ (List.mem_append_left _ (List.mem_append_left _ (List.mem_append_left _ (List.mem_of_getElem? (i := 3) rfl)))))))))))) (fun _ h9 => h9) rfl (by decide +kernel) rfl rfl (Nat.le_of_ble_eq_true rfl) (by rw [va_up_self]; rfl) (by rw [va_up_self]; show (∃ q, gr q11 3 = some q ∧ τ q = 27) ∧ rg 0 4 (gi7 q11 4); exact ⟨(thI_8 hH t9).1, (thI_8 hH t9).2⟩) (fun b hb => ⟨va_up_ne _ _ hb, rfl⟩) dX11_answer_81 k9) (fun t9 k9 => th_put (ci := 8) (v := .int x16) (T := TX9) (C := RX9) (N := 6) (ty := .int) (gi' := va_up gi7 q11 (upd (gi7 q11) 5 x16)) (gr' := gr) hx hb hts (fun w h => List.mem_cons_of_mem _ (List.mem_append_left _ (List.mem_append_left _ (List.mem_append_left _ (List.mem_append_right _ h))))) tyX9 tyX9_ok nmX9 hown hK hH hS t9 (th_nz rfl) (Or.inl (th_nzE t9 rfl)) rfl rfl 5 (th_ltN rfl) (hts (.fieldLink RX11 216 "BayMoorings$Boat" "refused" "I") (List.mem_cons_of_mem _ (List.mem_append_left _ (List.mem_append_left _ (List.mem_append_left _ (List.mem_append_left _ (List.mem_append_left _ (List.mem_append_left _ (List.mem_append_left _ (List.mem_append_left _ (List.mem_append_left _ (List.mem_of_getElem? (i := 3) rfl)))))))))))) (fun _ h9 => h9) rfl (by decide +kernel) rfl rfl (Nat.le_of_ble_eq_true rfl) (by rw [va_up_self]; rfl) (by rw [va_up_self]; show (∃ q, gr q11 3 = some q ∧ τ q = 27) ∧ rg 0 4 (gi7 q11 4); exact ⟨(thI_9 hH t9).1, (thI_9 hH t9).2⟩) (fun b hb => ⟨va_up_ne _ _ hb, rfl⟩) dX11_answer_81 k9) (fun t9 k9 => th_put (ci := 3) (v := .int x16) (T := TX4) (C := RX4) (N := 6) (ty := .int) (gi' := va_up gi7 q11 (upd (gi7 q11) 5 x16)) (gr' := gr) hx hb hts (fun w h => List.mem_cons_of_mem _ (List.mem_append_left _ (List.mem_append_left _ (List.mem_append_left _ (List.mem_append_left _ (List.mem_append_left _ (List.mem_append_right _ h))))))) tyX4 tyX4_ok nmX4 hown hK hH hS t9 (th_nz rfl) (Or.inl (th_nzE t9 rfl)) rfl rfl 5 (th_ltN rfl) (hts (.fieldLink RX11 216 "BayMoorings$Boat" "refused" "I") (List.mem_cons_of_mem _ (List.mem_append_left _ (List.mem_append_left _ (List.mem_append_left _ (List.mem_append_left _ (List.mem_append_left _ (List.mem_append_left _ (List.mem_append_left _ (List.mem_append_left _ (List.mem_append_left _ (List.mem_of_getElem? (i := 3) rfl)))))))))))) (fun _ h9 => h9) rfl (by decide +kernel) rfl rfl (Nat.le_of_ble_eq_true rfl) (by rw [va_up_self]; rfl) (by rw [va_up_self]; show (∃ q, gr q11 3 = some q ∧ τ q = 27) ∧ rg 0 4 (gi7 q11 4); exact ⟨(thI_4 hH t9).1, (thI_4 hH t9).2⟩) (fun b hb => ⟨va_up_ne _ _ hb, rfl⟩) dX11_answer_81 k9) (fun H locs hH hS => ?_)
        obtain ⟨gi17, eg17⟩ : ∃ g, g = va_up gi7 q11 (upd (gi7 q11) 5 x16) := ⟨_, rfl⟩
        rw [← eg17] at hH
        have hu17 : gi17 q11 5 = x16 := (th_uI eg17).1
        have ho17 : ∀ b j, b ≠ q11 ∨ j ≠ 5 → gi17 b j = gi7 b j := (th_uI eg17).2
        have hM := th_or3 t11 (fun t9 => hM.i t9 (th_mem rfl) ho17) (fun t9 => hM.i t9 (th_mem rfl) ho17) (fun t9 => hM.i t9 (th_mem rfl) ho17)
        refine lv_aload_n hx hb dX11_answer_84 rfl (lv_at hl 2 rfl) ?_
        obtain ⟨x19, e19⟩ : ∃ y : Int32, y = gi17 h0 9 := ⟨_, rfl⟩
        refine th_get (ci := 10) (v := .int x19) (T := TX11) (C := RX11) (N := 10) hx hb hts (fun w h => List.mem_cons_of_mem _ (List.mem_append_left _ (List.mem_append_left _ (List.mem_append_left _ (List.mem_append_left _ (List.mem_append_left _ (List.mem_append_left _ (List.mem_append_left _ (List.mem_append_right _ h))))))))) hown hK hH t_h0 (th_nz rfl) (thE_11 _ _ _) rfl 9 (th_ltN rfl) (hts (.fieldLink RX11 60 "BayMoorings" "refuserStays" "Z") (List.mem_cons_of_mem _ (List.mem_append_left _ (List.mem_append_left _ (List.mem_append_left _ (List.mem_append_left _ (List.mem_append_left _ (List.mem_append_left _ (List.mem_append_left _ (List.mem_append_left _ (List.mem_append_left _ (List.mem_of_getElem? (i := 4) rfl)))))))))))) (fun _ h9 => h9) (th_fI e19 rfl) dX11_answer_85 ?_
        have f19 : rg 0 1 x19 := rg_e e19 ((thI_11 hH t_h0).2.2.2.2.2.2.2.2)
        refine lv_if_ne (tgt := 114) hx hb dX11_answer_88 (th_eqI rfl) (fun c20 => ?_) (fun c20 => ?_)
        · skip
          have f21 : rg 1 1 x19 := rg_w (rg_neL f19 rgc_0 c20) (th_leI rfl) (th_leI rfl)
          refine lv_iload_n hx hb dX11_answer_114 rfl (lv_at hl 1 rfl) ?_
          exact W.iret (v := x7) hx hb hr (fun t ht hW => ⟨⟨x7, (gi17, gr), rfl, ⟨hM, rfl, (hF.trans (by simp only [↓reduceIte, F_X11_answer, hw2.2.2.1, eq_false c3, hw7.2.2, r8, Option.getD_some, hw10.2, Option.elim_some, eq_false c12, ← e14, ← e15, ← e16, ← eg17, ← e19, eq_false c20]))⟩, th_Ht ht hH⟩, hS.F ht⟩) hS.2.2 dX11_answer_115
        · skip
          have f22 : rg 0 0 x19 := rg_w (rg_eq f19 rgc_0 c20).1 (th_leI rfl) (th_leI rfl)
          refine lv_aload_n hx hb dX11_answer_91 rfl (lv_at hl 2 rfl) ?_
          obtain ⟨q23, r23, t23⟩ : ∃ q, gr h0 1 = some q ∧ τ q = 10 := (thI_11 hH t_h0).2.1
          refine th_get (ci := 10) (v := .ref q23) (T := TX11) (C := RX11) (N := 10) hx hb hts (fun w h => List.mem_cons_of_mem _ (List.mem_append_left _ (List.mem_append_left _ (List.mem_append_left _ (List.mem_append_left _ (List.mem_append_left _ (List.mem_append_left _ (List.mem_append_left _ (List.mem_append_right _ h))))))))) hown hK hH t_h0 (th_nz rfl) (thE_11 _ _ _) rfl 1 (th_ltN rfl) (hts (.fieldLink RX11 21 "BayMoorings" "waiting" "LBayMoorings$WaitingList;") (List.mem_cons_of_mem _ (List.mem_append_left _ (List.mem_append_left _ (List.mem_append_left _ (List.mem_append_left _ (List.mem_append_left _ (List.mem_append_left _ (List.mem_append_left _ (List.mem_append_left _ (List.mem_append_left _ (List.mem_of_getElem? (i := 1) rfl)))))))))))) (fun _ h9 => h9) (th_fR r23 rfl) dX11_answer_92 ?_
          refine lv_aload_n hx hb dX11_answer_95 rfl (lv_at hl 2 rfl) ?_
          refine th_get (ci := 10) (v := .ref q23) (T := TX11) (C := RX11) (N := 10) hx hb hts (fun w h => List.mem_cons_of_mem _ (List.mem_append_left _ (List.mem_append_left _ (List.mem_append_left _ (List.mem_append_left _ (List.mem_append_left _ (List.mem_append_left _ (List.mem_append_left _ (List.mem_append_right _ h))))))))) hown hK hH t_h0 (th_nz rfl) (thE_11 _ _ _) rfl 1 (th_ltN rfl) (hts (.fieldLink RX11 21 "BayMoorings" "waiting" "LBayMoorings$WaitingList;") (List.mem_cons_of_mem _ (List.mem_append_left _ (List.mem_append_left _ (List.mem_append_left _ (List.mem_append_left _ (List.mem_append_left _ (List.mem_append_left _ (List.mem_append_left _ (List.mem_append_left _ (List.mem_append_left _ (List.mem_of_getElem? (i := 1) rfl)))))))))))) (fun _ h9 => h9) (th_fR r23 rfl) dX11_answer_96 ?_
          refine lv_iload_n hx hb dX11_answer_99 rfl (lv_at hl 1 rfl) ?_
          have hA25 := th_Asub (τ := τ) hS
          refine va_calli (va_runV (As := [.int x7]) (rest := [.ref q23]) ⟨hx, hb, hml, hown, hts⟩ (k_X10_placeOf l D cA Z τ gi17 gr _ q23 t23 x7) (cwV 1 hts gX11_answer_X10_placeOf rfl rfl rfl hd_X10_placeOf__1 ⟨Nat.le_of_ble_eq_true rfl, Nat.le_of_ble_eq_true rfl⟩) ⟨th_blind, tr_10 hK hH t23, (th_pre hH hK hN hZ hS hA25)⟩ rfl rfl hl.1 rfl (lv_room (Nat.le_of_ble_eq_true rfl)) dX11_answer_100 ⟨Nat.le_of_ble_eq_true rfl, Nat.le_of_ble_eq_true rfl⟩) hS (fun q _ h => hA25 q h) hA25 (fun x26 u t H locs ht hvm hw26 hB hz1 hk1 hS => ?_)
          try dsimp only at hw26 hB
          rw [ht] at hB
          have hH := hB
          have hA27 := th_Asub (τ := τ) hS
          refine va_callv (va_runV (As := [.int x26]) (rest := []) ⟨hx, hb, hml, hown, hts⟩ (k_X10_drop l D cA Z τ gi17 gr _ q23 t23 x26) (cwV 1 hts gX11_answer_X10_drop rfl rfl rfl hd_X10_drop__1 ⟨Nat.le_of_ble_eq_true rfl, Nat.le_of_ble_eq_true rfl⟩) ⟨th_blind, tr_10 hK hH t23, (th_pre hH hK hN hZ hS hA27)⟩ rfl rfl hl.1 rfl (lv_room (Nat.le_of_ble_eq_true rfl)) dX11_answer_103 ⟨Nat.le_of_ble_eq_true rfl, Nat.le_of_ble_eq_true rfl⟩) hS (fun q _ h => hA27 q h) hA27 (fun  u t H locs ht hvm hw28 hB hz1 hk1 hS => ?_)
          try dsimp only at hw28 hB
          rw [ht] at hB
          have hH := hB
          obtain ⟨gi28, gr28⟩ := u
          try dsimp only at hw28 hH
          obtain rfl : gr = gr28 := (hw28.2.1).symm
          have hM := hM.tr hw28.1 (fun _ h => h) (th_sub rfl)
          have e29 : x19 = gi28 h0 9 := Eq.trans e19 (Eq.symm (hw28.1 h0 9 (th_nzE t_h0 rfl) (th_nmE (key := 1109) t_h0 rfl rfl)).1)
          refine lv_aload_n hx hb dX11_answer_106 rfl (lv_at hl 2 rfl) ?_
          refine th_get (ci := 10) (v := .ref q23) (T := TX11) (C := RX11) (N := 10) hx hb hts (fun w h => List.mem_cons_of_mem _ (List.mem_append_left _ (List.mem_append_left _ (List.mem_append_left _ (List.mem_append_left _ (List.mem_append_left _ (List.mem_append_left _ (List.mem_append_left _ (List.mem_append_right _ h))))))))) hown hK hH t_h0 (th_nz rfl) (thE_11 _ _ _) rfl 1 (th_ltN rfl) (hts (.fieldLink RX11 21 "BayMoorings" "waiting" "LBayMoorings$WaitingList;") (List.mem_cons_of_mem _ (List.mem_append_left _ (List.mem_append_left _ (List.mem_append_left _ (List.mem_append_left _ (List.mem_append_left _ (List.mem_append_left _ (List.mem_append_left _ (List.mem_append_left _ (List.mem_append_left _ (List.mem_of_getElem? (i := 1) rfl)))))))))))) (fun _ h9 => h9) (th_fR r23 rfl) dX11_answer_107 ?_
          refine lv_iload_n hx hb dX11_answer_110 rfl (lv_at hl 1 rfl) ?_
          have hA31 := th_Asub (τ := τ) hS
          refine va_callv (va_runV (As := [.int x7]) (rest := []) ⟨hx, hb, hml, hown, hts⟩ (k_X10_append l D cA Z τ gi28 gr _ q23 t23 x7) (cwV 1 hts gX11_answer_X10_append rfl rfl rfl hd_X10_append__1 ⟨Nat.le_of_ble_eq_true rfl, Nat.le_of_ble_eq_true rfl⟩) ⟨th_blind, tr_10 hK hH t23, (th_pre hH hK hN hZ hS hA31)⟩ rfl rfl hl.1 rfl (lv_room (Nat.le_of_ble_eq_true rfl)) dX11_answer_111 ⟨Nat.le_of_ble_eq_true rfl, Nat.le_of_ble_eq_true rfl⟩) hS (fun q _ h => hA31 q h) hA31 (fun  u t H locs ht hvm hw32 hB hz1 hk1 hS => ?_)
          try dsimp only at hw32 hB
          rw [ht] at hB
          have hH := hB
          obtain ⟨gi32, gr32⟩ := u
          try dsimp only at hw32 hH
          obtain rfl : gr = gr32 := (hw32.2.1).symm
          have hM := hM.tr hw32.1 (fun _ h => h) (th_sub rfl)
          have e33 : x19 = gi32 h0 9 := Eq.trans e29 (Eq.symm (hw32.1 h0 9 (th_nzE t_h0 rfl) (th_nmE (key := 1109) t_h0 rfl rfl)).1)
          refine lv_iload_n hx hb dX11_answer_114 rfl (lv_at hl 1 rfl) ?_
          exact W.iret (v := x7) hx hb hr (fun t ht hW => ⟨⟨x7, (gi32, gr), rfl, ⟨hM, rfl, (hF.trans (by simp only [↓reduceIte, F_X11_answer, hw2.2.2.1, eq_false c3, hw7.2.2, r8, Option.getD_some, hw10.2, Option.elim_some, eq_false c12, ← e14, ← e15, ← e16, ← eg17, ← e19, eq_true c20, r23, hw26, hw28.2.2, hw32.2.2]))⟩, th_Ht ht hH⟩, hS.F ht⟩) hS.2.2 dX11_answer_115
      · skip
        have f34 : rg 1 1 p2 := rg_w (rg_eq f5 rgc_1 c12).1 (th_leI rfl) (th_leI rfl)
        refine lv_aload_n hx hb dX11_answer_41 rfl (lv_at hl 2 rfl) ?_
        obtain ⟨q35, r35, t35⟩ : ∃ q, gr h0 1 = some q ∧ τ q = 10 := (thI_11 hH t_h0).2.1
        refine th_get (ci := 10) (v := .ref q35) (T := TX11) (C := RX11) (N := 10) hx hb hts (fun w h => List.mem_cons_of_mem _ (List.mem_append_left _ (List.mem_append_left _ (List.mem_append_left _ (List.mem_append_left _ (List.mem_append_left _ (List.mem_append_left _ (List.mem_append_left _ (List.mem_append_right _ h))))))))) hown hK hH t_h0 (th_nz rfl) (thE_11 _ _ _) rfl 1 (th_ltN rfl) (hts (.fieldLink RX11 21 "BayMoorings" "waiting" "LBayMoorings$WaitingList;") (List.mem_cons_of_mem _ (List.mem_append_left _ (List.mem_append_left _ (List.mem_append_left _ (List.mem_append_left _ (List.mem_append_left _ (List.mem_append_left _ (List.mem_append_left _ (List.mem_append_left _ (List.mem_append_left _ (List.mem_of_getElem? (i := 1) rfl)))))))))))) (fun _ h9 => h9) (th_fR r35 rfl) dX11_answer_42 ?_
        refine lv_aload_n hx hb dX11_answer_45 rfl (lv_at hl 2 rfl) ?_
        refine th_get (ci := 10) (v := .ref q35) (T := TX11) (C := RX11) (N := 10) hx hb hts (fun w h => List.mem_cons_of_mem _ (List.mem_append_left _ (List.mem_append_left _ (List.mem_append_left _ (List.mem_append_left _ (List.mem_append_left _ (List.mem_append_left _ (List.mem_append_left _ (List.mem_append_right _ h))))))))) hown hK hH t_h0 (th_nz rfl) (thE_11 _ _ _) rfl 1 (th_ltN rfl) (hts (.fieldLink RX11 21 "BayMoorings" "waiting" "LBayMoorings$WaitingList;") (List.mem_cons_of_mem _ (List.mem_append_left _ (List.mem_append_left _ (List.mem_append_left _ (List.mem_append_left _ (List.mem_append_left _ (List.mem_append_left _ (List.mem_append_left _ (List.mem_append_left _ (List.mem_append_left _ (List.mem_of_getElem? (i := 1) rfl)))))))))))) (fun _ h9 => h9) (th_fR r35 rfl) dX11_answer_46 ?_
        refine lv_iload_n hx hb dX11_answer_49 rfl (lv_at hl 1 rfl) ?_
        have hA37 := th_Asub (τ := τ) hS
        refine va_calli (va_runV (As := [.int x7]) (rest := [.ref q35]) ⟨hx, hb, hml, hown, hts⟩ (k_X10_placeOf l D cA Z τ gi7 gr _ q35 t35 x7) (cwV 1 hts gX11_answer_X10_placeOf rfl rfl rfl hd_X10_placeOf__1 ⟨Nat.le_of_ble_eq_true rfl, Nat.le_of_ble_eq_true rfl⟩) ⟨th_blind, tr_10 hK hH t35, (th_pre hH hK hN hZ hS hA37)⟩ rfl rfl hl.1 rfl (lv_room (Nat.le_of_ble_eq_true rfl)) dX11_answer_50 ⟨Nat.le_of_ble_eq_true rfl, Nat.le_of_ble_eq_true rfl⟩) hS (fun q _ h => hA37 q h) hA37 (fun x38 u t H locs ht hvm hw38 hB hz1 hk1 hS => ?_)
        try dsimp only at hw38 hB
        rw [ht] at hB
        have hH := hB
        have hA39 := th_Asub (τ := τ) hS
        refine va_callv (va_runV (As := [.int x38]) (rest := []) ⟨hx, hb, hml, hown, hts⟩ (k_X10_drop l D cA Z τ gi7 gr _ q35 t35 x38) (cwV 1 hts gX11_answer_X10_drop rfl rfl rfl hd_X10_drop__1 ⟨Nat.le_of_ble_eq_true rfl, Nat.le_of_ble_eq_true rfl⟩) ⟨th_blind, tr_10 hK hH t35, (th_pre hH hK hN hZ hS hA39)⟩ rfl rfl hl.1 rfl (lv_room (Nat.le_of_ble_eq_true rfl)) dX11_answer_53 ⟨Nat.le_of_ble_eq_true rfl, Nat.le_of_ble_eq_true rfl⟩) hS (fun q _ h => hA39 q h) hA39 (fun  u t H locs ht hvm hw40 hB hz1 hk1 hS => ?_)
        try dsimp only at hw40 hB
        rw [ht] at hB
        have hH := hB
        obtain ⟨gi40, gr40⟩ := u
        try dsimp only at hw40 hH
        obtain rfl : gr = gr40 := (hw40.2.1).symm
        have hM := hM.tr hw40.1 (fun _ h => h) (th_sub rfl)
        refine lv_aload_n hx hb dX11_answer_56 rfl (lv_at hl 2 rfl) ?_
        refine th_get (ci := 10) (v := .ref q8) (T := TX11) (C := RX11) (N := 10) hx hb hts (fun w h => List.mem_cons_of_mem _ (List.mem_append_left _ (List.mem_append_left _ (List.mem_append_left _ (List.mem_append_left _ (List.mem_append_left _ (List.mem_append_left _ (List.mem_append_left _ (List.mem_append_right _ h))))))))) hown hK hH t_h0 (th_nz rfl) (thE_11 _ _ _) rfl 0 (th_ltN rfl) (hts (.fieldLink RX11 10 "BayMoorings" "bay" "LBayMoorings$Bay;") (List.mem_cons_of_mem _ (List.mem_append_left _ (List.mem_append_left _ (List.mem_append_left _ (List.mem_append_left _ (List.mem_append_left _ (List.mem_append_left _ (List.mem_append_left _ (List.mem_append_left _ (List.mem_append_left _ (List.mem_of_getElem? (i := 0) rfl)))))))))))) (fun _ h9 => h9) (th_fR r8 rfl) dX11_answer_57 ?_
        obtain ⟨q42, r42, t42⟩ : ∃ q, gr q8 4 = some q ∧ τ q = 2 := (thI_1 hH t8).2.2.2.2.1
        refine th_get (ci := 0) (v := .ref q42) (T := TX0) (C := RX0) (N := 9) hx hb hts (fun w h => List.mem_cons_of_mem _ (List.mem_append_left _ (List.mem_append_left _ (List.mem_append_left _ (List.mem_append_left _ (List.mem_append_left _ (List.mem_append_left _ (List.mem_append_right _ h)))))))) hown hK hH t8 (th_nz rfl) (thE_1 _ _ _) rfl 4 (th_ltN rfl) (hts (.fieldLink RX11 125 "BayMoorings$Bay" "berths" "LBayMoorings$Berths;") (List.mem_cons_of_mem _ (List.mem_append_left _ (List.mem_append_left _ (List.mem_append_left _ (List.mem_append_left _ (List.mem_append_left _ (List.mem_append_left _ (List.mem_append_left _ (List.mem_append_left _ (List.mem_append_left _ (List.mem_of_getElem? (i := 2) rfl)))))))))))) (fun _ h9 => h9) (th_fR r42 rfl) dX11_answer_60 ?_
        refine lv_iload_n hx hb dX11_answer_63 rfl (lv_at hl 1 rfl) ?_
        refine lv_iload_n hx hb dX11_answer_64 rfl (lv_at hl 3 rfl) ?_
        have hA43 := th_Asub (τ := τ) hS
        refine va_callv (va_runV (As := [.int x7, .int p1]) (rest := []) ⟨hx, hb, hml, hown, hts⟩ (k_X1_put l D cA Z τ gi40 gr _ q42 t42 x7 p1) (cwV 2 hts gX11_answer_X1_put rfl rfl rfl hd_X1_put__2 ⟨Nat.le_of_ble_eq_true rfl, Nat.le_of_ble_eq_true rfl⟩) ⟨th_blind, tr_2 hK hH t42, (th_pre hH hK hN hZ hS hA43)⟩ rfl rfl hl.1 rfl (lv_room (Nat.le_of_ble_eq_true rfl)) dX11_answer_65 ⟨Nat.le_of_ble_eq_true rfl, Nat.le_of_ble_eq_true rfl⟩) hS (fun q _ h => hA43 q h) hA43 (fun  u t H locs ht hvm hw44 hB hz1 hk1 hS => ?_)
        try dsimp only at hw44 hB
        rw [ht] at hB
        have hH := hB
        obtain ⟨gi44, gr44⟩ := u
        try dsimp only at hw44 hH
        obtain rfl : gr = gr44 := (hw44.2.1).symm
        have hM := hM.tr hw44.1 (fun _ h => h) (th_sub rfl)
        refine lv_goto (tgt := 114) hx hb dX11_answer_68 (th_eqI rfl) ?_
        refine lv_iload_n hx hb dX11_answer_114 rfl (lv_at hl 1 rfl) ?_
        exact W.iret (v := x7) hx hb hr (fun t ht hW => ⟨⟨x7, (gi44, gr), rfl, ⟨hM, rfl, (hF.trans (by simp only [↓reduceIte, F_X11_answer, hw2.2.2.1, eq_false c3, hw7.2.2, r8, Option.getD_some, hw10.2, Option.elim_some, eq_true c12, r35, hw38, hw40.2.2, r42, hw44.2.2]))⟩, th_Ht ht hH⟩, hS.F ht⟩) hS.2.2 dX11_answer_115
    · skip
      subst z11
      have hl : lv_has ls 5 [(4, .null), (3, .int x7), (0, .ref h0), (1, .int p1), (2, .int p2)] := hl
      refine lv_iload_n hx hb dX11_answer_34 rfl (lv_at hl 1 rfl) ?_
      exact W.iret (v := x7) hx hb hr (fun t ht hW => ⟨⟨x7, (gi7, gr), rfl, ⟨hM, rfl, (hF.trans (by simp only [↓reduceIte, F_X11_answer, hw2.2.2.1, eq_false c3, hw7.2.2, r8, Option.getD_some, hw10.2, Option.elim_none]))⟩, th_Ht ht hH⟩, hS.F ht⟩) hS.2.2 dX11_answer_35
  · skip
    have f45 : rg 0 0 x2 := rg_w (rg_eq hw2.1 rgc_0 c3).1 (th_leI rfl) (th_leI rfl)
    refine lv_aload_n hx hb dX11_answer_7 rfl (lv_at hl 0 rfl) ?_
    refine lv_iconst (v := 1) hx hb dX11_answer_8 ic_1 ?_
    have hA46 := th_Asub (τ := τ) hS
    refine va_calli (va_runV (As := [.int 1]) (rest := []) ⟨hx, hb, hml, hown, hts⟩ (k_X11_finding l D cA Z τ gi gr _ h0 t_h0 1) (cwV 1 hts gX11_answer_X11_finding rfl rfl rfl hd_X11_finding__1 ⟨Nat.le_of_ble_eq_true rfl, Nat.le_of_ble_eq_true rfl⟩) ⟨th_blind, tr_11 hK hH t_h0, (th_pre hH hK hN hZ hS hA46)⟩ rfl rfl hl.1 rfl (lv_room (Nat.le_of_ble_eq_true rfl)) dX11_answer_9 ⟨Nat.le_of_ble_eq_true rfl, Nat.le_of_ble_eq_true rfl⟩) hS (fun q _ h => hA46 q h) hA46 (fun x47 u t H locs ht hvm hw47 hB hz1 hk1 hS => ?_)
    try dsimp only at hw47 hB
    rw [ht] at hB
    have hH := hB
    obtain ⟨gi47, gr47⟩ := u
    try dsimp only at hw47 hH
    obtain rfl : gr = gr47 := (hw47.2.1).symm
    have hM := hM.tr hw47.1 (fun _ h => h) (th_sub rfl)
    exact W.iret (v := x47) hx hb hr (fun t ht hW => ⟨⟨x47, (gi47, gr), rfl, ⟨hM, rfl, (hF.trans (by simp only [↓reduceIte, F_X11_answer, hw2.2.2.1, eq_true c3, hw47.2.2.1]))⟩, th_Ht ht hH⟩, hS.F ht⟩) hS.2.2 dX11_answer_12

noncomputable def F_X11_stays (τ : th_t) (Z : th_Zt) (gi : th_i) (gr : th_r) (h0 : Nat) (p1 : Int32) : Int32 × th_i :=
  let wt0 : Int32 := gi h0 9
  let x2 : Int32 := F_X11_isFlag τ Z gi gr p1
  if x2 = (0 : Int32) then (
    let u26 : Int32 × th_i := F_X11_finding τ Z gi gr h0 1
    let x26 : Int32 := u26.1
    let gi26 : th_i := u26.2
    (x26, gi26)) else (
    if wt0 = (0 : Int32) then (
      if p1 = (1 : Int32) then (
        let gi14 : th_i := va_up gi h0 (upd (gi h0) 9 1)
        (0, gi14)) else (
        let gi11 : th_i := va_up gi h0 (upd (gi h0) 9 0)
        (0, gi11))) else (
      if p1 = (1 : Int32) then (
        let gi22 : th_i := va_up gi h0 (upd (gi h0) 9 1)
        (1, gi22)) else (
        let gi19 : th_i := va_up gi h0 (upd (gi h0) 9 0)
        (1, gi19))))
set_option maxHeartbeats 8000000 in
set_option maxRecDepth 100000 in
theorem k_X11_stays (l : Launch) (D : va_G) (cA : Nat → ClassId) (Z : th_Zt) (τ : th_t) (gi : th_i) (gr : th_r) (sz : Nat) (h0 : Nat) (t_h0 : τ h0 = 11) (p1 : Int32) : Met l yX11_stays wsX11_stays ({ frames := 2, cells := 0, slots := 0, locals := 43 }) (va_Pc [.ref h0, .int p1] (th_Pre D cA Z τ gi gr sz)) (va_Qi (fun (r : Int32) (u : th_i × th_r) => th_Mod [1109, 3600] τ gi gr u.1 u.2 ∧ u.2 = gr ∧ (F_X11_stays τ Z gi gr h0 p1 = (r, u.1)) ∧ (se_post 0 1 (gi h0 9) (u.1 h0 9) p1 r)) (fun (u : th_i × th_r) t => th_H D cA τ u.1 u.2 t.heap) (th_A τ sz)) 0 0 (th_A τ sz) := by
  refine Met.ofW (cc := cX11_stays) (maxL := 3) (ret := (some .int)) (by decide) rfl ?_
  intro p e s m args below meth c s₁ B hml hv
  obtain ⟨rfl, hsz, hH, hK, hN, hZ⟩ := hv
  have hx := B.exec
  have hb := B.bytes
  have hr := B.returns
  have hts := atoms_spec (ws := wsX11_stays) B.pre
  have hown : s.vm.findClass RX11 = some m.cls := findClass_of_methodNamed B.named
  have hlocks := B.notSynchronized
  subst hsz
  have hM : th_Mod [1109, 3600] τ gi gr gi gr := th_Mod.rf
  have hS : va_S (th_A τ s.heap.size) s.heap s.heap [] := va_S.rf
  have hl := lv_entry ([.ref h0, .int p1]) (n := 3) (Nat.le_of_ble_eq_true rfl)
  rw [lg_entry_eq]
  generalize (lg_sl ([.ref h0, .int p1]) ++ List.replicate (3 - (lg_sl ([.ref h0, .int p1])).length) Slot.unset).toArray = ls at hl ⊢
  have hl : lv_has ls 3 [(0, .ref h0), (1, .int p1)] := hl
  obtain ⟨wt0, ewt0⟩ : ∃ y : Int32, y = gi h0 9 := ⟨_, rfl⟩
  have fwt0 : rg 0 1 wt0 := rg_e ewt0 (thI_11 hH t_h0).2.2.2.2.2.2.2.2
  have hF : F_X11_stays τ Z gi gr h0 p1 = F_X11_stays τ Z gi gr h0 p1 := rfl
  refine lv_iload_n hx hb dX11_stays_0 rfl (lv_at hl 1 rfl) ?_
  have hA1 := th_Asub (τ := τ) hS
  refine va_calli (va_runS (As := [.int p1]) (rest := []) ⟨hx, hb, hml, hown, hts⟩ (k_X11_isFlag l D cA Z τ gi gr _ p1) (va_cwS 1 hts gX11_stays_X11_isFlag rfl rfl rfl (by decide +kernel) ⟨Nat.le_of_ble_eq_true rfl, Nat.le_of_ble_eq_true rfl⟩) ⟨th_blind, (th_pre hH hK hN hZ hS hA1)⟩ rfl rfl hl.1 rfl (lv_room (Nat.le_of_ble_eq_true rfl)) dX11_stays_1 ⟨Nat.le_of_ble_eq_true rfl, Nat.le_of_ble_eq_true rfl⟩) hS (fun q _ h => hA1 q h) hA1 (fun x2 u t H locs ht hvm hw2 hB hz1 hk1 hS => ?_)
  try dsimp only at hw2 hB
  rw [ht] at hB
  have hH := hB
  refine lv_if_ne (tgt := 13) hx hb dX11_stays_4 (th_eqI rfl) (fun c3 => ?_) (fun c3 => ?_)
  · skip
    have f4 : rg 1 1 x2 := rg_w (rg_neL hw2.1 rgc_0 c3) (th_leI rfl) (th_leI rfl)
    have f5 : rg 0 1 p1 := rg_w (hw2.2.1 c3) (th_leI rfl) (th_leI rfl)
    refine lv_aload_n hx hb dX11_stays_13 rfl (lv_at hl 0 rfl) ?_
    refine th_get (ci := 10) (v := .int wt0) (T := TX11) (C := RX11) (N := 10) hx hb hts (fun w h => List.mem_cons_of_mem _ (List.mem_append_right _ h)) hown hK hH t_h0 (th_nz rfl) (thE_11 _ _ _) rfl 9 (th_ltN rfl) (hts (.fieldLink RX11 60 "BayMoorings" "refuserStays" "Z") (List.mem_cons_of_mem _ (List.mem_append_left _ (List.mem_of_getElem? (i := 0) rfl)))) (fun _ h9 => h9) (th_fI ewt0 rfl) dX11_stays_14 ?_
    refine lv_if_eq (tgt := 24) hx hb dX11_stays_17 (th_eqI rfl) (fun c7 => ?_) (fun c7 => ?_)
    · skip
      have f8 : rg 0 0 wt0 := rg_w (rg_eq fwt0 rgc_0 c7).1 (th_leI rfl) (th_leI rfl)
      refine lv_iconst (v := 0) hx hb dX11_stays_24 ic_0 ?_
      refine lv_istore_n (i := 2) (lv' := [(2, .int 0), (0, .ref h0), (1, .int p1)]) hx hb dX11_stays_25 rfl hl (th_ltN rfl) rfl (fun ls hl => ?_)
      refine lv_aload_n hx hb dX11_stays_26 rfl (lv_at hl 1 rfl) ?_
      refine lv_iload_n hx hb dX11_stays_27 rfl (lv_at hl 2 rfl) ?_
      refine lv_iconst (v := 1) hx hb dX11_stays_28 ic_1 ?_
      refine lv_icmp_ne (tgt := 36) hx hb dX11_stays_29 (th_eqI rfl) (fun c9 => ?_) (fun c9 => ?_)
      · skip
        have f10 : rg 0 0 p1 := rg_w (rg_neR f5 rgc_1 c9) (th_leI rfl) (th_leI rfl)
        refine lv_iconst (v := 0) hx hb dX11_stays_36 ic_0 ?_
        refine th_put (ci := 10) (v := .int 0) (T := TX11) (C := RX11) (N := 10) (ty := .boolean) (gi' := va_up gi h0 (upd (gi h0) 9 0)) (gr' := gr) hx hb hts (fun w h => List.mem_cons_of_mem _ (List.mem_append_right _ h)) tyX11 tyX11_ok nmX11 hown hK hH hS t_h0 (th_nz rfl) (Or.inl (th_nzE t_h0 rfl)) rfl rfl 9 (th_ltN rfl) (hts (.fieldLink RX11 60 "BayMoorings" "refuserStays" "Z") (List.mem_cons_of_mem _ (List.mem_append_left _ (List.mem_of_getElem? (i := 0) rfl)))) (fun _ h9 => h9) rfl (by decide +kernel) (rg_nb (rg_w rgc_0 (th_leI rfl) (th_leI rfl))) (rg_fb (rg_w rgc_0 (th_leI rfl) (th_leI rfl))) (Nat.le_of_ble_eq_true rfl) (by rw [va_up_self]; rfl) (by rw [va_up_self]; show (∃ q, gr h0 0 = some q ∧ τ q = 1) ∧ (∃ q, gr h0 1 = some q ∧ τ q = 10) ∧ (∃ q, gr h0 2 = some q ∧ τ q = 7) ∧ (∃ q, gr h0 3 = some q ∧ τ q = 6) ∧ (∃ q, gr h0 4 = some q ∧ τ q = 5) ∧ (∃ q, gr h0 5 = some q ∧ τ q = 36) ∧ (∃ q, gr h0 6 = some q ∧ τ q = 37) ∧ rg 0 24 (gi h0 7) ∧ rg 0 1 0; exact ⟨(thI_11 hH t_h0).1, (thI_11 hH t_h0).2.1, (thI_11 hH t_h0).2.2.1, (thI_11 hH t_h0).2.2.2.1, (thI_11 hH t_h0).2.2.2.2.1, (thI_11 hH t_h0).2.2.2.2.2.1, (thI_11 hH t_h0).2.2.2.2.2.2.1, (thI_11 hH t_h0).2.2.2.2.2.2.2.1, (rg_w rgc_0 (th_leI rfl) (th_leI rfl))⟩) (fun b hb => ⟨va_up_ne _ _ hb, rfl⟩) dX11_stays_37 (fun H locs hH hS => ?_)
        obtain ⟨gi11, eg11⟩ : ∃ g, g = va_up gi h0 (upd (gi h0) 9 0) := ⟨_, rfl⟩
        rw [← eg11] at hH
        have hu11 : gi11 h0 9 = 0 := (th_uI eg11).1
        have ho11 : ∀ b j, b ≠ h0 ∨ j ≠ 9 → gi11 b j = gi b j := (th_uI eg11).2
        have hM := hM.i t_h0 (th_mem (a := 1109) rfl) ho11
        refine lv_iload_n hx hb dX11_stays_40 rfl (lv_at hl 0 rfl) ?_
        exact W.iret (v := 0) hx hb hr (fun t ht hW => ⟨⟨0, (gi11, gr), rfl, ⟨hM, rfl, (hF.trans (by simp only [↓reduceIte, F_X11_stays, ← ewt0, hw2.2.2.1, eq_false c3, eq_true c7, eq_false c9, ← eg11])), (se_yes (rg_w f10 (th_leI rfl) (th_leI rfl)) (((rg_one rgc_0 f8)).trans ewt0) (hu11.symm.symm.trans (rg_one rgc_0 f10)))⟩, th_Ht ht hH⟩, hS.F ht⟩) hS.2.2 dX11_stays_41
      · skip
        have f13 : rg 1 1 p1 := rg_w (rg_eq f5 rgc_1 c9).1 (th_leI rfl) (th_leI rfl)
        refine lv_iconst (v := 1) hx hb dX11_stays_32 ic_1 ?_
        refine lv_goto (tgt := 37) hx hb dX11_stays_33 (th_eqI rfl) ?_
        refine th_put (ci := 10) (v := .int 1) (T := TX11) (C := RX11) (N := 10) (ty := .boolean) (gi' := va_up gi h0 (upd (gi h0) 9 1)) (gr' := gr) hx hb hts (fun w h => List.mem_cons_of_mem _ (List.mem_append_right _ h)) tyX11 tyX11_ok nmX11 hown hK hH hS t_h0 (th_nz rfl) (Or.inl (th_nzE t_h0 rfl)) rfl rfl 9 (th_ltN rfl) (hts (.fieldLink RX11 60 "BayMoorings" "refuserStays" "Z") (List.mem_cons_of_mem _ (List.mem_append_left _ (List.mem_of_getElem? (i := 0) rfl)))) (fun _ h9 => h9) rfl (by decide +kernel) (rg_nb (rg_w rgc_1 (th_leI rfl) (th_leI rfl))) (rg_fb (rg_w rgc_1 (th_leI rfl) (th_leI rfl))) (Nat.le_of_ble_eq_true rfl) (by rw [va_up_self]; rfl) (by rw [va_up_self]; show (∃ q, gr h0 0 = some q ∧ τ q = 1) ∧ (∃ q, gr h0 1 = some q ∧ τ q = 10) ∧ (∃ q, gr h0 2 = some q ∧ τ q = 7) ∧ (∃ q, gr h0 3 = some q ∧ τ q = 6) ∧ (∃ q, gr h0 4 = some q ∧ τ q = 5) ∧ (∃ q, gr h0 5 = some q ∧ τ q = 36) ∧ (∃ q, gr h0 6 = some q ∧ τ q = 37) ∧ rg 0 24 (gi h0 7) ∧ rg 0 1 1; exact ⟨(thI_11 hH t_h0).1, (thI_11 hH t_h0).2.1, (thI_11 hH t_h0).2.2.1, (thI_11 hH t_h0).2.2.2.1, (thI_11 hH t_h0).2.2.2.2.1, (thI_11 hH t_h0).2.2.2.2.2.1, (thI_11 hH t_h0).2.2.2.2.2.2.1, (thI_11 hH t_h0).2.2.2.2.2.2.2.1, (rg_w rgc_1 (th_leI rfl) (th_leI rfl))⟩) (fun b hb => ⟨va_up_ne _ _ hb, rfl⟩) dX11_stays_37 (fun H locs hH hS => ?_)
        obtain ⟨gi14, eg14⟩ : ∃ g, g = va_up gi h0 (upd (gi h0) 9 1) := ⟨_, rfl⟩
        rw [← eg14] at hH
        have hu14 : gi14 h0 9 = 1 := (th_uI eg14).1
        have ho14 : ∀ b j, b ≠ h0 ∨ j ≠ 9 → gi14 b j = gi b j := (th_uI eg14).2
        have hM := hM.i t_h0 (th_mem (a := 1109) rfl) ho14
        refine lv_iload_n hx hb dX11_stays_40 rfl (lv_at hl 0 rfl) ?_
        exact W.iret (v := 0) hx hb hr (fun t ht hW => ⟨⟨0, (gi14, gr), rfl, ⟨hM, rfl, (hF.trans (by simp only [↓reduceIte, F_X11_stays, ← ewt0, hw2.2.2.1, eq_false c3, eq_true c7, eq_true c9, ← eg14])), (se_yes (rg_w f13 (th_leI rfl) (th_leI rfl)) (((rg_one rgc_0 f8)).trans ewt0) (hu14.symm.symm.trans (rg_one rgc_1 f13)))⟩, th_Ht ht hH⟩, hS.F ht⟩) hS.2.2 dX11_stays_41
    · skip
      have f16 : rg 1 1 wt0 := rg_w (rg_neL fwt0 rgc_0 c7) (th_leI rfl) (th_leI rfl)
      refine lv_iconst (v := 1) hx hb dX11_stays_20 ic_1 ?_
      refine lv_goto (tgt := 25) hx hb dX11_stays_21 (th_eqI rfl) ?_
      refine lv_istore_n (i := 2) (lv' := [(2, .int 1), (0, .ref h0), (1, .int p1)]) hx hb dX11_stays_25 rfl hl (th_ltN rfl) rfl (fun ls hl => ?_)
      refine lv_aload_n hx hb dX11_stays_26 rfl (lv_at hl 1 rfl) ?_
      refine lv_iload_n hx hb dX11_stays_27 rfl (lv_at hl 2 rfl) ?_
      refine lv_iconst (v := 1) hx hb dX11_stays_28 ic_1 ?_
      refine lv_icmp_ne (tgt := 36) hx hb dX11_stays_29 (th_eqI rfl) (fun c17 => ?_) (fun c17 => ?_)
      · skip
        have f18 : rg 0 0 p1 := rg_w (rg_neR f5 rgc_1 c17) (th_leI rfl) (th_leI rfl)
        refine lv_iconst (v := 0) hx hb dX11_stays_36 ic_0 ?_
        refine th_put (ci := 10) (v := .int 0) (T := TX11) (C := RX11) (N := 10) (ty := .boolean) (gi' := va_up gi h0 (upd (gi h0) 9 0)) (gr' := gr) hx hb hts (fun w h => List.mem_cons_of_mem _ (List.mem_append_right _ h)) tyX11 tyX11_ok nmX11 hown hK hH hS t_h0 (th_nz rfl) (Or.inl (th_nzE t_h0 rfl)) rfl rfl 9 (th_ltN rfl) (hts (.fieldLink RX11 60 "BayMoorings" "refuserStays" "Z") (List.mem_cons_of_mem _ (List.mem_append_left _ (List.mem_of_getElem? (i := 0) rfl)))) (fun _ h9 => h9) rfl (by decide +kernel) (rg_nb (rg_w rgc_0 (th_leI rfl) (th_leI rfl))) (rg_fb (rg_w rgc_0 (th_leI rfl) (th_leI rfl))) (Nat.le_of_ble_eq_true rfl) (by rw [va_up_self]; rfl) (by rw [va_up_self]; show (∃ q, gr h0 0 = some q ∧ τ q = 1) ∧ (∃ q, gr h0 1 = some q ∧ τ q = 10) ∧ (∃ q, gr h0 2 = some q ∧ τ q = 7) ∧ (∃ q, gr h0 3 = some q ∧ τ q = 6) ∧ (∃ q, gr h0 4 = some q ∧ τ q = 5) ∧ (∃ q, gr h0 5 = some q ∧ τ q = 36) ∧ (∃ q, gr h0 6 = some q ∧ τ q = 37) ∧ rg 0 24 (gi h0 7) ∧ rg 0 1 0; exact ⟨(thI_11 hH t_h0).1, (thI_11 hH t_h0).2.1, (thI_11 hH t_h0).2.2.1, (thI_11 hH t_h0).2.2.2.1, (thI_11 hH t_h0).2.2.2.2.1, (thI_11 hH t_h0).2.2.2.2.2.1, (thI_11 hH t_h0).2.2.2.2.2.2.1, (thI_11 hH t_h0).2.2.2.2.2.2.2.1, (rg_w rgc_0 (th_leI rfl) (th_leI rfl))⟩) (fun b hb => ⟨va_up_ne _ _ hb, rfl⟩) dX11_stays_37 (fun H locs hH hS => ?_)
        obtain ⟨gi19, eg19⟩ : ∃ g, g = va_up gi h0 (upd (gi h0) 9 0) := ⟨_, rfl⟩
        rw [← eg19] at hH
        have hu19 : gi19 h0 9 = 0 := (th_uI eg19).1
        have ho19 : ∀ b j, b ≠ h0 ∨ j ≠ 9 → gi19 b j = gi b j := (th_uI eg19).2
        have hM := hM.i t_h0 (th_mem (a := 1109) rfl) ho19
        refine lv_iload_n hx hb dX11_stays_40 rfl (lv_at hl 0 rfl) ?_
        exact W.iret (v := 1) hx hb hr (fun t ht hW => ⟨⟨1, (gi19, gr), rfl, ⟨hM, rfl, (hF.trans (by simp only [↓reduceIte, F_X11_stays, ← ewt0, hw2.2.2.1, eq_false c3, eq_false c7, eq_false c17, ← eg19])), (se_yes (rg_w f18 (th_leI rfl) (th_leI rfl)) (((rg_one rgc_1 f16)).trans ewt0) (hu19.symm.symm.trans (rg_one rgc_0 f18)))⟩, th_Ht ht hH⟩, hS.F ht⟩) hS.2.2 dX11_stays_41
      · skip
        have f21 : rg 1 1 p1 := rg_w (rg_eq f5 rgc_1 c17).1 (th_leI rfl) (th_leI rfl)
        refine lv_iconst (v := 1) hx hb dX11_stays_32 ic_1 ?_
        refine lv_goto (tgt := 37) hx hb dX11_stays_33 (th_eqI rfl) ?_
        refine th_put (ci := 10) (v := .int 1) (T := TX11) (C := RX11) (N := 10) (ty := .boolean) (gi' := va_up gi h0 (upd (gi h0) 9 1)) (gr' := gr) hx hb hts (fun w h => List.mem_cons_of_mem _ (List.mem_append_right _ h)) tyX11 tyX11_ok nmX11 hown hK hH hS t_h0 (th_nz rfl) (Or.inl (th_nzE t_h0 rfl)) rfl rfl 9 (th_ltN rfl) (hts (.fieldLink RX11 60 "BayMoorings" "refuserStays" "Z") (List.mem_cons_of_mem _ (List.mem_append_left _ (List.mem_of_getElem? (i := 0) rfl)))) (fun _ h9 => h9) rfl (by decide +kernel) (rg_nb (rg_w rgc_1 (th_leI rfl) (th_leI rfl))) (rg_fb (rg_w rgc_1 (th_leI rfl) (th_leI rfl))) (Nat.le_of_ble_eq_true rfl) (by rw [va_up_self]; rfl) (by rw [va_up_self]; show (∃ q, gr h0 0 = some q ∧ τ q = 1) ∧ (∃ q, gr h0 1 = some q ∧ τ q = 10) ∧ (∃ q, gr h0 2 = some q ∧ τ q = 7) ∧ (∃ q, gr h0 3 = some q ∧ τ q = 6) ∧ (∃ q, gr h0 4 = some q ∧ τ q = 5) ∧ (∃ q, gr h0 5 = some q ∧ τ q = 36) ∧ (∃ q, gr h0 6 = some q ∧ τ q = 37) ∧ rg 0 24 (gi h0 7) ∧ rg 0 1 1; exact ⟨(thI_11 hH t_h0).1, (thI_11 hH t_h0).2.1, (thI_11 hH t_h0).2.2.1, (thI_11 hH t_h0).2.2.2.1, (thI_11 hH t_h0).2.2.2.2.1, (thI_11 hH t_h0).2.2.2.2.2.1, (thI_11 hH t_h0).2.2.2.2.2.2.1, (thI_11 hH t_h0).2.2.2.2.2.2.2.1, (rg_w rgc_1 (th_leI rfl) (th_leI rfl))⟩) (fun b hb => ⟨va_up_ne _ _ hb, rfl⟩) dX11_stays_37 (fun H locs hH hS => ?_)
        obtain ⟨gi22, eg22⟩ : ∃ g, g = va_up gi h0 (upd (gi h0) 9 1) := ⟨_, rfl⟩
        rw [← eg22] at hH
        have hu22 : gi22 h0 9 = 1 := (th_uI eg22).1
        have ho22 : ∀ b j, b ≠ h0 ∨ j ≠ 9 → gi22 b j = gi b j := (th_uI eg22).2
        have hM := hM.i t_h0 (th_mem (a := 1109) rfl) ho22
        refine lv_iload_n hx hb dX11_stays_40 rfl (lv_at hl 0 rfl) ?_
        exact W.iret (v := 1) hx hb hr (fun t ht hW => ⟨⟨1, (gi22, gr), rfl, ⟨hM, rfl, (hF.trans (by simp only [↓reduceIte, F_X11_stays, ← ewt0, hw2.2.2.1, eq_false c3, eq_false c7, eq_true c17, ← eg22])), (se_yes (rg_w f21 (th_leI rfl) (th_leI rfl)) (((rg_one rgc_1 f16)).trans ewt0) (hu22.symm.symm.trans (rg_one rgc_1 f21)))⟩, th_Ht ht hH⟩, hS.F ht⟩) hS.2.2 dX11_stays_41
  · skip
    have f24 : rg 0 0 x2 := rg_w (rg_eq hw2.1 rgc_0 c3).1 (th_leI rfl) (th_leI rfl)
    refine lv_aload_n hx hb dX11_stays_7 rfl (lv_at hl 0 rfl) ?_
    refine lv_iconst (v := 1) hx hb dX11_stays_8 ic_1 ?_
    have hA25 := th_Asub (τ := τ) hS
    refine va_calli (va_runV (As := [.int 1]) (rest := []) ⟨hx, hb, hml, hown, hts⟩ (k_X11_finding l D cA Z τ gi gr _ h0 t_h0 1) (cwV 1 hts gX11_stays_X11_finding rfl rfl rfl hd_X11_finding__1 ⟨Nat.le_of_ble_eq_true rfl, Nat.le_of_ble_eq_true rfl⟩) ⟨th_blind, tr_11 hK hH t_h0, (th_pre hH hK hN hZ hS hA25)⟩ rfl rfl hl.1 rfl (lv_room (Nat.le_of_ble_eq_true rfl)) dX11_stays_9 ⟨Nat.le_of_ble_eq_true rfl, Nat.le_of_ble_eq_true rfl⟩) hS (fun q _ h => hA25 q h) hA25 (fun x26 u t H locs ht hvm hw26 hB hz1 hk1 hS => ?_)
    try dsimp only at hw26 hB
    rw [ht] at hB
    have hH := hB
    obtain ⟨gi26, gr26⟩ := u
    try dsimp only at hw26 hH
    obtain rfl : gr = gr26 := (hw26.2.1).symm
    have hM := hM.tr hw26.1 (fun _ h => h) (th_sub rfl)
    have e27 : wt0 = gi26 h0 9 := Eq.trans ewt0 (Eq.symm (hw26.1 h0 9 (th_nzE t_h0 rfl) (th_nmE (key := 1109) t_h0 rfl rfl)).1)
    exact W.iret (v := x26) hx hb hr (fun t ht hW => ⟨⟨x26, (gi26, gr), rfl, ⟨hM, rfl, (hF.trans (by simp only [↓reduceIte, F_X11_stays, ← ewt0, hw2.2.2.1, eq_true c3, hw26.2.2.1])), (se_no (hw2.2.2.2 c3) (hw26.2.2.2.trans (by decide)) (e27.symm.trans ((rfl).trans ewt0)))⟩, th_Ht ht hH⟩, hS.F ht⟩) hS.2.2 dX11_stays_12

noncomputable def f_X11_rather_24 (τ : th_t) (Z : th_Zt) (gi : th_i) (gr : th_r) (h0 : Nat) (p1 : Int32) (p2 : Int32) (gi_24 : th_i) : Int32 × th_i :=
  let u2 : Int32 × th_i := F_X11_finding τ Z gi_24 gr h0 1
  let x2 : Int32 := u2.1
  let gi2 : th_i := u2.2
  (x2, gi2)
noncomputable def F_X11_rather (τ : th_t) (Z : th_Zt) (gi : th_i) (gr : th_r) (h0 : Nat) (p1 : Int32) (p2 : Int32) : Int32 × th_i :=
  let q3 : Nat := (gr h0 0).getD 0
  let r5 : Option Nat := F_X0_boatAt τ Z gi gr q3 p1
  Option.elim r5 (
    f_X11_rather_24 τ Z gi gr h0 p1 p2 gi) (fun q6 =>
    let r9 : Option Nat := F_X0_buoyAt τ Z gi gr q3 p2
    Option.elim r9 (
      f_X11_rather_24 τ Z gi gr h0 p1 p2 gi) (fun q10 =>
      let x12 : Int32 := F_X2_wishesFor τ Z gi gr q6 p2
      if x12 = (0 : Int32) then (
        let x15 : Int32 := gi q6 4
        if x15 < (4 : Int32) then (
          let gi19 : th_i := F_X2_addWish τ Z gi gr q6 p2
          let x20 : Int32 := gi19 q6 4
          (x20, gi19)) else (
          let u23 : Int32 × th_i := F_X11_finding τ Z gi gr h0 4
          let x23 : Int32 := u23.1
          let gi23 : th_i := u23.2
          (x23, gi23))) else (
        let u26 : Int32 × th_i := F_X11_finding τ Z gi gr h0 3
        let x26 : Int32 := u26.1
        let gi26 : th_i := u26.2
        (x26, gi26))))
set_option maxHeartbeats 8000000 in
set_option maxRecDepth 100000 in
theorem k_X11_rather (l : Launch) (D : va_G) (cA : Nat → ClassId) (Z : th_Zt) (τ : th_t) (gi : th_i) (gr : th_r) (sz : Nat) (h0 : Nat) (t_h0 : τ h0 = 11) (p1 : Int32) (p2 : Int32) : Met l yX11_rather wsX11_rather ({ frames := 3, cells := 0, slots := 0, locals := 65 }) (va_Pc [.ref h0, .int p1, .int p2] (th_Pre D cA Z τ gi gr sz)) (va_Qi (fun (r : Int32) (u : th_i × th_r) => th_Mod [404, 804, 904, 2700, 3600] τ gi gr u.1 u.2 ∧ u.2 = gr ∧ (F_X11_rather τ Z gi gr h0 p1 p2 = (r, u.1))) (fun (u : th_i × th_r) t => th_H D cA τ u.1 u.2 t.heap) (th_A τ sz)) 0 0 (th_A τ sz) := by
  refine Met.ofW (cc := cX11_rather) (maxL := 4) (ret := (some .int)) (by decide) rfl ?_
  intro p e s m args below meth c s₁ B hml hv
  obtain ⟨rfl, hsz, hH, hK, hN, hZ⟩ := hv
  have hx := B.exec
  have hb := B.bytes
  have hr := B.returns
  have hts := atoms_spec (ws := wsX11_rather) B.pre
  have hown : s.vm.findClass RX11 = some m.cls := findClass_of_methodNamed B.named
  have hlocks := B.notSynchronized
  subst hsz
  have hM : th_Mod [404, 804, 904, 2700, 3600] τ gi gr gi gr := th_Mod.rf
  have J24 : ∀ (gi_24 : th_i) (H : Heap) (locs : List Loc) (ls : Array Slot), th_H D cA τ gi_24 gr H → va_S (th_A τ s.heap.size) s.heap H locs → th_Mod [404, 804, 904, 2700, 3600] τ gi gr gi_24 gr → lv_has ls 4 [(0, .ref h0)] → F_X11_rather τ Z gi gr h0 p1 p2 = f_X11_rather_24 τ Z gi gr h0 p1 p2 gi_24 → W p l e (headSpec wsX11_rather ({ frames := 3, cells := 0, slots := 0, locals := 65 })).room s m [.ref h0, .int p1, .int p2].toArray below meth c H locs 0 0 (MQ below (va_Qi (fun (r : Int32) (u : th_i × th_r) => th_Mod [404, 804, 904, 2700, 3600] τ gi gr u.1 u.2 ∧ u.2 = gr ∧ (F_X11_rather τ Z gi gr h0 p1 p2 = (r, u.1))) (fun (u : th_i × th_r) t => th_H D cA τ u.1 u.2 t.heap) (th_A τ s.heap.size)) [.ref h0, .int p1, .int p2].toArray s 0 0 (th_A τ s.heap.size)) (F0 m 24 ls []) := by
    intro gi_24 H locs ls hH hS hM hl hF
    refine lv_aload_n hx hb dX11_rather_24 rfl (lv_at hl 0 rfl) ?_
    refine lv_iconst (v := 1) hx hb dX11_rather_25 ic_1 ?_
    have hA1 := th_Asub (τ := τ) hS
    refine va_calli (va_runV (As := [.int 1]) (rest := []) ⟨hx, hb, hml, hown, hts⟩ (k_X11_finding l D cA Z τ gi_24 gr _ h0 t_h0 1) (cwV 1 hts gX11_rather_X11_finding rfl rfl rfl hd_X11_finding__1 ⟨Nat.le_of_ble_eq_true rfl, Nat.le_of_ble_eq_true rfl⟩) ⟨th_blind, tr_11 hK hH t_h0, (th_pre hH hK hN hZ hS hA1)⟩ rfl rfl hl.1 rfl (lv_room (Nat.le_of_ble_eq_true rfl)) dX11_rather_26 ⟨Nat.le_of_ble_eq_true rfl, Nat.le_of_ble_eq_true rfl⟩) hS (fun q _ h => hA1 q h) hA1 (fun x2 u t H locs ht hvm hw2 hB hz1 hk1 hS => ?_)
    try dsimp only at hw2 hB
    rw [ht] at hB
    have hH := hB
    obtain ⟨gi2, gr2⟩ := u
    try dsimp only at hw2 hH
    obtain rfl : gr = gr2 := (hw2.2.1).symm
    have hM := hM.tr hw2.1 (fun _ h => h) (th_sub rfl)
    exact W.iret (v := x2) hx hb hr (fun t ht hW => ⟨⟨x2, (gi2, gr), rfl, ⟨hM, rfl, (hF.trans (by simp only [f_X11_rather_24, hw2.2.2.1]))⟩, th_Ht ht hH⟩, hS.F ht⟩) hS.2.2 dX11_rather_29
  have hS : va_S (th_A τ s.heap.size) s.heap s.heap [] := va_S.rf
  have hl := lv_entry ([.ref h0, .int p1, .int p2]) (n := 4) (Nat.le_of_ble_eq_true rfl)
  rw [lg_entry_eq]
  generalize (lg_sl ([.ref h0, .int p1, .int p2]) ++ List.replicate (4 - (lg_sl ([.ref h0, .int p1, .int p2])).length) Slot.unset).toArray = ls at hl ⊢
  have hl : lv_has ls 4 [(0, .ref h0), (1, .int p1), (2, .int p2)] := hl
  have hF : F_X11_rather τ Z gi gr h0 p1 p2 = F_X11_rather τ Z gi gr h0 p1 p2 := rfl
  refine lv_aload_n hx hb dX11_rather_0 rfl (lv_at hl 0 rfl) ?_
  obtain ⟨q3, r3, t3⟩ : ∃ q, gr h0 0 = some q ∧ τ q = 1 := (thI_11 hH t_h0).1
  refine th_get (ci := 10) (v := .ref q3) (T := TX11) (C := RX11) (N := 10) hx hb hts (fun w h => List.mem_cons_of_mem _ (List.mem_append_left _ (List.mem_append_left _ (List.mem_append_left _ (List.mem_append_left _ (List.mem_append_right _ h)))))) hown hK hH t_h0 (th_nz rfl) (thE_11 _ _ _) rfl 0 (th_ltN rfl) (hts (.fieldLink RX11 10 "BayMoorings" "bay" "LBayMoorings$Bay;") (List.mem_cons_of_mem _ (List.mem_append_left _ (List.mem_append_left _ (List.mem_append_left _ (List.mem_append_left _ (List.mem_append_left _ (List.mem_append_left _ (List.mem_of_getElem? (i := 0) rfl))))))))) (fun _ h9 => h9) (th_fR r3 rfl) dX11_rather_1 ?_
  refine lv_iload_n hx hb dX11_rather_4 rfl (lv_at hl 1 rfl) ?_
  have hA4 := th_Asub (τ := τ) hS
  refine va_callq (va_runV (As := [.int p1]) (rest := []) ⟨hx, hb, hml, hown, hts⟩ (k_X0_boatAt l D cA Z τ gi gr _ q3 t3 p1) (cwV 1 hts gX11_rather_X0_boatAt rfl rfl rfl hd_X0_boatAt__1 ⟨Nat.le_of_ble_eq_true rfl, Nat.le_of_ble_eq_true rfl⟩) ⟨th_blind, tr_1 hK hH t3, (th_pre hH hK hN hZ hS hA4)⟩ rfl rfl hl.1 rfl (lv_room (Nat.le_of_ble_eq_true rfl)) dX11_rather_5 ⟨Nat.le_of_ble_eq_true rfl, Nat.le_of_ble_eq_true rfl⟩) hS (fun q _ h => hA4 q h) hA4 (fun r5 u t H locs ht hvm hw5 hB hz1 hk1 hS => ?_)
  try dsimp only at hw5 hB
  rw [ht] at hB
  have hH := hB
  refine th_astoreq_n (i := 3) (lv' := [(3, va_rf r5), (0, .ref h0), (1, .int p1), (2, .int p2)]) hx hb dX11_rather_8 rfl hl (th_ltN rfl) rfl (fun ls hl => ?_)
  refine th_aloadq_n hx hb dX11_rather_9 rfl (lv_at hl 0 rfl) ?_
  refine th_ifnull (tgt := 24) hx hb dX11_rather_10 (th_eqI rfl) (fun z6 => ?_) (fun q6 z6 => ?_)
  · skip
    subst z6
    have hl : lv_has ls 4 [(3, .null), (0, .ref h0), (1, .int p1), (2, .int p2)] := hl
    exact J24 gi _ _ _ hH hS hM (lv_sub hl [1] rfl) (hF.trans (by simp only [F_X11_rather, r3, Option.getD_some, hw5.2, Option.elim_none]))
  · skip
    subst z6
    have t6 := hw5.1 q6 rfl
    have hl : lv_has ls 4 [(3, .ref q6), (0, .ref h0), (1, .int p1), (2, .int p2)] := hl
    refine lv_aload_n hx hb dX11_rather_13 rfl (lv_at hl 1 rfl) ?_
    refine th_get (ci := 10) (v := .ref q3) (T := TX11) (C := RX11) (N := 10) hx hb hts (fun w h => List.mem_cons_of_mem _ (List.mem_append_left _ (List.mem_append_left _ (List.mem_append_left _ (List.mem_append_left _ (List.mem_append_right _ h)))))) hown hK hH t_h0 (th_nz rfl) (thE_11 _ _ _) rfl 0 (th_ltN rfl) (hts (.fieldLink RX11 10 "BayMoorings" "bay" "LBayMoorings$Bay;") (List.mem_cons_of_mem _ (List.mem_append_left _ (List.mem_append_left _ (List.mem_append_left _ (List.mem_append_left _ (List.mem_append_left _ (List.mem_append_left _ (List.mem_of_getElem? (i := 0) rfl))))))))) (fun _ h9 => h9) (th_fR r3 rfl) dX11_rather_14 ?_
    refine lv_iload_n hx hb dX11_rather_17 rfl (lv_at hl 3 rfl) ?_
    have hA8 := th_Asub (τ := τ) hS
    refine va_callq (va_runV (As := [.int p2]) (rest := []) ⟨hx, hb, hml, hown, hts⟩ (k_X0_buoyAt l D cA Z τ gi gr _ q3 t3 p2) (cwV 1 hts gX11_rather_X0_buoyAt rfl rfl rfl hd_X0_buoyAt__1 ⟨Nat.le_of_ble_eq_true rfl, Nat.le_of_ble_eq_true rfl⟩) ⟨th_blind, tr_1 hK hH t3, (th_pre hH hK hN hZ hS hA8)⟩ rfl rfl hl.1 rfl (lv_room (Nat.le_of_ble_eq_true rfl)) dX11_rather_18 ⟨Nat.le_of_ble_eq_true rfl, Nat.le_of_ble_eq_true rfl⟩) hS (fun q _ h => hA8 q h) hA8 (fun r9 u t H locs ht hvm hw9 hB hz1 hk1 hS => ?_)
    try dsimp only at hw9 hB
    rw [ht] at hB
    have hH := hB
    refine th_ifnonnull (tgt := 30) hx hb dX11_rather_21 (th_eqI rfl) (fun q10 z10 => ?_) (fun z10 => ?_)
    · skip
      subst z10
      have t10 := hw9.1 q10 rfl
      refine lv_aload_n hx hb dX11_rather_30 rfl (lv_at hl 0 rfl) ?_
      refine lv_iload_n hx hb dX11_rather_31 rfl (lv_at hl 3 rfl) ?_
      have hA11 := th_Asub (τ := τ) hS
      refine va_calli (th_or3 t6 (fun t9 => va_runU (As := [.int p2]) (rest := []) ⟨hx, hb, hml, hown, hts⟩ (k_X2_wishesFor l D cA Z τ gi gr _ q6 (Or.inl t9) p2) (va_cwU 1 hts gX11_rather_X2_wishesFor_u228X8 rfl rfl rfl rfl (by decide +kernel) ⟨Nat.le_of_ble_eq_true rfl, Nat.le_of_ble_eq_true rfl⟩) ⟨th_blind, tr_8 hK hH t9, (th_pre hH hK hN hZ hS hA11)⟩ rfl rfl hl.1 rfl (lv_room (Nat.le_of_ble_eq_true rfl)) dX11_rather_32 ⟨Nat.le_of_ble_eq_true rfl, Nat.le_of_ble_eq_true rfl⟩) (fun t9 => va_runU (As := [.int p2]) (rest := []) ⟨hx, hb, hml, hown, hts⟩ (k_X2_wishesFor l D cA Z τ gi gr _ q6 (Or.inr (Or.inl t9)) p2) (va_cwU 1 hts gX11_rather_X2_wishesFor_u228X9 rfl rfl rfl rfl (by decide +kernel) ⟨Nat.le_of_ble_eq_true rfl, Nat.le_of_ble_eq_true rfl⟩) ⟨th_blind, tr_9 hK hH t9, (th_pre hH hK hN hZ hS hA11)⟩ rfl rfl hl.1 rfl (lv_room (Nat.le_of_ble_eq_true rfl)) dX11_rather_32 ⟨Nat.le_of_ble_eq_true rfl, Nat.le_of_ble_eq_true rfl⟩) (fun t9 => va_runU (As := [.int p2]) (rest := []) ⟨hx, hb, hml, hown, hts⟩ (k_X2_wishesFor l D cA Z τ gi gr _ q6 (Or.inr (Or.inr t9)) p2) (va_cwU 1 hts gX11_rather_X2_wishesFor_u228X4 rfl rfl rfl rfl (by decide +kernel) ⟨Nat.le_of_ble_eq_true rfl, Nat.le_of_ble_eq_true rfl⟩) ⟨th_blind, tr_4 hK hH t9, (th_pre hH hK hN hZ hS hA11)⟩ rfl rfl hl.1 rfl (lv_room (Nat.le_of_ble_eq_true rfl)) dX11_rather_32 ⟨Nat.le_of_ble_eq_true rfl, Nat.le_of_ble_eq_true rfl⟩)) hS (fun q _ h => hA11 q h) hA11 (fun x12 u t H locs ht hvm hw12 hB hz1 hk1 hS => ?_)
      try dsimp only at hw12 hB
      rw [ht] at hB
      have hH := hB
      refine lv_if_eq (tgt := 44) hx hb dX11_rather_35 (th_eqI rfl) (fun c13 => ?_) (fun c13 => ?_)
      · skip
        have f14 : rg 0 0 x12 := rg_w (rg_eq hw12.1 rgc_0 c13).1 (th_leI rfl) (th_leI rfl)
        refine lv_aload_n hx hb dX11_rather_44 rfl (lv_at hl 0 rfl) ?_
        obtain ⟨x15, e15⟩ : ∃ y : Int32, y = gi q6 4 := ⟨_, rfl⟩
        refine th_any3 t6 (fun t9 k9 => th_get (ci := 7) (v := .int x15) (T := TX8) (C := RX8) (N := 6) hx hb hts (fun w h => List.mem_cons_of_mem _ (List.mem_append_left _ (List.mem_append_left _ (List.mem_append_right _ h)))) hown hK hH t9 (th_nz rfl) (thE_8 _ _ _) rfl 4 (th_ltN rfl) (hts (.fieldLink RX11 231 "BayMoorings$Boat" "wishCount" "I") (List.mem_cons_of_mem _ (List.mem_append_left _ (List.mem_append_left _ (List.mem_append_left _ (List.mem_append_left _ (List.mem_append_left _ (List.mem_append_left _ (List.mem_of_getElem? (i := 1) rfl))))))))) (fun _ h9 => h9) (th_fI e15 rfl) dX11_rather_45 k9) (fun t9 k9 => th_get (ci := 8) (v := .int x15) (T := TX9) (C := RX9) (N := 6) hx hb hts (fun w h => List.mem_cons_of_mem _ (List.mem_append_left _ (List.mem_append_right _ h))) hown hK hH t9 (th_nz rfl) (thE_9 _ _ _) rfl 4 (th_ltN rfl) (hts (.fieldLink RX11 231 "BayMoorings$Boat" "wishCount" "I") (List.mem_cons_of_mem _ (List.mem_append_left _ (List.mem_append_left _ (List.mem_append_left _ (List.mem_append_left _ (List.mem_append_left _ (List.mem_append_left _ (List.mem_of_getElem? (i := 1) rfl))))))))) (fun _ h9 => h9) (th_fI e15 rfl) dX11_rather_45 k9) (fun t9 k9 => th_get (ci := 3) (v := .int x15) (T := TX4) (C := RX4) (N := 6) hx hb hts (fun w h => List.mem_cons_of_mem _ (List.mem_append_left _ (List.mem_append_left _ (List.mem_append_left _ (List.mem_append_right _ h))))) hown hK hH t9 (th_nz rfl) (thE_4 _ _ _) rfl 4 (th_ltN rfl) (hts (.fieldLink RX11 231 "BayMoorings$Boat" "wishCount" "I") (List.mem_cons_of_mem _ (List.mem_append_left _ (List.mem_append_left _ (List.mem_append_left _ (List.mem_append_left _ (List.mem_append_left _ (List.mem_append_left _ (List.mem_of_getElem? (i := 1) rfl))))))))) (fun _ h9 => h9) (th_fI e15 rfl) dX11_rather_45 k9) ?_
        have f15 : rg 0 4 x15 := rg_e e15 (th_or3 t6 (fun t9 => (thI_8 hH t9).2) (fun t9 => (thI_9 hH t9).2) (fun t9 => (thI_4 hH t9).2))
        refine lv_iconst (v := 4) hx hb dX11_rather_48 ic_4 ?_
        refine lv_icmp_lt (tgt := 58) hx hb dX11_rather_49 (th_eqI rfl) (fun c16 => ?_) (fun c16 => ?_)
        · skip
          have f17 : rg 0 3 x15 := rg_w (rg_lt f15 rgc_4 c16).1 (th_leI rfl) (th_leI rfl)
          refine lv_aload_n hx hb dX11_rather_58 rfl (lv_at hl 0 rfl) ?_
          refine lv_iload_n hx hb dX11_rather_59 rfl (lv_at hl 3 rfl) ?_
          have hA18 := th_Asub (τ := τ) hS
          refine va_callv (th_or3 t6 (fun t9 => va_runU (As := [.int p2]) (rest := []) ⟨hx, hb, hml, hown, hts⟩ (k_X2_addWish l D cA Z τ gi gr _ q6 (Or.inl t9) p2) (va_cwU 1 hts gX11_rather_X2_addWish_u234X8 rfl rfl rfl rfl (by decide +kernel) ⟨Nat.le_of_ble_eq_true rfl, Nat.le_of_ble_eq_true rfl⟩) ⟨th_blind, tr_8 hK hH t9, (th_pre hH hK hN hZ hS hA18)⟩ rfl rfl hl.1 rfl (lv_room (Nat.le_of_ble_eq_true rfl)) dX11_rather_60 ⟨Nat.le_of_ble_eq_true rfl, Nat.le_of_ble_eq_true rfl⟩) (fun t9 => va_runU (As := [.int p2]) (rest := []) ⟨hx, hb, hml, hown, hts⟩ (k_X2_addWish l D cA Z τ gi gr _ q6 (Or.inr (Or.inl t9)) p2) (va_cwU 1 hts gX11_rather_X2_addWish_u234X9 rfl rfl rfl rfl (by decide +kernel) ⟨Nat.le_of_ble_eq_true rfl, Nat.le_of_ble_eq_true rfl⟩) ⟨th_blind, tr_9 hK hH t9, (th_pre hH hK hN hZ hS hA18)⟩ rfl rfl hl.1 rfl (lv_room (Nat.le_of_ble_eq_true rfl)) dX11_rather_60 ⟨Nat.le_of_ble_eq_true rfl, Nat.le_of_ble_eq_true rfl⟩) (fun t9 => va_runU (As := [.int p2]) (rest := []) ⟨hx, hb, hml, hown, hts⟩ (k_X2_addWish l D cA Z τ gi gr _ q6 (Or.inr (Or.inr t9)) p2) (va_cwU 1 hts gX11_rather_X2_addWish_u234X4 rfl rfl rfl rfl (by decide +kernel) ⟨Nat.le_of_ble_eq_true rfl, Nat.le_of_ble_eq_true rfl⟩) ⟨th_blind, tr_4 hK hH t9, (th_pre hH hK hN hZ hS hA18)⟩ rfl rfl hl.1 rfl (lv_room (Nat.le_of_ble_eq_true rfl)) dX11_rather_60 ⟨Nat.le_of_ble_eq_true rfl, Nat.le_of_ble_eq_true rfl⟩)) hS (fun q _ h => hA18 q h) hA18 (fun  u t H locs ht hvm hw19 hB hz1 hk1 hS => ?_)
          try dsimp only at hw19 hB
          rw [ht] at hB
          have hH := hB
          obtain ⟨gi19, gr19⟩ := u
          try dsimp only at hw19 hH
          obtain rfl : gr = gr19 := (hw19.2.1).symm
          have hM := hM.tr hw19.1 (fun _ h => h) (th_sub rfl)
          refine lv_aload_n hx hb dX11_rather_63 rfl (lv_at hl 0 rfl) ?_
          obtain ⟨x20, e20⟩ : ∃ y : Int32, y = gi19 q6 4 := ⟨_, rfl⟩
          refine th_any3 t6 (fun t9 k9 => th_get (ci := 7) (v := .int x20) (T := TX8) (C := RX8) (N := 6) hx hb hts (fun w h => List.mem_cons_of_mem _ (List.mem_append_left _ (List.mem_append_left _ (List.mem_append_right _ h)))) hown hK hH t9 (th_nz rfl) (thE_8 _ _ _) rfl 4 (th_ltN rfl) (hts (.fieldLink RX11 231 "BayMoorings$Boat" "wishCount" "I") (List.mem_cons_of_mem _ (List.mem_append_left _ (List.mem_append_left _ (List.mem_append_left _ (List.mem_append_left _ (List.mem_append_left _ (List.mem_append_left _ (List.mem_of_getElem? (i := 1) rfl))))))))) (fun _ h9 => h9) (th_fI e20 rfl) dX11_rather_64 k9) (fun t9 k9 => th_get (ci := 8) (v := .int x20) (T := TX9) (C := RX9) (N := 6) hx hb hts (fun w h => List.mem_cons_of_mem _ (List.mem_append_left _ (List.mem_append_right _ h))) hown hK hH t9 (th_nz rfl) (thE_9 _ _ _) rfl 4 (th_ltN rfl) (hts (.fieldLink RX11 231 "BayMoorings$Boat" "wishCount" "I") (List.mem_cons_of_mem _ (List.mem_append_left _ (List.mem_append_left _ (List.mem_append_left _ (List.mem_append_left _ (List.mem_append_left _ (List.mem_append_left _ (List.mem_of_getElem? (i := 1) rfl))))))))) (fun _ h9 => h9) (th_fI e20 rfl) dX11_rather_64 k9) (fun t9 k9 => th_get (ci := 3) (v := .int x20) (T := TX4) (C := RX4) (N := 6) hx hb hts (fun w h => List.mem_cons_of_mem _ (List.mem_append_left _ (List.mem_append_left _ (List.mem_append_left _ (List.mem_append_right _ h))))) hown hK hH t9 (th_nz rfl) (thE_4 _ _ _) rfl 4 (th_ltN rfl) (hts (.fieldLink RX11 231 "BayMoorings$Boat" "wishCount" "I") (List.mem_cons_of_mem _ (List.mem_append_left _ (List.mem_append_left _ (List.mem_append_left _ (List.mem_append_left _ (List.mem_append_left _ (List.mem_append_left _ (List.mem_of_getElem? (i := 1) rfl))))))))) (fun _ h9 => h9) (th_fI e20 rfl) dX11_rather_64 k9) ?_
          have f20 : rg 0 4 x20 := rg_e e20 (th_or3 t6 (fun t9 => (thI_8 hH t9).2) (fun t9 => (thI_9 hH t9).2) (fun t9 => (thI_4 hH t9).2))
          exact W.iret (v := x20) hx hb hr (fun t ht hW => ⟨⟨x20, (gi19, gr), rfl, ⟨hM, rfl, (hF.trans (by simp only [↓reduceIte, F_X11_rather, r3, Option.getD_some, hw5.2, Option.elim_some, hw9.2, hw12.2, eq_true c13, ← e15, eq_true c16, hw19.2.2, ← e20]))⟩, th_Ht ht hH⟩, hS.F ht⟩) hS.2.2 dX11_rather_67
        · skip
          have f21 : rg 4 4 x15 := rg_w (rg_nlt f15 rgc_4 c16).1 (th_leI rfl) (th_leI rfl)
          refine lv_aload_n hx hb dX11_rather_52 rfl (lv_at hl 1 rfl) ?_
          refine lv_iconst (v := 4) hx hb dX11_rather_53 ic_4 ?_
          have hA22 := th_Asub (τ := τ) hS
          refine va_calli (va_runV (As := [.int 4]) (rest := []) ⟨hx, hb, hml, hown, hts⟩ (k_X11_finding l D cA Z τ gi gr _ h0 t_h0 4) (cwV 1 hts gX11_rather_X11_finding rfl rfl rfl hd_X11_finding__1 ⟨Nat.le_of_ble_eq_true rfl, Nat.le_of_ble_eq_true rfl⟩) ⟨th_blind, tr_11 hK hH t_h0, (th_pre hH hK hN hZ hS hA22)⟩ rfl rfl hl.1 rfl (lv_room (Nat.le_of_ble_eq_true rfl)) dX11_rather_54 ⟨Nat.le_of_ble_eq_true rfl, Nat.le_of_ble_eq_true rfl⟩) hS (fun q _ h => hA22 q h) hA22 (fun x23 u t H locs ht hvm hw23 hB hz1 hk1 hS => ?_)
          try dsimp only at hw23 hB
          rw [ht] at hB
          have hH := hB
          obtain ⟨gi23, gr23⟩ := u
          try dsimp only at hw23 hH
          obtain rfl : gr = gr23 := (hw23.2.1).symm
          have hM := hM.tr hw23.1 (fun _ h => h) (th_sub rfl)
          exact W.iret (v := x23) hx hb hr (fun t ht hW => ⟨⟨x23, (gi23, gr), rfl, ⟨hM, rfl, (hF.trans (by simp only [↓reduceIte, F_X11_rather, r3, Option.getD_some, hw5.2, Option.elim_some, hw9.2, hw12.2, eq_true c13, ← e15, eq_false c16, hw23.2.2.1]))⟩, th_Ht ht hH⟩, hS.F ht⟩) hS.2.2 dX11_rather_57
      · skip
        have f24 : rg 1 1 x12 := rg_w (rg_neL hw12.1 rgc_0 c13) (th_leI rfl) (th_leI rfl)
        refine lv_aload_n hx hb dX11_rather_38 rfl (lv_at hl 1 rfl) ?_
        refine lv_iconst (v := 3) hx hb dX11_rather_39 ic_3 ?_
        have hA25 := th_Asub (τ := τ) hS
        refine va_calli (va_runV (As := [.int 3]) (rest := []) ⟨hx, hb, hml, hown, hts⟩ (k_X11_finding l D cA Z τ gi gr _ h0 t_h0 3) (cwV 1 hts gX11_rather_X11_finding rfl rfl rfl hd_X11_finding__1 ⟨Nat.le_of_ble_eq_true rfl, Nat.le_of_ble_eq_true rfl⟩) ⟨th_blind, tr_11 hK hH t_h0, (th_pre hH hK hN hZ hS hA25)⟩ rfl rfl hl.1 rfl (lv_room (Nat.le_of_ble_eq_true rfl)) dX11_rather_40 ⟨Nat.le_of_ble_eq_true rfl, Nat.le_of_ble_eq_true rfl⟩) hS (fun q _ h => hA25 q h) hA25 (fun x26 u t H locs ht hvm hw26 hB hz1 hk1 hS => ?_)
        try dsimp only at hw26 hB
        rw [ht] at hB
        have hH := hB
        obtain ⟨gi26, gr26⟩ := u
        try dsimp only at hw26 hH
        obtain rfl : gr = gr26 := (hw26.2.1).symm
        have hM := hM.tr hw26.1 (fun _ h => h) (th_sub rfl)
        exact W.iret (v := x26) hx hb hr (fun t ht hW => ⟨⟨x26, (gi26, gr), rfl, ⟨hM, rfl, (hF.trans (by simp only [↓reduceIte, F_X11_rather, r3, Option.getD_some, hw5.2, Option.elim_some, hw9.2, hw12.2, eq_false c13, hw26.2.2.1]))⟩, th_Ht ht hH⟩, hS.F ht⟩) hS.2.2 dX11_rather_43
    · skip
      subst z10
      exact J24 gi _ _ _ hH hS hM (lv_sub hl [1] rfl) (hF.trans (by simp only [F_X11_rather, r3, Option.getD_some, hw5.2, Option.elim_some, hw9.2, Option.elim_none]))

noncomputable def F_X11_content (τ : th_t) (Z : th_Zt) (gi : th_i) (gr : th_r) (h0 : Nat) (p1 : Int32) : Int32 × th_i :=
  let q1 : Nat := (gr h0 0).getD 0
  let r3 : Option Nat := F_X0_boatAt τ Z gi gr q1 p1
  Option.elim r3 (
    let u9 : Int32 × th_i := F_X11_finding τ Z gi gr h0 1
    let x9 : Int32 := u9.1
    let gi9 : th_i := u9.2
    (x9, gi9)) (fun q4 =>
    let x5 : Int32 := gi q4 4
    let gi6 : th_i := va_up gi q4 (upd (gi q4) 4 0)
    (x5, gi6))
set_option maxHeartbeats 8000000 in
set_option maxRecDepth 100000 in
theorem k_X11_content (l : Launch) (D : va_G) (cA : Nat → ClassId) (Z : th_Zt) (τ : th_t) (gi : th_i) (gr : th_r) (sz : Nat) (h0 : Nat) (t_h0 : τ h0 = 11) (p1 : Int32) : Met l yX11_content wsX11_content ({ frames := 2, cells := 0, slots := 0, locals := 43 }) (va_Pc [.ref h0, .int p1] (th_Pre D cA Z τ gi gr sz)) (va_Qi (fun (r : Int32) (u : th_i × th_r) => th_Mod [404, 804, 904, 3600] τ gi gr u.1 u.2 ∧ u.2 = gr ∧ (F_X11_content τ Z gi gr h0 p1 = (r, u.1))) (fun (u : th_i × th_r) t => th_H D cA τ u.1 u.2 t.heap) (th_A τ sz)) 0 0 (th_A τ sz) := by
  refine Met.ofW (cc := cX11_content) (maxL := 4) (ret := (some .int)) (by decide) rfl ?_
  intro p e s m args below meth c s₁ B hml hv
  obtain ⟨rfl, hsz, hH, hK, hN, hZ⟩ := hv
  have hx := B.exec
  have hb := B.bytes
  have hr := B.returns
  have hts := atoms_spec (ws := wsX11_content) B.pre
  have hown : s.vm.findClass RX11 = some m.cls := findClass_of_methodNamed B.named
  have hlocks := B.notSynchronized
  subst hsz
  have hM : th_Mod [404, 804, 904, 3600] τ gi gr gi gr := th_Mod.rf
  have hS : va_S (th_A τ s.heap.size) s.heap s.heap [] := va_S.rf
  have hl := lv_entry ([.ref h0, .int p1]) (n := 4) (Nat.le_of_ble_eq_true rfl)
  rw [lg_entry_eq]
  generalize (lg_sl ([.ref h0, .int p1]) ++ List.replicate (4 - (lg_sl ([.ref h0, .int p1])).length) Slot.unset).toArray = ls at hl ⊢
  have hl : lv_has ls 4 [(0, .ref h0), (1, .int p1)] := hl
  have hF : F_X11_content τ Z gi gr h0 p1 = F_X11_content τ Z gi gr h0 p1 := rfl
  refine lv_aload_n hx hb dX11_content_0 rfl (lv_at hl 0 rfl) ?_
  obtain ⟨q1, r1, t1⟩ : ∃ q, gr h0 0 = some q ∧ τ q = 1 := (thI_11 hH t_h0).1
  refine th_get (ci := 10) (v := .ref q1) (T := TX11) (C := RX11) (N := 10) hx hb hts (fun w h => List.mem_cons_of_mem _ (List.mem_append_left _ (List.mem_append_left _ (List.mem_append_left _ (List.mem_append_left _ (List.mem_append_right _ h)))))) hown hK hH t_h0 (th_nz rfl) (thE_11 _ _ _) rfl 0 (th_ltN rfl) (hts (.fieldLink RX11 10 "BayMoorings" "bay" "LBayMoorings$Bay;") (List.mem_cons_of_mem _ (List.mem_append_left _ (List.mem_append_left _ (List.mem_append_left _ (List.mem_append_left _ (List.mem_append_left _ (List.mem_of_getElem? (i := 0) rfl)))))))) (fun _ h9 => h9) (th_fR r1 rfl) dX11_content_1 ?_
  refine lv_iload_n hx hb dX11_content_4 rfl (lv_at hl 1 rfl) ?_
  have hA2 := th_Asub (τ := τ) hS
  refine va_callq (va_runV (As := [.int p1]) (rest := []) ⟨hx, hb, hml, hown, hts⟩ (k_X0_boatAt l D cA Z τ gi gr _ q1 t1 p1) (cwV 1 hts gX11_content_X0_boatAt rfl rfl rfl hd_X0_boatAt__1 ⟨Nat.le_of_ble_eq_true rfl, Nat.le_of_ble_eq_true rfl⟩) ⟨th_blind, tr_1 hK hH t1, (th_pre hH hK hN hZ hS hA2)⟩ rfl rfl hl.1 rfl (lv_room (Nat.le_of_ble_eq_true rfl)) dX11_content_5 ⟨Nat.le_of_ble_eq_true rfl, Nat.le_of_ble_eq_true rfl⟩) hS (fun q _ h => hA2 q h) hA2 (fun r3 u t H locs ht hvm hw3 hB hz1 hk1 hS => ?_)
  try dsimp only at hw3 hB
  rw [ht] at hB
  have hH := hB
  refine th_astoreq_n (i := 2) (lv' := [(2, va_rf r3), (0, .ref h0), (1, .int p1)]) hx hb dX11_content_8 rfl hl (th_ltN rfl) rfl (fun ls hl => ?_)
  refine th_aloadq_n hx hb dX11_content_9 rfl (lv_at hl 0 rfl) ?_
  refine th_ifnonnull (tgt := 19) hx hb dX11_content_10 (th_eqI rfl) (fun q4 z4 => ?_) (fun z4 => ?_)
  · skip
    subst z4
    have t4 := hw3.1 q4 rfl
    have hl : lv_has ls 4 [(2, .ref q4), (0, .ref h0), (1, .int p1)] := hl
    refine lv_aload_n hx hb dX11_content_19 rfl (lv_at hl 0 rfl) ?_
    obtain ⟨x5, e5⟩ : ∃ y : Int32, y = gi q4 4 := ⟨_, rfl⟩
    refine th_any3 t4 (fun t9 k9 => th_get (ci := 7) (v := .int x5) (T := TX8) (C := RX8) (N := 6) hx hb hts (fun w h => List.mem_cons_of_mem _ (List.mem_append_left _ (List.mem_append_left _ (List.mem_append_right _ h)))) hown hK hH t9 (th_nz rfl) (thE_8 _ _ _) rfl 4 (th_ltN rfl) (hts (.fieldLink RX11 231 "BayMoorings$Boat" "wishCount" "I") (List.mem_cons_of_mem _ (List.mem_append_left _ (List.mem_append_left _ (List.mem_append_left _ (List.mem_append_left _ (List.mem_append_left _ (List.mem_of_getElem? (i := 1) rfl)))))))) (fun _ h9 => h9) (th_fI e5 rfl) dX11_content_20 k9) (fun t9 k9 => th_get (ci := 8) (v := .int x5) (T := TX9) (C := RX9) (N := 6) hx hb hts (fun w h => List.mem_cons_of_mem _ (List.mem_append_left _ (List.mem_append_right _ h))) hown hK hH t9 (th_nz rfl) (thE_9 _ _ _) rfl 4 (th_ltN rfl) (hts (.fieldLink RX11 231 "BayMoorings$Boat" "wishCount" "I") (List.mem_cons_of_mem _ (List.mem_append_left _ (List.mem_append_left _ (List.mem_append_left _ (List.mem_append_left _ (List.mem_append_left _ (List.mem_of_getElem? (i := 1) rfl)))))))) (fun _ h9 => h9) (th_fI e5 rfl) dX11_content_20 k9) (fun t9 k9 => th_get (ci := 3) (v := .int x5) (T := TX4) (C := RX4) (N := 6) hx hb hts (fun w h => List.mem_cons_of_mem _ (List.mem_append_left _ (List.mem_append_left _ (List.mem_append_left _ (List.mem_append_right _ h))))) hown hK hH t9 (th_nz rfl) (thE_4 _ _ _) rfl 4 (th_ltN rfl) (hts (.fieldLink RX11 231 "BayMoorings$Boat" "wishCount" "I") (List.mem_cons_of_mem _ (List.mem_append_left _ (List.mem_append_left _ (List.mem_append_left _ (List.mem_append_left _ (List.mem_append_left _ (List.mem_of_getElem? (i := 1) rfl)))))))) (fun _ h9 => h9) (th_fI e5 rfl) dX11_content_20 k9) ?_
    have f5 : rg 0 4 x5 := rg_e e5 (th_or3 t4 (fun t9 => (thI_8 hH t9).2) (fun t9 => (thI_9 hH t9).2) (fun t9 => (thI_4 hH t9).2))
    refine lv_istore_n (i := 3) (lv' := [(3, .int x5), (2, .ref q4), (0, .ref h0), (1, .int p1)]) hx hb dX11_content_23 rfl hl (th_ltN rfl) rfl (fun ls hl => ?_)
    refine lv_aload_n hx hb dX11_content_24 rfl (lv_at hl 1 rfl) ?_
    refine lv_iconst (v := 0) hx hb dX11_content_25 ic_0 ?_
    refine th_any3 t4 (fun t9 k9 => th_put (ci := 7) (v := .int 0) (T := TX8) (C := RX8) (N := 6) (ty := .int) (gi' := va_up gi q4 (upd (gi q4) 4 0)) (gr' := gr) hx hb hts (fun w h => List.mem_cons_of_mem _ (List.mem_append_left _ (List.mem_append_left _ (List.mem_append_right _ h)))) tyX8 tyX8_ok nmX8 hown hK hH hS t9 (th_nz rfl) (Or.inl (th_nzE t9 rfl)) rfl rfl 4 (th_ltN rfl) (hts (.fieldLink RX11 231 "BayMoorings$Boat" "wishCount" "I") (List.mem_cons_of_mem _ (List.mem_append_left _ (List.mem_append_left _ (List.mem_append_left _ (List.mem_append_left _ (List.mem_append_left _ (List.mem_of_getElem? (i := 1) rfl)))))))) (fun _ h9 => h9) rfl (by decide +kernel) rfl rfl (Nat.le_of_ble_eq_true rfl) (by rw [va_up_self]; rfl) (by rw [va_up_self]; show (∃ q, gr q4 3 = some q ∧ τ q = 27) ∧ rg 0 4 0; exact ⟨(thI_8 hH t9).1, (rg_w rgc_0 (th_leI rfl) (th_leI rfl))⟩) (fun b hb => ⟨va_up_ne _ _ hb, rfl⟩) dX11_content_26 k9) (fun t9 k9 => th_put (ci := 8) (v := .int 0) (T := TX9) (C := RX9) (N := 6) (ty := .int) (gi' := va_up gi q4 (upd (gi q4) 4 0)) (gr' := gr) hx hb hts (fun w h => List.mem_cons_of_mem _ (List.mem_append_left _ (List.mem_append_right _ h))) tyX9 tyX9_ok nmX9 hown hK hH hS t9 (th_nz rfl) (Or.inl (th_nzE t9 rfl)) rfl rfl 4 (th_ltN rfl) (hts (.fieldLink RX11 231 "BayMoorings$Boat" "wishCount" "I") (List.mem_cons_of_mem _ (List.mem_append_left _ (List.mem_append_left _ (List.mem_append_left _ (List.mem_append_left _ (List.mem_append_left _ (List.mem_of_getElem? (i := 1) rfl)))))))) (fun _ h9 => h9) rfl (by decide +kernel) rfl rfl (Nat.le_of_ble_eq_true rfl) (by rw [va_up_self]; rfl) (by rw [va_up_self]; show (∃ q, gr q4 3 = some q ∧ τ q = 27) ∧ rg 0 4 0; exact ⟨(thI_9 hH t9).1, (rg_w rgc_0 (th_leI rfl) (th_leI rfl))⟩) (fun b hb => ⟨va_up_ne _ _ hb, rfl⟩) dX11_content_26 k9) (fun t9 k9 => th_put (ci := 3) (v := .int 0) (T := TX4) (C := RX4) (N := 6) (ty := .int) (gi' := va_up gi q4 (upd (gi q4) 4 0)) (gr' := gr) hx hb hts (fun w h => List.mem_cons_of_mem _ (List.mem_append_left _ (List.mem_append_left _ (List.mem_append_left _ (List.mem_append_right _ h))))) tyX4 tyX4_ok nmX4 hown hK hH hS t9 (th_nz rfl) (Or.inl (th_nzE t9 rfl)) rfl rfl 4 (th_ltN rfl) (hts (.fieldLink RX11 231 "BayMoorings$Boat" "wishCount" "I") (List.mem_cons_of_mem _ (List.mem_append_left _ (List.mem_append_left _ (List.mem_append_left _ (List.mem_append_left _ (List.mem_append_left _ (List.mem_of_getElem? (i := 1) rfl)))))))) (fun _ h9 => h9) rfl (by decide +kernel) rfl rfl (Nat.le_of_ble_eq_true rfl) (by rw [va_up_self]; rfl) (by rw [va_up_self]; show (∃ q, gr q4 3 = some q ∧ τ q = 27) ∧ rg 0 4 0; exact ⟨(thI_4 hH t9).1, (rg_w rgc_0 (th_leI rfl) (th_leI rfl))⟩) (fun b hb => ⟨va_up_ne _ _ hb, rfl⟩) dX11_content_26 k9) (fun H locs hH hS => ?_)
    obtain ⟨gi6, eg6⟩ : ∃ g, g = va_up gi q4 (upd (gi q4) 4 0) := ⟨_, rfl⟩
    rw [← eg6] at hH
    have hu6 : gi6 q4 4 = 0 := (th_uI eg6).1
    have ho6 : ∀ b j, b ≠ q4 ∨ j ≠ 4 → gi6 b j = gi b j := (th_uI eg6).2
    have hM := th_or3 t4 (fun t9 => hM.i t9 (th_mem rfl) ho6) (fun t9 => hM.i t9 (th_mem rfl) ho6) (fun t9 => hM.i t9 (th_mem rfl) ho6)
    refine lv_iload_n hx hb dX11_content_29 rfl (lv_at hl 0 rfl) ?_
    exact W.iret (v := x5) hx hb hr (fun t ht hW => ⟨⟨x5, (gi6, gr), rfl, ⟨hM, rfl, (hF.trans (by simp only [F_X11_content, r1, Option.getD_some, hw3.2, Option.elim_some, ← e5, ← eg6]))⟩, th_Ht ht hH⟩, hS.F ht⟩) hS.2.2 dX11_content_30
  · skip
    subst z4
    have hl : lv_has ls 4 [(2, .null), (0, .ref h0), (1, .int p1)] := hl
    refine lv_aload_n hx hb dX11_content_13 rfl (lv_at hl 1 rfl) ?_
    refine lv_iconst (v := 1) hx hb dX11_content_14 ic_1 ?_
    have hA8 := th_Asub (τ := τ) hS
    refine va_calli (va_runV (As := [.int 1]) (rest := []) ⟨hx, hb, hml, hown, hts⟩ (k_X11_finding l D cA Z τ gi gr _ h0 t_h0 1) (cwV 1 hts gX11_content_X11_finding rfl rfl rfl hd_X11_finding__1 ⟨Nat.le_of_ble_eq_true rfl, Nat.le_of_ble_eq_true rfl⟩) ⟨th_blind, tr_11 hK hH t_h0, (th_pre hH hK hN hZ hS hA8)⟩ rfl rfl hl.1 rfl (lv_room (Nat.le_of_ble_eq_true rfl)) dX11_content_15 ⟨Nat.le_of_ble_eq_true rfl, Nat.le_of_ble_eq_true rfl⟩) hS (fun q _ h => hA8 q h) hA8 (fun x9 u t H locs ht hvm hw9 hB hz1 hk1 hS => ?_)
    try dsimp only at hw9 hB
    rw [ht] at hB
    have hH := hB
    obtain ⟨gi9, gr9⟩ := u
    try dsimp only at hw9 hH
    obtain rfl : gr = gr9 := (hw9.2.1).symm
    have hM := hM.tr hw9.1 (fun _ h => h) (th_sub rfl)
    exact W.iret (v := x9) hx hb hr (fun t ht hW => ⟨⟨x9, (gi9, gr), rfl, ⟨hM, rfl, (hF.trans (by simp only [F_X11_content, r1, Option.getD_some, hw3.2, Option.elim_none, hw9.2.2.1]))⟩, th_Ht ht hH⟩, hS.F ht⟩) hS.2.2 dX11_content_18

noncomputable def F_X11_ring (τ : th_t) (Z : th_Zt) (gi : th_i) (gr : th_r) (h0 : Nat) (p1 : Int32) : Int32 × th_i :=
  let q1 : Nat := (gr h0 0).getD 0
  let r3 : Option Nat := F_X0_boatAt τ Z gi gr q1 p1
  Option.elim r3 (
    let u20 : Int32 × th_i := F_X11_finding τ Z gi gr h0 1
    let x20 : Int32 := u20.1
    let gi20 : th_i := u20.2
    (x20, gi20)) (fun q4 =>
    let q6 : Nat := (gr q1 4).getD 0
    let x8 : Int32 := F_X1_buoyOf τ Z gi gr q6 p1
    if x8 = ((-1) : Int32) then (
      let u18 : Int32 × th_i := F_X11_finding τ Z gi gr h0 3
      let x18 : Int32 := u18.1
      let gi18 : th_i := u18.2
      (x18, gi18)) else (
      let q10 : Nat := (gr h0 3).getD 0
      let gi12 : th_i := F_X6_draw τ Z gi gr q10
      let x15 : Int32 := F_X6_buoyFor τ Z gi12 gr q10 p1
      (x15, gi12)))
set_option maxHeartbeats 8000000 in
set_option maxRecDepth 100000 in
theorem k_X11_ring (l : Launch) (D : va_G) (cA : Nat → ClassId) (Z : th_Zt) (τ : th_t) (gi : th_i) (gr : th_r) (sz : Nat) (h0 : Nat) (t_h0 : τ h0 = 11) (p1 : Int32) : Met l yX11_ring wsX11_ring ({ frames := 5, cells := 0, slots := 0, locals := 109 }) (va_Pc [.ref h0, .int p1] (th_Pre D cA Z τ gi gr sz)) (va_Qi (fun (r : Int32) (u : th_i × th_r) => th_Mod [603, 2800, 2900, 3600] τ gi gr u.1 u.2 ∧ u.2 = gr ∧ (F_X11_ring τ Z gi gr h0 p1 = (r, u.1))) (fun (u : th_i × th_r) t => th_H D cA τ u.1 u.2 t.heap) (th_A τ sz)) 0 0 (th_A τ sz) := by
  refine Met.ofW (cc := cX11_ring) (maxL := 2) (ret := (some .int)) (by decide) rfl ?_
  intro p e s m args below meth c s₁ B hml hv
  obtain ⟨rfl, hsz, hH, hK, hN, hZ⟩ := hv
  have hx := B.exec
  have hb := B.bytes
  have hr := B.returns
  have hts := atoms_spec (ws := wsX11_ring) B.pre
  have hown : s.vm.findClass RX11 = some m.cls := findClass_of_methodNamed B.named
  have hlocks := B.notSynchronized
  subst hsz
  have hM : th_Mod [603, 2800, 2900, 3600] τ gi gr gi gr := th_Mod.rf
  have hS : va_S (th_A τ s.heap.size) s.heap s.heap [] := va_S.rf
  have hl := lv_entry ([.ref h0, .int p1]) (n := 2) (Nat.le_of_ble_eq_true rfl)
  rw [lg_entry_eq]
  generalize (lg_sl ([.ref h0, .int p1]) ++ List.replicate (2 - (lg_sl ([.ref h0, .int p1])).length) Slot.unset).toArray = ls at hl ⊢
  have hl : lv_has ls 2 [(0, .ref h0), (1, .int p1)] := hl
  have hF : F_X11_ring τ Z gi gr h0 p1 = F_X11_ring τ Z gi gr h0 p1 := rfl
  refine lv_aload_n hx hb dX11_ring_0 rfl (lv_at hl 0 rfl) ?_
  obtain ⟨q1, r1, t1⟩ : ∃ q, gr h0 0 = some q ∧ τ q = 1 := (thI_11 hH t_h0).1
  refine th_get (ci := 10) (v := .ref q1) (T := TX11) (C := RX11) (N := 10) hx hb hts (fun w h => List.mem_cons_of_mem _ (List.mem_append_left _ (List.mem_append_left _ (List.mem_append_left _ (List.mem_append_left _ (List.mem_append_left _ (List.mem_append_left _ (List.mem_append_left _ (List.mem_append_right _ h))))))))) hown hK hH t_h0 (th_nz rfl) (thE_11 _ _ _) rfl 0 (th_ltN rfl) (hts (.fieldLink RX11 10 "BayMoorings" "bay" "LBayMoorings$Bay;") (List.mem_cons_of_mem _ (List.mem_append_left _ (List.mem_append_left _ (List.mem_append_left _ (List.mem_append_left _ (List.mem_append_left _ (List.mem_append_left _ (List.mem_append_left _ (List.mem_append_left _ (List.mem_append_left _ (List.mem_of_getElem? (i := 0) rfl)))))))))))) (fun _ h9 => h9) (th_fR r1 rfl) dX11_ring_1 ?_
  refine lv_iload_n hx hb dX11_ring_4 rfl (lv_at hl 1 rfl) ?_
  have hA2 := th_Asub (τ := τ) hS
  refine va_callq (va_runV (As := [.int p1]) (rest := []) ⟨hx, hb, hml, hown, hts⟩ (k_X0_boatAt l D cA Z τ gi gr _ q1 t1 p1) (cwV 1 hts gX11_ring_X0_boatAt rfl rfl rfl hd_X0_boatAt__1 ⟨Nat.le_of_ble_eq_true rfl, Nat.le_of_ble_eq_true rfl⟩) ⟨th_blind, tr_1 hK hH t1, (th_pre hH hK hN hZ hS hA2)⟩ rfl rfl hl.1 rfl (lv_room (Nat.le_of_ble_eq_true rfl)) dX11_ring_5 ⟨Nat.le_of_ble_eq_true rfl, Nat.le_of_ble_eq_true rfl⟩) hS (fun q _ h => hA2 q h) hA2 (fun r3 u t H locs ht hvm hw3 hB hz1 hk1 hS => ?_)
  try dsimp only at hw3 hB
  rw [ht] at hB
  have hH := hB
  refine th_ifnonnull (tgt := 17) hx hb dX11_ring_8 (th_eqI rfl) (fun q4 z4 => ?_) (fun z4 => ?_)
  · skip
    subst z4
    have t4 := hw3.1 q4 rfl
    refine lv_aload_n hx hb dX11_ring_17 rfl (lv_at hl 0 rfl) ?_
    refine th_get (ci := 10) (v := .ref q1) (T := TX11) (C := RX11) (N := 10) hx hb hts (fun w h => List.mem_cons_of_mem _ (List.mem_append_left _ (List.mem_append_left _ (List.mem_append_left _ (List.mem_append_left _ (List.mem_append_left _ (List.mem_append_left _ (List.mem_append_left _ (List.mem_append_right _ h))))))))) hown hK hH t_h0 (th_nz rfl) (thE_11 _ _ _) rfl 0 (th_ltN rfl) (hts (.fieldLink RX11 10 "BayMoorings" "bay" "LBayMoorings$Bay;") (List.mem_cons_of_mem _ (List.mem_append_left _ (List.mem_append_left _ (List.mem_append_left _ (List.mem_append_left _ (List.mem_append_left _ (List.mem_append_left _ (List.mem_append_left _ (List.mem_append_left _ (List.mem_append_left _ (List.mem_of_getElem? (i := 0) rfl)))))))))))) (fun _ h9 => h9) (th_fR r1 rfl) dX11_ring_18 ?_
    obtain ⟨q6, r6, t6⟩ : ∃ q, gr q1 4 = some q ∧ τ q = 2 := (thI_1 hH t1).2.2.2.2.1
    refine th_get (ci := 0) (v := .ref q6) (T := TX0) (C := RX0) (N := 9) hx hb hts (fun w h => List.mem_cons_of_mem _ (List.mem_append_left _ (List.mem_append_left _ (List.mem_append_left _ (List.mem_append_left _ (List.mem_append_left _ (List.mem_append_left _ (List.mem_append_right _ h)))))))) hown hK hH t1 (th_nz rfl) (thE_1 _ _ _) rfl 4 (th_ltN rfl) (hts (.fieldLink RX11 125 "BayMoorings$Bay" "berths" "LBayMoorings$Berths;") (List.mem_cons_of_mem _ (List.mem_append_left _ (List.mem_append_left _ (List.mem_append_left _ (List.mem_append_left _ (List.mem_append_left _ (List.mem_append_left _ (List.mem_append_left _ (List.mem_append_left _ (List.mem_append_left _ (List.mem_of_getElem? (i := 1) rfl)))))))))))) (fun _ h9 => h9) (th_fR r6 rfl) dX11_ring_21 ?_
    refine lv_iload_n hx hb dX11_ring_24 rfl (lv_at hl 1 rfl) ?_
    have hA7 := th_Asub (τ := τ) hS
    refine va_calli (va_runV (As := [.int p1]) (rest := []) ⟨hx, hb, hml, hown, hts⟩ (k_X1_buoyOf l D cA Z τ gi gr _ q6 t6 p1) (cwV 1 hts gX11_ring_X1_buoyOf rfl rfl rfl hd_X1_buoyOf__1 ⟨Nat.le_of_ble_eq_true rfl, Nat.le_of_ble_eq_true rfl⟩) ⟨th_blind, tr_2 hK hH t6, (th_pre hH hK hN hZ hS hA7)⟩ rfl rfl hl.1 rfl (lv_room (Nat.le_of_ble_eq_true rfl)) dX11_ring_25 ⟨Nat.le_of_ble_eq_true rfl, Nat.le_of_ble_eq_true rfl⟩) hS (fun q _ h => hA7 q h) hA7 (fun x8 u t H locs ht hvm hw8 hB hz1 hk1 hS => ?_)
    try dsimp only at hw8 hB
    rw [ht] at hB
    have hH := hB
    refine lv_iconst (v := (-1)) hx hb dX11_ring_28 ic_m1 ?_
    refine lv_icmp_ne (tgt := 38) hx hb dX11_ring_29 (th_eqI rfl) (fun c9 => ?_) (fun c9 => ?_)
    · skip
      refine lv_aload_n hx hb dX11_ring_38 rfl (lv_at hl 0 rfl) ?_
      obtain ⟨q10, r10, t10⟩ : ∃ q, gr h0 3 = some q ∧ τ q = 6 := (thI_11 hH t_h0).2.2.2.1
      refine th_get (ci := 10) (v := .ref q10) (T := TX11) (C := RX11) (N := 10) hx hb hts (fun w h => List.mem_cons_of_mem _ (List.mem_append_left _ (List.mem_append_left _ (List.mem_append_left _ (List.mem_append_left _ (List.mem_append_left _ (List.mem_append_left _ (List.mem_append_left _ (List.mem_append_right _ h))))))))) hown hK hH t_h0 (th_nz rfl) (thE_11 _ _ _) rfl 3 (th_ltN rfl) (hts (.fieldLink RX11 35 "BayMoorings" "rings" "LBayMoorings$Rings;") (List.mem_cons_of_mem _ (List.mem_append_left _ (List.mem_append_left _ (List.mem_append_left _ (List.mem_append_left _ (List.mem_append_left _ (List.mem_append_left _ (List.mem_append_left _ (List.mem_append_left _ (List.mem_append_left _ (List.mem_of_getElem? (i := 2) rfl)))))))))))) (fun _ h9 => h9) (th_fR r10 rfl) dX11_ring_39 ?_
      have hA11 := th_Asub (τ := τ) hS
      refine va_callv (va_runV (As := []) (rest := []) ⟨hx, hb, hml, hown, hts⟩ (k_X6_draw l D cA Z τ gi gr _ q10 t10) (cwV 0 hts gX11_ring_X6_draw rfl rfl rfl hd_X6_draw__0 ⟨Nat.le_of_ble_eq_true rfl, Nat.le_of_ble_eq_true rfl⟩) ⟨th_blind, tr_6 hK hH t10, (th_pre hH hK hN hZ hS hA11)⟩ rfl rfl hl.1 rfl (lv_room (Nat.le_of_ble_eq_true rfl)) dX11_ring_42 ⟨Nat.le_of_ble_eq_true rfl, Nat.le_of_ble_eq_true rfl⟩) hS (fun q _ h => hA11 q h) hA11 (fun  u t H locs ht hvm hw12 hB hz1 hk1 hS => ?_)
      try dsimp only at hw12 hB
      rw [ht] at hB
      have hH := hB
      obtain ⟨gi12, gr12⟩ := u
      try dsimp only at hw12 hH
      obtain rfl : gr = gr12 := (hw12.2.1).symm
      have hM := hM.tr hw12.1 (fun _ h => h) (th_sub rfl)
      refine lv_aload_n hx hb dX11_ring_45 rfl (lv_at hl 0 rfl) ?_
      refine th_get (ci := 10) (v := .ref q10) (T := TX11) (C := RX11) (N := 10) hx hb hts (fun w h => List.mem_cons_of_mem _ (List.mem_append_left _ (List.mem_append_left _ (List.mem_append_left _ (List.mem_append_left _ (List.mem_append_left _ (List.mem_append_left _ (List.mem_append_left _ (List.mem_append_right _ h))))))))) hown hK hH t_h0 (th_nz rfl) (thE_11 _ _ _) rfl 3 (th_ltN rfl) (hts (.fieldLink RX11 35 "BayMoorings" "rings" "LBayMoorings$Rings;") (List.mem_cons_of_mem _ (List.mem_append_left _ (List.mem_append_left _ (List.mem_append_left _ (List.mem_append_left _ (List.mem_append_left _ (List.mem_append_left _ (List.mem_append_left _ (List.mem_append_left _ (List.mem_append_left _ (List.mem_of_getElem? (i := 2) rfl)))))))))))) (fun _ h9 => h9) (th_fR r10 rfl) dX11_ring_46 ?_
      refine lv_iload_n hx hb dX11_ring_49 rfl (lv_at hl 1 rfl) ?_
      have hA14 := th_Asub (τ := τ) hS
      refine va_calli (va_runV (As := [.int p1]) (rest := []) ⟨hx, hb, hml, hown, hts⟩ (k_X6_buoyFor l D cA Z τ gi12 gr _ q10 t10 p1) (cwV 1 hts gX11_ring_X6_buoyFor rfl rfl rfl hd_X6_buoyFor__1 ⟨Nat.le_of_ble_eq_true rfl, Nat.le_of_ble_eq_true rfl⟩) ⟨th_blind, tr_6 hK hH t10, (th_pre hH hK hN hZ hS hA14)⟩ rfl rfl hl.1 rfl (lv_room (Nat.le_of_ble_eq_true rfl)) dX11_ring_50 ⟨Nat.le_of_ble_eq_true rfl, Nat.le_of_ble_eq_true rfl⟩) hS (fun q _ h => hA14 q h) hA14 (fun x15 u t H locs ht hvm hw15 hB hz1 hk1 hS => ?_)
      try dsimp only at hw15 hB
      rw [ht] at hB
      have hH := hB
      exact W.iret (v := x15) hx hb hr (fun t ht hW => ⟨⟨x15, (gi12, gr), rfl, ⟨hM, rfl, (hF.trans (by simp only [↓reduceIte, F_X11_ring, r1, Option.getD_some, hw3.2, Option.elim_some, r6, hw8, eq_false c9, r10, hw12.2.2, hw15]))⟩, th_Ht ht hH⟩, hS.F ht⟩) hS.2.2 dX11_ring_53
    · skip
      have f16 : rg (-1) (-1) x8 := rg_w (rg_eq (rg_any x8) rgc_m1 c9).1 (th_leI rfl) (th_leI rfl)
      refine lv_aload_n hx hb dX11_ring_32 rfl (lv_at hl 0 rfl) ?_
      refine lv_iconst (v := 3) hx hb dX11_ring_33 ic_3 ?_
      have hA17 := th_Asub (τ := τ) hS
      refine va_calli (va_runV (As := [.int 3]) (rest := []) ⟨hx, hb, hml, hown, hts⟩ (k_X11_finding l D cA Z τ gi gr _ h0 t_h0 3) (cwV 1 hts gX11_ring_X11_finding rfl rfl rfl hd_X11_finding__1 ⟨Nat.le_of_ble_eq_true rfl, Nat.le_of_ble_eq_true rfl⟩) ⟨th_blind, tr_11 hK hH t_h0, (th_pre hH hK hN hZ hS hA17)⟩ rfl rfl hl.1 rfl (lv_room (Nat.le_of_ble_eq_true rfl)) dX11_ring_34 ⟨Nat.le_of_ble_eq_true rfl, Nat.le_of_ble_eq_true rfl⟩) hS (fun q _ h => hA17 q h) hA17 (fun x18 u t H locs ht hvm hw18 hB hz1 hk1 hS => ?_)
      try dsimp only at hw18 hB
      rw [ht] at hB
      have hH := hB
      obtain ⟨gi18, gr18⟩ := u
      try dsimp only at hw18 hH
      obtain rfl : gr = gr18 := (hw18.2.1).symm
      have hM := hM.tr hw18.1 (fun _ h => h) (th_sub rfl)
      exact W.iret (v := x18) hx hb hr (fun t ht hW => ⟨⟨x18, (gi18, gr), rfl, ⟨hM, rfl, (hF.trans (by simp only [↓reduceIte, F_X11_ring, r1, Option.getD_some, hw3.2, Option.elim_some, r6, hw8, eq_true c9, hw18.2.2.1]))⟩, th_Ht ht hH⟩, hS.F ht⟩) hS.2.2 dX11_ring_37
  · skip
    subst z4
    refine lv_aload_n hx hb dX11_ring_11 rfl (lv_at hl 0 rfl) ?_
    refine lv_iconst (v := 1) hx hb dX11_ring_12 ic_1 ?_
    have hA19 := th_Asub (τ := τ) hS
    refine va_calli (va_runV (As := [.int 1]) (rest := []) ⟨hx, hb, hml, hown, hts⟩ (k_X11_finding l D cA Z τ gi gr _ h0 t_h0 1) (cwV 1 hts gX11_ring_X11_finding rfl rfl rfl hd_X11_finding__1 ⟨Nat.le_of_ble_eq_true rfl, Nat.le_of_ble_eq_true rfl⟩) ⟨th_blind, tr_11 hK hH t_h0, (th_pre hH hK hN hZ hS hA19)⟩ rfl rfl hl.1 rfl (lv_room (Nat.le_of_ble_eq_true rfl)) dX11_ring_13 ⟨Nat.le_of_ble_eq_true rfl, Nat.le_of_ble_eq_true rfl⟩) hS (fun q _ h => hA19 q h) hA19 (fun x20 u t H locs ht hvm hw20 hB hz1 hk1 hS => ?_)
    try dsimp only at hw20 hB
    rw [ht] at hB
    have hH := hB
    obtain ⟨gi20, gr20⟩ := u
    try dsimp only at hw20 hH
    obtain rfl : gr = gr20 := (hw20.2.1).symm
    have hM := hM.tr hw20.1 (fun _ h => h) (th_sub rfl)
    exact W.iret (v := x20) hx hb hr (fun t ht hW => ⟨⟨x20, (gi20, gr), rfl, ⟨hM, rfl, (hF.trans (by simp only [F_X11_ring, r1, Option.getD_some, hw3.2, Option.elim_none, hw20.2.2.1]))⟩, th_Ht ht hH⟩, hS.F ht⟩) hS.2.2 dX11_ring_16

noncomputable def f_X11_swap_55 (τ : th_t) (Z : th_Zt) (gi : th_i) (gr : th_r) (h0 : Nat) : Nat → th_i → Int32 → Int32 → Int32 × th_i
  | 0, gi_55, y55_1, y55_2 => (0, gi_55)
  | n55 + 1, gi_55, y55_1, y55_2 =>
    let q1 : Nat := (gr h0 0).getD 0
    let x2 : Int32 := gi_55 q1 6
    if x2 ≤ y55_2 then (
      let gi6 : th_i := F_X0_dropWishes τ Z gi_55 gr q1
      (y55_1, gi6)) else (
      let q11 : Nat := (gr q1 4).getD 0
      let q12 : Nat := (gr h0 3).getD 0
      let x14 : Int32 := F_X6_buoyFor τ Z gi_55 gr q12 y55_2
      let gi16 : th_i := F_X1_put τ Z gi_55 gr q11 y55_2 x14
      let x18 : Int32 := y55_2 + 1
      (f_X11_swap_55 τ Z gi gr h0 n55) gi16 y55_1 x18)
noncomputable def f_X11_swap_47 (τ : th_t) (Z : th_Zt) (gi : th_i) (gr : th_r) (h0 : Nat) (gi_11 : th_i) (y11_1 : Int32) (y11_2 : Int32) (k_11 : th_i → Int32 → Int32 → Int32 × th_i) (gi_47 : th_i) (y47_1 : Int32) : Int32 × th_i :=
  let x19 : Int32 := y11_2 + 1
  k_11 gi_47 y47_1 x19
noncomputable def f_X11_swap_11 (τ : th_t) (Z : th_Zt) (gi : th_i) (gr : th_r) (h0 : Nat) : Nat → th_i → Int32 → Int32 → Int32 × th_i
  | 0, gi_11, y11_1, y11_2 => (0, gi_11)
  | n11 + 1, gi_11, y11_1, y11_2 =>
    let q20 : Nat := (gr h0 0).getD 0
    let x21 : Int32 := gi_11 q20 6
    if x21 ≤ y11_2 then (
      f_X11_swap_55 τ Z gi gr h0 ((16 - (0 : Int32).toInt).toNat + 1) gi_11 y11_1 0) else (
      let q25 : Nat := (gr h0 3).getD 0
      let x27 : Int32 := F_X6_buoyFor τ Z gi_11 gr q25 y11_2
      let q29 : Nat := (gr q20 4).getD 0
      let x31 : Int32 := F_X1_buoyOf τ Z gi_11 gr q29 y11_2
      if x27 = x31 then (
        f_X11_swap_47 τ Z gi gr h0 gi_11 y11_1 y11_2 (f_X11_swap_11 τ Z gi gr h0 n11) gi_11 y11_1) else (
        let x33 : Int32 := y11_1 + 1
        f_X11_swap_47 τ Z gi gr h0 gi_11 y11_1 y11_2 (f_X11_swap_11 τ Z gi gr h0 n11) gi_11 x33))
noncomputable def F_X11_swap (τ : th_t) (Z : th_Zt) (gi : th_i) (gr : th_r) (h0 : Nat) : Int32 × th_i :=
  let q34 : Nat := (gr h0 3).getD 0
  let gi36 : th_i := F_X6_draw τ Z gi gr q34
  f_X11_swap_11 τ Z gi gr h0 ((16 - (0 : Int32).toInt).toNat + 1) gi36 0 0
set_option maxHeartbeats 8000000 in
set_option maxRecDepth 100000 in
theorem k_X11_swap (l : Launch) (D : va_G) (cA : Nat → ClassId) (Z : th_Zt) (τ : th_t) (gi : th_i) (gr : th_r) (sz : Nat) (h0 : Nat) (t_h0 : τ h0 = 11) : Met l yX11_swap wsX11_swap ({ frames := 5, cells := 0, slots := 0, locals := 109 }) (va_Pc [.ref h0] (th_Pre D cA Z τ gi gr sz)) (va_Qi (fun (r : Int32) (u : th_i × th_r) => th_Mod [404, 603, 804, 904, 2400, 2500, 2800, 2900] τ gi gr u.1 u.2 ∧ u.2 = gr ∧ (F_X11_swap τ Z gi gr h0 = (r, u.1))) (fun (u : th_i × th_r) t => th_H D cA τ u.1 u.2 t.heap) (th_A τ sz)) 0 0 (th_A τ sz) := by
  refine Met.ofW (cc := cX11_swap) (maxL := 3) (ret := (some .int)) (by decide) rfl ?_
  intro p e s m args below meth c s₁ B hml hv
  obtain ⟨rfl, hsz, hH, hK, hN, hZ⟩ := hv
  have hx := B.exec
  have hb := B.bytes
  have hr := B.returns
  have hts := atoms_spec (ws := wsX11_swap) B.pre
  have hown : s.vm.findClass RX11 = some m.cls := findClass_of_methodNamed B.named
  have hlocks := B.notSynchronized
  subst hsz
  have hM : th_Mod [404, 603, 804, 904, 2400, 2500, 2800, 2900] τ gi gr gi gr := th_Mod.rf
  have J55 : ∀ (n55 : Nat) (gi_55 : th_i) (H : Heap) (locs : List Loc) (ls : Array Slot) (y55_1 : Int32) (y55_2 : Int32), (16 - y55_2.toInt).toNat < n55 → th_H D cA τ gi_55 gr H → va_S (th_A τ s.heap.size) s.heap H locs → th_Mod [404, 603, 804, 904, 2400, 2500, 2800, 2900] τ gi gr gi_55 gr → lv_has ls 3 [(0, .ref h0), (1, .int y55_1), (2, .int y55_2)] → rg 0 16 y55_2 → F_X11_swap τ Z gi gr h0 = f_X11_swap_55 τ Z gi gr h0 n55 gi_55 y55_1 y55_2 → W p l e (headSpec wsX11_swap ({ frames := 5, cells := 0, slots := 0, locals := 109 })).room s m [.ref h0].toArray below meth c H locs 0 0 (MQ below (va_Qi (fun (r : Int32) (u : th_i × th_r) => th_Mod [404, 603, 804, 904, 2400, 2500, 2800, 2900] τ gi gr u.1 u.2 ∧ u.2 = gr ∧ (F_X11_swap τ Z gi gr h0 = (r, u.1))) (fun (u : th_i × th_r) t => th_H D cA τ u.1 u.2 t.heap) (th_A τ s.heap.size)) [.ref h0].toArray s 0 0 (th_A τ s.heap.size)) (F0 m 55 ls []) := by
    intro n55
    induction n55 with
    | zero =>
      intro gi_55 H locs ls y55_1 y55_2 hn
      exact absurd hn (Nat.not_lt_zero _)
    | succ n55 ih55 =>
      intro gi_55 H locs ls y55_1 y55_2 hn55 hH hS hM hl fy55_2 hF
      refine lv_iload_n hx hb dX11_swap_55 rfl (lv_at hl 2 rfl) ?_
      refine lv_aload_n hx hb dX11_swap_56 rfl (lv_at hl 0 rfl) ?_
      obtain ⟨q1, r1, t1⟩ : ∃ q, gr h0 0 = some q ∧ τ q = 1 := (thI_11 hH t_h0).1
      refine th_get (ci := 10) (v := .ref q1) (T := TX11) (C := RX11) (N := 10) hx hb hts (fun w h => List.mem_cons_of_mem _ (List.mem_append_left _ (List.mem_append_left _ (List.mem_append_left _ (List.mem_append_left _ (List.mem_append_left _ (List.mem_append_left _ (List.mem_append_left _ (List.mem_append_right _ h))))))))) hown hK hH t_h0 (th_nz rfl) (thE_11 _ _ _) rfl 0 (th_ltN rfl) (hts (.fieldLink RX11 10 "BayMoorings" "bay" "LBayMoorings$Bay;") (List.mem_cons_of_mem _ (List.mem_append_left _ (List.mem_append_left _ (List.mem_append_left _ (List.mem_append_left _ (List.mem_append_left _ (List.mem_append_left _ (List.mem_append_left _ (List.mem_append_left _ (List.mem_append_left _ (List.mem_of_getElem? (i := 1) rfl)))))))))))) (fun _ h9 => h9) (th_fR r1 rfl) dX11_swap_57 ?_
      obtain ⟨x2, e2⟩ : ∃ y : Int32, y = gi_55 q1 6 := ⟨_, rfl⟩
      refine th_get (ci := 0) (v := .int x2) (T := TX0) (C := RX0) (N := 9) hx hb hts (fun w h => List.mem_cons_of_mem _ (List.mem_append_left _ (List.mem_append_left _ (List.mem_append_left _ (List.mem_append_left _ (List.mem_append_left _ (List.mem_append_left _ (List.mem_append_right _ h)))))))) hown hK hH t1 (th_nz rfl) (thE_1 _ _ _) rfl 6 (th_ltN rfl) (hts (.fieldLink RX11 83 "BayMoorings$Bay" "boatCount" "I") (List.mem_cons_of_mem _ (List.mem_append_left _ (List.mem_append_left _ (List.mem_append_left _ (List.mem_append_left _ (List.mem_append_left _ (List.mem_append_left _ (List.mem_append_left _ (List.mem_append_left _ (List.mem_append_left _ (List.mem_of_getElem? (i := 2) rfl)))))))))))) (fun _ h9 => h9) (th_fI e2 rfl) dX11_swap_60 ?_
      have f2 : rg 0 16 x2 := rg_e e2 ((thI_1 hH t1).2.2.2.2.2.2)
      refine lv_icmp_ge (tgt := 91) hx hb dX11_swap_63 (th_eqI rfl) (fun c3 => ?_) (fun c3 => ?_)
      · skip
        refine lv_aload_n hx hb dX11_swap_91 rfl (lv_at hl 0 rfl) ?_
        refine th_get (ci := 10) (v := .ref q1) (T := TX11) (C := RX11) (N := 10) hx hb hts (fun w h => List.mem_cons_of_mem _ (List.mem_append_left _ (List.mem_append_left _ (List.mem_append_left _ (List.mem_append_left _ (List.mem_append_left _ (List.mem_append_left _ (List.mem_append_left _ (List.mem_append_right _ h))))))))) hown hK hH t_h0 (th_nz rfl) (thE_11 _ _ _) rfl 0 (th_ltN rfl) (hts (.fieldLink RX11 10 "BayMoorings" "bay" "LBayMoorings$Bay;") (List.mem_cons_of_mem _ (List.mem_append_left _ (List.mem_append_left _ (List.mem_append_left _ (List.mem_append_left _ (List.mem_append_left _ (List.mem_append_left _ (List.mem_append_left _ (List.mem_append_left _ (List.mem_append_left _ (List.mem_of_getElem? (i := 1) rfl)))))))))))) (fun _ h9 => h9) (th_fR r1 rfl) dX11_swap_92 ?_
        have hA5 := th_Asub (τ := τ) hS
        refine va_callv (va_runV (As := []) (rest := []) ⟨hx, hb, hml, hown, hts⟩ (k_X0_dropWishes l D cA Z τ gi_55 gr _ q1 t1) (cwV 0 hts gX11_swap_X0_dropWishes rfl rfl rfl hd_X0_dropWishes__0 ⟨Nat.le_of_ble_eq_true rfl, Nat.le_of_ble_eq_true rfl⟩) ⟨th_blind, tr_1 hK hH t1, (th_pre hH hK hN hZ hS hA5)⟩ rfl rfl hl.1 rfl (lv_room (Nat.le_of_ble_eq_true rfl)) dX11_swap_95 ⟨Nat.le_of_ble_eq_true rfl, Nat.le_of_ble_eq_true rfl⟩) hS (fun q _ h => hA5 q h) hA5 (fun  u t H locs ht hvm hw6 hB hz1 hk1 hS => ?_)
        try dsimp only at hw6 hB
        rw [ht] at hB
        have hH := hB
        obtain ⟨gi6, gr6⟩ := u
        try dsimp only at hw6 hH
        obtain rfl : gr = gr6 := (hw6.2.1).symm
        have hM := hM.tr hw6.1 (fun _ h => h) (th_sub rfl)
        have e7 : x2 = gi6 q1 6 := Eq.trans e2 (Eq.symm (hw6.1 q1 6 (th_nzE t1 rfl) (th_nmE (key := 106) t1 rfl rfl)).1)
        refine lv_iload_n hx hb dX11_swap_98 rfl (lv_at hl 1 rfl) ?_
        exact W.iret (v := y55_1) hx hb hr (fun t ht hW => ⟨⟨y55_1, (gi6, gr), rfl, ⟨hM, rfl, (hF.trans (by simp only [↓reduceIte, f_X11_swap_55, r1, Option.getD_some, ← e2, eq_true c3, hw6.2.2]))⟩, th_Ht ht hH⟩, hS.F ht⟩) hS.2.2 dX11_swap_99
      · skip
        have f8 : rg 1 16 x2 := rg_w (rg_nle f2 fy55_2 c3).1 (th_leI rfl) (th_leI rfl)
        have f9 : rg 0 15 y55_2 := rg_w (rg_nle f2 fy55_2 c3).2 (th_leI rfl) (th_leI rfl)
        refine lv_aload_n hx hb dX11_swap_66 rfl (lv_at hl 0 rfl) ?_
        refine th_get (ci := 10) (v := .ref q1) (T := TX11) (C := RX11) (N := 10) hx hb hts (fun w h => List.mem_cons_of_mem _ (List.mem_append_left _ (List.mem_append_left _ (List.mem_append_left _ (List.mem_append_left _ (List.mem_append_left _ (List.mem_append_left _ (List.mem_append_left _ (List.mem_append_right _ h))))))))) hown hK hH t_h0 (th_nz rfl) (thE_11 _ _ _) rfl 0 (th_ltN rfl) (hts (.fieldLink RX11 10 "BayMoorings" "bay" "LBayMoorings$Bay;") (List.mem_cons_of_mem _ (List.mem_append_left _ (List.mem_append_left _ (List.mem_append_left _ (List.mem_append_left _ (List.mem_append_left _ (List.mem_append_left _ (List.mem_append_left _ (List.mem_append_left _ (List.mem_append_left _ (List.mem_of_getElem? (i := 1) rfl)))))))))))) (fun _ h9 => h9) (th_fR r1 rfl) dX11_swap_67 ?_
        obtain ⟨q11, r11, t11⟩ : ∃ q, gr q1 4 = some q ∧ τ q = 2 := (thI_1 hH t1).2.2.2.2.1
        refine th_get (ci := 0) (v := .ref q11) (T := TX0) (C := RX0) (N := 9) hx hb hts (fun w h => List.mem_cons_of_mem _ (List.mem_append_left _ (List.mem_append_left _ (List.mem_append_left _ (List.mem_append_left _ (List.mem_append_left _ (List.mem_append_left _ (List.mem_append_right _ h)))))))) hown hK hH t1 (th_nz rfl) (thE_1 _ _ _) rfl 4 (th_ltN rfl) (hts (.fieldLink RX11 125 "BayMoorings$Bay" "berths" "LBayMoorings$Berths;") (List.mem_cons_of_mem _ (List.mem_append_left _ (List.mem_append_left _ (List.mem_append_left _ (List.mem_append_left _ (List.mem_append_left _ (List.mem_append_left _ (List.mem_append_left _ (List.mem_append_left _ (List.mem_append_left _ (List.mem_of_getElem? (i := 3) rfl)))))))))))) (fun _ h9 => h9) (th_fR r11 rfl) dX11_swap_70 ?_
        refine lv_iload_n hx hb dX11_swap_73 rfl (lv_at hl 2 rfl) ?_
        refine lv_aload_n hx hb dX11_swap_74 rfl (lv_at hl 0 rfl) ?_
        obtain ⟨q12, r12, t12⟩ : ∃ q, gr h0 3 = some q ∧ τ q = 6 := (thI_11 hH t_h0).2.2.2.1
        refine th_get (ci := 10) (v := .ref q12) (T := TX11) (C := RX11) (N := 10) hx hb hts (fun w h => List.mem_cons_of_mem _ (List.mem_append_left _ (List.mem_append_left _ (List.mem_append_left _ (List.mem_append_left _ (List.mem_append_left _ (List.mem_append_left _ (List.mem_append_left _ (List.mem_append_right _ h))))))))) hown hK hH t_h0 (th_nz rfl) (thE_11 _ _ _) rfl 3 (th_ltN rfl) (hts (.fieldLink RX11 35 "BayMoorings" "rings" "LBayMoorings$Rings;") (List.mem_cons_of_mem _ (List.mem_append_left _ (List.mem_append_left _ (List.mem_append_left _ (List.mem_append_left _ (List.mem_append_left _ (List.mem_append_left _ (List.mem_append_left _ (List.mem_append_left _ (List.mem_append_left _ (List.mem_of_getElem? (i := 0) rfl)))))))))))) (fun _ h9 => h9) (th_fR r12 rfl) dX11_swap_75 ?_
        refine lv_iload_n hx hb dX11_swap_78 rfl (lv_at hl 2 rfl) ?_
        have hA13 := th_Asub (τ := τ) hS
        refine va_calli (va_runV (As := [.int y55_2]) (rest := [.int y55_2, .ref q11]) ⟨hx, hb, hml, hown, hts⟩ (k_X6_buoyFor l D cA Z τ gi_55 gr _ q12 t12 y55_2) (cwV 1 hts gX11_swap_X6_buoyFor rfl rfl rfl hd_X6_buoyFor__1 ⟨Nat.le_of_ble_eq_true rfl, Nat.le_of_ble_eq_true rfl⟩) ⟨th_blind, tr_6 hK hH t12, (th_pre hH hK hN hZ hS hA13)⟩ rfl rfl hl.1 rfl (lv_room (Nat.le_of_ble_eq_true rfl)) dX11_swap_79 ⟨Nat.le_of_ble_eq_true rfl, Nat.le_of_ble_eq_true rfl⟩) hS (fun q _ h => hA13 q h) hA13 (fun x14 u t H locs ht hvm hw14 hB hz1 hk1 hS => ?_)
        try dsimp only at hw14 hB
        rw [ht] at hB
        have hH := hB
        have hA15 := th_Asub (τ := τ) hS
        refine va_callv (va_runV (As := [.int y55_2, .int x14]) (rest := []) ⟨hx, hb, hml, hown, hts⟩ (k_X1_put l D cA Z τ gi_55 gr _ q11 t11 y55_2 x14) (cwV 2 hts gX11_swap_X1_put rfl rfl rfl hd_X1_put__2 ⟨Nat.le_of_ble_eq_true rfl, Nat.le_of_ble_eq_true rfl⟩) ⟨th_blind, tr_2 hK hH t11, (th_pre hH hK hN hZ hS hA15)⟩ rfl rfl hl.1 rfl (lv_room (Nat.le_of_ble_eq_true rfl)) dX11_swap_82 ⟨Nat.le_of_ble_eq_true rfl, Nat.le_of_ble_eq_true rfl⟩) hS (fun q _ h => hA15 q h) hA15 (fun  u t H locs ht hvm hw16 hB hz1 hk1 hS => ?_)
        try dsimp only at hw16 hB
        rw [ht] at hB
        have hH := hB
        obtain ⟨gi16, gr16⟩ := u
        try dsimp only at hw16 hH
        obtain rfl : gr = gr16 := (hw16.2.1).symm
        have hM := hM.tr hw16.1 (fun _ h => h) (th_sub rfl)
        have e17 : x2 = gi16 q1 6 := Eq.trans e2 (Eq.symm (hw16.1 q1 6 (th_nzE t1 rfl) (th_nmE (key := 106) t1 rfl rfl)).1)
        obtain ⟨x18, e18⟩ : ∃ y : Int32, y = y55_2 + 1 := ⟨_, rfl⟩
        have f18 : rg 1 16 x18 := rg_e e18 (rg_w (rg_add f9 rgc_1 (th_leI rfl) (th_leI rfl)) (th_leI rfl) (th_leI rfl))
        refine lv_iinc (v := x18) (lv' := [(2, .int x18), (0, .ref h0), (1, .int y55_1)]) hx hb dX11_swap_85 hl (k := 2) rfl (by rw [e18]; rfl) (th_ltN rfl) rfl (fun ls hl => ?_)
        refine lv_goto (tgt := 55) hx hb dX11_swap_88 (th_eqI rfl) ?_
        exact ih55 gi16 _ _ _ y55_1 x18 (th_up (rg_dA e18 f9 rgc_1 (th_leI rfl) (th_leI rfl)) f9 hn55 (th_ltI rfl)) hH hS hM (lv_sub hl [1, 2, 0] rfl) (rg_w f18 (th_leI rfl) (th_leI rfl)) (hF.trans (by simp only [↓reduceIte, f_X11_swap_55, r1, Option.getD_some, ← e2, eq_false c3, r11, r12, hw14, hw16.2.2, ← e18]))
  have J11 : ∀ (n11 : Nat) (gi_11 : th_i) (H : Heap) (locs : List Loc) (ls : Array Slot) (y11_1 : Int32) (y11_2 : Int32), (16 - y11_2.toInt).toNat < n11 → th_H D cA τ gi_11 gr H → va_S (th_A τ s.heap.size) s.heap H locs → th_Mod [404, 603, 804, 904, 2400, 2500, 2800, 2900] τ gi gr gi_11 gr → lv_has ls 3 [(0, .ref h0), (1, .int y11_1), (2, .int y11_2)] → rg 0 16 y11_2 → F_X11_swap τ Z gi gr h0 = f_X11_swap_11 τ Z gi gr h0 n11 gi_11 y11_1 y11_2 → W p l e (headSpec wsX11_swap ({ frames := 5, cells := 0, slots := 0, locals := 109 })).room s m [.ref h0].toArray below meth c H locs 0 0 (MQ below (va_Qi (fun (r : Int32) (u : th_i × th_r) => th_Mod [404, 603, 804, 904, 2400, 2500, 2800, 2900] τ gi gr u.1 u.2 ∧ u.2 = gr ∧ (F_X11_swap τ Z gi gr h0 = (r, u.1))) (fun (u : th_i × th_r) t => th_H D cA τ u.1 u.2 t.heap) (th_A τ s.heap.size)) [.ref h0].toArray s 0 0 (th_A τ s.heap.size)) (F0 m 11 ls []) := by
    intro n11
    induction n11 with
    | zero =>
      intro gi_11 H locs ls y11_1 y11_2 hn
      exact absurd hn (Nat.not_lt_zero _)
    | succ n11 ih11 =>
      intro gi_11 H locs ls y11_1 y11_2 hn11 hH hS hM hl fy11_2 hF
      have J47 : ∀ (gi_47 : th_i) (H : Heap) (locs : List Loc) (ls : Array Slot) (y47_1 : Int32), th_H D cA τ gi_47 gr H → va_S (th_A τ s.heap.size) s.heap H locs → th_Mod [404, 603, 804, 904, 2400, 2500, 2800, 2900] τ gi gr gi_47 gr → lv_has ls 3 [(0, .ref h0), (1, .int y47_1), (2, .int y11_2)] → rg 0 15 y11_2 → F_X11_swap τ Z gi gr h0 = f_X11_swap_47 τ Z gi gr h0 gi_11 y11_1 y11_2 (f_X11_swap_11 τ Z gi gr h0 n11) gi_47 y47_1 → W p l e (headSpec wsX11_swap ({ frames := 5, cells := 0, slots := 0, locals := 109 })).room s m [.ref h0].toArray below meth c H locs 0 0 (MQ below (va_Qi (fun (r : Int32) (u : th_i × th_r) => th_Mod [404, 603, 804, 904, 2400, 2500, 2800, 2900] τ gi gr u.1 u.2 ∧ u.2 = gr ∧ (F_X11_swap τ Z gi gr h0 = (r, u.1))) (fun (u : th_i × th_r) t => th_H D cA τ u.1 u.2 t.heap) (th_A τ s.heap.size)) [.ref h0].toArray s 0 0 (th_A τ s.heap.size)) (F0 m 47 ls []) := by
        intro gi_47 H locs ls y47_1 hH hS hM hl fy47_2 hF
        obtain ⟨x19, e19⟩ : ∃ y : Int32, y = y11_2 + 1 := ⟨_, rfl⟩
        have f19 : rg 1 16 x19 := rg_e e19 (rg_w (rg_add fy47_2 rgc_1 (th_leI rfl) (th_leI rfl)) (th_leI rfl) (th_leI rfl))
        refine lv_iinc (v := x19) (lv' := [(2, .int x19), (0, .ref h0), (1, .int y47_1)]) hx hb dX11_swap_47 hl (k := 2) rfl (by rw [e19]; rfl) (th_ltN rfl) rfl (fun ls hl => ?_)
        refine lv_goto (tgt := 11) hx hb dX11_swap_50 (th_eqI rfl) ?_
        exact ih11 gi_47 _ _ _ y47_1 x19 (th_up (rg_dA e19 fy47_2 rgc_1 (th_leI rfl) (th_leI rfl)) fy47_2 hn11 (th_ltI rfl)) hH hS hM (lv_sub hl [1, 2, 0] rfl) (rg_w f19 (th_leI rfl) (th_leI rfl)) (hF.trans (by simp only [f_X11_swap_47, ← e19]))
      refine lv_iload_n hx hb dX11_swap_11 rfl (lv_at hl 2 rfl) ?_
      refine lv_aload_n hx hb dX11_swap_12 rfl (lv_at hl 0 rfl) ?_
      obtain ⟨q20, r20, t20⟩ : ∃ q, gr h0 0 = some q ∧ τ q = 1 := (thI_11 hH t_h0).1
      refine th_get (ci := 10) (v := .ref q20) (T := TX11) (C := RX11) (N := 10) hx hb hts (fun w h => List.mem_cons_of_mem _ (List.mem_append_left _ (List.mem_append_left _ (List.mem_append_left _ (List.mem_append_left _ (List.mem_append_left _ (List.mem_append_left _ (List.mem_append_left _ (List.mem_append_right _ h))))))))) hown hK hH t_h0 (th_nz rfl) (thE_11 _ _ _) rfl 0 (th_ltN rfl) (hts (.fieldLink RX11 10 "BayMoorings" "bay" "LBayMoorings$Bay;") (List.mem_cons_of_mem _ (List.mem_append_left _ (List.mem_append_left _ (List.mem_append_left _ (List.mem_append_left _ (List.mem_append_left _ (List.mem_append_left _ (List.mem_append_left _ (List.mem_append_left _ (List.mem_append_left _ (List.mem_of_getElem? (i := 1) rfl)))))))))))) (fun _ h9 => h9) (th_fR r20 rfl) dX11_swap_13 ?_
      obtain ⟨x21, e21⟩ : ∃ y : Int32, y = gi_11 q20 6 := ⟨_, rfl⟩
      refine th_get (ci := 0) (v := .int x21) (T := TX0) (C := RX0) (N := 9) hx hb hts (fun w h => List.mem_cons_of_mem _ (List.mem_append_left _ (List.mem_append_left _ (List.mem_append_left _ (List.mem_append_left _ (List.mem_append_left _ (List.mem_append_left _ (List.mem_append_right _ h)))))))) hown hK hH t20 (th_nz rfl) (thE_1 _ _ _) rfl 6 (th_ltN rfl) (hts (.fieldLink RX11 83 "BayMoorings$Bay" "boatCount" "I") (List.mem_cons_of_mem _ (List.mem_append_left _ (List.mem_append_left _ (List.mem_append_left _ (List.mem_append_left _ (List.mem_append_left _ (List.mem_append_left _ (List.mem_append_left _ (List.mem_append_left _ (List.mem_append_left _ (List.mem_of_getElem? (i := 2) rfl)))))))))))) (fun _ h9 => h9) (th_fI e21 rfl) dX11_swap_16 ?_
      have f21 : rg 0 16 x21 := rg_e e21 ((thI_1 hH t20).2.2.2.2.2.2)
      refine lv_icmp_ge (tgt := 53) hx hb dX11_swap_19 (th_eqI rfl) (fun c22 => ?_) (fun c22 => ?_)
      · skip
        refine lv_iconst (v := 0) hx hb dX11_swap_53 ic_0 ?_
        refine lv_istore_n (i := 2) (lv' := [(2, .int 0), (0, .ref h0), (1, .int y11_1)]) hx hb dX11_swap_54 rfl hl (th_ltN rfl) rfl (fun ls hl => ?_)
        exact J55 _ gi_11 _ _ _ y11_1 0 (Nat.lt_add_one _) hH hS hM (lv_sub hl [1, 2, 0] rfl) (rg_w rgc_0 (th_leI rfl) (th_leI rfl)) (hF.trans (by simp only [↓reduceIte, f_X11_swap_11, r20, Option.getD_some, ← e21, eq_true c22]))
      · skip
        have f23 : rg 1 16 x21 := rg_w (rg_nle f21 fy11_2 c22).1 (th_leI rfl) (th_leI rfl)
        have f24 : rg 0 15 y11_2 := rg_w (rg_nle f21 fy11_2 c22).2 (th_leI rfl) (th_leI rfl)
        refine lv_aload_n hx hb dX11_swap_22 rfl (lv_at hl 0 rfl) ?_
        obtain ⟨q25, r25, t25⟩ : ∃ q, gr h0 3 = some q ∧ τ q = 6 := (thI_11 hH t_h0).2.2.2.1
        refine th_get (ci := 10) (v := .ref q25) (T := TX11) (C := RX11) (N := 10) hx hb hts (fun w h => List.mem_cons_of_mem _ (List.mem_append_left _ (List.mem_append_left _ (List.mem_append_left _ (List.mem_append_left _ (List.mem_append_left _ (List.mem_append_left _ (List.mem_append_left _ (List.mem_append_right _ h))))))))) hown hK hH t_h0 (th_nz rfl) (thE_11 _ _ _) rfl 3 (th_ltN rfl) (hts (.fieldLink RX11 35 "BayMoorings" "rings" "LBayMoorings$Rings;") (List.mem_cons_of_mem _ (List.mem_append_left _ (List.mem_append_left _ (List.mem_append_left _ (List.mem_append_left _ (List.mem_append_left _ (List.mem_append_left _ (List.mem_append_left _ (List.mem_append_left _ (List.mem_append_left _ (List.mem_of_getElem? (i := 0) rfl)))))))))))) (fun _ h9 => h9) (th_fR r25 rfl) dX11_swap_23 ?_
        refine lv_iload_n hx hb dX11_swap_26 rfl (lv_at hl 2 rfl) ?_
        have hA26 := th_Asub (τ := τ) hS
        refine va_calli (va_runV (As := [.int y11_2]) (rest := []) ⟨hx, hb, hml, hown, hts⟩ (k_X6_buoyFor l D cA Z τ gi_11 gr _ q25 t25 y11_2) (cwV 1 hts gX11_swap_X6_buoyFor rfl rfl rfl hd_X6_buoyFor__1 ⟨Nat.le_of_ble_eq_true rfl, Nat.le_of_ble_eq_true rfl⟩) ⟨th_blind, tr_6 hK hH t25, (th_pre hH hK hN hZ hS hA26)⟩ rfl rfl hl.1 rfl (lv_room (Nat.le_of_ble_eq_true rfl)) dX11_swap_27 ⟨Nat.le_of_ble_eq_true rfl, Nat.le_of_ble_eq_true rfl⟩) hS (fun q _ h => hA26 q h) hA26 (fun x27 u t H locs ht hvm hw27 hB hz1 hk1 hS => ?_)
        try dsimp only at hw27 hB
        rw [ht] at hB
        have hH := hB
        refine lv_aload_n hx hb dX11_swap_30 rfl (lv_at hl 0 rfl) ?_
        refine th_get (ci := 10) (v := .ref q20) (T := TX11) (C := RX11) (N := 10) hx hb hts (fun w h => List.mem_cons_of_mem _ (List.mem_append_left _ (List.mem_append_left _ (List.mem_append_left _ (List.mem_append_left _ (List.mem_append_left _ (List.mem_append_left _ (List.mem_append_left _ (List.mem_append_right _ h))))))))) hown hK hH t_h0 (th_nz rfl) (thE_11 _ _ _) rfl 0 (th_ltN rfl) (hts (.fieldLink RX11 10 "BayMoorings" "bay" "LBayMoorings$Bay;") (List.mem_cons_of_mem _ (List.mem_append_left _ (List.mem_append_left _ (List.mem_append_left _ (List.mem_append_left _ (List.mem_append_left _ (List.mem_append_left _ (List.mem_append_left _ (List.mem_append_left _ (List.mem_append_left _ (List.mem_of_getElem? (i := 1) rfl)))))))))))) (fun _ h9 => h9) (th_fR r20 rfl) dX11_swap_31 ?_
        obtain ⟨q29, r29, t29⟩ : ∃ q, gr q20 4 = some q ∧ τ q = 2 := (thI_1 hH t20).2.2.2.2.1
        refine th_get (ci := 0) (v := .ref q29) (T := TX0) (C := RX0) (N := 9) hx hb hts (fun w h => List.mem_cons_of_mem _ (List.mem_append_left _ (List.mem_append_left _ (List.mem_append_left _ (List.mem_append_left _ (List.mem_append_left _ (List.mem_append_left _ (List.mem_append_right _ h)))))))) hown hK hH t20 (th_nz rfl) (thE_1 _ _ _) rfl 4 (th_ltN rfl) (hts (.fieldLink RX11 125 "BayMoorings$Bay" "berths" "LBayMoorings$Berths;") (List.mem_cons_of_mem _ (List.mem_append_left _ (List.mem_append_left _ (List.mem_append_left _ (List.mem_append_left _ (List.mem_append_left _ (List.mem_append_left _ (List.mem_append_left _ (List.mem_append_left _ (List.mem_append_left _ (List.mem_of_getElem? (i := 3) rfl)))))))))))) (fun _ h9 => h9) (th_fR r29 rfl) dX11_swap_34 ?_
        refine lv_iload_n hx hb dX11_swap_37 rfl (lv_at hl 2 rfl) ?_
        have hA30 := th_Asub (τ := τ) hS
        refine va_calli (va_runV (As := [.int y11_2]) (rest := [.int x27]) ⟨hx, hb, hml, hown, hts⟩ (k_X1_buoyOf l D cA Z τ gi_11 gr _ q29 t29 y11_2) (cwV 1 hts gX11_swap_X1_buoyOf rfl rfl rfl hd_X1_buoyOf__1 ⟨Nat.le_of_ble_eq_true rfl, Nat.le_of_ble_eq_true rfl⟩) ⟨th_blind, tr_2 hK hH t29, (th_pre hH hK hN hZ hS hA30)⟩ rfl rfl hl.1 rfl (lv_room (Nat.le_of_ble_eq_true rfl)) dX11_swap_38 ⟨Nat.le_of_ble_eq_true rfl, Nat.le_of_ble_eq_true rfl⟩) hS (fun q _ h => hA30 q h) hA30 (fun x31 u t H locs ht hvm hw31 hB hz1 hk1 hS => ?_)
        try dsimp only at hw31 hB
        rw [ht] at hB
        have hH := hB
        refine lv_icmp_eq (tgt := 47) hx hb dX11_swap_41 (th_eqI rfl) (fun c32 => ?_) (fun c32 => ?_)
        · skip
          exact J47 gi_11 _ _ _ y11_1 hH hS hM (lv_sub hl [0, 1, 2] rfl) f24 (hF.trans (by simp only [↓reduceIte, f_X11_swap_11, r20, Option.getD_some, ← e21, eq_false c22, r25, hw27, r29, hw31, eq_true c32]))
        · skip
          obtain ⟨x33, e33⟩ : ∃ y : Int32, y = y11_1 + 1 := ⟨_, rfl⟩
          refine lv_iinc (v := x33) (lv' := [(1, .int x33), (0, .ref h0), (2, .int y11_2)]) hx hb dX11_swap_44 hl (k := 1) rfl (by rw [e33]; rfl) (th_ltN rfl) rfl (fun ls hl => ?_)
          exact J47 gi_11 _ _ _ x33 hH hS hM (lv_sub hl [1, 0, 2] rfl) f24 (hF.trans (by simp only [↓reduceIte, f_X11_swap_11, r20, Option.getD_some, ← e21, eq_false c22, r25, hw27, r29, hw31, eq_false c32, ← e33]))
  have hS : va_S (th_A τ s.heap.size) s.heap s.heap [] := va_S.rf
  have hl := lv_entry ([.ref h0]) (n := 3) (Nat.le_of_ble_eq_true rfl)
  rw [lg_entry_eq]
  generalize (lg_sl ([.ref h0]) ++ List.replicate (3 - (lg_sl ([.ref h0])).length) Slot.unset).toArray = ls at hl ⊢
  have hl : lv_has ls 3 [(0, .ref h0)] := hl
  have hF : F_X11_swap τ Z gi gr h0 = F_X11_swap τ Z gi gr h0 := rfl
  refine lv_aload_n hx hb dX11_swap_0 rfl (lv_at hl 0 rfl) ?_
  obtain ⟨q34, r34, t34⟩ : ∃ q, gr h0 3 = some q ∧ τ q = 6 := (thI_11 hH t_h0).2.2.2.1
  refine th_get (ci := 10) (v := .ref q34) (T := TX11) (C := RX11) (N := 10) hx hb hts (fun w h => List.mem_cons_of_mem _ (List.mem_append_left _ (List.mem_append_left _ (List.mem_append_left _ (List.mem_append_left _ (List.mem_append_left _ (List.mem_append_left _ (List.mem_append_left _ (List.mem_append_right _ h))))))))) hown hK hH t_h0 (th_nz rfl) (thE_11 _ _ _) rfl 3 (th_ltN rfl) (hts (.fieldLink RX11 35 "BayMoorings" "rings" "LBayMoorings$Rings;") (List.mem_cons_of_mem _ (List.mem_append_left _ (List.mem_append_left _ (List.mem_append_left _ (List.mem_append_left _ (List.mem_append_left _ (List.mem_append_left _ (List.mem_append_left _ (List.mem_append_left _ (List.mem_append_left _ (List.mem_of_getElem? (i := 0) rfl)))))))))))) (fun _ h9 => h9) (th_fR r34 rfl) dX11_swap_1 ?_
  have hA35 := th_Asub (τ := τ) hS
  refine va_callv (va_runV (As := []) (rest := []) ⟨hx, hb, hml, hown, hts⟩ (k_X6_draw l D cA Z τ gi gr _ q34 t34) (cwV 0 hts gX11_swap_X6_draw rfl rfl rfl hd_X6_draw__0 ⟨Nat.le_of_ble_eq_true rfl, Nat.le_of_ble_eq_true rfl⟩) ⟨th_blind, tr_6 hK hH t34, (th_pre hH hK hN hZ hS hA35)⟩ rfl rfl hl.1 rfl (lv_room (Nat.le_of_ble_eq_true rfl)) dX11_swap_4 ⟨Nat.le_of_ble_eq_true rfl, Nat.le_of_ble_eq_true rfl⟩) hS (fun q _ h => hA35 q h) hA35 (fun  u t H locs ht hvm hw36 hB hz1 hk1 hS => ?_)
  try dsimp only at hw36 hB
  rw [ht] at hB
  have hH := hB
  obtain ⟨gi36, gr36⟩ := u
  try dsimp only at hw36 hH
  obtain rfl : gr = gr36 := (hw36.2.1).symm
  have hM := hM.tr hw36.1 (fun _ h => h) (th_sub rfl)
  refine lv_iconst (v := 0) hx hb dX11_swap_7 ic_0 ?_
  refine lv_istore_n (i := 1) (lv' := [(1, .int 0), (0, .ref h0)]) hx hb dX11_swap_8 rfl hl (th_ltN rfl) rfl (fun ls hl => ?_)
  refine lv_iconst (v := 0) hx hb dX11_swap_9 ic_0 ?_
  refine lv_istore_n (i := 2) (lv' := [(2, .int 0), (1, .int 0), (0, .ref h0)]) hx hb dX11_swap_10 rfl hl (th_ltN rfl) rfl (fun ls hl => ?_)
  exact J11 _ gi36 _ _ _ 0 0 (Nat.lt_add_one _) hH hS hM (lv_sub hl [2, 1, 0] rfl) (rg_w rgc_0 (th_leI rfl) (th_leI rfl)) (hF.trans (by simp only [F_X11_swap, r34, Option.getD_some, hw36.2.2]))
