noncomputable def f_X11_years_18 (τ : th_t) (Z : th_Zt) (gi : th_i) (gr : th_r) (h0 : Nat) (p1 : Int32) : Nat → th_i → Int32 → Int32 × th_i
  | 0, gi_18, y18_2 => (0, gi_18)
  | n18 + 1, gi_18, y18_2 =>
    if p1 ≤ y18_2 then (
      let q3 : Nat := (gr h0 0).getD 0
      let x5 : Int32 := F_X0_partedChains τ Z gi_18 gr q3
      (x5, gi_18)) else (
      let q7 : Nat := (gr h0 0).getD 0
      let gi9 : th_i := F_X0_passYear τ Z gi_18 gr q7
      let x10 : Int32 := y18_2 + 1
      (f_X11_years_18 τ Z gi gr h0 p1 n18) gi9 x10)
noncomputable def F_X11_years (τ : th_t) (Z : th_Zt) (gi : th_i) (gr : th_r) (h0 : Nat) (p1 : Int32) : Int32 × th_i :=
  let x12 : Int32 := F_X11_within τ Z gi gr p1 1 30
  if x12 = (0 : Int32) then (
    let u20 : Int32 × th_i := F_X11_finding τ Z gi gr h0 1
    let x20 : Int32 := u20.1
    let gi20 : th_i := u20.2
    (x20, gi20)) else (
    f_X11_years_18 τ Z gi gr h0 p1 ((30 - (0 : Int32).toInt).toNat + 1) gi 0)
set_option maxHeartbeats 8000000 in
set_option maxRecDepth 100000 in
theorem k_X11_years (l : Launch) (D : va_G) (cA : Nat → ClassId) (Z : th_Zt) (τ : th_t) (gi : th_i) (gr : th_r) (sz : Nat) (h0 : Nat) (t_h0 : τ h0 = 11) (p1 : Int32) : Met l yX11_years wsX11_years ({ frames := 3, cells := 0, slots := 0, locals := 84 }) (va_Pc [.ref h0, .int p1] (th_Pre D cA Z τ gi gr sz)) (va_Qi (fun (r : Int32) (u : th_i × th_r) => th_Mod [306, 307, 3600] τ gi gr u.1 u.2 ∧ u.2 = gr ∧ (F_X11_years τ Z gi gr h0 p1 = (r, u.1))) (fun (u : th_i × th_r) t => th_H D cA τ u.1 u.2 t.heap) (th_A τ sz)) 0 0 (th_A τ sz) := by
  refine Met.ofW (cc := cX11_years) (maxL := 3) (ret := (some .int)) (by decide) rfl ?_
  intro p e s m args below meth c s₁ B hml hv
  obtain ⟨rfl, hsz, hH, hK, hN, hZ⟩ := hv
  have hx := B.exec
  have hb := B.bytes
  have hr := B.returns
  have hts := atoms_spec (ws := wsX11_years) B.pre
  have hown : s.vm.findClass RX11 = some m.cls := findClass_of_methodNamed B.named
  have hlocks := B.notSynchronized
  subst hsz
  have hM : th_Mod [306, 307, 3600] τ gi gr gi gr := th_Mod.rf
  have J18 : ∀ (n18 : Nat) (gi_18 : th_i) (H : Heap) (locs : List Loc) (ls : Array Slot) (y18_2 : Int32), (30 - y18_2.toInt).toNat < n18 → th_H D cA τ gi_18 gr H → va_S (th_A τ s.heap.size) s.heap H locs → th_Mod [306, 307, 3600] τ gi gr gi_18 gr → lv_has ls 3 [(0, .ref h0), (1, .int p1), (2, .int y18_2)] → rg 1 30 p1 → rg 0 30 y18_2 → F_X11_years τ Z gi gr h0 p1 = f_X11_years_18 τ Z gi gr h0 p1 n18 gi_18 y18_2 → W p l e (headSpec wsX11_years ({ frames := 3, cells := 0, slots := 0, locals := 84 })).room s m [.ref h0, .int p1].toArray below meth c H locs 0 0 (MQ below (va_Qi (fun (r : Int32) (u : th_i × th_r) => th_Mod [306, 307, 3600] τ gi gr u.1 u.2 ∧ u.2 = gr ∧ (F_X11_years τ Z gi gr h0 p1 = (r, u.1))) (fun (u : th_i × th_r) t => th_H D cA τ u.1 u.2 t.heap) (th_A τ s.heap.size)) [.ref h0, .int p1].toArray s 0 0 (th_A τ s.heap.size)) (F0 m 18 ls []) := by
    intro n18
    induction n18 with
    | zero =>
      intro gi_18 H locs ls y18_2 hn
      exact absurd hn (Nat.not_lt_zero _)
    | succ n18 ih18 =>
      intro gi_18 H locs ls y18_2 hn18 hH hS hM hl fy18_1 fy18_2 hF
      refine lv_iload_n hx hb dX11_years_18 rfl (lv_at hl 2 rfl) ?_
      refine lv_iload_n hx hb dX11_years_19 rfl (lv_at hl 1 rfl) ?_
      refine lv_icmp_ge (tgt := 36) hx hb dX11_years_20 (th_eqI rfl) (fun c1 => ?_) (fun c1 => ?_)
      · skip
        have f2 : rg 1 30 y18_2 := rg_w (rg_le fy18_1 fy18_2 c1).2 (th_leI rfl) (th_leI rfl)
        refine lv_aload_n hx hb dX11_years_36 rfl (lv_at hl 0 rfl) ?_
        obtain ⟨q3, r3, t3⟩ : ∃ q, gr h0 0 = some q ∧ τ q = 1 := (thI_11 hH t_h0).1
        refine th_get (ci := 10) (v := .ref q3) (T := TX11) (C := RX11) (N := 10) hx hb hts (fun w h => List.mem_cons_of_mem _ (List.mem_append_left _ (List.mem_append_left _ (List.mem_append_left _ (List.mem_append_left _ (List.mem_append_left _ (List.mem_append_left _ (List.mem_append_right _ h)))))))) hown hK hH t_h0 (th_nz rfl) (thE_11 _ _ _) rfl 0 (th_ltN rfl) (hts (.fieldLink RX11 10 "BayMoorings" "bay" "LBayMoorings$Bay;") (List.mem_cons_of_mem _ (List.mem_append_left _ (List.mem_append_left _ (List.mem_append_left _ (List.mem_append_left _ (List.mem_append_left _ (List.mem_append_left _ (List.mem_append_left _ (List.mem_append_left _ (List.mem_of_getElem? (i := 0) rfl))))))))))) (fun _ h9 => h9) (th_fR r3 rfl) dX11_years_37 ?_
        have hA4 := th_Asub (τ := τ) hS
        refine va_calli (va_runV (As := []) (rest := []) ⟨hx, hb, hml, hown, hts⟩ (k_X0_partedChains l D cA Z τ gi_18 gr _ q3 t3) (cwV 0 hts gX11_years_X0_partedChains rfl rfl rfl hd_X0_partedChains__0 ⟨Nat.le_of_ble_eq_true rfl, Nat.le_of_ble_eq_true rfl⟩) ⟨th_blind, tr_1 hK hH t3, (th_pre hH hK hN hZ hS hA4)⟩ rfl rfl hl.1 rfl (lv_room (Nat.le_of_ble_eq_true rfl)) dX11_years_40 ⟨Nat.le_of_ble_eq_true rfl, Nat.le_of_ble_eq_true rfl⟩) hS (fun q _ h => hA4 q h) hA4 (fun x5 u t H locs ht hvm hw5 hB hz1 hk1 hS => ?_)
        try dsimp only at hw5 hB
        rw [ht] at hB
        have hH := hB
        exact W.iret (v := x5) hx hb hr (fun t ht hW => ⟨⟨x5, (gi_18, gr), rfl, ⟨hM, rfl, (hF.trans (by simp only [↓reduceIte, f_X11_years_18, eq_true c1, r3, Option.getD_some, hw5]))⟩, th_Ht ht hH⟩, hS.F ht⟩) hS.2.2 dX11_years_43
      · skip
        have f6 : rg 0 29 y18_2 := rg_w (rg_nle fy18_1 fy18_2 c1).2 (th_leI rfl) (th_leI rfl)
        refine lv_aload_n hx hb dX11_years_23 rfl (lv_at hl 0 rfl) ?_
        obtain ⟨q7, r7, t7⟩ : ∃ q, gr h0 0 = some q ∧ τ q = 1 := (thI_11 hH t_h0).1
        refine th_get (ci := 10) (v := .ref q7) (T := TX11) (C := RX11) (N := 10) hx hb hts (fun w h => List.mem_cons_of_mem _ (List.mem_append_left _ (List.mem_append_left _ (List.mem_append_left _ (List.mem_append_left _ (List.mem_append_left _ (List.mem_append_left _ (List.mem_append_right _ h)))))))) hown hK hH t_h0 (th_nz rfl) (thE_11 _ _ _) rfl 0 (th_ltN rfl) (hts (.fieldLink RX11 10 "BayMoorings" "bay" "LBayMoorings$Bay;") (List.mem_cons_of_mem _ (List.mem_append_left _ (List.mem_append_left _ (List.mem_append_left _ (List.mem_append_left _ (List.mem_append_left _ (List.mem_append_left _ (List.mem_append_left _ (List.mem_append_left _ (List.mem_of_getElem? (i := 0) rfl))))))))))) (fun _ h9 => h9) (th_fR r7 rfl) dX11_years_24 ?_
        have hA8 := th_Asub (τ := τ) hS
        refine va_callv (va_runV (As := []) (rest := []) ⟨hx, hb, hml, hown, hts⟩ (k_X0_passYear l D cA Z τ gi_18 gr _ q7 t7) (cwV 0 hts gX11_years_X0_passYear rfl rfl rfl hd_X0_passYear__0 ⟨Nat.le_of_ble_eq_true rfl, Nat.le_of_ble_eq_true rfl⟩) ⟨th_blind, tr_1 hK hH t7, (th_pre hH hK hN hZ hS hA8)⟩ rfl rfl hl.1 rfl (lv_room (Nat.le_of_ble_eq_true rfl)) dX11_years_27 ⟨Nat.le_of_ble_eq_true rfl, Nat.le_of_ble_eq_true rfl⟩) hS (fun q _ h => hA8 q h) hA8 (fun  u t H locs ht hvm hw9 hB hz1 hk1 hS => ?_)
        try dsimp only at hw9 hB
        rw [ht] at hB
        have hH := hB
        obtain ⟨gi9, gr9⟩ := u
        try dsimp only at hw9 hH
        obtain rfl : gr = gr9 := (hw9.2.1).symm
        have hM := hM.tr hw9.1 (fun _ h => h) (th_sub rfl)
        obtain ⟨x10, e10⟩ : ∃ y : Int32, y = y18_2 + 1 := ⟨_, rfl⟩
        have f10 : rg 1 30 x10 := rg_e e10 (rg_w (rg_add f6 rgc_1 (th_leI rfl) (th_leI rfl)) (th_leI rfl) (th_leI rfl))
        refine lv_iinc (v := x10) (lv' := [(2, .int x10), (0, .ref h0), (1, .int p1)]) hx hb dX11_years_30 hl (k := 2) rfl (by rw [e10]; rfl) (th_ltN rfl) rfl (fun ls hl => ?_)
        refine lv_goto (tgt := 18) hx hb dX11_years_33 (th_eqI rfl) ?_
        exact ih18 gi9 _ _ _ x10 (th_up (rg_dA e10 f6 rgc_1 (th_leI rfl) (th_leI rfl)) f6 hn18 (th_ltI rfl)) hH hS hM (lv_sub hl [1, 2, 0] rfl) fy18_1 (rg_w f10 (th_leI rfl) (th_leI rfl)) (hF.trans (by simp only [↓reduceIte, f_X11_years_18, eq_false c1, r7, Option.getD_some, hw9.2.2, ← e10]))
  have hS : va_S (th_A τ s.heap.size) s.heap s.heap [] := va_S.rf
  have hl := lv_entry ([.ref h0, .int p1]) (n := 3) (Nat.le_of_ble_eq_true rfl)
  rw [lg_entry_eq]
  generalize (lg_sl ([.ref h0, .int p1]) ++ List.replicate (3 - (lg_sl ([.ref h0, .int p1])).length) Slot.unset).toArray = ls at hl ⊢
  have hl : lv_has ls 3 [(0, .ref h0), (1, .int p1)] := hl
  have hF : F_X11_years τ Z gi gr h0 p1 = F_X11_years τ Z gi gr h0 p1 := rfl
  refine lv_iload_n hx hb dX11_years_0 rfl (lv_at hl 1 rfl) ?_
  refine lv_iconst (v := 1) hx hb dX11_years_1 ic_1 ?_
  refine lv_bipush (v := 30) hx hb dX11_years_2 bp_30 ?_
  have hA11 := th_Asub (τ := τ) hS
  refine va_calli (va_runS (As := [.int p1, .int 1, .int 30]) (rest := []) ⟨hx, hb, hml, hown, hts⟩ (k_X11_within l D cA Z τ gi gr _ p1 1 30) (va_cwS 3 hts gX11_years_X11_within rfl rfl rfl (by decide +kernel) ⟨Nat.le_of_ble_eq_true rfl, Nat.le_of_ble_eq_true rfl⟩) ⟨th_blind, (th_pre hH hK hN hZ hS hA11)⟩ rfl rfl hl.1 rfl (lv_room (Nat.le_of_ble_eq_true rfl)) dX11_years_4 ⟨Nat.le_of_ble_eq_true rfl, Nat.le_of_ble_eq_true rfl⟩) hS (fun q _ h => hA11 q h) hA11 (fun x12 u t H locs ht hvm hw12 hB hz1 hk1 hS => ?_)
  try dsimp only at hw12 hB
  rw [ht] at hB
  have hH := hB
  refine lv_if_ne (tgt := 16) hx hb dX11_years_7 (th_eqI rfl) (fun c13 => ?_) (fun c13 => ?_)
  · skip
    have f14 : rg 1 1 x12 := rg_w (rg_neL hw12.1 rgc_0 c13) (th_leI rfl) (th_leI rfl)
    have g15 := hw12.2.1 c13
    have f16 : rg 1 2147483647 p1 := rg_w (rg_le rgc_1 (rg_any p1) g15.1).2 (th_leI rfl) (th_leI rfl)
    have f17 : rg 1 30 p1 := rg_w (rg_le f16 rgc_30 g15.2).1 (th_leI rfl) (th_leI rfl)
    refine lv_iconst (v := 0) hx hb dX11_years_16 ic_0 ?_
    refine lv_istore_n (i := 2) (lv' := [(2, .int 0), (0, .ref h0), (1, .int p1)]) hx hb dX11_years_17 rfl hl (th_ltN rfl) rfl (fun ls hl => ?_)
    exact J18 _ gi _ _ _ 0 (Nat.lt_add_one _) hH hS hM (lv_sub hl [1, 2, 0] rfl) f17 (rg_w rgc_0 (th_leI rfl) (th_leI rfl)) (hF.trans (by simp only [↓reduceIte, F_X11_years, hw12.2.2.1, eq_false c13]))
  · skip
    have f18 : rg 0 0 x12 := rg_w (rg_eq hw12.1 rgc_0 c13).1 (th_leI rfl) (th_leI rfl)
    refine lv_aload_n hx hb dX11_years_10 rfl (lv_at hl 0 rfl) ?_
    refine lv_iconst (v := 1) hx hb dX11_years_11 ic_1 ?_
    have hA19 := th_Asub (τ := τ) hS
    refine va_calli (va_runV (As := [.int 1]) (rest := []) ⟨hx, hb, hml, hown, hts⟩ (k_X11_finding l D cA Z τ gi gr _ h0 t_h0 1) (cwV 1 hts gX11_years_X11_finding rfl rfl rfl hd_X11_finding__1 ⟨Nat.le_of_ble_eq_true rfl, Nat.le_of_ble_eq_true rfl⟩) ⟨th_blind, tr_11 hK hH t_h0, (th_pre hH hK hN hZ hS hA19)⟩ rfl rfl hl.1 rfl (lv_room (Nat.le_of_ble_eq_true rfl)) dX11_years_12 ⟨Nat.le_of_ble_eq_true rfl, Nat.le_of_ble_eq_true rfl⟩) hS (fun q _ h => hA19 q h) hA19 (fun x20 u t H locs ht hvm hw20 hB hz1 hk1 hS => ?_)
    try dsimp only at hw20 hB
    rw [ht] at hB
    have hH := hB
    obtain ⟨gi20, gr20⟩ := u
    try dsimp only at hw20 hH
    obtain rfl : gr = gr20 := (hw20.2.1).symm
    have hM := hM.tr hw20.1 (fun _ h => h) (th_sub rfl)
    exact W.iret (v := x20) hx hb hr (fun t ht hW => ⟨⟨x20, (gi20, gr), rfl, ⟨hM, rfl, (hF.trans (by simp only [↓reduceIte, F_X11_years, hw12.2.2.1, eq_true c13, hw20.2.2.1]))⟩, th_Ht ht hH⟩, hS.F ht⟩) hS.2.2 dX11_years_15

noncomputable def f_X11_look_32 (τ : th_t) (Z : th_Zt) (gi : th_i) (gr : th_r) (h0 : Nat) (p1 : Int32) (p2 : Int32) (p3 : Int32) (gi_32 : th_i) : Int32 × th_i :=
  let u21 : Int32 × th_i := F_X11_finding τ Z gi_32 gr h0 1
  let x21 : Int32 := u21.1
  let gi21 : th_i := u21.2
  (x21, gi21)
noncomputable def f_X11_look_125 (τ : th_t) (Z : th_Zt) (gi : th_i) (gr : th_r) (h0 : Nat) (p1 : Int32) (p2 : Int32) (p3 : Int32) (gi_125 : th_i) (y125_4 : Nat) : Int32 × th_i :=
  let x2 : Int32 := F_X3_doubt τ Z gi_125 gr y125_4
  (x2, gi_125)
noncomputable def f_X11_look_74 (τ : th_t) (Z : th_Zt) (gi : th_i) (gr : th_r) (h0 : Nat) (p1 : Int32) (p2 : Int32) (p3 : Int32) (gi_74 : th_i) (y74_4 : Nat) (z74_0 : Int32) : Int32 × th_i :=
  if z74_0 = (0 : Int32) then (
    let u19 : Int32 × th_i := F_X11_finding τ Z gi_74 gr h0 2
    let x19 : Int32 := u19.1
    let gi19 : th_i := u19.2
    (x19, gi19)) else (
    if p3 = (1 : Int32) then (
      let x13 : Int32 := gi_74 y74_4 6
      let x14 : Int32 := th_mx x13 p2
      let gi15 : th_i := va_up gi_74 y74_4 (upd (gi_74 y74_4) 6 x14)
      f_X11_look_125 τ Z gi gr h0 p1 p2 p3 gi15 y74_4) else (
      let x7 : Int32 := gi_74 y74_4 7
      let x8 : Int32 := p2 - 1
      let x9 : Int32 := th_mn x7 x8
      let gi10 : th_i := va_up gi_74 y74_4 (upd (gi_74 y74_4) 7 x9)
      f_X11_look_125 τ Z gi gr h0 p1 p2 p3 gi10 y74_4))
noncomputable def F_X11_look (τ : th_t) (Z : th_Zt) (gi : th_i) (gr : th_r) (h0 : Nat) (p1 : Int32) (p2 : Int32) (p3 : Int32) : Int32 × th_i :=
  let q22 : Nat := (gr h0 0).getD 0
  let r24 : Option Nat := F_X0_buoyAt τ Z gi gr q22 p1
  Option.elim r24 (
    f_X11_look_32 τ Z gi gr h0 p1 p2 p3 gi) (fun q25 =>
    let x27 : Int32 := F_X11_within τ Z gi gr p2 0 100
    if x27 = (0 : Int32) then (
      f_X11_look_32 τ Z gi gr h0 p1 p2 p3 gi) else (
      let x35 : Int32 := F_X11_isFlag τ Z gi gr p3
      if x35 = (0 : Int32) then (
        f_X11_look_32 τ Z gi gr h0 p1 p2 p3 gi) else (
        if p3 = (1 : Int32) then (
          let x46 : Int32 := gi q25 7
          if x46 < p2 then (
            f_X11_look_74 τ Z gi gr h0 p1 p2 p3 gi q25 0) else (
            f_X11_look_74 τ Z gi gr h0 p1 p2 p3 gi q25 1)) else (
          let x41 : Int32 := gi q25 6
          if p2 ≤ x41 then (
            f_X11_look_74 τ Z gi gr h0 p1 p2 p3 gi q25 0) else (
            f_X11_look_74 τ Z gi gr h0 p1 p2 p3 gi q25 1)))))
set_option maxHeartbeats 8000000 in
set_option maxRecDepth 100000 in
theorem k_X11_look (l : Launch) (D : va_G) (cA : Nat → ClassId) (Z : th_Zt) (τ : th_t) (gi : th_i) (gr : th_r) (sz : Nat) (h0 : Nat) (t_h0 : τ h0 = 11) (p1 : Int32) (p2 : Int32) (p3 : Int32) : Met l yX11_look wsX11_look ({ frames := 2, cells := 0, slots := 0, locals := 43 }) (va_Pc [.ref h0, .int p1, .int p2, .int p3] (th_Pre D cA Z τ gi gr sz)) (va_Qi (fun (r : Int32) (u : th_i × th_r) => th_Mod [306, 307, 3600] τ gi gr u.1 u.2 ∧ u.2 = gr ∧ (F_X11_look τ Z gi gr h0 p1 p2 p3 = (r, u.1))) (fun (u : th_i × th_r) t => th_H D cA τ u.1 u.2 t.heap) (th_A τ sz)) 0 0 (th_A τ sz) := by
  refine Met.ofW (cc := cX11_look) (maxL := 6) (ret := (some .int)) (by decide) rfl ?_
  intro p e s m args below meth c s₁ B hml hv
  obtain ⟨rfl, hsz, hH, hK, hN, hZ⟩ := hv
  have hx := B.exec
  have hb := B.bytes
  have hr := B.returns
  have hts := atoms_spec (ws := wsX11_look) B.pre
  have hown : s.vm.findClass RX11 = some m.cls := findClass_of_methodNamed B.named
  have hlocks := B.notSynchronized
  subst hsz
  have hM : th_Mod [306, 307, 3600] τ gi gr gi gr := th_Mod.rf
  have J125 : ∀ (gi_125 : th_i) (H : Heap) (locs : List Loc) (ls : Array Slot) (y125_4 : Nat), th_H D cA τ gi_125 gr H → va_S (th_A τ s.heap.size) s.heap H locs → th_Mod [306, 307, 3600] τ gi gr gi_125 gr → lv_has ls 6 [(4, .ref y125_4)] → (τ y125_4 = 3) → F_X11_look τ Z gi gr h0 p1 p2 p3 = f_X11_look_125 τ Z gi gr h0 p1 p2 p3 gi_125 y125_4 → W p l e (headSpec wsX11_look ({ frames := 2, cells := 0, slots := 0, locals := 43 })).room s m [.ref h0, .int p1, .int p2, .int p3].toArray below meth c H locs 0 0 (MQ below (va_Qi (fun (r : Int32) (u : th_i × th_r) => th_Mod [306, 307, 3600] τ gi gr u.1 u.2 ∧ u.2 = gr ∧ (F_X11_look τ Z gi gr h0 p1 p2 p3 = (r, u.1))) (fun (u : th_i × th_r) t => th_H D cA τ u.1 u.2 t.heap) (th_A τ s.heap.size)) [.ref h0, .int p1, .int p2, .int p3].toArray s 0 0 (th_A τ s.heap.size)) (F0 m 125 ls []) := by
    intro gi_125 H locs ls y125_4 hH hS hM hl ty125_4 hF
    refine lv_aload hx hb dX11_look_125 (lv_at hl 0 rfl) ?_
    have hA1 := th_Asub (τ := τ) hS
    refine va_calli (va_runV (As := []) (rest := []) ⟨hx, hb, hml, hown, hts⟩ (k_X3_doubt l D cA Z τ gi_125 gr _ y125_4 ty125_4) (cwV 0 hts gX11_look_X3_doubt rfl rfl rfl hd_X3_doubt__0 ⟨Nat.le_of_ble_eq_true rfl, Nat.le_of_ble_eq_true rfl⟩) ⟨th_blind, tr_3 hK hH ty125_4, (th_pre hH hK hN hZ hS hA1)⟩ rfl rfl hl.1 rfl (lv_room (Nat.le_of_ble_eq_true rfl)) dX11_look_127 ⟨Nat.le_of_ble_eq_true rfl, Nat.le_of_ble_eq_true rfl⟩) hS (fun q _ h => hA1 q h) hA1 (fun x2 u t H locs ht hvm hw2 hB hz1 hk1 hS => ?_)
    try dsimp only at hw2 hB
    rw [ht] at hB
    have hH := hB
    exact W.iret (v := x2) hx hb hr (fun t ht hW => ⟨⟨x2, (gi_125, gr), rfl, ⟨hM, rfl, (hF.trans (by simp only [f_X11_look_125, hw2]))⟩, th_Ht ht hH⟩, hS.F ht⟩) hS.2.2 dX11_look_130
  have J74 : ∀ (gi_74 : th_i) (H : Heap) (locs : List Loc) (ls : Array Slot) (y74_4 : Nat) (z74_0 : Int32), th_H D cA τ gi_74 gr H → va_S (th_A τ s.heap.size) s.heap H locs → th_Mod [306, 307, 3600] τ gi gr gi_74 gr → lv_has ls 6 [(0, .ref h0), (2, .int p2), (3, .int p3), (4, .ref y74_4)] → rg 0 100 p2 → rg 0 1 p3 → (τ y74_4 = 3) → rg 0 1 z74_0 → F_X11_look τ Z gi gr h0 p1 p2 p3 = f_X11_look_74 τ Z gi gr h0 p1 p2 p3 gi_74 y74_4 z74_0 → W p l e (headSpec wsX11_look ({ frames := 2, cells := 0, slots := 0, locals := 43 })).room s m [.ref h0, .int p1, .int p2, .int p3].toArray below meth c H locs 0 0 (MQ below (va_Qi (fun (r : Int32) (u : th_i × th_r) => th_Mod [306, 307, 3600] τ gi gr u.1 u.2 ∧ u.2 = gr ∧ (F_X11_look τ Z gi gr h0 p1 p2 p3 = (r, u.1))) (fun (u : th_i × th_r) t => th_H D cA τ u.1 u.2 t.heap) (th_A τ s.heap.size)) [.ref h0, .int p1, .int p2, .int p3].toArray s 0 0 (th_A τ s.heap.size)) (F0 m 74 ls [.int z74_0]) := by
    intro gi_74 H locs ls y74_4 z74_0 hH hS hM hl fy74_2 fy74_3 ty74_4 fz74_0 hF
    refine lv_istore (i := 5) (lv' := [(5, .int z74_0), (0, .ref h0), (2, .int p2), (3, .int p3), (4, .ref y74_4)]) hx hb dX11_look_74 hl (th_ltN rfl) rfl (fun ls hl => ?_)
    refine lv_iload hx hb dX11_look_76 (lv_at hl 0 rfl) ?_
    refine lv_if_ne (tgt := 87) hx hb dX11_look_78 (th_eqI rfl) (fun c3 => ?_) (fun c3 => ?_)
    · skip
      have f4 : rg 1 1 z74_0 := rg_w (rg_neL fz74_0 rgc_0 c3) (th_leI rfl) (th_leI rfl)
      refine lv_iload_n hx hb dX11_look_87 rfl (lv_at hl 3 rfl) ?_
      refine lv_iconst (v := 1) hx hb dX11_look_88 ic_1 ?_
      refine lv_icmp_ne (tgt := 109) hx hb dX11_look_89 (th_eqI rfl) (fun c5 => ?_) (fun c5 => ?_)
      · skip
        have f6 : rg 0 0 p3 := rg_w (rg_neR fy74_3 rgc_1 c5) (th_leI rfl) (th_leI rfl)
        refine lv_aload hx hb dX11_look_109 (lv_at hl 4 rfl) ?_
        refine lv_aload hx hb dX11_look_111 (lv_at hl 4 rfl) ?_
        obtain ⟨x7, e7⟩ : ∃ y : Int32, y = gi_74 y74_4 7 := ⟨_, rfl⟩
        refine th_get (ci := 2) (v := .int x7) (T := TX3) (C := RX3) (N := 8) hx hb hts (fun w h => List.mem_cons_of_mem _ (List.mem_append_left _ (List.mem_append_right _ h))) hown hK hH ty74_4 (th_nz rfl) (thE_3 _ _ _) rfl 7 (th_ltN rfl) (hts (.fieldLink RX11 161 "BayMoorings$Buoy" "high" "I") (List.mem_cons_of_mem _ (List.mem_append_left _ (List.mem_append_left _ (List.mem_append_left _ (List.mem_append_left _ (List.mem_of_getElem? (i := 1) rfl))))))) (fun _ h9 => h9) (th_fI e7 rfl) dX11_look_113 ?_
        refine lv_iload_n hx hb dX11_look_116 rfl (lv_at hl 2 rfl) ?_
        refine lv_iconst (v := 1) hx hb dX11_look_117 ic_1 ?_
        refine lv_isub hx hb dX11_look_118 ?_
        refine lv_topi (fun x8 e8 => ?_)
        have f8 : rg (-1) 99 x8 := rg_e e8 (rg_w (rg_sub fy74_2 rgc_1 (th_leI rfl) (th_leI rfl)) (th_leI rfl) (th_leI rfl))
        refine va_mmin hx hb (by rw [hml]; exact hl.1.symm) hown (hts (.methodLink RX11 256 Lib.Math.min.name) (List.mem_cons_of_mem _ (List.mem_append_left _ (List.mem_append_left _ (List.mem_append_left _ (List.mem_append_left _ (List.mem_of_getElem? (i := 7) rfl))))))) (hts (.static Lib.Math.min.name) (List.mem_cons_of_mem _ (List.mem_append_left _ (List.mem_append_left _ (List.mem_append_left _ (List.mem_append_left _ (List.mem_of_getElem? (i := 8) rfl))))))) (hts (.initialized "java/lang/Math") (List.mem_cons_of_mem _ (List.mem_append_left _ (List.mem_append_left _ (List.mem_append_left _ (List.mem_append_left _ (List.mem_of_getElem? (i := 5) rfl))))))) (hts (.code Lib.Math.min.name Lib.Math.min.code 2 (some .int)) (List.mem_cons_of_mem _ (List.mem_append_left _ (List.mem_append_left _ (List.mem_append_left _ (List.mem_append_left _ (List.mem_of_getElem? (i := 9) rfl))))))) (Nat.le_of_ble_eq_true rfl) (Nat.le_of_ble_eq_true rfl) (Nat.zero_le _) (Nat.zero_le _) dX11_look_119 ?_
        refine lv_topi (fun x9 e9 => ?_)
        have em9 : x9 = th_mn x7 x8 := e9
        refine th_put (ci := 2) (v := .int x9) (T := TX3) (C := RX3) (N := 8) (ty := .int) (gi' := va_up gi_74 y74_4 (upd (gi_74 y74_4) 7 x9)) (gr' := gr) hx hb hts (fun w h => List.mem_cons_of_mem _ (List.mem_append_left _ (List.mem_append_right _ h))) tyX3 tyX3_ok nmX3 hown hK hH hS ty74_4 (th_nz rfl) (Or.inl (th_nzE ty74_4 rfl)) rfl rfl 7 (th_ltN rfl) (hts (.fieldLink RX11 161 "BayMoorings$Buoy" "high" "I") (List.mem_cons_of_mem _ (List.mem_append_left _ (List.mem_append_left _ (List.mem_append_left _ (List.mem_append_left _ (List.mem_of_getElem? (i := 1) rfl))))))) (fun _ h9 => h9) rfl (by decide +kernel) rfl rfl (Nat.le_of_ble_eq_true rfl) (by rw [va_up_self]; rfl) (by rw [va_up_self]; show (∃ q, gr y74_4 5 = some q ∧ τ q = 26); exact (show (∃ q, gr y74_4 5 = some q ∧ τ q = 26) from (thI_3 hH ty74_4))) (fun b hb => ⟨va_up_ne _ _ hb, rfl⟩) dX11_look_122 (fun H locs hH hS => ?_)
        obtain ⟨gi10, eg10⟩ : ∃ g, g = va_up gi_74 y74_4 (upd (gi_74 y74_4) 7 x9) := ⟨_, rfl⟩
        rw [← eg10] at hH
        have hu10 : gi10 y74_4 7 = x9 := (th_uI eg10).1
        have ho10 : ∀ b j, b ≠ y74_4 ∨ j ≠ 7 → gi10 b j = gi_74 b j := (th_uI eg10).2
        have hM := hM.i ty74_4 (th_mem (a := 307) rfl) ho10
        exact J125 gi10 _ _ _ y74_4 hH hS hM (lv_sub hl [4] rfl) ty74_4 (hF.trans (by simp only [↓reduceIte, f_X11_look_74, eq_false c3, eq_false c5, ← e7, ← e8, ← em9, ← eg10]))
      · skip
        have f12 : rg 1 1 p3 := rg_w (rg_eq fy74_3 rgc_1 c5).1 (th_leI rfl) (th_leI rfl)
        refine lv_aload hx hb dX11_look_92 (lv_at hl 4 rfl) ?_
        refine lv_aload hx hb dX11_look_94 (lv_at hl 4 rfl) ?_
        obtain ⟨x13, e13⟩ : ∃ y : Int32, y = gi_74 y74_4 6 := ⟨_, rfl⟩
        refine th_get (ci := 2) (v := .int x13) (T := TX3) (C := RX3) (N := 8) hx hb hts (fun w h => List.mem_cons_of_mem _ (List.mem_append_left _ (List.mem_append_right _ h))) hown hK hH ty74_4 (th_nz rfl) (thE_3 _ _ _) rfl 6 (th_ltN rfl) (hts (.fieldLink RX11 158 "BayMoorings$Buoy" "low" "I") (List.mem_cons_of_mem _ (List.mem_append_left _ (List.mem_append_left _ (List.mem_append_left _ (List.mem_append_left _ (List.mem_of_getElem? (i := 2) rfl))))))) (fun _ h9 => h9) (th_fI e13 rfl) dX11_look_96 ?_
        refine lv_iload_n hx hb dX11_look_99 rfl (lv_at hl 2 rfl) ?_
        refine va_mmax hx hb (by rw [hml]; exact hl.1.symm) hown (hts (.methodLink RX11 250 Lib.Math.max.name) (List.mem_cons_of_mem _ (List.mem_append_left _ (List.mem_append_left _ (List.mem_append_left _ (List.mem_append_left _ (List.mem_of_getElem? (i := 3) rfl))))))) (hts (.static Lib.Math.max.name) (List.mem_cons_of_mem _ (List.mem_append_left _ (List.mem_append_left _ (List.mem_append_left _ (List.mem_append_left _ (List.mem_of_getElem? (i := 4) rfl))))))) (hts (.initialized "java/lang/Math") (List.mem_cons_of_mem _ (List.mem_append_left _ (List.mem_append_left _ (List.mem_append_left _ (List.mem_append_left _ (List.mem_of_getElem? (i := 5) rfl))))))) (hts (.code Lib.Math.max.name Lib.Math.max.code 2 (some .int)) (List.mem_cons_of_mem _ (List.mem_append_left _ (List.mem_append_left _ (List.mem_append_left _ (List.mem_append_left _ (List.mem_of_getElem? (i := 6) rfl))))))) (Nat.le_of_ble_eq_true rfl) (Nat.le_of_ble_eq_true rfl) (Nat.zero_le _) (Nat.zero_le _) dX11_look_100 ?_
        refine lv_topi (fun x14 e14 => ?_)
        have em14 : x14 = th_mx x13 p2 := e14
        refine th_put (ci := 2) (v := .int x14) (T := TX3) (C := RX3) (N := 8) (ty := .int) (gi' := va_up gi_74 y74_4 (upd (gi_74 y74_4) 6 x14)) (gr' := gr) hx hb hts (fun w h => List.mem_cons_of_mem _ (List.mem_append_left _ (List.mem_append_right _ h))) tyX3 tyX3_ok nmX3 hown hK hH hS ty74_4 (th_nz rfl) (Or.inl (th_nzE ty74_4 rfl)) rfl rfl 6 (th_ltN rfl) (hts (.fieldLink RX11 158 "BayMoorings$Buoy" "low" "I") (List.mem_cons_of_mem _ (List.mem_append_left _ (List.mem_append_left _ (List.mem_append_left _ (List.mem_append_left _ (List.mem_of_getElem? (i := 2) rfl))))))) (fun _ h9 => h9) rfl (by decide +kernel) rfl rfl (Nat.le_of_ble_eq_true rfl) (by rw [va_up_self]; rfl) (by rw [va_up_self]; show (∃ q, gr y74_4 5 = some q ∧ τ q = 26); exact (show (∃ q, gr y74_4 5 = some q ∧ τ q = 26) from (thI_3 hH ty74_4))) (fun b hb => ⟨va_up_ne _ _ hb, rfl⟩) dX11_look_103 (fun H locs hH hS => ?_)
        obtain ⟨gi15, eg15⟩ : ∃ g, g = va_up gi_74 y74_4 (upd (gi_74 y74_4) 6 x14) := ⟨_, rfl⟩
        rw [← eg15] at hH
        have hu15 : gi15 y74_4 6 = x14 := (th_uI eg15).1
        have ho15 : ∀ b j, b ≠ y74_4 ∨ j ≠ 6 → gi15 b j = gi_74 b j := (th_uI eg15).2
        have hM := hM.i ty74_4 (th_mem (a := 306) rfl) ho15
        refine lv_goto (tgt := 125) hx hb dX11_look_106 (th_eqI rfl) ?_
        exact J125 gi15 _ _ _ y74_4 hH hS hM (lv_sub hl [4] rfl) ty74_4 (hF.trans (by simp only [↓reduceIte, f_X11_look_74, eq_false c3, eq_true c5, ← e13, ← em14, ← eg15]))
    · skip
      have f17 : rg 0 0 z74_0 := rg_w (rg_eq fz74_0 rgc_0 c3).1 (th_leI rfl) (th_leI rfl)
      refine lv_aload_n hx hb dX11_look_81 rfl (lv_at hl 1 rfl) ?_
      refine lv_iconst (v := 2) hx hb dX11_look_82 ic_2 ?_
      have hA18 := th_Asub (τ := τ) hS
      refine va_calli (va_runV (As := [.int 2]) (rest := []) ⟨hx, hb, hml, hown, hts⟩ (k_X11_finding l D cA Z τ gi_74 gr _ h0 t_h0 2) (cwV 1 hts gX11_look_X11_finding rfl rfl rfl hd_X11_finding__1 ⟨Nat.le_of_ble_eq_true rfl, Nat.le_of_ble_eq_true rfl⟩) ⟨th_blind, tr_11 hK hH t_h0, (th_pre hH hK hN hZ hS hA18)⟩ rfl rfl hl.1 rfl (lv_room (Nat.le_of_ble_eq_true rfl)) dX11_look_83 ⟨Nat.le_of_ble_eq_true rfl, Nat.le_of_ble_eq_true rfl⟩) hS (fun q _ h => hA18 q h) hA18 (fun x19 u t H locs ht hvm hw19 hB hz1 hk1 hS => ?_)
      try dsimp only at hw19 hB
      rw [ht] at hB
      have hH := hB
      obtain ⟨gi19, gr19⟩ := u
      try dsimp only at hw19 hH
      obtain rfl : gr = gr19 := (hw19.2.1).symm
      have hM := hM.tr hw19.1 (fun _ h => h) (th_sub rfl)
      exact W.iret (v := x19) hx hb hr (fun t ht hW => ⟨⟨x19, (gi19, gr), rfl, ⟨hM, rfl, (hF.trans (by simp only [↓reduceIte, f_X11_look_74, eq_true c3, hw19.2.2.1]))⟩, th_Ht ht hH⟩, hS.F ht⟩) hS.2.2 dX11_look_86
  have J32 : ∀ (gi_32 : th_i) (H : Heap) (locs : List Loc) (ls : Array Slot), th_H D cA τ gi_32 gr H → va_S (th_A τ s.heap.size) s.heap H locs → th_Mod [306, 307, 3600] τ gi gr gi_32 gr → lv_has ls 6 [(0, .ref h0)] → F_X11_look τ Z gi gr h0 p1 p2 p3 = f_X11_look_32 τ Z gi gr h0 p1 p2 p3 gi_32 → W p l e (headSpec wsX11_look ({ frames := 2, cells := 0, slots := 0, locals := 43 })).room s m [.ref h0, .int p1, .int p2, .int p3].toArray below meth c H locs 0 0 (MQ below (va_Qi (fun (r : Int32) (u : th_i × th_r) => th_Mod [306, 307, 3600] τ gi gr u.1 u.2 ∧ u.2 = gr ∧ (F_X11_look τ Z gi gr h0 p1 p2 p3 = (r, u.1))) (fun (u : th_i × th_r) t => th_H D cA τ u.1 u.2 t.heap) (th_A τ s.heap.size)) [.ref h0, .int p1, .int p2, .int p3].toArray s 0 0 (th_A τ s.heap.size)) (F0 m 32 ls []) := by
    intro gi_32 H locs ls hH hS hM hl hF
    refine lv_aload_n hx hb dX11_look_32 rfl (lv_at hl 0 rfl) ?_
    refine lv_iconst (v := 1) hx hb dX11_look_33 ic_1 ?_
    have hA20 := th_Asub (τ := τ) hS
    refine va_calli (va_runV (As := [.int 1]) (rest := []) ⟨hx, hb, hml, hown, hts⟩ (k_X11_finding l D cA Z τ gi_32 gr _ h0 t_h0 1) (cwV 1 hts gX11_look_X11_finding rfl rfl rfl hd_X11_finding__1 ⟨Nat.le_of_ble_eq_true rfl, Nat.le_of_ble_eq_true rfl⟩) ⟨th_blind, tr_11 hK hH t_h0, (th_pre hH hK hN hZ hS hA20)⟩ rfl rfl hl.1 rfl (lv_room (Nat.le_of_ble_eq_true rfl)) dX11_look_34 ⟨Nat.le_of_ble_eq_true rfl, Nat.le_of_ble_eq_true rfl⟩) hS (fun q _ h => hA20 q h) hA20 (fun x21 u t H locs ht hvm hw21 hB hz1 hk1 hS => ?_)
    try dsimp only at hw21 hB
    rw [ht] at hB
    have hH := hB
    obtain ⟨gi21, gr21⟩ := u
    try dsimp only at hw21 hH
    obtain rfl : gr = gr21 := (hw21.2.1).symm
    have hM := hM.tr hw21.1 (fun _ h => h) (th_sub rfl)
    exact W.iret (v := x21) hx hb hr (fun t ht hW => ⟨⟨x21, (gi21, gr), rfl, ⟨hM, rfl, (hF.trans (by simp only [f_X11_look_32, hw21.2.2.1]))⟩, th_Ht ht hH⟩, hS.F ht⟩) hS.2.2 dX11_look_37
  have hS : va_S (th_A τ s.heap.size) s.heap s.heap [] := va_S.rf
  have hl := lv_entry ([.ref h0, .int p1, .int p2, .int p3]) (n := 6) (Nat.le_of_ble_eq_true rfl)
  rw [lg_entry_eq]
  generalize (lg_sl ([.ref h0, .int p1, .int p2, .int p3]) ++ List.replicate (6 - (lg_sl ([.ref h0, .int p1, .int p2, .int p3])).length) Slot.unset).toArray = ls at hl ⊢
  have hl : lv_has ls 6 [(0, .ref h0), (1, .int p1), (2, .int p2), (3, .int p3)] := hl
  have hF : F_X11_look τ Z gi gr h0 p1 p2 p3 = F_X11_look τ Z gi gr h0 p1 p2 p3 := rfl
  refine lv_aload_n hx hb dX11_look_0 rfl (lv_at hl 0 rfl) ?_
  obtain ⟨q22, r22, t22⟩ : ∃ q, gr h0 0 = some q ∧ τ q = 1 := (thI_11 hH t_h0).1
  refine th_get (ci := 10) (v := .ref q22) (T := TX11) (C := RX11) (N := 10) hx hb hts (fun w h => List.mem_cons_of_mem _ (List.mem_append_left _ (List.mem_append_left _ (List.mem_append_right _ h)))) hown hK hH t_h0 (th_nz rfl) (thE_11 _ _ _) rfl 0 (th_ltN rfl) (hts (.fieldLink RX11 10 "BayMoorings" "bay" "LBayMoorings$Bay;") (List.mem_cons_of_mem _ (List.mem_append_left _ (List.mem_append_left _ (List.mem_append_left _ (List.mem_append_left _ (List.mem_of_getElem? (i := 0) rfl))))))) (fun _ h9 => h9) (th_fR r22 rfl) dX11_look_1 ?_
  refine lv_iload_n hx hb dX11_look_4 rfl (lv_at hl 1 rfl) ?_
  have hA23 := th_Asub (τ := τ) hS
  refine va_callq (va_runV (As := [.int p1]) (rest := []) ⟨hx, hb, hml, hown, hts⟩ (k_X0_buoyAt l D cA Z τ gi gr _ q22 t22 p1) (cwV 1 hts gX11_look_X0_buoyAt rfl rfl rfl hd_X0_buoyAt__1 ⟨Nat.le_of_ble_eq_true rfl, Nat.le_of_ble_eq_true rfl⟩) ⟨th_blind, tr_1 hK hH t22, (th_pre hH hK hN hZ hS hA23)⟩ rfl rfl hl.1 rfl (lv_room (Nat.le_of_ble_eq_true rfl)) dX11_look_5 ⟨Nat.le_of_ble_eq_true rfl, Nat.le_of_ble_eq_true rfl⟩) hS (fun q _ h => hA23 q h) hA23 (fun r24 u t H locs ht hvm hw24 hB hz1 hk1 hS => ?_)
  try dsimp only at hw24 hB
  rw [ht] at hB
  have hH := hB
  refine th_astoreq (i := 4) (lv' := [(4, va_rf r24), (0, .ref h0), (1, .int p1), (2, .int p2), (3, .int p3)]) hx hb dX11_look_8 hl (th_ltN rfl) rfl (fun ls hl => ?_)
  refine th_aloadq hx hb dX11_look_10 (lv_at hl 0 rfl) ?_
  refine th_ifnull (tgt := 32) hx hb dX11_look_12 (th_eqI rfl) (fun z25 => ?_) (fun q25 z25 => ?_)
  · skip
    subst z25
    have hl : lv_has ls 6 [(4, .null), (0, .ref h0), (1, .int p1), (2, .int p2), (3, .int p3)] := hl
    exact J32 gi _ _ _ hH hS hM (lv_sub hl [1] rfl) (hF.trans (by simp only [F_X11_look, r22, Option.getD_some, hw24.2, Option.elim_none]))
  · skip
    subst z25
    have t25 := hw24.1 q25 rfl
    have hl : lv_has ls 6 [(4, .ref q25), (0, .ref h0), (1, .int p1), (2, .int p2), (3, .int p3)] := hl
    refine lv_iload_n hx hb dX11_look_15 rfl (lv_at hl 3 rfl) ?_
    refine lv_iconst (v := 0) hx hb dX11_look_16 ic_0 ?_
    refine lv_bipush (v := 100) hx hb dX11_look_17 bp_100 ?_
    have hA26 := th_Asub (τ := τ) hS
    refine va_calli (va_runS (As := [.int p2, .int 0, .int 100]) (rest := []) ⟨hx, hb, hml, hown, hts⟩ (k_X11_within l D cA Z τ gi gr _ p2 0 100) (va_cwS 3 hts gX11_look_X11_within rfl rfl rfl (by decide +kernel) ⟨Nat.le_of_ble_eq_true rfl, Nat.le_of_ble_eq_true rfl⟩) ⟨th_blind, (th_pre hH hK hN hZ hS hA26)⟩ rfl rfl hl.1 rfl (lv_room (Nat.le_of_ble_eq_true rfl)) dX11_look_19 ⟨Nat.le_of_ble_eq_true rfl, Nat.le_of_ble_eq_true rfl⟩) hS (fun q _ h => hA26 q h) hA26 (fun x27 u t H locs ht hvm hw27 hB hz1 hk1 hS => ?_)
    try dsimp only at hw27 hB
    rw [ht] at hB
    have hH := hB
    refine lv_if_eq (tgt := 32) hx hb dX11_look_22 (th_eqI rfl) (fun c28 => ?_) (fun c28 => ?_)
    · skip
      have f29 : rg 0 0 x27 := rg_w (rg_eq hw27.1 rgc_0 c28).1 (th_leI rfl) (th_leI rfl)
      exact J32 gi _ _ _ hH hS hM (lv_sub hl [1] rfl) (hF.trans (by simp only [↓reduceIte, F_X11_look, r22, Option.getD_some, hw24.2, Option.elim_some, hw27.2.2.1, eq_true c28]))
    · skip
      have f30 : rg 1 1 x27 := rg_w (rg_neL hw27.1 rgc_0 c28) (th_leI rfl) (th_leI rfl)
      have g31 := hw27.2.1 c28
      have f32 : rg 0 2147483647 p2 := rg_w (rg_le rgc_0 (rg_any p2) g31.1).2 (th_leI rfl) (th_leI rfl)
      have f33 : rg 0 100 p2 := rg_w (rg_le f32 rgc_100 g31.2).1 (th_leI rfl) (th_leI rfl)
      refine lv_iload_n hx hb dX11_look_25 rfl (lv_at hl 4 rfl) ?_
      have hA34 := th_Asub (τ := τ) hS
      refine va_calli (va_runS (As := [.int p3]) (rest := []) ⟨hx, hb, hml, hown, hts⟩ (k_X11_isFlag l D cA Z τ gi gr _ p3) (va_cwS 1 hts gX11_look_X11_isFlag rfl rfl rfl (by decide +kernel) ⟨Nat.le_of_ble_eq_true rfl, Nat.le_of_ble_eq_true rfl⟩) ⟨th_blind, (th_pre hH hK hN hZ hS hA34)⟩ rfl rfl hl.1 rfl (lv_room (Nat.le_of_ble_eq_true rfl)) dX11_look_26 ⟨Nat.le_of_ble_eq_true rfl, Nat.le_of_ble_eq_true rfl⟩) hS (fun q _ h => hA34 q h) hA34 (fun x35 u t H locs ht hvm hw35 hB hz1 hk1 hS => ?_)
      try dsimp only at hw35 hB
      rw [ht] at hB
      have hH := hB
      refine lv_if_ne (tgt := 38) hx hb dX11_look_29 (th_eqI rfl) (fun c36 => ?_) (fun c36 => ?_)
      · skip
        have f37 : rg 1 1 x35 := rg_w (rg_neL hw35.1 rgc_0 c36) (th_leI rfl) (th_leI rfl)
        have f38 : rg 0 1 p3 := rg_w (hw35.2.1 c36) (th_leI rfl) (th_leI rfl)
        refine lv_iload_n hx hb dX11_look_38 rfl (lv_at hl 4 rfl) ?_
        refine lv_iconst (v := 1) hx hb dX11_look_39 ic_1 ?_
        refine lv_icmp_ne (tgt := 60) hx hb dX11_look_40 (th_eqI rfl) (fun c39 => ?_) (fun c39 => ?_)
        · skip
          have f40 : rg 0 0 p3 := rg_w (rg_neR f38 rgc_1 c39) (th_leI rfl) (th_leI rfl)
          refine lv_iload_n hx hb dX11_look_60 rfl (lv_at hl 3 rfl) ?_
          refine lv_aload hx hb dX11_look_61 (lv_at hl 0 rfl) ?_
          obtain ⟨x41, e41⟩ : ∃ y : Int32, y = gi q25 6 := ⟨_, rfl⟩
          refine th_get (ci := 2) (v := .int x41) (T := TX3) (C := RX3) (N := 8) hx hb hts (fun w h => List.mem_cons_of_mem _ (List.mem_append_left _ (List.mem_append_right _ h))) hown hK hH t25 (th_nz rfl) (thE_3 _ _ _) rfl 6 (th_ltN rfl) (hts (.fieldLink RX11 158 "BayMoorings$Buoy" "low" "I") (List.mem_cons_of_mem _ (List.mem_append_left _ (List.mem_append_left _ (List.mem_append_left _ (List.mem_append_left _ (List.mem_of_getElem? (i := 2) rfl))))))) (fun _ h9 => h9) (th_fI e41 rfl) dX11_look_63 ?_
          refine lv_icmp_le (tgt := 73) hx hb dX11_look_66 (th_eqI rfl) (fun c42 => ?_) (fun c42 => ?_)
          · skip
            have f43 : rg 0 2147483647 x41 := rg_w (rg_le f33 (rg_any x41) c42).2 (th_leI rfl) (th_leI rfl)
            refine lv_iconst (v := 0) hx hb dX11_look_73 ic_0 ?_
            exact J74 gi _ _ _ q25 0 hH hS hM (lv_sub hl [1, 3, 4, 0] rfl) f33 (rg_w f40 (th_leI rfl) (th_leI rfl)) t25 (rg_w rgc_0 (th_leI rfl) (th_leI rfl)) (hF.trans (by simp only [↓reduceIte, F_X11_look, r22, Option.getD_some, hw24.2, Option.elim_some, hw27.2.2.1, eq_false c28, hw35.2.2.1, eq_false c36, eq_false c39, ← e41, eq_true c42]))
          · skip
            have f44 : rg (-2147483648) 99 x41 := rg_w (rg_nle f33 (rg_any x41) c42).2 (th_leI rfl) (th_leI rfl)
            refine lv_iconst (v := 1) hx hb dX11_look_69 ic_1 ?_
            refine lv_goto (tgt := 74) hx hb dX11_look_70 (th_eqI rfl) ?_
            exact J74 gi _ _ _ q25 1 hH hS hM (lv_sub hl [1, 3, 4, 0] rfl) f33 (rg_w f40 (th_leI rfl) (th_leI rfl)) t25 (rg_w rgc_1 (th_leI rfl) (th_leI rfl)) (hF.trans (by simp only [↓reduceIte, F_X11_look, r22, Option.getD_some, hw24.2, Option.elim_some, hw27.2.2.1, eq_false c28, hw35.2.2.1, eq_false c36, eq_false c39, ← e41, eq_false c42]))
        · skip
          have f45 : rg 1 1 p3 := rg_w (rg_eq f38 rgc_1 c39).1 (th_leI rfl) (th_leI rfl)
          refine lv_iload_n hx hb dX11_look_43 rfl (lv_at hl 3 rfl) ?_
          refine lv_aload hx hb dX11_look_44 (lv_at hl 0 rfl) ?_
          obtain ⟨x46, e46⟩ : ∃ y : Int32, y = gi q25 7 := ⟨_, rfl⟩
          refine th_get (ci := 2) (v := .int x46) (T := TX3) (C := RX3) (N := 8) hx hb hts (fun w h => List.mem_cons_of_mem _ (List.mem_append_left _ (List.mem_append_right _ h))) hown hK hH t25 (th_nz rfl) (thE_3 _ _ _) rfl 7 (th_ltN rfl) (hts (.fieldLink RX11 161 "BayMoorings$Buoy" "high" "I") (List.mem_cons_of_mem _ (List.mem_append_left _ (List.mem_append_left _ (List.mem_append_left _ (List.mem_append_left _ (List.mem_of_getElem? (i := 1) rfl))))))) (fun _ h9 => h9) (th_fI e46 rfl) dX11_look_46 ?_
          refine lv_icmp_gt (tgt := 56) hx hb dX11_look_49 (th_eqI rfl) (fun c47 => ?_) (fun c47 => ?_)
          · skip
            have f48 : rg (-2147483648) 99 x46 := rg_w (rg_lt (rg_any x46) f33 c47).1 (th_leI rfl) (th_leI rfl)
            refine lv_iconst (v := 0) hx hb dX11_look_56 ic_0 ?_
            refine lv_goto (tgt := 74) hx hb dX11_look_57 (th_eqI rfl) ?_
            exact J74 gi _ _ _ q25 0 hH hS hM (lv_sub hl [1, 3, 4, 0] rfl) f33 (rg_w f45 (th_leI rfl) (th_leI rfl)) t25 (rg_w rgc_0 (th_leI rfl) (th_leI rfl)) (hF.trans (by simp only [↓reduceIte, F_X11_look, r22, Option.getD_some, hw24.2, Option.elim_some, hw27.2.2.1, eq_false c28, hw35.2.2.1, eq_false c36, eq_true c39, ← e46, eq_true c47]))
          · skip
            have f49 : rg 0 2147483647 x46 := rg_w (rg_nlt (rg_any x46) f33 c47).1 (th_leI rfl) (th_leI rfl)
            refine lv_iconst (v := 1) hx hb dX11_look_52 ic_1 ?_
            refine lv_goto (tgt := 74) hx hb dX11_look_53 (th_eqI rfl) ?_
            exact J74 gi _ _ _ q25 1 hH hS hM (lv_sub hl [1, 3, 4, 0] rfl) f33 (rg_w f45 (th_leI rfl) (th_leI rfl)) t25 (rg_w rgc_1 (th_leI rfl) (th_leI rfl)) (hF.trans (by simp only [↓reduceIte, F_X11_look, r22, Option.getD_some, hw24.2, Option.elim_some, hw27.2.2.1, eq_false c28, hw35.2.2.1, eq_false c36, eq_true c39, ← e46, eq_false c47]))
      · skip
        have f50 : rg 0 0 x35 := rg_w (rg_eq hw35.1 rgc_0 c36).1 (th_leI rfl) (th_leI rfl)
        exact J32 gi _ _ _ hH hS hM (lv_sub hl [1] rfl) (hF.trans (by simp only [↓reduceIte, F_X11_look, r22, Option.getD_some, hw24.2, Option.elim_some, hw27.2.2.1, eq_false c28, hw35.2.2.1, eq_true c36]))

noncomputable def F_X11_next (τ : th_t) (Z : th_Zt) (gi : th_i) (gr : th_r) (h0 : Nat) : Int32 × th_i :=
  let q1 : Nat := (gr h0 0).getD 0
  let x3 : Int32 := F_X0_leastKnown τ Z gi gr q1
  if x3 = ((-1) : Int32) then (
    let u7 : Int32 × th_i := F_X11_finding τ Z gi gr h0 2
    let x7 : Int32 := u7.1
    let gi7 : th_i := u7.2
    (x7, gi7)) else (
    (x3, gi))
set_option maxHeartbeats 8000000 in
set_option maxRecDepth 100000 in
theorem k_X11_next (l : Launch) (D : va_G) (cA : Nat → ClassId) (Z : th_Zt) (τ : th_t) (gi : th_i) (gr : th_r) (sz : Nat) (h0 : Nat) (t_h0 : τ h0 = 11) : Met l yX11_next wsX11_next ({ frames := 3, cells := 0, slots := 0, locals := 66 }) (va_Pc [.ref h0] (th_Pre D cA Z τ gi gr sz)) (va_Qi (fun (r : Int32) (u : th_i × th_r) => th_Mod [3600] τ gi gr u.1 u.2 ∧ u.2 = gr ∧ (F_X11_next τ Z gi gr h0 = (r, u.1))) (fun (u : th_i × th_r) t => th_H D cA τ u.1 u.2 t.heap) (th_A τ sz)) 0 0 (th_A τ sz) := by
  refine Met.ofW (cc := cX11_next) (maxL := 2) (ret := (some .int)) (by decide) rfl ?_
  intro p e s m args below meth c s₁ B hml hv
  obtain ⟨rfl, hsz, hH, hK, hN, hZ⟩ := hv
  have hx := B.exec
  have hb := B.bytes
  have hr := B.returns
  have hts := atoms_spec (ws := wsX11_next) B.pre
  have hown : s.vm.findClass RX11 = some m.cls := findClass_of_methodNamed B.named
  have hlocks := B.notSynchronized
  subst hsz
  have hM : th_Mod [3600] τ gi gr gi gr := th_Mod.rf
  have hS : va_S (th_A τ s.heap.size) s.heap s.heap [] := va_S.rf
  have hl := lv_entry ([.ref h0]) (n := 2) (Nat.le_of_ble_eq_true rfl)
  rw [lg_entry_eq]
  generalize (lg_sl ([.ref h0]) ++ List.replicate (2 - (lg_sl ([.ref h0])).length) Slot.unset).toArray = ls at hl ⊢
  have hl : lv_has ls 2 [(0, .ref h0)] := hl
  have hF : F_X11_next τ Z gi gr h0 = F_X11_next τ Z gi gr h0 := rfl
  refine lv_aload_n hx hb dX11_next_0 rfl (lv_at hl 0 rfl) ?_
  obtain ⟨q1, r1, t1⟩ : ∃ q, gr h0 0 = some q ∧ τ q = 1 := (thI_11 hH t_h0).1
  refine th_get (ci := 10) (v := .ref q1) (T := TX11) (C := RX11) (N := 10) hx hb hts (fun w h => List.mem_cons_of_mem _ (List.mem_append_left _ (List.mem_append_left _ (List.mem_append_right _ h)))) hown hK hH t_h0 (th_nz rfl) (thE_11 _ _ _) rfl 0 (th_ltN rfl) (hts (.fieldLink RX11 10 "BayMoorings" "bay" "LBayMoorings$Bay;") (List.mem_cons_of_mem _ (List.mem_append_left _ (List.mem_append_left _ (List.mem_append_left _ (List.mem_append_left _ (List.mem_of_getElem? (i := 0) rfl))))))) (fun _ h9 => h9) (th_fR r1 rfl) dX11_next_1 ?_
  have hA2 := th_Asub (τ := τ) hS
  refine va_calli (va_runV (As := []) (rest := []) ⟨hx, hb, hml, hown, hts⟩ (k_X0_leastKnown l D cA Z τ gi gr _ q1 t1) (cwV 0 hts gX11_next_X0_leastKnown rfl rfl rfl hd_X0_leastKnown__0 ⟨Nat.le_of_ble_eq_true rfl, Nat.le_of_ble_eq_true rfl⟩) ⟨th_blind, tr_1 hK hH t1, (th_pre hH hK hN hZ hS hA2)⟩ rfl rfl hl.1 rfl (lv_room (Nat.le_of_ble_eq_true rfl)) dX11_next_4 ⟨Nat.le_of_ble_eq_true rfl, Nat.le_of_ble_eq_true rfl⟩) hS (fun q _ h => hA2 q h) hA2 (fun x3 u t H locs ht hvm hw3 hB hz1 hk1 hS => ?_)
  try dsimp only at hw3 hB
  rw [ht] at hB
  have hH := hB
  refine lv_istore_n (i := 1) (lv' := [(1, .int x3), (0, .ref h0)]) hx hb dX11_next_7 rfl hl (th_ltN rfl) rfl (fun ls hl => ?_)
  refine lv_iload_n hx hb dX11_next_8 rfl (lv_at hl 0 rfl) ?_
  refine lv_iconst (v := (-1)) hx hb dX11_next_9 ic_m1 ?_
  refine lv_icmp_ne (tgt := 21) hx hb dX11_next_10 (th_eqI rfl) (fun c4 => ?_) (fun c4 => ?_)
  · skip
    refine lv_iload_n hx hb dX11_next_21 rfl (lv_at hl 0 rfl) ?_
    exact W.iret (v := x3) hx hb hr (fun t ht hW => ⟨⟨x3, (gi, gr), rfl, ⟨hM, rfl, (hF.trans (by simp only [↓reduceIte, F_X11_next, r1, Option.getD_some, hw3, eq_false c4]))⟩, th_Ht ht hH⟩, hS.F ht⟩) hS.2.2 dX11_next_22
  · skip
    have f5 : rg (-1) (-1) x3 := rg_w (rg_eq (rg_any x3) rgc_m1 c4).1 (th_leI rfl) (th_leI rfl)
    refine lv_aload_n hx hb dX11_next_13 rfl (lv_at hl 1 rfl) ?_
    refine lv_iconst (v := 2) hx hb dX11_next_14 ic_2 ?_
    have hA6 := th_Asub (τ := τ) hS
    refine va_calli (va_runV (As := [.int 2]) (rest := []) ⟨hx, hb, hml, hown, hts⟩ (k_X11_finding l D cA Z τ gi gr _ h0 t_h0 2) (cwV 1 hts gX11_next_X11_finding rfl rfl rfl hd_X11_finding__1 ⟨Nat.le_of_ble_eq_true rfl, Nat.le_of_ble_eq_true rfl⟩) ⟨th_blind, tr_11 hK hH t_h0, (th_pre hH hK hN hZ hS hA6)⟩ rfl rfl hl.1 rfl (lv_room (Nat.le_of_ble_eq_true rfl)) dX11_next_15 ⟨Nat.le_of_ble_eq_true rfl, Nat.le_of_ble_eq_true rfl⟩) hS (fun q _ h => hA6 q h) hA6 (fun x7 u t H locs ht hvm hw7 hB hz1 hk1 hS => ?_)
    try dsimp only at hw7 hB
    rw [ht] at hB
    have hH := hB
    obtain ⟨gi7, gr7⟩ := u
    try dsimp only at hw7 hH
    obtain rfl : gr = gr7 := (hw7.2.1).symm
    have hM := hM.tr hw7.1 (fun _ h => h) (th_sub rfl)
    refine lv_goto (tgt := 22) hx hb dX11_next_18 (th_eqI rfl) ?_
    exact W.iret (v := x7) hx hb hr (fun t ht hW => ⟨⟨x7, (gi7, gr), rfl, ⟨hM, rfl, (hF.trans (by simp only [↓reduceIte, F_X11_next, r1, Option.getD_some, hw3, eq_true c4, hw7.2.2.1]))⟩, th_Ht ht hH⟩, hS.F ht⟩) hS.2.2 dX11_next_22

noncomputable def F_X11_renew (τ : th_t) (Z : th_Zt) (gi : th_i) (gr : th_r) (h0 : Nat) (p1 : Int32) : Int32 × th_i :=
  let q1 : Nat := (gr h0 0).getD 0
  let r3 : Option Nat := F_X0_buoyAt τ Z gi gr q1 p1
  Option.elim r3 (
    let u12 : Int32 × th_i := F_X11_finding τ Z gi gr h0 1
    let x12 : Int32 := u12.1
    let gi12 : th_i := u12.2
    (x12, gi12)) (fun q4 =>
    let x5 : Int32 := gi q4 7
    let gi6 : th_i := va_up gi q4 (upd (gi q4) 6 0)
    let gi8 : th_i := va_up gi6 q4 (upd (gi6 q4) 7 0)
    (x5, gi8))
set_option maxHeartbeats 8000000 in
set_option maxRecDepth 100000 in
theorem k_X11_renew (l : Launch) (D : va_G) (cA : Nat → ClassId) (Z : th_Zt) (τ : th_t) (gi : th_i) (gr : th_r) (sz : Nat) (h0 : Nat) (t_h0 : τ h0 = 11) (p1 : Int32) : Met l yX11_renew wsX11_renew ({ frames := 2, cells := 0, slots := 0, locals := 43 }) (va_Pc [.ref h0, .int p1] (th_Pre D cA Z τ gi gr sz)) (va_Qi (fun (r : Int32) (u : th_i × th_r) => th_Mod [306, 307, 3600] τ gi gr u.1 u.2 ∧ u.2 = gr ∧ (F_X11_renew τ Z gi gr h0 p1 = (r, u.1))) (fun (u : th_i × th_r) t => th_H D cA τ u.1 u.2 t.heap) (th_A τ sz)) 0 0 (th_A τ sz) := by
  refine Met.ofW (cc := cX11_renew) (maxL := 4) (ret := (some .int)) (by decide) rfl ?_
  intro p e s m args below meth c s₁ B hml hv
  obtain ⟨rfl, hsz, hH, hK, hN, hZ⟩ := hv
  have hx := B.exec
  have hb := B.bytes
  have hr := B.returns
  have hts := atoms_spec (ws := wsX11_renew) B.pre
  have hown : s.vm.findClass RX11 = some m.cls := findClass_of_methodNamed B.named
  have hlocks := B.notSynchronized
  subst hsz
  have hM : th_Mod [306, 307, 3600] τ gi gr gi gr := th_Mod.rf
  have hS : va_S (th_A τ s.heap.size) s.heap s.heap [] := va_S.rf
  have hl := lv_entry ([.ref h0, .int p1]) (n := 4) (Nat.le_of_ble_eq_true rfl)
  rw [lg_entry_eq]
  generalize (lg_sl ([.ref h0, .int p1]) ++ List.replicate (4 - (lg_sl ([.ref h0, .int p1])).length) Slot.unset).toArray = ls at hl ⊢
  have hl : lv_has ls 4 [(0, .ref h0), (1, .int p1)] := hl
  have hF : F_X11_renew τ Z gi gr h0 p1 = F_X11_renew τ Z gi gr h0 p1 := rfl
  refine lv_aload_n hx hb dX11_renew_0 rfl (lv_at hl 0 rfl) ?_
  obtain ⟨q1, r1, t1⟩ : ∃ q, gr h0 0 = some q ∧ τ q = 1 := (thI_11 hH t_h0).1
  refine th_get (ci := 10) (v := .ref q1) (T := TX11) (C := RX11) (N := 10) hx hb hts (fun w h => List.mem_cons_of_mem _ (List.mem_append_left _ (List.mem_append_left _ (List.mem_append_right _ h)))) hown hK hH t_h0 (th_nz rfl) (thE_11 _ _ _) rfl 0 (th_ltN rfl) (hts (.fieldLink RX11 10 "BayMoorings" "bay" "LBayMoorings$Bay;") (List.mem_cons_of_mem _ (List.mem_append_left _ (List.mem_append_left _ (List.mem_append_left _ (List.mem_of_getElem? (i := 0) rfl)))))) (fun _ h9 => h9) (th_fR r1 rfl) dX11_renew_1 ?_
  refine lv_iload_n hx hb dX11_renew_4 rfl (lv_at hl 1 rfl) ?_
  have hA2 := th_Asub (τ := τ) hS
  refine va_callq (va_runV (As := [.int p1]) (rest := []) ⟨hx, hb, hml, hown, hts⟩ (k_X0_buoyAt l D cA Z τ gi gr _ q1 t1 p1) (cwV 1 hts gX11_renew_X0_buoyAt rfl rfl rfl hd_X0_buoyAt__1 ⟨Nat.le_of_ble_eq_true rfl, Nat.le_of_ble_eq_true rfl⟩) ⟨th_blind, tr_1 hK hH t1, (th_pre hH hK hN hZ hS hA2)⟩ rfl rfl hl.1 rfl (lv_room (Nat.le_of_ble_eq_true rfl)) dX11_renew_5 ⟨Nat.le_of_ble_eq_true rfl, Nat.le_of_ble_eq_true rfl⟩) hS (fun q _ h => hA2 q h) hA2 (fun r3 u t H locs ht hvm hw3 hB hz1 hk1 hS => ?_)
  try dsimp only at hw3 hB
  rw [ht] at hB
  have hH := hB
  refine th_astoreq_n (i := 2) (lv' := [(2, va_rf r3), (0, .ref h0), (1, .int p1)]) hx hb dX11_renew_8 rfl hl (th_ltN rfl) rfl (fun ls hl => ?_)
  refine th_aloadq_n hx hb dX11_renew_9 rfl (lv_at hl 0 rfl) ?_
  refine th_ifnonnull (tgt := 19) hx hb dX11_renew_10 (th_eqI rfl) (fun q4 z4 => ?_) (fun z4 => ?_)
  · skip
    subst z4
    have t4 := hw3.1 q4 rfl
    have hl : lv_has ls 4 [(2, .ref q4), (0, .ref h0), (1, .int p1)] := hl
    refine lv_aload_n hx hb dX11_renew_19 rfl (lv_at hl 0 rfl) ?_
    obtain ⟨x5, e5⟩ : ∃ y : Int32, y = gi q4 7 := ⟨_, rfl⟩
    refine th_get (ci := 2) (v := .int x5) (T := TX3) (C := RX3) (N := 8) hx hb hts (fun w h => List.mem_cons_of_mem _ (List.mem_append_left _ (List.mem_append_right _ h))) hown hK hH t4 (th_nz rfl) (thE_3 _ _ _) rfl 7 (th_ltN rfl) (hts (.fieldLink RX11 161 "BayMoorings$Buoy" "high" "I") (List.mem_cons_of_mem _ (List.mem_append_left _ (List.mem_append_left _ (List.mem_append_left _ (List.mem_of_getElem? (i := 1) rfl)))))) (fun _ h9 => h9) (th_fI e5 rfl) dX11_renew_20 ?_
    refine lv_istore_n (i := 3) (lv' := [(3, .int x5), (2, .ref q4), (0, .ref h0), (1, .int p1)]) hx hb dX11_renew_23 rfl hl (th_ltN rfl) rfl (fun ls hl => ?_)
    refine lv_aload_n hx hb dX11_renew_24 rfl (lv_at hl 1 rfl) ?_
    refine lv_iconst (v := 0) hx hb dX11_renew_25 ic_0 ?_
    refine th_put (ci := 2) (v := .int 0) (T := TX3) (C := RX3) (N := 8) (ty := .int) (gi' := va_up gi q4 (upd (gi q4) 6 0)) (gr' := gr) hx hb hts (fun w h => List.mem_cons_of_mem _ (List.mem_append_left _ (List.mem_append_right _ h))) tyX3 tyX3_ok nmX3 hown hK hH hS t4 (th_nz rfl) (Or.inl (th_nzE t4 rfl)) rfl rfl 6 (th_ltN rfl) (hts (.fieldLink RX11 158 "BayMoorings$Buoy" "low" "I") (List.mem_cons_of_mem _ (List.mem_append_left _ (List.mem_append_left _ (List.mem_append_left _ (List.mem_of_getElem? (i := 2) rfl)))))) (fun _ h9 => h9) rfl (by decide +kernel) rfl rfl (Nat.le_of_ble_eq_true rfl) (by rw [va_up_self]; rfl) (by rw [va_up_self]; show (∃ q, gr q4 5 = some q ∧ τ q = 26); exact (show (∃ q, gr q4 5 = some q ∧ τ q = 26) from (thI_3 hH t4))) (fun b hb => ⟨va_up_ne _ _ hb, rfl⟩) dX11_renew_26 (fun H locs hH hS => ?_)
    obtain ⟨gi6, eg6⟩ : ∃ g, g = va_up gi q4 (upd (gi q4) 6 0) := ⟨_, rfl⟩
    rw [← eg6] at hH
    have hu6 : gi6 q4 6 = 0 := (th_uI eg6).1
    have ho6 : ∀ b j, b ≠ q4 ∨ j ≠ 6 → gi6 b j = gi b j := (th_uI eg6).2
    have e7 : x5 = gi6 q4 7 := Eq.trans e5 (Eq.symm (ho6 _ _ (Or.inr (th_nz rfl))))
    have hM := hM.i t4 (th_mem (a := 306) rfl) ho6
    refine lv_aload_n hx hb dX11_renew_29 rfl (lv_at hl 1 rfl) ?_
    refine lv_iconst (v := 0) hx hb dX11_renew_30 ic_0 ?_
    refine th_put (ci := 2) (v := .int 0) (T := TX3) (C := RX3) (N := 8) (ty := .int) (gi' := va_up gi6 q4 (upd (gi6 q4) 7 0)) (gr' := gr) hx hb hts (fun w h => List.mem_cons_of_mem _ (List.mem_append_left _ (List.mem_append_right _ h))) tyX3 tyX3_ok nmX3 hown hK hH hS t4 (th_nz rfl) (Or.inl (th_nzE t4 rfl)) rfl rfl 7 (th_ltN rfl) (hts (.fieldLink RX11 161 "BayMoorings$Buoy" "high" "I") (List.mem_cons_of_mem _ (List.mem_append_left _ (List.mem_append_left _ (List.mem_append_left _ (List.mem_of_getElem? (i := 1) rfl)))))) (fun _ h9 => h9) rfl (by decide +kernel) rfl rfl (Nat.le_of_ble_eq_true rfl) (by rw [va_up_self]; rfl) (by rw [va_up_self]; show (∃ q, gr q4 5 = some q ∧ τ q = 26); exact (show (∃ q, gr q4 5 = some q ∧ τ q = 26) from (thI_3 hH t4))) (fun b hb => ⟨va_up_ne _ _ hb, rfl⟩) dX11_renew_31 (fun H locs hH hS => ?_)
    obtain ⟨gi8, eg8⟩ : ∃ g, g = va_up gi6 q4 (upd (gi6 q4) 7 0) := ⟨_, rfl⟩
    rw [← eg8] at hH
    have hu8 : gi8 q4 7 = 0 := (th_uI eg8).1
    have ho8 : ∀ b j, b ≠ q4 ∨ j ≠ 7 → gi8 b j = gi6 b j := (th_uI eg8).2
    have e10 : 0 = gi8 q4 6 := Eq.trans hu6.symm (Eq.symm (ho8 _ _ (Or.inr (th_nz rfl))))
    have hM := hM.i t4 (th_mem (a := 307) rfl) ho8
    refine lv_iload_n hx hb dX11_renew_34 rfl (lv_at hl 0 rfl) ?_
    exact W.iret (v := x5) hx hb hr (fun t ht hW => ⟨⟨x5, (gi8, gr), rfl, ⟨hM, rfl, (hF.trans (by simp only [F_X11_renew, r1, Option.getD_some, hw3.2, Option.elim_some, ← e5, ← eg6, ← eg8]))⟩, th_Ht ht hH⟩, hS.F ht⟩) hS.2.2 dX11_renew_35
  · skip
    subst z4
    have hl : lv_has ls 4 [(2, .null), (0, .ref h0), (1, .int p1)] := hl
    refine lv_aload_n hx hb dX11_renew_13 rfl (lv_at hl 1 rfl) ?_
    refine lv_iconst (v := 1) hx hb dX11_renew_14 ic_1 ?_
    have hA11 := th_Asub (τ := τ) hS
    refine va_calli (va_runV (As := [.int 1]) (rest := []) ⟨hx, hb, hml, hown, hts⟩ (k_X11_finding l D cA Z τ gi gr _ h0 t_h0 1) (cwV 1 hts gX11_renew_X11_finding rfl rfl rfl hd_X11_finding__1 ⟨Nat.le_of_ble_eq_true rfl, Nat.le_of_ble_eq_true rfl⟩) ⟨th_blind, tr_11 hK hH t_h0, (th_pre hH hK hN hZ hS hA11)⟩ rfl rfl hl.1 rfl (lv_room (Nat.le_of_ble_eq_true rfl)) dX11_renew_15 ⟨Nat.le_of_ble_eq_true rfl, Nat.le_of_ble_eq_true rfl⟩) hS (fun q _ h => hA11 q h) hA11 (fun x12 u t H locs ht hvm hw12 hB hz1 hk1 hS => ?_)
    try dsimp only at hw12 hB
    rw [ht] at hB
    have hH := hB
    obtain ⟨gi12, gr12⟩ := u
    try dsimp only at hw12 hH
    obtain rfl : gr = gr12 := (hw12.2.1).symm
    have hM := hM.tr hw12.1 (fun _ h => h) (th_sub rfl)
    exact W.iret (v := x12) hx hb hr (fun t ht hW => ⟨⟨x12, (gi12, gr), rfl, ⟨hM, rfl, (hF.trans (by simp only [F_X11_renew, r1, Option.getD_some, hw3.2, Option.elim_none, hw12.2.2.1]))⟩, th_Ht ht hH⟩, hS.F ht⟩) hS.2.2 dX11_renew_18

noncomputable def F_X11_rate (τ : th_t) (Z : th_Zt) (gi : th_i) (gr : th_r) (h0 : Nat) (p1 : Int32) : Int32 × th_i :=
  let wt0 : Int32 := gi h0 8
  let x2 : Int32 := F_X11_within τ Z gi gr p1 0 100
  if x2 = (0 : Int32) then (
    let u13 : Int32 × th_i := F_X11_finding τ Z gi gr h0 1
    let x13 : Int32 := u13.1
    let gi13 : th_i := u13.2
    (x13, gi13)) else (
    let gi9 : th_i := va_up gi h0 (upd (gi h0) 8 p1)
    (wt0, gi9))
set_option maxHeartbeats 8000000 in
set_option maxRecDepth 100000 in
theorem k_X11_rate (l : Launch) (D : va_G) (cA : Nat → ClassId) (Z : th_Zt) (τ : th_t) (gi : th_i) (gr : th_r) (sz : Nat) (h0 : Nat) (t_h0 : τ h0 = 11) (p1 : Int32) : Met l yX11_rate wsX11_rate ({ frames := 2, cells := 0, slots := 0, locals := 43 }) (va_Pc [.ref h0, .int p1] (th_Pre D cA Z τ gi gr sz)) (va_Qi (fun (r : Int32) (u : th_i × th_r) => th_Mod [1108, 3600] τ gi gr u.1 u.2 ∧ u.2 = gr ∧ (F_X11_rate τ Z gi gr h0 p1 = (r, u.1)) ∧ (se_post 0 100 (gi h0 8) (u.1 h0 8) p1 r)) (fun (u : th_i × th_r) t => th_H D cA τ u.1 u.2 t.heap) (th_A τ sz)) 0 0 (th_A τ sz) := by
  refine Met.ofW (cc := cX11_rate) (maxL := 3) (ret := (some .int)) (by decide) rfl ?_
  intro p e s m args below meth c s₁ B hml hv
  obtain ⟨rfl, hsz, hH, hK, hN, hZ⟩ := hv
  have hx := B.exec
  have hb := B.bytes
  have hr := B.returns
  have hts := atoms_spec (ws := wsX11_rate) B.pre
  have hown : s.vm.findClass RX11 = some m.cls := findClass_of_methodNamed B.named
  have hlocks := B.notSynchronized
  subst hsz
  have hM : th_Mod [1108, 3600] τ gi gr gi gr := th_Mod.rf
  have hS : va_S (th_A τ s.heap.size) s.heap s.heap [] := va_S.rf
  have hl := lv_entry ([.ref h0, .int p1]) (n := 3) (Nat.le_of_ble_eq_true rfl)
  rw [lg_entry_eq]
  generalize (lg_sl ([.ref h0, .int p1]) ++ List.replicate (3 - (lg_sl ([.ref h0, .int p1])).length) Slot.unset).toArray = ls at hl ⊢
  have hl : lv_has ls 3 [(0, .ref h0), (1, .int p1)] := hl
  obtain ⟨wt0, ewt0⟩ : ∃ y : Int32, y = gi h0 8 := ⟨_, rfl⟩
  have hF : F_X11_rate τ Z gi gr h0 p1 = F_X11_rate τ Z gi gr h0 p1 := rfl
  refine lv_iload_n hx hb dX11_rate_0 rfl (lv_at hl 1 rfl) ?_
  refine lv_iconst (v := 0) hx hb dX11_rate_1 ic_0 ?_
  refine lv_bipush (v := 100) hx hb dX11_rate_2 bp_100 ?_
  have hA1 := th_Asub (τ := τ) hS
  refine va_calli (va_runS (As := [.int p1, .int 0, .int 100]) (rest := []) ⟨hx, hb, hml, hown, hts⟩ (k_X11_within l D cA Z τ gi gr _ p1 0 100) (va_cwS 3 hts gX11_rate_X11_within rfl rfl rfl (by decide +kernel) ⟨Nat.le_of_ble_eq_true rfl, Nat.le_of_ble_eq_true rfl⟩) ⟨th_blind, (th_pre hH hK hN hZ hS hA1)⟩ rfl rfl hl.1 rfl (lv_room (Nat.le_of_ble_eq_true rfl)) dX11_rate_4 ⟨Nat.le_of_ble_eq_true rfl, Nat.le_of_ble_eq_true rfl⟩) hS (fun q _ h => hA1 q h) hA1 (fun x2 u t H locs ht hvm hw2 hB hz1 hk1 hS => ?_)
  try dsimp only at hw2 hB
  rw [ht] at hB
  have hH := hB
  refine lv_if_ne (tgt := 16) hx hb dX11_rate_7 (th_eqI rfl) (fun c3 => ?_) (fun c3 => ?_)
  · skip
    have f4 : rg 1 1 x2 := rg_w (rg_neL hw2.1 rgc_0 c3) (th_leI rfl) (th_leI rfl)
    have g5 := hw2.2.1 c3
    have f6 : rg 0 2147483647 p1 := rg_w (rg_le rgc_0 (rg_any p1) g5.1).2 (th_leI rfl) (th_leI rfl)
    have f7 : rg 0 100 p1 := rg_w (rg_le f6 rgc_100 g5.2).1 (th_leI rfl) (th_leI rfl)
    refine lv_aload_n hx hb dX11_rate_16 rfl (lv_at hl 0 rfl) ?_
    refine th_get (ci := 10) (v := .int wt0) (T := TX11) (C := RX11) (N := 10) hx hb hts (fun w h => List.mem_cons_of_mem _ (List.mem_append_right _ h)) hown hK hH t_h0 (th_nz rfl) (thE_11 _ _ _) rfl 8 (th_ltN rfl) (hts (.fieldLink RX11 57 "BayMoorings" "rateNow" "I") (List.mem_cons_of_mem _ (List.mem_append_left _ (List.mem_of_getElem? (i := 0) rfl)))) (fun _ h9 => h9) (th_fI ewt0 rfl) dX11_rate_17 ?_
    refine lv_istore_n (i := 2) (lv' := [(2, .int wt0), (0, .ref h0), (1, .int p1)]) hx hb dX11_rate_20 rfl hl (th_ltN rfl) rfl (fun ls hl => ?_)
    refine lv_aload_n hx hb dX11_rate_21 rfl (lv_at hl 1 rfl) ?_
    refine lv_iload_n hx hb dX11_rate_22 rfl (lv_at hl 2 rfl) ?_
    refine th_put (ci := 10) (v := .int p1) (T := TX11) (C := RX11) (N := 10) (ty := .int) (gi' := va_up gi h0 (upd (gi h0) 8 p1)) (gr' := gr) hx hb hts (fun w h => List.mem_cons_of_mem _ (List.mem_append_right _ h)) tyX11 tyX11_ok nmX11 hown hK hH hS t_h0 (th_nz rfl) (Or.inl (th_nzE t_h0 rfl)) rfl rfl 8 (th_ltN rfl) (hts (.fieldLink RX11 57 "BayMoorings" "rateNow" "I") (List.mem_cons_of_mem _ (List.mem_append_left _ (List.mem_of_getElem? (i := 0) rfl)))) (fun _ h9 => h9) rfl (by decide +kernel) rfl rfl (Nat.le_of_ble_eq_true rfl) (by rw [va_up_self]; rfl) (by rw [va_up_self]; show (∃ q, gr h0 0 = some q ∧ τ q = 1) ∧ (∃ q, gr h0 1 = some q ∧ τ q = 10) ∧ (∃ q, gr h0 2 = some q ∧ τ q = 7) ∧ (∃ q, gr h0 3 = some q ∧ τ q = 6) ∧ (∃ q, gr h0 4 = some q ∧ τ q = 5) ∧ (∃ q, gr h0 5 = some q ∧ τ q = 36) ∧ (∃ q, gr h0 6 = some q ∧ τ q = 37) ∧ rg 0 24 (gi h0 7) ∧ rg 0 1 (gi h0 9); exact ⟨(thI_11 hH t_h0).1, (thI_11 hH t_h0).2.1, (thI_11 hH t_h0).2.2.1, (thI_11 hH t_h0).2.2.2.1, (thI_11 hH t_h0).2.2.2.2.1, (thI_11 hH t_h0).2.2.2.2.2.1, (thI_11 hH t_h0).2.2.2.2.2.2.1, (thI_11 hH t_h0).2.2.2.2.2.2.2.1, (thI_11 hH t_h0).2.2.2.2.2.2.2.2⟩) (fun b hb => ⟨va_up_ne _ _ hb, rfl⟩) dX11_rate_23 (fun H locs hH hS => ?_)
    obtain ⟨gi9, eg9⟩ : ∃ g, g = va_up gi h0 (upd (gi h0) 8 p1) := ⟨_, rfl⟩
    rw [← eg9] at hH
    have hu9 : gi9 h0 8 = p1 := (th_uI eg9).1
    have ho9 : ∀ b j, b ≠ h0 ∨ j ≠ 8 → gi9 b j = gi b j := (th_uI eg9).2
    have hM := hM.i t_h0 (th_mem (a := 1108) rfl) ho9
    refine lv_iload_n hx hb dX11_rate_26 rfl (lv_at hl 0 rfl) ?_
    exact W.iret (v := wt0) hx hb hr (fun t ht hW => ⟨⟨wt0, (gi9, gr), rfl, ⟨hM, rfl, (hF.trans (by simp only [↓reduceIte, F_X11_rate, ← ewt0, hw2.2.2.1, eq_false c3, ← eg9])), (se_yes f7 ((rfl).trans ewt0) (hu9.symm.symm.trans rfl))⟩, th_Ht ht hH⟩, hS.F ht⟩) hS.2.2 dX11_rate_27
  · skip
    have f11 : rg 0 0 x2 := rg_w (rg_eq hw2.1 rgc_0 c3).1 (th_leI rfl) (th_leI rfl)
    refine lv_aload_n hx hb dX11_rate_10 rfl (lv_at hl 0 rfl) ?_
    refine lv_iconst (v := 1) hx hb dX11_rate_11 ic_1 ?_
    have hA12 := th_Asub (τ := τ) hS
    refine va_calli (va_runV (As := [.int 1]) (rest := []) ⟨hx, hb, hml, hown, hts⟩ (k_X11_finding l D cA Z τ gi gr _ h0 t_h0 1) (cwV 1 hts gX11_rate_X11_finding rfl rfl rfl hd_X11_finding__1 ⟨Nat.le_of_ble_eq_true rfl, Nat.le_of_ble_eq_true rfl⟩) ⟨th_blind, tr_11 hK hH t_h0, (th_pre hH hK hN hZ hS hA12)⟩ rfl rfl hl.1 rfl (lv_room (Nat.le_of_ble_eq_true rfl)) dX11_rate_12 ⟨Nat.le_of_ble_eq_true rfl, Nat.le_of_ble_eq_true rfl⟩) hS (fun q _ h => hA12 q h) hA12 (fun x13 u t H locs ht hvm hw13 hB hz1 hk1 hS => ?_)
    try dsimp only at hw13 hB
    rw [ht] at hB
    have hH := hB
    obtain ⟨gi13, gr13⟩ := u
    try dsimp only at hw13 hH
    obtain rfl : gr = gr13 := (hw13.2.1).symm
    have hM := hM.tr hw13.1 (fun _ h => h) (th_sub rfl)
    have e14 : wt0 = gi13 h0 8 := Eq.trans ewt0 (Eq.symm (hw13.1 h0 8 (th_nzE t_h0 rfl) (th_nmE (key := 1108) t_h0 rfl rfl)).1)
    exact W.iret (v := x13) hx hb hr (fun t ht hW => ⟨⟨x13, (gi13, gr), rfl, ⟨hM, rfl, (hF.trans (by simp only [↓reduceIte, F_X11_rate, ← ewt0, hw2.2.2.1, eq_true c3, hw13.2.2.1])), (se_no (fun h8 => (hw2.2.2.2 c3) (rg_iw (by decide) (by decide) h8)) (hw13.2.2.2.trans (by decide)) (e14.symm.trans ((rfl).trans ewt0)))⟩, th_Ht ht hH⟩, hS.F ht⟩) hS.2.2 dX11_rate_15

noncomputable def f_X11_dues_54 (τ : th_t) (Z : th_Zt) (gi : th_i) (gr : th_r) (h0 : Nat) (y4_1 : Int32) (y4_2 : Int32) (k_4 : Int32 → Int32 → Int32) (y54_1 : Int32) : Int32 :=
  let x1 : Int32 := y4_2 + 1
  k_4 y54_1 x1
noncomputable def f_X11_dues_4 (τ : th_t) (Z : th_Zt) (gi : th_i) (gr : th_r) (h0 : Nat) : Nat → Int32 → Int32 → Int32
  | 0, y4_1, y4_2 => 0
  | n4 + 1, y4_1, y4_2 =>
    let q2 : Nat := (gr h0 0).getD 0
    let x3 : Int32 := gi q2 6
    if x3 ≤ y4_2 then (
      y4_1) else (
      let r9 : Option Nat := F_X0_boatAt τ Z gi gr q2 y4_2
      Option.elim r9 (
        f_X11_dues_54 τ Z gi gr h0 y4_1 y4_2 (f_X11_dues_4 τ Z gi gr h0 n4) y4_1) (fun q10 =>
        let q12 : Nat := (gr q2 4).getD 0
        let x14 : Int32 := F_X1_buoyOf τ Z gi gr q12 y4_2
        if x14 = ((-1) : Int32) then (
          f_X11_dues_54 τ Z gi gr h0 y4_1 y4_2 (f_X11_dues_4 τ Z gi gr h0 n4) y4_1) else (
          let x17 : Int32 := gi h0 8
          let x19 : Int32 := FV_fee τ Z gi gr q10 x17
          let x20 : Int32 := y4_1 + x19
          f_X11_dues_54 τ Z gi gr h0 y4_1 y4_2 (f_X11_dues_4 τ Z gi gr h0 n4) x20)))
noncomputable def F_X11_dues (τ : th_t) (Z : th_Zt) (gi : th_i) (gr : th_r) (h0 : Nat) : Int32 :=
  f_X11_dues_4 τ Z gi gr h0 ((16 - (0 : Int32).toInt).toNat + 1) 0 0
set_option maxHeartbeats 8000000 in
set_option maxRecDepth 100000 in
theorem k_X11_dues (l : Launch) (D : va_G) (cA : Nat → ClassId) (Z : th_Zt) (τ : th_t) (gi : th_i) (gr : th_r) (sz : Nat) (h0 : Nat) (t_h0 : τ h0 = 11) : Met l yX11_dues wsX11_dues ({ frames := 2, cells := 0, slots := 0, locals := 43 }) (va_Pc [.ref h0] (th_Pre D cA Z τ gi gr sz)) (va_Qi (fun (r : Int32) (_ : Unit) => (F_X11_dues τ Z gi gr h0 = r)) (fun (_ : Unit) t => th_H D cA τ gi gr t.heap) (th_A τ sz)) 0 0 (th_A τ sz) := by
  refine Met.ofW (cc := cX11_dues) (maxL := 4) (ret := (some .int)) (by decide) rfl ?_
  intro p e s m args below meth c s₁ B hml hv
  obtain ⟨rfl, hsz, hH, hK, hN, hZ⟩ := hv
  have hx := B.exec
  have hb := B.bytes
  have hr := B.returns
  have hts := atoms_spec (ws := wsX11_dues) B.pre
  have hown : s.vm.findClass RX11 = some m.cls := findClass_of_methodNamed B.named
  have hlocks := B.notSynchronized
  subst hsz
  have J4 : ∀ (n4 : Nat) (H : Heap) (locs : List Loc) (ls : Array Slot) (y4_1 : Int32) (y4_2 : Int32), (16 - y4_2.toInt).toNat < n4 → th_H D cA τ gi gr H → va_S (th_A τ s.heap.size) s.heap H locs → lv_has ls 4 [(0, .ref h0), (1, .int y4_1), (2, .int y4_2)] → rg 0 16 y4_2 → F_X11_dues τ Z gi gr h0 = f_X11_dues_4 τ Z gi gr h0 n4 y4_1 y4_2 → W p l e (headSpec wsX11_dues ({ frames := 2, cells := 0, slots := 0, locals := 43 })).room s m [.ref h0].toArray below meth c H locs 0 0 (MQ below (va_Qi (fun (r : Int32) (_ : Unit) => (F_X11_dues τ Z gi gr h0 = r)) (fun (_ : Unit) t => th_H D cA τ gi gr t.heap) (th_A τ s.heap.size)) [.ref h0].toArray s 0 0 (th_A τ s.heap.size)) (F0 m 4 ls []) := by
    intro n4
    induction n4 with
    | zero =>
      intro H locs ls y4_1 y4_2 hn
      exact absurd hn (Nat.not_lt_zero _)
    | succ n4 ih4 =>
      intro H locs ls y4_1 y4_2 hn4 hH hS hl fy4_2 hF
      have J54 : ∀ (H : Heap) (locs : List Loc) (ls : Array Slot) (y54_1 : Int32), th_H D cA τ gi gr H → va_S (th_A τ s.heap.size) s.heap H locs → lv_has ls 4 [(0, .ref h0), (1, .int y54_1), (2, .int y4_2)] → rg 0 15 y4_2 → F_X11_dues τ Z gi gr h0 = f_X11_dues_54 τ Z gi gr h0 y4_1 y4_2 (f_X11_dues_4 τ Z gi gr h0 n4) y54_1 → W p l e (headSpec wsX11_dues ({ frames := 2, cells := 0, slots := 0, locals := 43 })).room s m [.ref h0].toArray below meth c H locs 0 0 (MQ below (va_Qi (fun (r : Int32) (_ : Unit) => (F_X11_dues τ Z gi gr h0 = r)) (fun (_ : Unit) t => th_H D cA τ gi gr t.heap) (th_A τ s.heap.size)) [.ref h0].toArray s 0 0 (th_A τ s.heap.size)) (F0 m 54 ls []) := by
        intro H locs ls y54_1 hH hS hl fy54_2 hF
        obtain ⟨x1, e1⟩ : ∃ y : Int32, y = y4_2 + 1 := ⟨_, rfl⟩
        have f1 : rg 1 16 x1 := rg_e e1 (rg_w (rg_add fy54_2 rgc_1 (th_leI rfl) (th_leI rfl)) (th_leI rfl) (th_leI rfl))
        refine lv_iinc (v := x1) (lv' := [(2, .int x1), (0, .ref h0), (1, .int y54_1)]) hx hb dX11_dues_54 hl (k := 2) rfl (by rw [e1]; rfl) (th_ltN rfl) rfl (fun ls hl => ?_)
        refine lv_goto (tgt := 4) hx hb dX11_dues_57 (th_eqI rfl) ?_
        exact ih4 _ _ _ y54_1 x1 (th_up (rg_dA e1 fy54_2 rgc_1 (th_leI rfl) (th_leI rfl)) fy54_2 hn4 (th_ltI rfl)) hH hS (lv_sub hl [1, 2, 0] rfl) (rg_w f1 (th_leI rfl) (th_leI rfl)) (hF.trans (by simp only [f_X11_dues_54, ← e1]))
      refine lv_iload_n hx hb dX11_dues_4 rfl (lv_at hl 2 rfl) ?_
      refine lv_aload_n hx hb dX11_dues_5 rfl (lv_at hl 0 rfl) ?_
      obtain ⟨q2, r2, t2⟩ : ∃ q, gr h0 0 = some q ∧ τ q = 1 := (thI_11 hH t_h0).1
      refine th_get (ci := 10) (v := .ref q2) (T := TX11) (C := RX11) (N := 10) hx hb hts (fun w h => List.mem_cons_of_mem _ (List.mem_append_left _ (List.mem_append_left _ (List.mem_append_left _ (List.mem_append_left _ (List.mem_append_left _ (List.mem_append_right _ h))))))) hown hK hH t_h0 (th_nz rfl) (thE_11 _ _ _) rfl 0 (th_ltN rfl) (hts (.fieldLink RX11 10 "BayMoorings" "bay" "LBayMoorings$Bay;") (List.mem_cons_of_mem _ (List.mem_append_left _ (List.mem_append_left _ (List.mem_append_left _ (List.mem_append_left _ (List.mem_append_left _ (List.mem_append_left _ (List.mem_append_left _ (List.mem_of_getElem? (i := 0) rfl)))))))))) (fun _ h9 => h9) (th_fR r2 rfl) dX11_dues_6 ?_
      obtain ⟨x3, e3⟩ : ∃ y : Int32, y = gi q2 6 := ⟨_, rfl⟩
      refine th_get (ci := 0) (v := .int x3) (T := TX0) (C := RX0) (N := 9) hx hb hts (fun w h => List.mem_cons_of_mem _ (List.mem_append_left _ (List.mem_append_left _ (List.mem_append_left _ (List.mem_append_left _ (List.mem_append_right _ h)))))) hown hK hH t2 (th_nz rfl) (thE_1 _ _ _) rfl 6 (th_ltN rfl) (hts (.fieldLink RX11 83 "BayMoorings$Bay" "boatCount" "I") (List.mem_cons_of_mem _ (List.mem_append_left _ (List.mem_append_left _ (List.mem_append_left _ (List.mem_append_left _ (List.mem_append_left _ (List.mem_append_left _ (List.mem_append_left _ (List.mem_of_getElem? (i := 1) rfl)))))))))) (fun _ h9 => h9) (th_fI e3 rfl) dX11_dues_9 ?_
      have f3 : rg 0 16 x3 := rg_e e3 ((thI_1 hH t2).2.2.2.2.2.2)
      refine lv_icmp_ge (tgt := 60) hx hb dX11_dues_12 (th_eqI rfl) (fun c4 => ?_) (fun c4 => ?_)
      · skip
        refine lv_iload_n hx hb dX11_dues_60 rfl (lv_at hl 1 rfl) ?_
        exact W.iret (v := y4_1) hx hb hr (fun t ht hW => ⟨⟨y4_1, (), rfl, (hF.trans (by simp only [↓reduceIte, f_X11_dues_4, r2, Option.getD_some, ← e3, eq_true c4])), th_Ht ht hH⟩, hS.F ht⟩) hS.2.2 dX11_dues_61
      · skip
        have f5 : rg 1 16 x3 := rg_w (rg_nle f3 fy4_2 c4).1 (th_leI rfl) (th_leI rfl)
        have f6 : rg 0 15 y4_2 := rg_w (rg_nle f3 fy4_2 c4).2 (th_leI rfl) (th_leI rfl)
        refine lv_aload_n hx hb dX11_dues_15 rfl (lv_at hl 0 rfl) ?_
        refine th_get (ci := 10) (v := .ref q2) (T := TX11) (C := RX11) (N := 10) hx hb hts (fun w h => List.mem_cons_of_mem _ (List.mem_append_left _ (List.mem_append_left _ (List.mem_append_left _ (List.mem_append_left _ (List.mem_append_left _ (List.mem_append_right _ h))))))) hown hK hH t_h0 (th_nz rfl) (thE_11 _ _ _) rfl 0 (th_ltN rfl) (hts (.fieldLink RX11 10 "BayMoorings" "bay" "LBayMoorings$Bay;") (List.mem_cons_of_mem _ (List.mem_append_left _ (List.mem_append_left _ (List.mem_append_left _ (List.mem_append_left _ (List.mem_append_left _ (List.mem_append_left _ (List.mem_append_left _ (List.mem_of_getElem? (i := 0) rfl)))))))))) (fun _ h9 => h9) (th_fR r2 rfl) dX11_dues_16 ?_
        refine lv_iload_n hx hb dX11_dues_19 rfl (lv_at hl 2 rfl) ?_
        have hA8 := th_Asub (τ := τ) hS
        refine va_callq (va_runV (As := [.int y4_2]) (rest := []) ⟨hx, hb, hml, hown, hts⟩ (k_X0_boatAt l D cA Z τ gi gr _ q2 t2 y4_2) (cwV 1 hts gX11_dues_X0_boatAt rfl rfl rfl hd_X0_boatAt__1 ⟨Nat.le_of_ble_eq_true rfl, Nat.le_of_ble_eq_true rfl⟩) ⟨th_blind, tr_1 hK hH t2, (th_pre hH hK hN hZ hS hA8)⟩ rfl rfl hl.1 rfl (lv_room (Nat.le_of_ble_eq_true rfl)) dX11_dues_20 ⟨Nat.le_of_ble_eq_true rfl, Nat.le_of_ble_eq_true rfl⟩) hS (fun q _ h => hA8 q h) hA8 (fun r9 u t H locs ht hvm hw9 hB hz1 hk1 hS => ?_)
        try dsimp only at hw9 hB
        rw [ht] at hB
        have hH := hB
        refine th_astoreq_n (i := 3) (lv' := [(3, va_rf r9), (0, .ref h0), (1, .int y4_1), (2, .int y4_2)]) hx hb dX11_dues_23 rfl hl (th_ltN rfl) rfl (fun ls hl => ?_)
        refine th_aloadq_n hx hb dX11_dues_24 rfl (lv_at hl 0 rfl) ?_
        refine th_ifnull (tgt := 54) hx hb dX11_dues_25 (th_eqI rfl) (fun z10 => ?_) (fun q10 z10 => ?_)
        · skip
          subst z10
          have hl : lv_has ls 4 [(3, .null), (0, .ref h0), (1, .int y4_1), (2, .int y4_2)] := hl
          exact J54 _ _ _ y4_1 hH hS (lv_sub hl [1, 2, 3] rfl) f6 (hF.trans (by simp only [↓reduceIte, f_X11_dues_4, r2, Option.getD_some, ← e3, eq_false c4, hw9.2, Option.elim_none]))
        · skip
          subst z10
          have t10 := hw9.1 q10 rfl
          have hl : lv_has ls 4 [(3, .ref q10), (0, .ref h0), (1, .int y4_1), (2, .int y4_2)] := hl
          refine lv_aload_n hx hb dX11_dues_28 rfl (lv_at hl 1 rfl) ?_
          refine th_get (ci := 10) (v := .ref q2) (T := TX11) (C := RX11) (N := 10) hx hb hts (fun w h => List.mem_cons_of_mem _ (List.mem_append_left _ (List.mem_append_left _ (List.mem_append_left _ (List.mem_append_left _ (List.mem_append_left _ (List.mem_append_right _ h))))))) hown hK hH t_h0 (th_nz rfl) (thE_11 _ _ _) rfl 0 (th_ltN rfl) (hts (.fieldLink RX11 10 "BayMoorings" "bay" "LBayMoorings$Bay;") (List.mem_cons_of_mem _ (List.mem_append_left _ (List.mem_append_left _ (List.mem_append_left _ (List.mem_append_left _ (List.mem_append_left _ (List.mem_append_left _ (List.mem_append_left _ (List.mem_of_getElem? (i := 0) rfl)))))))))) (fun _ h9 => h9) (th_fR r2 rfl) dX11_dues_29 ?_
          obtain ⟨q12, r12, t12⟩ : ∃ q, gr q2 4 = some q ∧ τ q = 2 := (thI_1 hH t2).2.2.2.2.1
          refine th_get (ci := 0) (v := .ref q12) (T := TX0) (C := RX0) (N := 9) hx hb hts (fun w h => List.mem_cons_of_mem _ (List.mem_append_left _ (List.mem_append_left _ (List.mem_append_left _ (List.mem_append_left _ (List.mem_append_right _ h)))))) hown hK hH t2 (th_nz rfl) (thE_1 _ _ _) rfl 4 (th_ltN rfl) (hts (.fieldLink RX11 125 "BayMoorings$Bay" "berths" "LBayMoorings$Berths;") (List.mem_cons_of_mem _ (List.mem_append_left _ (List.mem_append_left _ (List.mem_append_left _ (List.mem_append_left _ (List.mem_append_left _ (List.mem_append_left _ (List.mem_append_left _ (List.mem_of_getElem? (i := 2) rfl)))))))))) (fun _ h9 => h9) (th_fR r12 rfl) dX11_dues_32 ?_
          refine lv_iload_n hx hb dX11_dues_35 rfl (lv_at hl 3 rfl) ?_
          have hA13 := th_Asub (τ := τ) hS
          refine va_calli (va_runV (As := [.int y4_2]) (rest := []) ⟨hx, hb, hml, hown, hts⟩ (k_X1_buoyOf l D cA Z τ gi gr _ q12 t12 y4_2) (cwV 1 hts gX11_dues_X1_buoyOf rfl rfl rfl hd_X1_buoyOf__1 ⟨Nat.le_of_ble_eq_true rfl, Nat.le_of_ble_eq_true rfl⟩) ⟨th_blind, tr_2 hK hH t12, (th_pre hH hK hN hZ hS hA13)⟩ rfl rfl hl.1 rfl (lv_room (Nat.le_of_ble_eq_true rfl)) dX11_dues_36 ⟨Nat.le_of_ble_eq_true rfl, Nat.le_of_ble_eq_true rfl⟩) hS (fun q _ h => hA13 q h) hA13 (fun x14 u t H locs ht hvm hw14 hB hz1 hk1 hS => ?_)
          try dsimp only at hw14 hB
          rw [ht] at hB
          have hH := hB
          refine lv_iconst (v := (-1)) hx hb dX11_dues_39 ic_m1 ?_
          refine lv_icmp_eq (tgt := 54) hx hb dX11_dues_40 (th_eqI rfl) (fun c15 => ?_) (fun c15 => ?_)
          · skip
            have f16 : rg (-1) (-1) x14 := rg_w (rg_eq (rg_any x14) rgc_m1 c15).1 (th_leI rfl) (th_leI rfl)
            exact J54 _ _ _ y4_1 hH hS (lv_sub hl [1, 2, 3] rfl) f6 (hF.trans (by simp only [↓reduceIte, f_X11_dues_4, r2, Option.getD_some, ← e3, eq_false c4, hw9.2, Option.elim_some, r12, hw14, eq_true c15]))
          · skip
            refine lv_iload_n hx hb dX11_dues_43 rfl (lv_at hl 2 rfl) ?_
            refine lv_aload_n hx hb dX11_dues_44 rfl (lv_at hl 0 rfl) ?_
            refine lv_aload_n hx hb dX11_dues_45 rfl (lv_at hl 1 rfl) ?_
            obtain ⟨x17, e17⟩ : ∃ y : Int32, y = gi h0 8 := ⟨_, rfl⟩
            refine th_get (ci := 10) (v := .int x17) (T := TX11) (C := RX11) (N := 10) hx hb hts (fun w h => List.mem_cons_of_mem _ (List.mem_append_left _ (List.mem_append_left _ (List.mem_append_left _ (List.mem_append_left _ (List.mem_append_left _ (List.mem_append_right _ h))))))) hown hK hH t_h0 (th_nz rfl) (thE_11 _ _ _) rfl 8 (th_ltN rfl) (hts (.fieldLink RX11 57 "BayMoorings" "rateNow" "I") (List.mem_cons_of_mem _ (List.mem_append_left _ (List.mem_append_left _ (List.mem_append_left _ (List.mem_append_left _ (List.mem_append_left _ (List.mem_append_left _ (List.mem_append_left _ (List.mem_of_getElem? (i := 3) rfl)))))))))) (fun _ h9 => h9) (th_fI e17 rfl) dX11_dues_46 ?_
            have hA18 := th_Asub (τ := τ) hS
            refine va_calli (th_or3 t10 (fun t9 => th_runi (post' := (fun (r : Int32) (_ : Unit) => (FV_fee τ Z gi gr q10 x17 = r))) (va_runU (As := [.int x17]) (rest := [.int y4_1]) ⟨hx, hb, hml, hown, hts⟩ (k_X2_fee l D cA Z τ gi gr _ q10 (Or.inl t9) x17) (va_cwU 1 hts gX11_dues_X2_fee_u99X8 rfl rfl rfl rfl (by decide +kernel) ⟨Nat.le_of_ble_eq_true rfl, Nat.le_of_ble_eq_true rfl⟩) ⟨th_blind, tr_8 hK hH t9, (th_pre hH hK hN hZ hS hA18)⟩ rfl rfl hl.1 rfl (lv_room (Nat.le_of_ble_eq_true rfl)) dX11_dues_49 ⟨Nat.le_of_ble_eq_true rfl, Nat.le_of_ble_eq_true rfl⟩) (fun _ _ h9 => ((FV_fee_8 t9).trans h9))) (fun t9 => th_runi (post' := (fun (r : Int32) (_ : Unit) => (FV_fee τ Z gi gr q10 x17 = r))) (va_runU (As := [.int x17]) (rest := [.int y4_1]) ⟨hx, hb, hml, hown, hts⟩ (k_X9_fee l D cA Z τ gi gr _ q10 t9 x17) (va_cwO 1 hts gX11_dues_X9_fee_u99X9 rfl rfl rfl (show Cond.code yX2_fee cX2_fee 2 (some .int) ∈ wsX11_dues from (List.mem_cons_of_mem _ (List.mem_append_left _ (List.mem_append_left _ (List.mem_append_left _ (List.mem_append_left _ (List.mem_append_left _ (List.mem_append_left _ (List.mem_append_right _ (List.mem_of_getElem? (i := 1) rfl)))))))))) (by decide +kernel) ⟨Nat.le_of_ble_eq_true rfl, Nat.le_of_ble_eq_true rfl⟩) ⟨th_blind, tr_9 hK hH t9, (th_pre hH hK hN hZ hS hA18)⟩ rfl rfl hl.1 rfl (lv_room (Nat.le_of_ble_eq_true rfl)) dX11_dues_49 ⟨Nat.le_of_ble_eq_true rfl, Nat.le_of_ble_eq_true rfl⟩) (fun _ _ h9 => ((FV_fee_9 t9).trans h9))) (fun t9 => th_runi (post' := (fun (r : Int32) (_ : Unit) => (FV_fee τ Z gi gr q10 x17 = r))) (va_runU (As := [.int x17]) (rest := [.int y4_1]) ⟨hx, hb, hml, hown, hts⟩ (k_X2_fee l D cA Z τ gi gr _ q10 (Or.inr (Or.inr t9)) x17) (va_cwU 1 hts gX11_dues_X2_fee_u99X4 rfl rfl rfl rfl (by decide +kernel) ⟨Nat.le_of_ble_eq_true rfl, Nat.le_of_ble_eq_true rfl⟩) ⟨th_blind, tr_4 hK hH t9, (th_pre hH hK hN hZ hS hA18)⟩ rfl rfl hl.1 rfl (lv_room (Nat.le_of_ble_eq_true rfl)) dX11_dues_49 ⟨Nat.le_of_ble_eq_true rfl, Nat.le_of_ble_eq_true rfl⟩) (fun _ _ h9 => ((FV_fee_4 t9).trans h9)))) hS (fun q _ h => hA18 q h) hA18 (fun x19 u t H locs ht hvm hw19 hB hz1 hk1 hS => ?_)
            try dsimp only at hw19 hB
            rw [ht] at hB
            have hH := hB
            refine lv_iadd hx hb dX11_dues_52 ?_
            refine lv_topi (fun x20 e20 => ?_)
            refine lv_istore_n (i := 1) (lv' := [(1, .int x20), (3, .ref q10), (0, .ref h0), (2, .int y4_2)]) hx hb dX11_dues_53 rfl hl (th_ltN rfl) rfl (fun ls hl => ?_)
            exact J54 _ _ _ x20 hH hS (lv_sub hl [2, 0, 3] rfl) f6 (hF.trans (by simp only [↓reduceIte, f_X11_dues_4, r2, Option.getD_some, ← e3, eq_false c4, hw9.2, Option.elim_some, r12, hw14, eq_false c15, ← e17, hw19, ← e20]))
  have hS : va_S (th_A τ s.heap.size) s.heap s.heap [] := va_S.rf
  have hl := lv_entry ([.ref h0]) (n := 4) (Nat.le_of_ble_eq_true rfl)
  rw [lg_entry_eq]
  generalize (lg_sl ([.ref h0]) ++ List.replicate (4 - (lg_sl ([.ref h0])).length) Slot.unset).toArray = ls at hl ⊢
  have hl : lv_has ls 4 [(0, .ref h0)] := hl
  have hF : F_X11_dues τ Z gi gr h0 = F_X11_dues τ Z gi gr h0 := rfl
  refine lv_iconst (v := 0) hx hb dX11_dues_0 ic_0 ?_
  refine lv_istore_n (i := 1) (lv' := [(1, .int 0), (0, .ref h0)]) hx hb dX11_dues_1 rfl hl (th_ltN rfl) rfl (fun ls hl => ?_)
  refine lv_iconst (v := 0) hx hb dX11_dues_2 ic_0 ?_
  refine lv_istore_n (i := 2) (lv' := [(2, .int 0), (1, .int 0), (0, .ref h0)]) hx hb dX11_dues_3 rfl hl (th_ltN rfl) rfl (fun ls hl => ?_)
  exact J4 _ _ _ _ 0 0 (Nat.lt_add_one _) hH hS (lv_sub hl [2, 1, 0] rfl) (rg_w rgc_0 (th_leI rfl) (th_leI rfl)) (hF.trans (by simp only [F_X11_dues]))

noncomputable def F_X11_tell (τ : th_t) (Z : th_Zt) (gi : th_i) (gr : th_r) (h0 : Nat) (p1 : Int32) : Int32 × th_i :=
  let x1 : Int32 := gi h0 7
  if x1 < (24 : Int32) then (
    let q4 : Nat := (gr h0 6).getD 0
    let gi6 : th_i := va_up gi q4 (upd (gi q4) x1.toNatClampNeg p1)
    let x9 : Int32 := x1 + 1
    let gi10 : th_i := va_up gi6 h0 (upd (gi6 h0) 7 x9)
    (x9, gi10)) else (
    let u16 : Int32 × th_i := F_X11_finding τ Z gi gr h0 4
    let x16 : Int32 := u16.1
    let gi16 : th_i := u16.2
    (x16, gi16))
set_option maxHeartbeats 8000000 in
set_option maxRecDepth 100000 in
theorem k_X11_tell (l : Launch) (D : va_G) (cA : Nat → ClassId) (Z : th_Zt) (τ : th_t) (gi : th_i) (gr : th_r) (sz : Nat) (h0 : Nat) (t_h0 : τ h0 = 11) (p1 : Int32) : Met l yX11_tell wsX11_tell ({ frames := 2, cells := 0, slots := 0, locals := 43 }) (va_Pc [.ref h0, .int p1] (th_Pre D cA Z τ gi gr sz)) (va_Qi (fun (r : Int32) (u : th_i × th_r) => th_Mod [1107, 3600, 3700] τ gi gr u.1 u.2 ∧ u.2 = gr ∧ (F_X11_tell τ Z gi gr h0 p1 = (r, u.1))) (fun (u : th_i × th_r) t => th_H D cA τ u.1 u.2 t.heap) (th_A τ sz)) 0 0 (th_A τ sz) := by
  refine Met.ofW (cc := cX11_tell) (maxL := 2) (ret := (some .int)) (by decide) rfl ?_
  intro p e s m args below meth c s₁ B hml hv
  obtain ⟨rfl, hsz, hH, hK, hN, hZ⟩ := hv
  have hx := B.exec
  have hb := B.bytes
  have hr := B.returns
  have hts := atoms_spec (ws := wsX11_tell) B.pre
  have hown : s.vm.findClass RX11 = some m.cls := findClass_of_methodNamed B.named
  have hlocks := B.notSynchronized
  subst hsz
  have hM : th_Mod [1107, 3600, 3700] τ gi gr gi gr := th_Mod.rf
  have hS : va_S (th_A τ s.heap.size) s.heap s.heap [] := va_S.rf
  have hl := lv_entry ([.ref h0, .int p1]) (n := 2) (Nat.le_of_ble_eq_true rfl)
  rw [lg_entry_eq]
  generalize (lg_sl ([.ref h0, .int p1]) ++ List.replicate (2 - (lg_sl ([.ref h0, .int p1])).length) Slot.unset).toArray = ls at hl ⊢
  have hl : lv_has ls 2 [(0, .ref h0), (1, .int p1)] := hl
  have hF : F_X11_tell τ Z gi gr h0 p1 = F_X11_tell τ Z gi gr h0 p1 := rfl
  refine lv_aload_n hx hb dX11_tell_0 rfl (lv_at hl 0 rfl) ?_
  obtain ⟨x1, e1⟩ : ∃ y : Int32, y = gi h0 7 := ⟨_, rfl⟩
  refine th_get (ci := 10) (v := .int x1) (T := TX11) (C := RX11) (N := 10) hx hb hts (fun w h => List.mem_cons_of_mem _ (List.mem_append_right _ h)) hown hK hH t_h0 (th_nz rfl) (thE_11 _ _ _) rfl 7 (th_ltN rfl) (hts (.fieldLink RX11 53 "BayMoorings" "numberCount" "I") (List.mem_cons_of_mem _ (List.mem_append_left _ (List.mem_of_getElem? (i := 0) rfl)))) (fun _ h9 => h9) (th_fI e1 rfl) dX11_tell_1 ?_
  have f1 : rg 0 24 x1 := rg_e e1 ((thI_11 hH t_h0).2.2.2.2.2.2.2.1)
  refine lv_bipush (v := 24) hx hb dX11_tell_4 bp_24 ?_
  refine lv_icmp_lt (tgt := 15) hx hb dX11_tell_6 (th_eqI rfl) (fun c2 => ?_) (fun c2 => ?_)
  · skip
    have f3 : rg 0 23 x1 := rg_w (rg_lt f1 rgc_24 c2).1 (th_leI rfl) (th_leI rfl)
    refine lv_aload_n hx hb dX11_tell_15 rfl (lv_at hl 0 rfl) ?_
    obtain ⟨q4, r4, t4⟩ : ∃ q, gr h0 6 = some q ∧ τ q = 37 := (thI_11 hH t_h0).2.2.2.2.2.2.1
    refine th_get (ci := 10) (v := .ref q4) (T := TX11) (C := RX11) (N := 10) hx hb hts (fun w h => List.mem_cons_of_mem _ (List.mem_append_right _ h)) hown hK hH t_h0 (th_nz rfl) (thE_11 _ _ _) rfl 6 (th_ltN rfl) (hts (.fieldLink RX11 50 "BayMoorings" "numbers" "[I") (List.mem_cons_of_mem _ (List.mem_append_left _ (List.mem_of_getElem? (i := 1) rfl)))) (fun _ h9 => h9) (th_fR r4 rfl) dX11_tell_16 ?_
    refine lv_aload_n hx hb dX11_tell_19 rfl (lv_at hl 0 rfl) ?_
    refine th_get (ci := 10) (v := .int x1) (T := TX11) (C := RX11) (N := 10) hx hb hts (fun w h => List.mem_cons_of_mem _ (List.mem_append_right _ h)) hown hK hH t_h0 (th_nz rfl) (thE_11 _ _ _) rfl 7 (th_ltN rfl) (hts (.fieldLink RX11 53 "BayMoorings" "numberCount" "I") (List.mem_cons_of_mem _ (List.mem_append_left _ (List.mem_of_getElem? (i := 0) rfl)))) (fun _ h9 => h9) (th_fI e1 rfl) dX11_tell_20 ?_
    refine lv_iload_n hx hb dX11_tell_23 rfl (lv_at hl 1 rfl) ?_
    refine th_iast hx hb hK hH hS t4 (th_nz rfl) (Or.inl (th_nzE t4 rfl)) 0 (fun _ => thE_37 _ _ _) rfl (rg_in (n := 24) f3 (th_leI rfl) (th_ltI rfl)) (trivial) dX11_tell_24 (fun gi6 H locs hu6 ho6 hH hS => ?_)
    have eg6 : gi6 = va_up gi q4 (upd (gi q4) x1.toNatClampNeg p1) := th_upE hu6 ho6
    have e7 : x1 = gi6 h0 7 := Eq.trans e1 (Eq.symm (ho6 _ _ (Or.inl (th_ne t_h0 t4 (th_nz rfl)))))
    have hM := hM.i t4 (th_mem (a := 3700) rfl) ho6
    refine lv_aload_n hx hb dX11_tell_25 rfl (lv_at hl 0 rfl) ?_
    refine lv_dup hx hb dX11_tell_26 rfl ?_
    refine th_get (ci := 10) (v := .int x1) (T := TX11) (C := RX11) (N := 10) hx hb hts (fun w h => List.mem_cons_of_mem _ (List.mem_append_right _ h)) hown hK hH t_h0 (th_nz rfl) (thE_11 _ _ _) rfl 7 (th_ltN rfl) (hts (.fieldLink RX11 53 "BayMoorings" "numberCount" "I") (List.mem_cons_of_mem _ (List.mem_append_left _ (List.mem_of_getElem? (i := 0) rfl)))) (fun _ h9 => h9) (th_fI e7 rfl) dX11_tell_27 ?_
    refine lv_iconst (v := 1) hx hb dX11_tell_30 ic_1 ?_
    refine lv_iadd hx hb dX11_tell_31 ?_
    refine lv_topi (fun x9 e9 => ?_)
    have f9 : rg 1 24 x9 := rg_e e9 (rg_w (rg_add f3 rgc_1 (th_leI rfl) (th_leI rfl)) (th_leI rfl) (th_leI rfl))
    refine th_put (ci := 10) (v := .int x9) (T := TX11) (C := RX11) (N := 10) (ty := .int) (gi' := va_up gi6 h0 (upd (gi6 h0) 7 x9)) (gr' := gr) hx hb hts (fun w h => List.mem_cons_of_mem _ (List.mem_append_right _ h)) tyX11 tyX11_ok nmX11 hown hK hH hS t_h0 (th_nz rfl) (Or.inl (th_nzE t_h0 rfl)) rfl rfl 7 (th_ltN rfl) (hts (.fieldLink RX11 53 "BayMoorings" "numberCount" "I") (List.mem_cons_of_mem _ (List.mem_append_left _ (List.mem_of_getElem? (i := 0) rfl)))) (fun _ h9 => h9) rfl (by decide +kernel) rfl rfl (Nat.le_of_ble_eq_true rfl) (by rw [va_up_self]; rfl) (by rw [va_up_self]; show (∃ q, gr h0 0 = some q ∧ τ q = 1) ∧ (∃ q, gr h0 1 = some q ∧ τ q = 10) ∧ (∃ q, gr h0 2 = some q ∧ τ q = 7) ∧ (∃ q, gr h0 3 = some q ∧ τ q = 6) ∧ (∃ q, gr h0 4 = some q ∧ τ q = 5) ∧ (∃ q, gr h0 5 = some q ∧ τ q = 36) ∧ (∃ q, gr h0 6 = some q ∧ τ q = 37) ∧ rg 0 24 x9 ∧ rg 0 1 (gi6 h0 9); exact ⟨(thI_11 hH t_h0).1, (thI_11 hH t_h0).2.1, (thI_11 hH t_h0).2.2.1, (thI_11 hH t_h0).2.2.2.1, (thI_11 hH t_h0).2.2.2.2.1, (thI_11 hH t_h0).2.2.2.2.2.1, (thI_11 hH t_h0).2.2.2.2.2.2.1, (rg_w f9 (th_leI rfl) (th_leI rfl)), (thI_11 hH t_h0).2.2.2.2.2.2.2.2⟩) (fun b hb => ⟨va_up_ne _ _ hb, rfl⟩) dX11_tell_32 (fun H locs hH hS => ?_)
    obtain ⟨gi10, eg10⟩ : ∃ g, g = va_up gi6 h0 (upd (gi6 h0) 7 x9) := ⟨_, rfl⟩
    rw [← eg10] at hH
    have hu10 : gi10 h0 7 = x9 := (th_uI eg10).1
    have ho10 : ∀ b j, b ≠ h0 ∨ j ≠ 7 → gi10 b j = gi6 b j := (th_uI eg10).2
    have e12 : p1 = gi10 q4 (x1.toNatClampNeg) := Eq.trans hu6.symm (Eq.symm (ho10 _ _ (Or.inl (th_ne t4 t_h0 (th_nz rfl)))))
    have hM := hM.i t_h0 (th_mem (a := 1107) rfl) ho10
    refine lv_aload_n hx hb dX11_tell_35 rfl (lv_at hl 0 rfl) ?_
    refine th_get (ci := 10) (v := .int x9) (T := TX11) (C := RX11) (N := 10) hx hb hts (fun w h => List.mem_cons_of_mem _ (List.mem_append_right _ h)) hown hK hH t_h0 (th_nz rfl) (thE_11 _ _ _) rfl 7 (th_ltN rfl) (hts (.fieldLink RX11 53 "BayMoorings" "numberCount" "I") (List.mem_cons_of_mem _ (List.mem_append_left _ (List.mem_of_getElem? (i := 0) rfl)))) (fun _ h9 => h9) (th_fI hu10.symm rfl) dX11_tell_36 ?_
    exact W.iret (v := x9) hx hb hr (fun t ht hW => ⟨⟨x9, (gi10, gr), rfl, ⟨hM, rfl, (hF.trans (by simp only [↓reduceIte, F_X11_tell, ← e1, eq_true c2, r4, Option.getD_some, ← eg6, ← e9, ← eg10]))⟩, th_Ht ht hH⟩, hS.F ht⟩) hS.2.2 dX11_tell_39
  · skip
    have f14 : rg 24 24 x1 := rg_w (rg_nlt f1 rgc_24 c2).1 (th_leI rfl) (th_leI rfl)
    refine lv_aload_n hx hb dX11_tell_9 rfl (lv_at hl 0 rfl) ?_
    refine lv_iconst (v := 4) hx hb dX11_tell_10 ic_4 ?_
    have hA15 := th_Asub (τ := τ) hS
    refine va_calli (va_runV (As := [.int 4]) (rest := []) ⟨hx, hb, hml, hown, hts⟩ (k_X11_finding l D cA Z τ gi gr _ h0 t_h0 4) (cwV 1 hts gX11_tell_X11_finding rfl rfl rfl hd_X11_finding__1 ⟨Nat.le_of_ble_eq_true rfl, Nat.le_of_ble_eq_true rfl⟩) ⟨th_blind, tr_11 hK hH t_h0, (th_pre hH hK hN hZ hS hA15)⟩ rfl rfl hl.1 rfl (lv_room (Nat.le_of_ble_eq_true rfl)) dX11_tell_11 ⟨Nat.le_of_ble_eq_true rfl, Nat.le_of_ble_eq_true rfl⟩) hS (fun q _ h => hA15 q h) hA15 (fun x16 u t H locs ht hvm hw16 hB hz1 hk1 hS => ?_)
    try dsimp only at hw16 hB
    rw [ht] at hB
    have hH := hB
    obtain ⟨gi16, gr16⟩ := u
    try dsimp only at hw16 hH
    obtain rfl : gr = gr16 := (hw16.2.1).symm
    have hM := hM.tr hw16.1 (fun _ h => h) (th_sub rfl)
    have e17 : x1 = gi16 h0 7 := Eq.trans e1 (Eq.symm (hw16.1 h0 7 (th_nzE t_h0 rfl) (th_nmE (key := 1107) t_h0 rfl rfl)).1)
    exact W.iret (v := x16) hx hb hr (fun t ht hW => ⟨⟨x16, (gi16, gr), rfl, ⟨hM, rfl, (hF.trans (by simp only [↓reduceIte, F_X11_tell, ← e1, eq_false c2, hw16.2.2.1]))⟩, th_Ht ht hH⟩, hS.F ht⟩) hS.2.2 dX11_tell_14

noncomputable def f_X11_check_19 (τ : th_t) (Z : th_Zt) (gi : th_i) (gr : th_r) (h0 : Nat) : Nat → th_i → Int32 → Int32 → Int32 × th_i
  | 0, gi_19, y19_1, y19_2 => (0, gi_19)
  | n19 + 1, gi_19, y19_1, y19_2 =>
    let w19_0 : Int32 := gi_19 h0 7
    if y19_1 ≤ y19_2 then (
      (0, gi_19)) else (
      let q4 : Nat := (gr h0 0).getD 0
      let x5 : Int32 := gi_19 q4 6
      if x5 ≤ y19_2 then (
        let x7 : Int32 := 1 + y19_2
        (x7, gi_19)) else (
        let q10 : Nat := (gr h0 6).getD 0
        let x11 : Int32 := gi_19 q10 y19_2.toNatClampNeg
        let q12 : Nat := (gr h0 3).getD 0
        let x14 : Int32 := F_X6_buoyFor τ Z gi_19 gr q12 y19_2
        if x11 = x14 then (
          let x16 : Int32 := y19_2 + 1
          (f_X11_check_19 τ Z gi gr h0 n19) gi_19 y19_1 x16) else (
          let x17 : Int32 := 1 + y19_2
          (x17, gi_19))))
noncomputable def F_X11_check (τ : th_t) (Z : th_Zt) (gi : th_i) (gr : th_r) (h0 : Nat) : Int32 × th_i :=
  let x18 : Int32 := gi h0 7
  let gi19 : th_i := va_up gi h0 (upd (gi h0) 7 0)
  let q21 : Nat := (gr h0 3).getD 0
  let gi23 : th_i := F_X6_draw τ Z gi19 gr q21
  f_X11_check_19 τ Z gi gr h0 ((16 - (0 : Int32).toInt).toNat + 1) gi23 x18 0
set_option maxHeartbeats 8000000 in
set_option maxRecDepth 100000 in
theorem k_X11_check (l : Launch) (D : va_G) (cA : Nat → ClassId) (Z : th_Zt) (τ : th_t) (gi : th_i) (gr : th_r) (sz : Nat) (h0 : Nat) (t_h0 : τ h0 = 11) : Met l yX11_check wsX11_check ({ frames := 5, cells := 0, slots := 0, locals := 109 }) (va_Pc [.ref h0] (th_Pre D cA Z τ gi gr sz)) (va_Qi (fun (r : Int32) (u : th_i × th_r) => th_Mod [603, 1107, 2800, 2900] τ gi gr u.1 u.2 ∧ u.2 = gr ∧ (F_X11_check τ Z gi gr h0 = (r, u.1)) ∧ (u.1 h0 7 = 0)) (fun (u : th_i × th_r) t => th_H D cA τ u.1 u.2 t.heap) (th_A τ sz)) 0 0 (th_A τ sz) := by
  refine Met.ofW (cc := cX11_check) (maxL := 3) (ret := (some .int)) (by decide) rfl ?_
  intro p e s m args below meth c s₁ B hml hv
  obtain ⟨rfl, hsz, hH, hK, hN, hZ⟩ := hv
  have hx := B.exec
  have hb := B.bytes
  have hr := B.returns
  have hts := atoms_spec (ws := wsX11_check) B.pre
  have hown : s.vm.findClass RX11 = some m.cls := findClass_of_methodNamed B.named
  have hlocks := B.notSynchronized
  subst hsz
  have hM : th_Mod [603, 1107, 2800, 2900] τ gi gr gi gr := th_Mod.rf
  have J19 : ∀ (n19 : Nat) (gi_19 : th_i) (H : Heap) (locs : List Loc) (ls : Array Slot) (y19_1 : Int32) (y19_2 : Int32) (w19_0 : Int32), (16 - y19_2.toInt).toNat < n19 → th_H D cA τ gi_19 gr H → va_S (th_A τ s.heap.size) s.heap H locs → th_Mod [603, 1107, 2800, 2900] τ gi gr gi_19 gr → lv_has ls 3 [(0, .ref h0), (1, .int y19_1), (2, .int y19_2)] → rg 0 24 y19_1 → rg 0 16 y19_2 → w19_0 = gi_19 h0 7 → rg 0 0 w19_0 → F_X11_check τ Z gi gr h0 = f_X11_check_19 τ Z gi gr h0 n19 gi_19 y19_1 y19_2 → W p l e (headSpec wsX11_check ({ frames := 5, cells := 0, slots := 0, locals := 109 })).room s m [.ref h0].toArray below meth c H locs 0 0 (MQ below (va_Qi (fun (r : Int32) (u : th_i × th_r) => th_Mod [603, 1107, 2800, 2900] τ gi gr u.1 u.2 ∧ u.2 = gr ∧ (F_X11_check τ Z gi gr h0 = (r, u.1)) ∧ (u.1 h0 7 = 0)) (fun (u : th_i × th_r) t => th_H D cA τ u.1 u.2 t.heap) (th_A τ s.heap.size)) [.ref h0].toArray s 0 0 (th_A τ s.heap.size)) (F0 m 19 ls []) := by
    intro n19
    induction n19 with
    | zero =>
      intro gi_19 H locs ls y19_1 y19_2 w19_0 hn
      exact absurd hn (Nat.not_lt_zero _)
    | succ n19 ih19 =>
      intro gi_19 H locs ls y19_1 y19_2 w19_0 hn19 hH hS hM hl fy19_1 fy19_2 ew19_0 fw19_0 hF
      refine lv_iload_n hx hb dX11_check_19 rfl (lv_at hl 2 rfl) ?_
      refine lv_iload_n hx hb dX11_check_20 rfl (lv_at hl 1 rfl) ?_
      refine lv_icmp_ge (tgt := 62) hx hb dX11_check_21 (th_eqI rfl) (fun c1 => ?_) (fun c1 => ?_)
      · skip
        have f2 : rg 0 16 y19_1 := rg_w (rg_le fy19_1 fy19_2 c1).1 (th_leI rfl) (th_leI rfl)
        refine lv_iconst (v := 0) hx hb dX11_check_62 ic_0 ?_
        exact W.iret (v := 0) hx hb hr (fun t ht hW => ⟨⟨0, (gi_19, gr), rfl, ⟨hM, rfl, (hF.trans (by simp only [↓reduceIte, f_X11_check_19, ← ew19_0, eq_true c1])), (ew19_0.symm.trans (rg_one fw19_0 rgc_0))⟩, th_Ht ht hH⟩, hS.F ht⟩) hS.2.2 dX11_check_63
      · skip
        have f3 : rg 1 24 y19_1 := rg_w (rg_nle fy19_1 fy19_2 c1).1 (th_leI rfl) (th_leI rfl)
        refine lv_iload_n hx hb dX11_check_24 rfl (lv_at hl 2 rfl) ?_
        refine lv_aload_n hx hb dX11_check_25 rfl (lv_at hl 0 rfl) ?_
        obtain ⟨q4, r4, t4⟩ : ∃ q, gr h0 0 = some q ∧ τ q = 1 := (thI_11 hH t_h0).1
        refine th_get (ci := 10) (v := .ref q4) (T := TX11) (C := RX11) (N := 10) hx hb hts (fun w h => List.mem_cons_of_mem _ (List.mem_append_left _ (List.mem_append_left _ (List.mem_append_left _ (List.mem_append_left _ (List.mem_append_left _ (List.mem_append_left _ (List.mem_append_left _ (List.mem_append_right _ h))))))))) hown hK hH t_h0 (th_nz rfl) (thE_11 _ _ _) rfl 0 (th_ltN rfl) (hts (.fieldLink RX11 10 "BayMoorings" "bay" "LBayMoorings$Bay;") (List.mem_cons_of_mem _ (List.mem_append_left _ (List.mem_append_left _ (List.mem_append_left _ (List.mem_append_left _ (List.mem_append_left _ (List.mem_append_left _ (List.mem_append_left _ (List.mem_append_left _ (List.mem_append_left _ (List.mem_of_getElem? (i := 2) rfl)))))))))))) (fun _ h9 => h9) (th_fR r4 rfl) dX11_check_26 ?_
        obtain ⟨x5, e5⟩ : ∃ y : Int32, y = gi_19 q4 6 := ⟨_, rfl⟩
        refine th_get (ci := 0) (v := .int x5) (T := TX0) (C := RX0) (N := 9) hx hb hts (fun w h => List.mem_cons_of_mem _ (List.mem_append_left _ (List.mem_append_left _ (List.mem_append_left _ (List.mem_append_left _ (List.mem_append_left _ (List.mem_append_left _ (List.mem_append_right _ h)))))))) hown hK hH t4 (th_nz rfl) (thE_1 _ _ _) rfl 6 (th_ltN rfl) (hts (.fieldLink RX11 83 "BayMoorings$Bay" "boatCount" "I") (List.mem_cons_of_mem _ (List.mem_append_left _ (List.mem_append_left _ (List.mem_append_left _ (List.mem_append_left _ (List.mem_append_left _ (List.mem_append_left _ (List.mem_append_left _ (List.mem_append_left _ (List.mem_append_left _ (List.mem_of_getElem? (i := 3) rfl)))))))))))) (fun _ h9 => h9) (th_fI e5 rfl) dX11_check_29 ?_
        have f5 : rg 0 16 x5 := rg_e e5 ((thI_1 hH t4).2.2.2.2.2.2)
        refine lv_icmp_ge (tgt := 52) hx hb dX11_check_32 (th_eqI rfl) (fun c6 => ?_) (fun c6 => ?_)
        · skip
          refine lv_iconst (v := 1) hx hb dX11_check_52 ic_1 ?_
          refine lv_iload_n hx hb dX11_check_53 rfl (lv_at hl 2 rfl) ?_
          refine lv_iadd hx hb dX11_check_54 ?_
          refine lv_topi (fun x7 e7 => ?_)
          have f7 : rg 1 17 x7 := rg_e e7 (rg_w (rg_add rgc_1 fy19_2 (th_leI rfl) (th_leI rfl)) (th_leI rfl) (th_leI rfl))
          exact W.iret (v := x7) hx hb hr (fun t ht hW => ⟨⟨x7, (gi_19, gr), rfl, ⟨hM, rfl, (hF.trans (by simp only [↓reduceIte, f_X11_check_19, ← ew19_0, eq_false c1, r4, Option.getD_some, ← e5, eq_true c6, ← e7])), (ew19_0.symm.trans (rg_one fw19_0 rgc_0))⟩, th_Ht ht hH⟩, hS.F ht⟩) hS.2.2 dX11_check_55
        · skip
          have f8 : rg 1 16 x5 := rg_w (rg_nle f5 fy19_2 c6).1 (th_leI rfl) (th_leI rfl)
          have f9 : rg 0 15 y19_2 := rg_w (rg_nle f5 fy19_2 c6).2 (th_leI rfl) (th_leI rfl)
          refine lv_aload_n hx hb dX11_check_35 rfl (lv_at hl 0 rfl) ?_
          obtain ⟨q10, r10, t10⟩ : ∃ q, gr h0 6 = some q ∧ τ q = 37 := (thI_11 hH t_h0).2.2.2.2.2.2.1
          refine th_get (ci := 10) (v := .ref q10) (T := TX11) (C := RX11) (N := 10) hx hb hts (fun w h => List.mem_cons_of_mem _ (List.mem_append_left _ (List.mem_append_left _ (List.mem_append_left _ (List.mem_append_left _ (List.mem_append_left _ (List.mem_append_left _ (List.mem_append_left _ (List.mem_append_right _ h))))))))) hown hK hH t_h0 (th_nz rfl) (thE_11 _ _ _) rfl 6 (th_ltN rfl) (hts (.fieldLink RX11 50 "BayMoorings" "numbers" "[I") (List.mem_cons_of_mem _ (List.mem_append_left _ (List.mem_append_left _ (List.mem_append_left _ (List.mem_append_left _ (List.mem_append_left _ (List.mem_append_left _ (List.mem_append_left _ (List.mem_append_left _ (List.mem_append_left _ (List.mem_of_getElem? (i := 4) rfl)))))))))))) (fun _ h9 => h9) (th_fR r10 rfl) dX11_check_36 ?_
          refine lv_iload_n hx hb dX11_check_39 rfl (lv_at hl 2 rfl) ?_
          refine th_iald hx hb hK hH t10 (th_nz rfl) 0 (thE_37 _ _ _) rfl (rg_in (n := 24) f9 (th_leI rfl) (th_ltI rfl)) dX11_check_40 ?_
          refine lv_topi (fun x11 e11 => ?_)
          refine lv_aload_n hx hb dX11_check_41 rfl (lv_at hl 0 rfl) ?_
          obtain ⟨q12, r12, t12⟩ : ∃ q, gr h0 3 = some q ∧ τ q = 6 := (thI_11 hH t_h0).2.2.2.1
          refine th_get (ci := 10) (v := .ref q12) (T := TX11) (C := RX11) (N := 10) hx hb hts (fun w h => List.mem_cons_of_mem _ (List.mem_append_left _ (List.mem_append_left _ (List.mem_append_left _ (List.mem_append_left _ (List.mem_append_left _ (List.mem_append_left _ (List.mem_append_left _ (List.mem_append_right _ h))))))))) hown hK hH t_h0 (th_nz rfl) (thE_11 _ _ _) rfl 3 (th_ltN rfl) (hts (.fieldLink RX11 35 "BayMoorings" "rings" "LBayMoorings$Rings;") (List.mem_cons_of_mem _ (List.mem_append_left _ (List.mem_append_left _ (List.mem_append_left _ (List.mem_append_left _ (List.mem_append_left _ (List.mem_append_left _ (List.mem_append_left _ (List.mem_append_left _ (List.mem_append_left _ (List.mem_of_getElem? (i := 1) rfl)))))))))))) (fun _ h9 => h9) (th_fR r12 rfl) dX11_check_42 ?_
          refine lv_iload_n hx hb dX11_check_45 rfl (lv_at hl 2 rfl) ?_
          have hA13 := th_Asub (τ := τ) hS
          refine va_calli (va_runV (As := [.int y19_2]) (rest := [.int x11]) ⟨hx, hb, hml, hown, hts⟩ (k_X6_buoyFor l D cA Z τ gi_19 gr _ q12 t12 y19_2) (cwV 1 hts gX11_check_X6_buoyFor rfl rfl rfl hd_X6_buoyFor__1 ⟨Nat.le_of_ble_eq_true rfl, Nat.le_of_ble_eq_true rfl⟩) ⟨th_blind, tr_6 hK hH t12, (th_pre hH hK hN hZ hS hA13)⟩ rfl rfl hl.1 rfl (lv_room (Nat.le_of_ble_eq_true rfl)) dX11_check_46 ⟨Nat.le_of_ble_eq_true rfl, Nat.le_of_ble_eq_true rfl⟩) hS (fun q _ h => hA13 q h) hA13 (fun x14 u t H locs ht hvm hw14 hB hz1 hk1 hS => ?_)
          try dsimp only at hw14 hB
          rw [ht] at hB
          have hH := hB
          refine lv_icmp_eq (tgt := 56) hx hb dX11_check_49 (th_eqI rfl) (fun c15 => ?_) (fun c15 => ?_)
          · skip
            obtain ⟨x16, e16⟩ : ∃ y : Int32, y = y19_2 + 1 := ⟨_, rfl⟩
            have f16 : rg 1 16 x16 := rg_e e16 (rg_w (rg_add f9 rgc_1 (th_leI rfl) (th_leI rfl)) (th_leI rfl) (th_leI rfl))
            refine lv_iinc (v := x16) (lv' := [(2, .int x16), (0, .ref h0), (1, .int y19_1)]) hx hb dX11_check_56 hl (k := 2) rfl (by rw [e16]; rfl) (th_ltN rfl) rfl (fun ls hl => ?_)
            refine lv_goto (tgt := 19) hx hb dX11_check_59 (th_eqI rfl) ?_
            exact ih19 gi_19 _ _ _ y19_1 x16 w19_0 (th_up (rg_dA e16 f9 rgc_1 (th_leI rfl) (th_leI rfl)) f9 hn19 (th_ltI rfl)) hH hS hM (lv_sub hl [1, 2, 0] rfl) (rg_w f3 (th_leI rfl) (th_leI rfl)) (rg_w f16 (th_leI rfl) (th_leI rfl)) ew19_0 fw19_0 (hF.trans (by simp only [↓reduceIte, f_X11_check_19, ← ew19_0, eq_false c1, r4, Option.getD_some, ← e5, eq_false c6, r10, ← e11, r12, hw14, eq_true c15, ← e16]))
          · skip
            refine lv_iconst (v := 1) hx hb dX11_check_52 ic_1 ?_
            refine lv_iload_n hx hb dX11_check_53 rfl (lv_at hl 2 rfl) ?_
            refine lv_iadd hx hb dX11_check_54 ?_
            refine lv_topi (fun x17 e17 => ?_)
            have f17 : rg 1 16 x17 := rg_e e17 (rg_w (rg_add rgc_1 f9 (th_leI rfl) (th_leI rfl)) (th_leI rfl) (th_leI rfl))
            exact W.iret (v := x17) hx hb hr (fun t ht hW => ⟨⟨x17, (gi_19, gr), rfl, ⟨hM, rfl, (hF.trans (by simp only [↓reduceIte, f_X11_check_19, ← ew19_0, eq_false c1, r4, Option.getD_some, ← e5, eq_false c6, r10, ← e11, r12, hw14, eq_false c15, ← e17])), (ew19_0.symm.trans (rg_one fw19_0 rgc_0))⟩, th_Ht ht hH⟩, hS.F ht⟩) hS.2.2 dX11_check_55
  have hS : va_S (th_A τ s.heap.size) s.heap s.heap [] := va_S.rf
  have hl := lv_entry ([.ref h0]) (n := 3) (Nat.le_of_ble_eq_true rfl)
  rw [lg_entry_eq]
  generalize (lg_sl ([.ref h0]) ++ List.replicate (3 - (lg_sl ([.ref h0])).length) Slot.unset).toArray = ls at hl ⊢
  have hl : lv_has ls 3 [(0, .ref h0)] := hl
  have hF : F_X11_check τ Z gi gr h0 = F_X11_check τ Z gi gr h0 := rfl
  refine lv_aload_n hx hb dX11_check_0 rfl (lv_at hl 0 rfl) ?_
  obtain ⟨x18, e18⟩ : ∃ y : Int32, y = gi h0 7 := ⟨_, rfl⟩
  refine th_get (ci := 10) (v := .int x18) (T := TX11) (C := RX11) (N := 10) hx hb hts (fun w h => List.mem_cons_of_mem _ (List.mem_append_left _ (List.mem_append_left _ (List.mem_append_left _ (List.mem_append_left _ (List.mem_append_left _ (List.mem_append_left _ (List.mem_append_left _ (List.mem_append_right _ h))))))))) hown hK hH t_h0 (th_nz rfl) (thE_11 _ _ _) rfl 7 (th_ltN rfl) (hts (.fieldLink RX11 53 "BayMoorings" "numberCount" "I") (List.mem_cons_of_mem _ (List.mem_append_left _ (List.mem_append_left _ (List.mem_append_left _ (List.mem_append_left _ (List.mem_append_left _ (List.mem_append_left _ (List.mem_append_left _ (List.mem_append_left _ (List.mem_append_left _ (List.mem_of_getElem? (i := 0) rfl)))))))))))) (fun _ h9 => h9) (th_fI e18 rfl) dX11_check_1 ?_
  have f18 : rg 0 24 x18 := rg_e e18 ((thI_11 hH t_h0).2.2.2.2.2.2.2.1)
  refine lv_istore_n (i := 1) (lv' := [(1, .int x18), (0, .ref h0)]) hx hb dX11_check_4 rfl hl (th_ltN rfl) rfl (fun ls hl => ?_)
  refine lv_aload_n hx hb dX11_check_5 rfl (lv_at hl 1 rfl) ?_
  refine lv_iconst (v := 0) hx hb dX11_check_6 ic_0 ?_
  refine th_put (ci := 10) (v := .int 0) (T := TX11) (C := RX11) (N := 10) (ty := .int) (gi' := va_up gi h0 (upd (gi h0) 7 0)) (gr' := gr) hx hb hts (fun w h => List.mem_cons_of_mem _ (List.mem_append_left _ (List.mem_append_left _ (List.mem_append_left _ (List.mem_append_left _ (List.mem_append_left _ (List.mem_append_left _ (List.mem_append_left _ (List.mem_append_right _ h))))))))) tyX11 tyX11_ok nmX11 hown hK hH hS t_h0 (th_nz rfl) (Or.inl (th_nzE t_h0 rfl)) rfl rfl 7 (th_ltN rfl) (hts (.fieldLink RX11 53 "BayMoorings" "numberCount" "I") (List.mem_cons_of_mem _ (List.mem_append_left _ (List.mem_append_left _ (List.mem_append_left _ (List.mem_append_left _ (List.mem_append_left _ (List.mem_append_left _ (List.mem_append_left _ (List.mem_append_left _ (List.mem_append_left _ (List.mem_of_getElem? (i := 0) rfl)))))))))))) (fun _ h9 => h9) rfl (by decide +kernel) rfl rfl (Nat.le_of_ble_eq_true rfl) (by rw [va_up_self]; rfl) (by rw [va_up_self]; show (∃ q, gr h0 0 = some q ∧ τ q = 1) ∧ (∃ q, gr h0 1 = some q ∧ τ q = 10) ∧ (∃ q, gr h0 2 = some q ∧ τ q = 7) ∧ (∃ q, gr h0 3 = some q ∧ τ q = 6) ∧ (∃ q, gr h0 4 = some q ∧ τ q = 5) ∧ (∃ q, gr h0 5 = some q ∧ τ q = 36) ∧ (∃ q, gr h0 6 = some q ∧ τ q = 37) ∧ rg 0 24 0 ∧ rg 0 1 (gi h0 9); exact ⟨(thI_11 hH t_h0).1, (thI_11 hH t_h0).2.1, (thI_11 hH t_h0).2.2.1, (thI_11 hH t_h0).2.2.2.1, (thI_11 hH t_h0).2.2.2.2.1, (thI_11 hH t_h0).2.2.2.2.2.1, (thI_11 hH t_h0).2.2.2.2.2.2.1, (rg_w rgc_0 (th_leI rfl) (th_leI rfl)), (thI_11 hH t_h0).2.2.2.2.2.2.2.2⟩) (fun b hb => ⟨va_up_ne _ _ hb, rfl⟩) dX11_check_7 (fun H locs hH hS => ?_)
  obtain ⟨gi19, eg19⟩ : ∃ g, g = va_up gi h0 (upd (gi h0) 7 0) := ⟨_, rfl⟩
  rw [← eg19] at hH
  have hu19 : gi19 h0 7 = 0 := (th_uI eg19).1
  have ho19 : ∀ b j, b ≠ h0 ∨ j ≠ 7 → gi19 b j = gi b j := (th_uI eg19).2
  have hM := hM.i t_h0 (th_mem (a := 1107) rfl) ho19
  refine lv_aload_n hx hb dX11_check_10 rfl (lv_at hl 1 rfl) ?_
  obtain ⟨q21, r21, t21⟩ : ∃ q, gr h0 3 = some q ∧ τ q = 6 := (thI_11 hH t_h0).2.2.2.1
  refine th_get (ci := 10) (v := .ref q21) (T := TX11) (C := RX11) (N := 10) hx hb hts (fun w h => List.mem_cons_of_mem _ (List.mem_append_left _ (List.mem_append_left _ (List.mem_append_left _ (List.mem_append_left _ (List.mem_append_left _ (List.mem_append_left _ (List.mem_append_left _ (List.mem_append_right _ h))))))))) hown hK hH t_h0 (th_nz rfl) (thE_11 _ _ _) rfl 3 (th_ltN rfl) (hts (.fieldLink RX11 35 "BayMoorings" "rings" "LBayMoorings$Rings;") (List.mem_cons_of_mem _ (List.mem_append_left _ (List.mem_append_left _ (List.mem_append_left _ (List.mem_append_left _ (List.mem_append_left _ (List.mem_append_left _ (List.mem_append_left _ (List.mem_append_left _ (List.mem_append_left _ (List.mem_of_getElem? (i := 1) rfl)))))))))))) (fun _ h9 => h9) (th_fR r21 rfl) dX11_check_11 ?_
  have hA22 := th_Asub (τ := τ) hS
  refine va_callv (va_runV (As := []) (rest := []) ⟨hx, hb, hml, hown, hts⟩ (k_X6_draw l D cA Z τ gi19 gr _ q21 t21) (cwV 0 hts gX11_check_X6_draw rfl rfl rfl hd_X6_draw__0 ⟨Nat.le_of_ble_eq_true rfl, Nat.le_of_ble_eq_true rfl⟩) ⟨th_blind, tr_6 hK hH t21, (th_pre hH hK hN hZ hS hA22)⟩ rfl rfl hl.1 rfl (lv_room (Nat.le_of_ble_eq_true rfl)) dX11_check_14 ⟨Nat.le_of_ble_eq_true rfl, Nat.le_of_ble_eq_true rfl⟩) hS (fun q _ h => hA22 q h) hA22 (fun  u t H locs ht hvm hw23 hB hz1 hk1 hS => ?_)
  try dsimp only at hw23 hB
  rw [ht] at hB
  have hH := hB
  obtain ⟨gi23, gr23⟩ := u
  try dsimp only at hw23 hH
  obtain rfl : gr = gr23 := (hw23.2.1).symm
  have hM := hM.tr hw23.1 (fun _ h => h) (th_sub rfl)
  have e24 : 0 = gi23 h0 7 := Eq.trans hu19.symm (Eq.symm (hw23.1 h0 7 (th_nzE t_h0 rfl) (th_nmE (key := 1107) t_h0 rfl rfl)).1)
  refine lv_iconst (v := 0) hx hb dX11_check_17 ic_0 ?_
  refine lv_istore_n (i := 2) (lv' := [(2, .int 0), (1, .int x18), (0, .ref h0)]) hx hb dX11_check_18 rfl hl (th_ltN rfl) rfl (fun ls hl => ?_)
  exact J19 _ gi23 _ _ _ x18 0 0 (Nat.lt_add_one _) hH hS hM (lv_sub hl [2, 1, 0] rfl) f18 (rg_w rgc_0 (th_leI rfl) (th_leI rfl)) e24 rgc_0 (hF.trans (by simp only [F_X11_check, ← e18, ← eg19, r21, Option.getD_some, hw23.2.2]))

noncomputable def F_X11_found (τ : th_t) (Z : th_Zt) (gi : th_i) (gr : th_r) (h0 : Nat) (p1 : Int32) : Int32 × th_i :=
  let x2 : Int32 := F_X11_within τ Z gi gr p1 1 5
  if x2 = (0 : Int32) then (
    let u12 : Int32 × th_i := F_X11_finding τ Z gi gr h0 1
    let x12 : Int32 := u12.1
    let gi12 : th_i := u12.2
    (x12, gi12)) else (
    let q8 : Nat := (gr h0 5).getD 0
    let x9 : Int32 := gi q8 p1.toNatClampNeg
    (x9, gi))
set_option maxHeartbeats 8000000 in
set_option maxRecDepth 100000 in
theorem k_X11_found (l : Launch) (D : va_G) (cA : Nat → ClassId) (Z : th_Zt) (τ : th_t) (gi : th_i) (gr : th_r) (sz : Nat) (h0 : Nat) (t_h0 : τ h0 = 11) (p1 : Int32) : Met l yX11_found wsX11_found ({ frames := 2, cells := 0, slots := 0, locals := 43 }) (va_Pc [.ref h0, .int p1] (th_Pre D cA Z τ gi gr sz)) (va_Qi (fun (r : Int32) (u : th_i × th_r) => th_Mod [3600] τ gi gr u.1 u.2 ∧ u.2 = gr ∧ (F_X11_found τ Z gi gr h0 p1 = (r, u.1))) (fun (u : th_i × th_r) t => th_H D cA τ u.1 u.2 t.heap) (th_A τ sz)) 0 0 (th_A τ sz) := by
  refine Met.ofW (cc := cX11_found) (maxL := 2) (ret := (some .int)) (by decide) rfl ?_
  intro p e s m args below meth c s₁ B hml hv
  obtain ⟨rfl, hsz, hH, hK, hN, hZ⟩ := hv
  have hx := B.exec
  have hb := B.bytes
  have hr := B.returns
  have hts := atoms_spec (ws := wsX11_found) B.pre
  have hown : s.vm.findClass RX11 = some m.cls := findClass_of_methodNamed B.named
  have hlocks := B.notSynchronized
  subst hsz
  have hM : th_Mod [3600] τ gi gr gi gr := th_Mod.rf
  have hS : va_S (th_A τ s.heap.size) s.heap s.heap [] := va_S.rf
  have hl := lv_entry ([.ref h0, .int p1]) (n := 2) (Nat.le_of_ble_eq_true rfl)
  rw [lg_entry_eq]
  generalize (lg_sl ([.ref h0, .int p1]) ++ List.replicate (2 - (lg_sl ([.ref h0, .int p1])).length) Slot.unset).toArray = ls at hl ⊢
  have hl : lv_has ls 2 [(0, .ref h0), (1, .int p1)] := hl
  have hF : F_X11_found τ Z gi gr h0 p1 = F_X11_found τ Z gi gr h0 p1 := rfl
  refine lv_iload_n hx hb dX11_found_0 rfl (lv_at hl 1 rfl) ?_
  refine lv_iconst (v := 1) hx hb dX11_found_1 ic_1 ?_
  refine lv_iconst (v := 5) hx hb dX11_found_2 ic_5 ?_
  have hA1 := th_Asub (τ := τ) hS
  refine va_calli (va_runS (As := [.int p1, .int 1, .int 5]) (rest := []) ⟨hx, hb, hml, hown, hts⟩ (k_X11_within l D cA Z τ gi gr _ p1 1 5) (va_cwS 3 hts gX11_found_X11_within rfl rfl rfl (by decide +kernel) ⟨Nat.le_of_ble_eq_true rfl, Nat.le_of_ble_eq_true rfl⟩) ⟨th_blind, (th_pre hH hK hN hZ hS hA1)⟩ rfl rfl hl.1 rfl (lv_room (Nat.le_of_ble_eq_true rfl)) dX11_found_3 ⟨Nat.le_of_ble_eq_true rfl, Nat.le_of_ble_eq_true rfl⟩) hS (fun q _ h => hA1 q h) hA1 (fun x2 u t H locs ht hvm hw2 hB hz1 hk1 hS => ?_)
  try dsimp only at hw2 hB
  rw [ht] at hB
  have hH := hB
  refine lv_if_ne (tgt := 15) hx hb dX11_found_6 (th_eqI rfl) (fun c3 => ?_) (fun c3 => ?_)
  · skip
    have f4 : rg 1 1 x2 := rg_w (rg_neL hw2.1 rgc_0 c3) (th_leI rfl) (th_leI rfl)
    have g5 := hw2.2.1 c3
    have f6 : rg 1 2147483647 p1 := rg_w (rg_le rgc_1 (rg_any p1) g5.1).2 (th_leI rfl) (th_leI rfl)
    have f7 : rg 1 5 p1 := rg_w (rg_le f6 rgc_5 g5.2).1 (th_leI rfl) (th_leI rfl)
    refine lv_aload_n hx hb dX11_found_15 rfl (lv_at hl 0 rfl) ?_
    obtain ⟨q8, r8, t8⟩ : ∃ q, gr h0 5 = some q ∧ τ q = 36 := (thI_11 hH t_h0).2.2.2.2.2.1
    refine th_get (ci := 10) (v := .ref q8) (T := TX11) (C := RX11) (N := 10) hx hb hts (fun w h => List.mem_cons_of_mem _ (List.mem_append_right _ h)) hown hK hH t_h0 (th_nz rfl) (thE_11 _ _ _) rfl 5 (th_ltN rfl) (hts (.fieldLink RX11 46 "BayMoorings" "findings" "[I") (List.mem_cons_of_mem _ (List.mem_append_left _ (List.mem_of_getElem? (i := 0) rfl)))) (fun _ h9 => h9) (th_fR r8 rfl) dX11_found_16 ?_
    refine lv_iload_n hx hb dX11_found_19 rfl (lv_at hl 1 rfl) ?_
    refine th_iald hx hb hK hH t8 (th_nz rfl) 0 (thE_36 _ _ _) rfl (rg_in (n := 6) f7 (th_leI rfl) (th_ltI rfl)) dX11_found_20 ?_
    refine lv_topi (fun x9 e9 => ?_)
    exact W.iret (v := x9) hx hb hr (fun t ht hW => ⟨⟨x9, (gi, gr), rfl, ⟨hM, rfl, (hF.trans (by simp only [↓reduceIte, F_X11_found, hw2.2.2.1, eq_false c3, r8, Option.getD_some, ← e9]))⟩, th_Ht ht hH⟩, hS.F ht⟩) hS.2.2 dX11_found_21
  · skip
    have f10 : rg 0 0 x2 := rg_w (rg_eq hw2.1 rgc_0 c3).1 (th_leI rfl) (th_leI rfl)
    refine lv_aload_n hx hb dX11_found_9 rfl (lv_at hl 0 rfl) ?_
    refine lv_iconst (v := 1) hx hb dX11_found_10 ic_1 ?_
    have hA11 := th_Asub (τ := τ) hS
    refine va_calli (va_runV (As := [.int 1]) (rest := []) ⟨hx, hb, hml, hown, hts⟩ (k_X11_finding l D cA Z τ gi gr _ h0 t_h0 1) (cwV 1 hts gX11_found_X11_finding rfl rfl rfl hd_X11_finding__1 ⟨Nat.le_of_ble_eq_true rfl, Nat.le_of_ble_eq_true rfl⟩) ⟨th_blind, tr_11 hK hH t_h0, (th_pre hH hK hN hZ hS hA11)⟩ rfl rfl hl.1 rfl (lv_room (Nat.le_of_ble_eq_true rfl)) dX11_found_11 ⟨Nat.le_of_ble_eq_true rfl, Nat.le_of_ble_eq_true rfl⟩) hS (fun q _ h => hA11 q h) hA11 (fun x12 u t H locs ht hvm hw12 hB hz1 hk1 hS => ?_)
    try dsimp only at hw12 hB
    rw [ht] at hB
    have hH := hB
    obtain ⟨gi12, gr12⟩ := u
    try dsimp only at hw12 hH
    obtain rfl : gr = gr12 := (hw12.2.1).symm
    have hM := hM.tr hw12.1 (fun _ h => h) (th_sub rfl)
    exact W.iret (v := x12) hx hb hr (fun t ht hW => ⟨⟨x12, (gi12, gr), rfl, ⟨hM, rfl, (hF.trans (by simp only [↓reduceIte, F_X11_found, hw2.2.2.1, eq_true c3, hw12.2.2.1]))⟩, th_Ht ht hH⟩, hS.F ht⟩) hS.2.2 dX11_found_14
