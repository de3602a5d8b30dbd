noncomputable def f_X3_wholeRoot_23 (τ : th_t) (Z : th_Zt) (gi : th_i) (gr : th_r) (p0 : Int32) (y6_1 : Int32) (y6_2 : Int32) (k_6 : Int32 → Int32 → Int32) (y23_1 : Int32) : Int32 :=
  let x1 : Int32 := y6_2 >>> (1 &&& 31)
  k_6 y23_1 x1
noncomputable def f_X3_wholeRoot_6 (τ : th_t) (Z : th_Zt) (gi : th_i) (gr : th_r) (p0 : Int32) : Nat → Int32 → Int32 → Int32
  | 0, y6_1, y6_2 => 0
  | n6 + 1, y6_1, y6_2 =>
    if y6_2 ≤ (0 : Int32) then (
      y6_1) else (
      let x5 : Int32 := y6_1 + y6_2
      let x6 : Int32 := x5 * x5
      if p0 < x6 then (
        f_X3_wholeRoot_23 τ Z gi gr p0 y6_1 y6_2 (f_X3_wholeRoot_6 τ Z gi gr p0 n6) y6_1) else (
        f_X3_wholeRoot_23 τ Z gi gr p0 y6_1 y6_2 (f_X3_wholeRoot_6 τ Z gi gr p0 n6) x5))
noncomputable def F_X3_wholeRoot (τ : th_t) (Z : th_Zt) (gi : th_i) (gr : th_r) (p0 : Int32) : Int32 :=
  f_X3_wholeRoot_6 τ Z gi gr p0 ((256 : Int32).toInt.toNat + 1) 0 256
set_option maxHeartbeats 8000000 in
set_option maxRecDepth 100000 in
theorem k_X3_wholeRoot (l : Launch) (D : va_G) (cA : Nat → ClassId) (Z : th_Zt) (τ : th_t) (gi : th_i) (gr : th_r) (sz : Nat) (p0 : Int32) : Met l yX3_wholeRoot wsX3_wholeRoot ({ frames := 0, cells := 0, slots := 0, locals := 0 }) (va_Pc [.int p0] (th_Pre D cA Z τ gi gr sz)) (va_Qi (fun (r : Int32) (_ : Unit) => (F_X3_wholeRoot τ Z gi gr p0 = r)) (fun (_ : Unit) t => th_H D cA τ gi gr t.heap) (th_A τ sz)) 0 0 (th_A τ sz) := by
  refine Met.ofW (cc := cX3_wholeRoot) (maxL := 4) (ret := (some .int)) (by decide) rfl ?_
  intro p e s m args below meth c s₁ B hml hv
  obtain ⟨rfl, hsz, hH, hK, hN, hZ⟩ := hv
  have hx := B.exec
  have hb := B.bytes
  have hr := B.returns
  have hts := atoms_spec (ws := wsX3_wholeRoot) B.pre
  have hown : s.vm.findClass RX3 = some m.cls := findClass_of_methodNamed B.named
  have hlocks := B.notSynchronized
  subst hsz
  have J6 : ∀ (n6 : Nat) (H : Heap) (locs : List Loc) (ls : Array Slot) (y6_1 : Int32) (y6_2 : Int32), y6_2.toInt.toNat < n6 → th_H D cA τ gi gr H → va_S (th_A τ s.heap.size) s.heap H locs → lv_has ls 4 [(0, .int p0), (1, .int y6_1), (2, .int y6_2)] → rg 0 256 y6_2 → F_X3_wholeRoot τ Z gi gr p0 = f_X3_wholeRoot_6 τ Z gi gr p0 n6 y6_1 y6_2 → W p l e (headSpec wsX3_wholeRoot ({ frames := 0, cells := 0, slots := 0, locals := 0 })).room s m [.int p0].toArray below meth c H locs 0 0 (MQ below (va_Qi (fun (r : Int32) (_ : Unit) => (F_X3_wholeRoot τ Z gi gr p0 = r)) (fun (_ : Unit) t => th_H D cA τ gi gr t.heap) (th_A τ s.heap.size)) [.int p0].toArray s 0 0 (th_A τ s.heap.size)) (F0 m 6 ls []) := by
    intro n6
    induction n6 with
    | zero =>
      intro H locs ls y6_1 y6_2 hn
      exact absurd hn (Nat.not_lt_zero _)
    | succ n6 ih6 =>
      intro H locs ls y6_1 y6_2 hn6 hH hS hl fy6_2 hF
      have J23 : ∀ (H : Heap) (locs : List Loc) (ls : Array Slot) (y23_1 : Int32), th_H D cA τ gi gr H → va_S (th_A τ s.heap.size) s.heap H locs → lv_has ls 4 [(0, .int p0), (1, .int y23_1), (2, .int y6_2)] → rg 1 256 y6_2 → F_X3_wholeRoot τ Z gi gr p0 = f_X3_wholeRoot_23 τ Z gi gr p0 y6_1 y6_2 (f_X3_wholeRoot_6 τ Z gi gr p0 n6) y23_1 → W p l e (headSpec wsX3_wholeRoot ({ frames := 0, cells := 0, slots := 0, locals := 0 })).room s m [.int p0].toArray below meth c H locs 0 0 (MQ below (va_Qi (fun (r : Int32) (_ : Unit) => (F_X3_wholeRoot τ Z gi gr p0 = r)) (fun (_ : Unit) t => th_H D cA τ gi gr t.heap) (th_A τ s.heap.size)) [.int p0].toArray s 0 0 (th_A τ s.heap.size)) (F0 m 23 ls []) := by
        intro H locs ls y23_1 hH hS hl fy23_2 hF
        refine lv_iload_n hx hb dX3_wholeRoot_23 rfl (lv_at hl 2 rfl) ?_
        refine lv_iconst (v := 1) hx hb dX3_wholeRoot_24 ic_1 ?_
        refine lv_ishr hx hb dX3_wholeRoot_25 ?_
        refine lv_topi (fun x1 e1 => ?_)
        have f1 : rg 0 128 x1 := rg_e e1 (rg_w (rg_shr1 fy23_2 (th_leI rfl)) (th_leI rfl) (th_leI rfl))
        refine lv_istore_n (i := 2) (lv' := [(2, .int x1), (0, .int p0), (1, .int y23_1)]) hx hb dX3_wholeRoot_26 rfl hl (th_ltN rfl) rfl (fun ls hl => ?_)
        refine lv_goto (tgt := 6) hx hb dX3_wholeRoot_27 (th_eqI rfl) ?_
        exact ih6 _ _ _ y23_1 x1 (th_half e1 fy23_2 hn6 (by decide)) hH hS (lv_sub hl [1, 2, 0] rfl) (rg_w f1 (th_leI rfl) (th_leI rfl)) (hF.trans (by simp only [f_X3_wholeRoot_23, ← e1]))
      refine lv_iload_n hx hb dX3_wholeRoot_6 rfl (lv_at hl 2 rfl) ?_
      refine lv_if_le (tgt := 30) hx hb dX3_wholeRoot_7 (th_eqI rfl) (fun c2 => ?_) (fun c2 => ?_)
      · skip
        have f3 : rg 0 0 y6_2 := rg_w (rg_le fy6_2 rgc_0 c2).1 (th_leI rfl) (th_leI rfl)
        refine lv_iload_n hx hb dX3_wholeRoot_30 rfl (lv_at hl 1 rfl) ?_
        exact W.iret (v := y6_1) hx hb hr (fun t ht hW => ⟨⟨y6_1, (), rfl, (hF.trans (by simp only [↓reduceIte, f_X3_wholeRoot_6, eq_true c2])), th_Ht ht hH⟩, hS.F ht⟩) hS.2.2 dX3_wholeRoot_31
      · skip
        have f4 : rg 1 256 y6_2 := rg_w (rg_nle fy6_2 rgc_0 c2).1 (th_leI rfl) (th_leI rfl)
        refine lv_iload_n hx hb dX3_wholeRoot_10 rfl (lv_at hl 1 rfl) ?_
        refine lv_iload_n hx hb dX3_wholeRoot_11 rfl (lv_at hl 2 rfl) ?_
        refine lv_iadd hx hb dX3_wholeRoot_12 ?_
        refine lv_topi (fun x5 e5 => ?_)
        refine lv_istore_n (i := 3) (lv' := [(3, .int x5), (0, .int p0), (1, .int y6_1), (2, .int y6_2)]) hx hb dX3_wholeRoot_13 rfl hl (th_ltN rfl) rfl (fun ls hl => ?_)
        refine lv_iload_n hx hb dX3_wholeRoot_14 rfl (lv_at hl 0 rfl) ?_
        refine lv_iload_n hx hb dX3_wholeRoot_15 rfl (lv_at hl 0 rfl) ?_
        refine lv_imul hx hb dX3_wholeRoot_16 ?_
        refine lv_topi (fun x6 e6 => ?_)
        refine lv_iload_n hx hb dX3_wholeRoot_17 rfl (lv_at hl 1 rfl) ?_
        refine lv_icmp_gt (tgt := 23) hx hb dX3_wholeRoot_18 (th_eqI rfl) (fun c7 => ?_) (fun c7 => ?_)
        · skip
          exact J23 _ _ _ y6_1 hH hS (lv_sub hl [1, 2, 3] rfl) f4 (hF.trans (by simp only [↓reduceIte, f_X3_wholeRoot_6, eq_false c2, ← e5, ← e6, eq_true c7]))
        · skip
          refine lv_iload_n hx hb dX3_wholeRoot_21 rfl (lv_at hl 0 rfl) ?_
          refine lv_istore_n (i := 1) (lv' := [(1, .int x5), (3, .int x5), (0, .int p0), (2, .int y6_2)]) hx hb dX3_wholeRoot_22 rfl hl (th_ltN rfl) rfl (fun ls hl => ?_)
          exact J23 _ _ _ x5 hH hS (lv_sub hl [2, 0, 3] rfl) f4 (hF.trans (by simp only [↓reduceIte, f_X3_wholeRoot_6, eq_false c2, ← e5, ← e6, eq_false c7]))
  have hS : va_S (th_A τ s.heap.size) s.heap s.heap [] := va_S.rf
  have hl := lv_entry ([.int p0]) (n := 4) (Nat.le_of_ble_eq_true rfl)
  rw [lg_entry_eq]
  generalize (lg_sl ([.int p0]) ++ List.replicate (4 - (lg_sl ([.int p0])).length) Slot.unset).toArray = ls at hl ⊢
  have hl : lv_has ls 4 [(0, .int p0)] := hl
  have hF : F_X3_wholeRoot τ Z gi gr p0 = F_X3_wholeRoot τ Z gi gr p0 := rfl
  refine lv_iconst (v := 0) hx hb dX3_wholeRoot_0 ic_0 ?_
  refine lv_istore_n (i := 1) (lv' := [(1, .int 0), (0, .int p0)]) hx hb dX3_wholeRoot_1 rfl hl (th_ltN rfl) rfl (fun ls hl => ?_)
  refine lv_sipush (v := 256) hx hb dX3_wholeRoot_2 sp_256 ?_
  refine lv_istore_n (i := 2) (lv' := [(2, .int 256), (1, .int 0), (0, .int p0)]) hx hb dX3_wholeRoot_5 rfl hl (th_ltN rfl) rfl (fun ls hl => ?_)
  exact J6 _ _ _ _ 0 256 (Nat.lt_add_one _) hH hS (lv_sub hl [2, 1, 0] rfl) (rg_w rgc_256 (th_leI rfl) (th_leI rfl)) (hF.trans (by simp only [F_X3_wholeRoot]))

noncomputable def F_X3_flood (τ : th_t) (Z : th_Zt) (gi : th_i) (gr : th_r) (h0 : Nat) (p1 : Int32) (p2 : Int32) : th_i :=
  let x2 : Int32 := F_X11_isHour τ Z gi gr p1
  if x2 = (0 : Int32) then (
    (gi)) else (
    let x6 : Int32 := gi h0 3
    let x7 : Int32 := x6 + p2
    let q8 : Nat := (gr h0 5).getD 0
    let x9 : Int32 := gi h0 4
    if x7 < x9 then (
      let x13 : Int32 := x9 * x9
      let x14 : Int32 := x7 * x7
      let x15 : Int32 := x13 - x14
      let x17 : Int32 := F_X3_wholeRoot τ Z gi gr x15
      let gi18 : th_i := va_up gi q8 (upd (gi q8) p1.toNatClampNeg x17)
      (gi18)) else (
      let gi21 : th_i := va_up gi q8 (upd (gi q8) p1.toNatClampNeg 0)
      (gi21)))
set_option maxHeartbeats 8000000 in
set_option maxRecDepth 100000 in
theorem k_X3_flood (l : Launch) (D : va_G) (cA : Nat → ClassId) (Z : th_Zt) (τ : th_t) (gi : th_i) (gr : th_r) (sz : Nat) (h0 : Nat) (t_h0 : τ h0 = 3) (p1 : Int32) (p2 : Int32) : Met l yX3_flood wsX3_flood ({ frames := 2, cells := 0, slots := 0, locals := 42 }) (va_Pc [.ref h0, .int p1, .int p2] (th_Pre D cA Z τ gi gr sz)) (va_Qv (fun (u : th_i × th_r) => th_Mod [2600] τ gi gr u.1 u.2 ∧ u.2 = gr ∧ (F_X3_flood τ Z gi gr h0 p1 p2 = u.1)) (fun (u : th_i × th_r) t => th_H D cA τ u.1 u.2 t.heap) (th_A τ sz)) 0 0 (th_A τ sz) := by
  refine Met.ofW (cc := cX3_flood) (maxL := 4) (ret := none) (by decide) rfl ?_
  intro p e s m args below meth c s₁ B hml hv
  obtain ⟨rfl, hsz, hH, hK, hN, hZ⟩ := hv
  have hx := B.exec
  have hb := B.bytes
  have hr := B.returns
  have hts := atoms_spec (ws := wsX3_flood) B.pre
  have hown : s.vm.findClass RX3 = some m.cls := findClass_of_methodNamed B.named
  have hlocks := B.notSynchronized
  subst hsz
  have hM : th_Mod [2600] τ gi gr gi gr := th_Mod.rf
  have hS : va_S (th_A τ s.heap.size) s.heap s.heap [] := va_S.rf
  have hl := lv_entry ([.ref h0, .int p1, .int p2]) (n := 4) (Nat.le_of_ble_eq_true rfl)
  rw [lg_entry_eq]
  generalize (lg_sl ([.ref h0, .int p1, .int p2]) ++ List.replicate (4 - (lg_sl ([.ref h0, .int p1, .int p2])).length) Slot.unset).toArray = ls at hl ⊢
  have hl : lv_has ls 4 [(0, .ref h0), (1, .int p1), (2, .int p2)] := hl
  have hF : F_X3_flood τ Z gi gr h0 p1 p2 = F_X3_flood τ Z gi gr h0 p1 p2 := rfl
  refine lv_iload_n hx hb dX3_flood_0 rfl (lv_at hl 1 rfl) ?_
  have hA1 := th_Asub (τ := τ) hS
  refine va_calli (va_runSN (As := [.int p1]) (rest := []) ⟨hx, hb, hml, hown, hts⟩ (k_X11_isHour l D cA Z τ gi gr _ p1) ⟨va_cnB (host := RX11) 1 hts gX3_flood_X11_isHour_n37 rfl rfl rfl hN.1 (hts (.initialized RX11) (List.mem_cons_of_mem _ (List.mem_append_left _ (List.mem_of_getElem? (i := 4) rfl)))) (by decide +kernel) ⟨Nat.le_of_ble_eq_true rfl, Nat.le_of_ble_eq_true rfl⟩, (hts (.static yX11_isHour) (List.mem_cons_of_mem _ (List.mem_append_left _ (List.mem_of_getElem? (i := 3) rfl)))), trivial⟩ ⟨th_blind, (th_pre hH hK hN hZ hS hA1)⟩ rfl rfl hl.1 rfl (lv_room (Nat.le_of_ble_eq_true rfl)) dX3_flood_1 ⟨Nat.le_of_ble_eq_true rfl, Nat.le_of_ble_eq_true rfl⟩) hS (fun q _ h => hA1 q h) hA1 (fun x2 u t H locs ht hvm hw2 hB hz1 hk1 hS => ?_)
  try dsimp only at hw2 hB
  rw [ht] at hB
  have hH := hB
  refine lv_if_ne (tgt := 8) hx hb dX3_flood_4 (th_eqI rfl) (fun c3 => ?_) (fun c3 => ?_)
  · skip
    have f4 : rg 1 1 x2 := rg_w (rg_neL hw2.1 rgc_0 c3) (th_leI rfl) (th_leI rfl)
    have f5 : rg 0 23 p1 := rg_w (hw2.2.1 c3) (th_leI rfl) (th_leI rfl)
    refine lv_aload_n hx hb dX3_flood_8 rfl (lv_at hl 0 rfl) ?_
    obtain ⟨x6, e6⟩ : ∃ y : Int32, y = gi h0 3 := ⟨_, rfl⟩
    refine th_get (ci := 2) (v := .int x6) (T := TX3) (C := RX3) (N := 8) hx hb hts (fun w h => List.mem_cons_of_mem _ (List.mem_append_right _ h)) hown hK hH t_h0 (th_nz rfl) rfl rfl 3 (th_ltN rfl) (hts (.fieldLink RX3 31 "BayMoorings$Buoy" "depth" "I") (List.mem_cons_of_mem _ (List.mem_append_left _ (List.mem_of_getElem? (i := 0) rfl)))) (fun _ h9 => h9) (th_fI e6 rfl) dX3_flood_9 ?_
    refine lv_iload_n hx hb dX3_flood_12 rfl (lv_at hl 2 rfl) ?_
    refine lv_iadd hx hb dX3_flood_13 ?_
    refine lv_topi (fun x7 e7 => ?_)
    refine lv_istore_n (i := 3) (lv' := [(3, .int x7), (0, .ref h0), (1, .int p1), (2, .int p2)]) hx hb dX3_flood_14 rfl hl (th_ltN rfl) rfl (fun ls hl => ?_)
    refine lv_aload_n hx hb dX3_flood_15 rfl (lv_at hl 1 rfl) ?_
    obtain ⟨q8, r8, t8⟩ : ∃ q, gr h0 5 = some q ∧ τ q = 26 := (hH.at t_h0 (th_nz rfl)).2
    refine th_get (ci := 2) (v := .ref q8) (T := TX3) (C := RX3) (N := 8) hx hb hts (fun w h => List.mem_cons_of_mem _ (List.mem_append_right _ h)) hown hK hH t_h0 (th_nz rfl) rfl rfl 5 (th_ltN rfl) (hts (.fieldLink RX3 9 "BayMoorings$Buoy" "slack" "[I") (List.mem_cons_of_mem _ (List.mem_append_left _ (List.mem_of_getElem? (i := 1) rfl)))) (fun _ h9 => h9) (th_fR r8 rfl) dX3_flood_16 ?_
    refine lv_iload_n hx hb dX3_flood_19 rfl (lv_at hl 2 rfl) ?_
    refine lv_iload_n hx hb dX3_flood_20 rfl (lv_at hl 0 rfl) ?_
    refine lv_aload_n hx hb dX3_flood_21 rfl (lv_at hl 1 rfl) ?_
    obtain ⟨x9, e9⟩ : ∃ y : Int32, y = gi h0 4 := ⟨_, rfl⟩
    refine th_get (ci := 2) (v := .int x9) (T := TX3) (C := RX3) (N := 8) hx hb hts (fun w h => List.mem_cons_of_mem _ (List.mem_append_right _ h)) hown hK hH t_h0 (th_nz rfl) rfl rfl 4 (th_ltN rfl) (hts (.fieldLink RX3 34 "BayMoorings$Buoy" "chain" "I") (List.mem_cons_of_mem _ (List.mem_append_left _ (List.mem_of_getElem? (i := 2) rfl)))) (fun _ h9 => h9) (th_fI e9 rfl) dX3_flood_22 ?_
    refine lv_icmp_lt (tgt := 32) hx hb dX3_flood_25 (th_eqI rfl) (fun c10 => ?_) (fun c10 => ?_)
    · skip
      refine lv_aload_n hx hb dX3_flood_32 rfl (lv_at hl 1 rfl) ?_
      refine th_get (ci := 2) (v := .int x9) (T := TX3) (C := RX3) (N := 8) hx hb hts (fun w h => List.mem_cons_of_mem _ (List.mem_append_right _ h)) hown hK hH t_h0 (th_nz rfl) rfl rfl 4 (th_ltN rfl) (hts (.fieldLink RX3 34 "BayMoorings$Buoy" "chain" "I") (List.mem_cons_of_mem _ (List.mem_append_left _ (List.mem_of_getElem? (i := 2) rfl)))) (fun _ h9 => h9) (th_fI e9 rfl) dX3_flood_33 ?_
      refine lv_aload_n hx hb dX3_flood_36 rfl (lv_at hl 1 rfl) ?_
      refine th_get (ci := 2) (v := .int x9) (T := TX3) (C := RX3) (N := 8) hx hb hts (fun w h => List.mem_cons_of_mem _ (List.mem_append_right _ h)) hown hK hH t_h0 (th_nz rfl) rfl rfl 4 (th_ltN rfl) (hts (.fieldLink RX3 34 "BayMoorings$Buoy" "chain" "I") (List.mem_cons_of_mem _ (List.mem_append_left _ (List.mem_of_getElem? (i := 2) rfl)))) (fun _ h9 => h9) (th_fI e9 rfl) dX3_flood_37 ?_
      refine lv_imul hx hb dX3_flood_40 ?_
      refine lv_topi (fun x13 e13 => ?_)
      refine lv_iload_n hx hb dX3_flood_41 rfl (lv_at hl 0 rfl) ?_
      refine lv_iload_n hx hb dX3_flood_42 rfl (lv_at hl 0 rfl) ?_
      refine lv_imul hx hb dX3_flood_43 ?_
      refine lv_topi (fun x14 e14 => ?_)
      refine lv_isub hx hb dX3_flood_44 ?_
      refine lv_topi (fun x15 e15 => ?_)
      have hA16 := th_Asub (τ := τ) hS
      refine va_calli (va_runS (As := [.int x15]) (rest := [.int p1, .ref q8]) ⟨hx, hb, hml, hown, hts⟩ (k_X3_wholeRoot l D cA Z τ gi gr _ x15) (va_cwS 1 hts gX3_flood_X3_wholeRoot rfl rfl rfl (by decide +kernel) ⟨Nat.le_of_ble_eq_true rfl, Nat.le_of_ble_eq_true rfl⟩) ⟨th_blind, (th_pre hH hK hN hZ hS hA16)⟩ rfl rfl hl.1 rfl (lv_room (Nat.le_of_ble_eq_true rfl)) dX3_flood_45 ⟨Nat.le_of_ble_eq_true rfl, Nat.le_of_ble_eq_true rfl⟩) hS (fun q _ h => hA16 q h) hA16 (fun x17 u t H locs ht hvm hw17 hB hz1 hk1 hS => ?_)
      try dsimp only at hw17 hB
      rw [ht] at hB
      have hH := hB
      refine th_iast hx hb hK hH hS t8 (th_nz rfl) (Or.inl (th_nzE t8 rfl)) 0 (fun _ => rfl) rfl (rg_in (n := 24) f5 (th_leI rfl) (th_ltI rfl)) (trivial) dX3_flood_48 (fun gi18 H locs hu18 ho18 hH hS => ?_)
      have eg18 : gi18 = va_up gi q8 (upd (gi q8) p1.toNatClampNeg x17) := th_upE hu18 ho18
      have e19 : x6 = gi18 h0 3 := Eq.trans e6 (Eq.symm (ho18 _ _ (Or.inl (th_ne t_h0 t8 (th_nz rfl)))))
      have e20 : x9 = gi18 h0 4 := Eq.trans e9 (Eq.symm (ho18 _ _ (Or.inl (th_ne t_h0 t8 (th_nz rfl)))))
      have hM := hM.i t8 (th_mem (a := 2600) rfl) ho18
      exact W.vret hx hb hr (fun t ht hW => ⟨⟨(gi18, gr), rfl, ⟨hM, rfl, (hF.trans (by simp only [↓reduceIte, F_X3_flood, hw2.2.2.1, eq_false c3, ← e6, ← e7, r8, Option.getD_some, ← e9, eq_true c10, ← e13, ← e14, ← e15, hw17, ← eg18]))⟩, th_Ht ht hH⟩, hS.F ht⟩) hS.2.2 dX3_flood_49
    · skip
      refine lv_iconst (v := 0) hx hb dX3_flood_28 ic_0 ?_
      refine lv_goto (tgt := 48) hx hb dX3_flood_29 (th_eqI rfl) ?_
      refine th_iast hx hb hK hH hS t8 (th_nz rfl) (Or.inl (th_nzE t8 rfl)) 0 (fun _ => rfl) rfl (rg_in (n := 24) f5 (th_leI rfl) (th_ltI rfl)) (trivial) dX3_flood_48 (fun gi21 H locs hu21 ho21 hH hS => ?_)
      have eg21 : gi21 = va_up gi q8 (upd (gi q8) p1.toNatClampNeg 0) := th_upE hu21 ho21
      have e22 : x6 = gi21 h0 3 := Eq.trans e6 (Eq.symm (ho21 _ _ (Or.inl (th_ne t_h0 t8 (th_nz rfl)))))
      have e23 : x9 = gi21 h0 4 := Eq.trans e9 (Eq.symm (ho21 _ _ (Or.inl (th_ne t_h0 t8 (th_nz rfl)))))
      have hM := hM.i t8 (th_mem (a := 2600) rfl) ho21
      exact W.vret hx hb hr (fun t ht hW => ⟨⟨(gi21, gr), rfl, ⟨hM, rfl, (hF.trans (by simp only [↓reduceIte, F_X3_flood, hw2.2.2.1, eq_false c3, ← e6, ← e7, r8, Option.getD_some, ← e9, eq_false c10, ← eg21]))⟩, th_Ht ht hH⟩, hS.F ht⟩) hS.2.2 dX3_flood_49
  · skip
    have f24 : rg 0 0 x2 := rg_w (rg_eq hw2.1 rgc_0 c3).1 (th_leI rfl) (th_leI rfl)
    exact W.vret hx hb hr (fun t ht hW => ⟨⟨(gi, gr), rfl, ⟨hM, rfl, (hF.trans (by simp only [↓reduceIte, F_X3_flood, hw2.2.2.1, eq_true c3]))⟩, th_Ht ht hH⟩, hS.F ht⟩) hS.2.2 dX3_flood_7

noncomputable def F_X3_slackAt (τ : th_t) (Z : th_Zt) (gi : th_i) (gr : th_r) (h0 : Nat) (p1 : Int32) : Int32 :=
  if p1 < (0 : Int32) then (
    0) else (
    if (24 : Int32) ≤ p1 then (
      0) else (
      let q7 : Nat := (gr h0 5).getD 0
      let x8 : Int32 := gi q7 p1.toNatClampNeg
      x8))
set_option maxHeartbeats 8000000 in
set_option maxRecDepth 100000 in
theorem k_X3_slackAt (l : Launch) (D : va_G) (cA : Nat → ClassId) (Z : th_Zt) (τ : th_t) (gi : th_i) (gr : th_r) (sz : Nat) (h0 : Nat) (t_h0 : τ h0 = 3) (p1 : Int32) : Met l yX3_slackAt wsX3_slackAt ({ frames := 0, cells := 0, slots := 0, locals := 0 }) (va_Pc [.ref h0, .int p1] (th_Pre D cA Z τ gi gr sz)) (va_Qi (fun (r : Int32) (_ : Unit) => (F_X3_slackAt τ Z gi gr h0 p1 = r)) (fun (_ : Unit) t => th_H D cA τ gi gr t.heap) (th_A τ sz)) 0 0 (th_A τ sz) := by
  refine Met.ofW (cc := cX3_slackAt) (maxL := 2) (ret := (some .int)) (by decide) rfl ?_
  intro p e s m args below meth c s₁ B hml hv
  obtain ⟨rfl, hsz, hH, hK, hN, hZ⟩ := hv
  have hx := B.exec
  have hb := B.bytes
  have hr := B.returns
  have hts := atoms_spec (ws := wsX3_slackAt) B.pre
  have hown : s.vm.findClass RX3 = some m.cls := findClass_of_methodNamed B.named
  have hlocks := B.notSynchronized
  subst hsz
  have hS : va_S (th_A τ s.heap.size) s.heap s.heap [] := va_S.rf
  have hl := lv_entry ([.ref h0, .int p1]) (n := 2) (Nat.le_of_ble_eq_true rfl)
  rw [lg_entry_eq]
  generalize (lg_sl ([.ref h0, .int p1]) ++ List.replicate (2 - (lg_sl ([.ref h0, .int p1])).length) Slot.unset).toArray = ls at hl ⊢
  have hl : lv_has ls 2 [(0, .ref h0), (1, .int p1)] := hl
  have hF : F_X3_slackAt τ Z gi gr h0 p1 = F_X3_slackAt τ Z gi gr h0 p1 := rfl
  refine lv_iload_n hx hb dX3_slackAt_0 rfl (lv_at hl 1 rfl) ?_
  refine lv_if_lt (tgt := 19) hx hb dX3_slackAt_1 (th_eqI rfl) (fun c1 => ?_) (fun c1 => ?_)
  · skip
    have f2 : rg (-2147483648) (-1) p1 := rg_w (rg_lt (rg_any p1) rgc_0 c1).1 (th_leI rfl) (th_leI rfl)
    refine lv_iconst (v := 0) hx hb dX3_slackAt_19 ic_0 ?_
    exact W.iret (v := 0) hx hb hr (fun t ht hW => ⟨⟨0, (), rfl, (hF.trans (by simp only [↓reduceIte, F_X3_slackAt, eq_true c1])), th_Ht ht hH⟩, hS.F ht⟩) hS.2.2 dX3_slackAt_20
  · skip
    have f3 : rg 0 2147483647 p1 := rg_w (rg_nlt (rg_any p1) rgc_0 c1).1 (th_leI rfl) (th_leI rfl)
    refine lv_iload_n hx hb dX3_slackAt_4 rfl (lv_at hl 1 rfl) ?_
    refine lv_bipush (v := 24) hx hb dX3_slackAt_5 bp_24 ?_
    refine lv_icmp_ge (tgt := 19) hx hb dX3_slackAt_7 (th_eqI rfl) (fun c4 => ?_) (fun c4 => ?_)
    · skip
      have f5 : rg 24 2147483647 p1 := rg_w (rg_le rgc_24 f3 c4).2 (th_leI rfl) (th_leI rfl)
      refine lv_iconst (v := 0) hx hb dX3_slackAt_19 ic_0 ?_
      exact W.iret (v := 0) hx hb hr (fun t ht hW => ⟨⟨0, (), rfl, (hF.trans (by simp only [↓reduceIte, F_X3_slackAt, eq_false c1, eq_true c4])), th_Ht ht hH⟩, hS.F ht⟩) hS.2.2 dX3_slackAt_20
    · skip
      have f6 : rg 0 23 p1 := rg_w (rg_nle rgc_24 f3 c4).2 (th_leI rfl) (th_leI rfl)
      refine lv_aload_n hx hb dX3_slackAt_10 rfl (lv_at hl 0 rfl) ?_
      obtain ⟨q7, r7, t7⟩ : ∃ q, gr h0 5 = some q ∧ τ q = 26 := (hH.at t_h0 (th_nz rfl)).2
      refine th_get (ci := 2) (v := .ref q7) (T := TX3) (C := RX3) (N := 8) hx hb hts (fun w h => List.mem_cons_of_mem _ (List.mem_append_right _ h)) hown hK hH t_h0 (th_nz rfl) rfl rfl 5 (th_ltN rfl) (hts (.fieldLink RX3 9 "BayMoorings$Buoy" "slack" "[I") (List.mem_cons_of_mem _ (List.mem_append_left _ (List.mem_of_getElem? (i := 0) rfl)))) (fun _ h9 => h9) (th_fR r7 rfl) dX3_slackAt_11 ?_
      refine lv_iload_n hx hb dX3_slackAt_14 rfl (lv_at hl 1 rfl) ?_
      refine th_iald hx hb hK hH t7 (th_nz rfl) 0 rfl rfl (rg_in (n := 24) f6 (th_leI rfl) (th_ltI rfl)) dX3_slackAt_15 ?_
      refine lv_topi (fun x8 e8 => ?_)
      refine lv_goto (tgt := 20) hx hb dX3_slackAt_16 (th_eqI rfl) ?_
      exact W.iret (v := x8) hx hb hr (fun t ht hW => ⟨⟨x8, (), rfl, (hF.trans (by simp only [↓reduceIte, F_X3_slackAt, eq_false c1, eq_false c4, r7, Option.getD_some, ← e8])), th_Ht ht hH⟩, hS.F ht⟩) hS.2.2 dX3_slackAt_20

noncomputable def F_X3_isParted (τ : th_t) (Z : th_Zt) (gi : th_i) (gr : th_r) (h0 : Nat) : Int32 :=
  let x1 : Int32 := gi h0 6
  if x1 < (60 : Int32) then (
    0) else (
    1)
set_option maxHeartbeats 8000000 in
set_option maxRecDepth 100000 in
theorem k_X3_isParted (l : Launch) (D : va_G) (cA : Nat → ClassId) (Z : th_Zt) (τ : th_t) (gi : th_i) (gr : th_r) (sz : Nat) (h0 : Nat) (t_h0 : τ h0 = 3) : Met l yX3_isParted wsX3_isParted ({ frames := 0, cells := 0, slots := 0, locals := 0 }) (va_Pc [.ref h0] (th_Pre D cA Z τ gi gr sz)) (va_Qi (fun (r : Int32) (_ : Unit) => rg 0 1 r ∧ (F_X3_isParted τ Z gi gr h0 = r)) (fun (_ : Unit) t => th_H D cA τ gi gr t.heap) (th_A τ sz)) 0 0 (th_A τ sz) := by
  refine Met.ofW (cc := cX3_isParted) (maxL := 1) (ret := (some .boolean)) (by decide) rfl ?_
  intro p e s m args below meth c s₁ B hml hv
  obtain ⟨rfl, hsz, hH, hK, hN, hZ⟩ := hv
  have hx := B.exec
  have hb := B.bytes
  have hr := B.returns
  have hts := atoms_spec (ws := wsX3_isParted) B.pre
  have hown : s.vm.findClass RX3 = some m.cls := findClass_of_methodNamed B.named
  have hlocks := B.notSynchronized
  subst hsz
  have hS : va_S (th_A τ s.heap.size) s.heap s.heap [] := va_S.rf
  have hl := lv_entry ([.ref h0]) (n := 1) (Nat.le_of_ble_eq_true rfl)
  rw [lg_entry_eq]
  generalize (lg_sl ([.ref h0]) ++ List.replicate (1 - (lg_sl ([.ref h0])).length) Slot.unset).toArray = ls at hl ⊢
  have hl : lv_has ls 1 [(0, .ref h0)] := hl
  have hF : F_X3_isParted τ Z gi gr h0 = F_X3_isParted τ Z gi gr h0 := rfl
  refine lv_aload_n hx hb dX3_isParted_0 rfl (lv_at hl 0 rfl) ?_
  obtain ⟨x1, e1⟩ : ∃ y : Int32, y = gi h0 6 := ⟨_, rfl⟩
  refine th_get (ci := 2) (v := .int x1) (T := TX3) (C := RX3) (N := 8) hx hb hts (fun w h => List.mem_cons_of_mem _ (List.mem_append_right _ h)) hown hK hH t_h0 (th_nz rfl) rfl rfl 6 (th_ltN rfl) (hts (.fieldLink RX3 15 "BayMoorings$Buoy" "low" "I") (List.mem_cons_of_mem _ (List.mem_append_left _ (List.mem_of_getElem? (i := 0) rfl)))) (fun _ h9 => h9) (th_fI e1 rfl) dX3_isParted_1 ?_
  refine lv_bipush (v := 60) hx hb dX3_isParted_4 bp_60 ?_
  refine lv_icmp_lt (tgt := 13) hx hb dX3_isParted_6 (th_eqI rfl) (fun c2 => ?_) (fun c2 => ?_)
  · skip
    have f3 : rg (-2147483648) 59 x1 := rg_w (rg_lt (rg_any x1) rgc_60 c2).1 (th_leI rfl) (th_leI rfl)
    refine lv_iconst (v := 0) hx hb dX3_isParted_13 ic_0 ?_
    exact W.zret (v := 0) hx hb hr (rg_nb (rg_w rgc_0 (th_leI rfl) (th_leI rfl))) (fun t ht hW => ⟨⟨0, (), rfl, ⟨(rg_w rgc_0 (th_leI rfl) (th_leI rfl)), (hF.trans (by simp only [↓reduceIte, F_X3_isParted, ← e1, eq_true c2]))⟩, th_Ht ht hH⟩, hS.F ht⟩) hS.2.2 dX3_isParted_14
  · skip
    have f4 : rg 60 2147483647 x1 := rg_w (rg_nlt (rg_any x1) rgc_60 c2).1 (th_leI rfl) (th_leI rfl)
    refine lv_iconst (v := 1) hx hb dX3_isParted_9 ic_1 ?_
    refine lv_goto (tgt := 14) hx hb dX3_isParted_10 (th_eqI rfl) ?_
    exact W.zret (v := 1) hx hb hr (rg_nb (rg_w rgc_1 (th_leI rfl) (th_leI rfl))) (fun t ht hW => ⟨⟨1, (), rfl, ⟨(rg_w rgc_1 (th_leI rfl) (th_leI rfl)), (hF.trans (by simp only [↓reduceIte, F_X3_isParted, ← e1, eq_false c2]))⟩, th_Ht ht hH⟩, hS.F ht⟩) hS.2.2 dX3_isParted_14

noncomputable def F_X3_doubt (τ : th_t) (Z : th_Zt) (gi : th_i) (gr : th_r) (h0 : Nat) : Int32 :=
  let x1 : Int32 := gi h0 7
  let x2 : Int32 := gi h0 6
  let x3 : Int32 := x1 - x2
  x3
set_option maxHeartbeats 8000000 in
set_option maxRecDepth 100000 in
theorem k_X3_doubt (l : Launch) (D : va_G) (cA : Nat → ClassId) (Z : th_Zt) (τ : th_t) (gi : th_i) (gr : th_r) (sz : Nat) (h0 : Nat) (t_h0 : τ h0 = 3) : Met l yX3_doubt wsX3_doubt ({ frames := 0, cells := 0, slots := 0, locals := 0 }) (va_Pc [.ref h0] (th_Pre D cA Z τ gi gr sz)) (va_Qi (fun (r : Int32) (_ : Unit) => (F_X3_doubt τ Z gi gr h0 = r)) (fun (_ : Unit) t => th_H D cA τ gi gr t.heap) (th_A τ sz)) 0 0 (th_A τ sz) := by
  refine Met.ofW (cc := cX3_doubt) (maxL := 1) (ret := (some .int)) (by decide) rfl ?_
  intro p e s m args below meth c s₁ B hml hv
  obtain ⟨rfl, hsz, hH, hK, hN, hZ⟩ := hv
  have hx := B.exec
  have hb := B.bytes
  have hr := B.returns
  have hts := atoms_spec (ws := wsX3_doubt) B.pre
  have hown : s.vm.findClass RX3 = some m.cls := findClass_of_methodNamed B.named
  have hlocks := B.notSynchronized
  subst hsz
  have hS : va_S (th_A τ s.heap.size) s.heap s.heap [] := va_S.rf
  have hl := lv_entry ([.ref h0]) (n := 1) (Nat.le_of_ble_eq_true rfl)
  rw [lg_entry_eq]
  generalize (lg_sl ([.ref h0]) ++ List.replicate (1 - (lg_sl ([.ref h0])).length) Slot.unset).toArray = ls at hl ⊢
  have hl : lv_has ls 1 [(0, .ref h0)] := hl
  have hF : F_X3_doubt τ Z gi gr h0 = F_X3_doubt τ Z gi gr h0 := rfl
  refine lv_aload_n hx hb dX3_doubt_0 rfl (lv_at hl 0 rfl) ?_
  obtain ⟨x1, e1⟩ : ∃ y : Int32, y = gi h0 7 := ⟨_, rfl⟩
  refine th_get (ci := 2) (v := .int x1) (T := TX3) (C := RX3) (N := 8) hx hb hts (fun w h => List.mem_cons_of_mem _ (List.mem_append_right _ h)) hown hK hH t_h0 (th_nz rfl) rfl rfl 7 (th_ltN rfl) (hts (.fieldLink RX3 19 "BayMoorings$Buoy" "high" "I") (List.mem_cons_of_mem _ (List.mem_append_left _ (List.mem_of_getElem? (i := 0) rfl)))) (fun _ h9 => h9) (th_fI e1 rfl) dX3_doubt_1 ?_
  refine lv_aload_n hx hb dX3_doubt_4 rfl (lv_at hl 0 rfl) ?_
  obtain ⟨x2, e2⟩ : ∃ y : Int32, y = gi h0 6 := ⟨_, rfl⟩
  refine th_get (ci := 2) (v := .int x2) (T := TX3) (C := RX3) (N := 8) hx hb hts (fun w h => List.mem_cons_of_mem _ (List.mem_append_right _ h)) hown hK hH t_h0 (th_nz rfl) rfl rfl 6 (th_ltN rfl) (hts (.fieldLink RX3 15 "BayMoorings$Buoy" "low" "I") (List.mem_cons_of_mem _ (List.mem_append_left _ (List.mem_of_getElem? (i := 1) rfl)))) (fun _ h9 => h9) (th_fI e2 rfl) dX3_doubt_5 ?_
  refine lv_isub hx hb dX3_doubt_8 ?_
  refine lv_topi (fun x3 e3 => ?_)
  exact W.iret (v := x3) hx hb hr (fun t ht hW => ⟨⟨x3, (), rfl, (hF.trans (by simp only [F_X3_doubt, ← e1, ← e2, ← e3])), th_Ht ht hH⟩, hS.F ht⟩) hS.2.2 dX3_doubt_9

noncomputable def f_X3_wear_31 (τ : th_t) (Z : th_Zt) (gi : th_i) (gr : th_r) (h0 : Nat) (p1 : Int32) (gi_31 : th_i) (z31_1 : Int32) (z31_2 : Int32) : th_i :=
  let w31_0 : Int32 := gi_31 h0 6
  let w31_1 : Int32 := gi_31 h0 7
  let x1 : Int32 := z31_1 + z31_2
  let x2 : Int32 := th_mn x1 100
  let gi3 : th_i := va_up gi_31 h0 (upd (gi_31 h0) 7 x2)
  (gi3)
noncomputable def F_X3_wear (τ : th_t) (Z : th_Zt) (gi : th_i) (gr : th_r) (h0 : Nat) (p1 : Int32) : th_i :=
  let x6 : Int32 := gi h0 6
  let x7 : Int32 := x6 + 3
  let x8 : Int32 := th_mn x7 100
  let gi9 : th_i := va_up gi h0 (upd (gi h0) 6 x8)
  let x11 : Int32 := gi9 h0 7
  if p1 = (0 : Int32) then (
    f_X3_wear_31 τ Z gi gr h0 p1 gi9 x11 12) else (
    f_X3_wear_31 τ Z gi gr h0 p1 gi9 x11 20)
set_option maxHeartbeats 8000000 in
set_option maxRecDepth 100000 in
theorem k_X3_wear (l : Launch) (D : va_G) (cA : Nat → ClassId) (Z : th_Zt) (τ : th_t) (gi : th_i) (gr : th_r) (sz : Nat) (h0 : Nat) (t_h0 : τ h0 = 3) (p1 : Int32) (f_p1 : rg 0 1 p1) : Met l yX3_wear wsX3_wear ({ frames := 1, cells := 0, slots := 0, locals := 40 }) (va_Pc [.ref h0, .int p1] (th_Pre D cA Z τ gi gr sz)) (va_Qv (fun (u : th_i × th_r) => th_Mod [306, 307] τ gi gr u.1 u.2 ∧ u.2 = gr ∧ (F_X3_wear τ Z gi gr h0 p1 = u.1)) (fun (u : th_i × th_r) t => th_H D cA τ u.1 u.2 t.heap) (th_A τ sz)) 0 0 (th_A τ sz) := by
  refine Met.ofW (cc := cX3_wear) (maxL := 2) (ret := none) (by decide) rfl ?_
  intro p e s m args below meth c s₁ B hml hv
  obtain ⟨rfl, hsz, hH, hK, hN, hZ⟩ := hv
  have hx := B.exec
  have hb := B.bytes
  have hr := B.returns
  have hts := atoms_spec (ws := wsX3_wear) B.pre
  have hown : s.vm.findClass RX3 = some m.cls := findClass_of_methodNamed B.named
  have hlocks := B.notSynchronized
  subst hsz
  have hM : th_Mod [306, 307] τ gi gr gi gr := th_Mod.rf
  have J31 : ∀ (gi_31 : th_i) (H : Heap) (locs : List Loc) (ls : Array Slot) (z31_1 : Int32) (z31_2 : Int32) (w31_0 : Int32) (w31_1 : Int32), th_H D cA τ gi_31 gr H → va_S (th_A τ s.heap.size) s.heap H locs → th_Mod [306, 307] τ gi gr gi_31 gr → lv_has ls 2 [] → rg 12 20 z31_2 → w31_0 = gi_31 h0 6 → w31_1 = gi_31 h0 7 → F_X3_wear τ Z gi gr h0 p1 = f_X3_wear_31 τ Z gi gr h0 p1 gi_31 z31_1 z31_2 → W p l e (headSpec wsX3_wear ({ frames := 1, cells := 0, slots := 0, locals := 40 })).room s m [.ref h0, .int p1].toArray below meth c H locs 0 0 (MQ below (va_Qv (fun (u : th_i × th_r) => th_Mod [306, 307] τ gi gr u.1 u.2 ∧ u.2 = gr ∧ (F_X3_wear τ Z gi gr h0 p1 = u.1)) (fun (u : th_i × th_r) t => th_H D cA τ u.1 u.2 t.heap) (th_A τ s.heap.size)) [.ref h0, .int p1].toArray s 0 0 (th_A τ s.heap.size)) (F0 m 31 ls [.int z31_2, .int z31_1, .ref h0]) := by
    intro gi_31 H locs ls z31_1 z31_2 w31_0 w31_1 hH hS hM hl fz31_2 ew31_0 ew31_1 hF
    refine lv_iadd hx hb dX3_wear_31 ?_
    refine lv_topi (fun x1 e1 => ?_)
    refine lv_bipush (v := 100) hx hb dX3_wear_32 bp_100 ?_
    refine va_mmin hx hb (by rw [hml]; exact hl.1.symm) hown (hts (.methodLink RX3 45 Lib.Math.min.name) (List.mem_cons_of_mem _ (List.mem_append_left _ (List.mem_of_getElem? (i := 1) rfl)))) (hts (.static Lib.Math.min.name) (List.mem_cons_of_mem _ (List.mem_append_left _ (List.mem_of_getElem? (i := 2) rfl)))) (hts (.initialized "java/lang/Math") (List.mem_cons_of_mem _ (List.mem_append_left _ (List.mem_of_getElem? (i := 3) rfl)))) (hts (.code Lib.Math.min.name Lib.Math.min.code 2 (some .int)) (List.mem_cons_of_mem _ (List.mem_append_left _ (List.mem_of_getElem? (i := 4) rfl)))) (Nat.le_of_ble_eq_true rfl) (Nat.le_of_ble_eq_true rfl) (Nat.zero_le _) (Nat.zero_le _) dX3_wear_34 ?_
    refine lv_topi (fun x2 e2 => ?_)
    have em2 : x2 = th_mn x1 100 := e2
    refine th_put (ci := 2) (v := .int x2) (T := TX3) (C := RX3) (N := 8) (ty := .int) (gi' := va_up gi_31 h0 (upd (gi_31 h0) 7 x2)) (gr' := gr) hx hb hts (fun w h => List.mem_cons_of_mem _ (List.mem_append_right _ h)) tyX3 tyX3_ok nmX3 hown hK hH hS t_h0 (th_nz rfl) (Or.inl (th_nzE t_h0 rfl)) rfl rfl 7 (th_ltN rfl) (hts (.fieldLink RX3 19 "BayMoorings$Buoy" "high" "I") (List.mem_cons_of_mem _ (List.mem_append_left _ (List.mem_of_getElem? (i := 5) rfl)))) (fun _ h9 => h9) rfl (by decide +kernel) rfl rfl (Nat.le_of_ble_eq_true rfl) (by rw [va_up_self]; rfl) (by rw [va_up_self]; show (∃ q, gr h0 5 = some q ∧ τ q = 26); exact (show (∃ q, gr h0 5 = some q ∧ τ q = 26) from (hH.at t_h0 (th_nz rfl)).2)) (fun b hb => ⟨va_up_ne _ _ hb, rfl⟩) dX3_wear_37 (fun H locs hH hS => ?_)
    obtain ⟨gi3, eg3⟩ : ∃ g, g = va_up gi_31 h0 (upd (gi_31 h0) 7 x2) := ⟨_, rfl⟩
    rw [← eg3] at hH
    have hu3 : gi3 h0 7 = x2 := (th_uI eg3).1
    have ho3 : ∀ b j, b ≠ h0 ∨ j ≠ 7 → gi3 b j = gi_31 b j := (th_uI eg3).2
    have e4 : w31_0 = gi3 h0 6 := Eq.trans ew31_0 (Eq.symm (ho3 _ _ (Or.inr (th_nz rfl))))
    have hM := hM.i t_h0 (th_mem (a := 307) rfl) ho3
    exact W.vret hx hb hr (fun t ht hW => ⟨⟨(gi3, gr), rfl, ⟨hM, rfl, (hF.trans (by simp only [f_X3_wear_31, ← ew31_0, ← ew31_1, ← e1, ← em2, ← eg3]))⟩, th_Ht ht hH⟩, hS.F ht⟩) hS.2.2 dX3_wear_40
  have hS : va_S (th_A τ s.heap.size) s.heap s.heap [] := va_S.rf
  have hl := lv_entry ([.ref h0, .int p1]) (n := 2) (Nat.le_of_ble_eq_true rfl)
  rw [lg_entry_eq]
  generalize (lg_sl ([.ref h0, .int p1]) ++ List.replicate (2 - (lg_sl ([.ref h0, .int p1])).length) Slot.unset).toArray = ls at hl ⊢
  have hl : lv_has ls 2 [(0, .ref h0), (1, .int p1)] := hl
  have hF : F_X3_wear τ Z gi gr h0 p1 = F_X3_wear τ Z gi gr h0 p1 := rfl
  refine lv_aload_n hx hb dX3_wear_0 rfl (lv_at hl 0 rfl) ?_
  refine lv_aload_n hx hb dX3_wear_1 rfl (lv_at hl 0 rfl) ?_
  obtain ⟨x6, e6⟩ : ∃ y : Int32, y = gi h0 6 := ⟨_, rfl⟩
  refine th_get (ci := 2) (v := .int x6) (T := TX3) (C := RX3) (N := 8) hx hb hts (fun w h => List.mem_cons_of_mem _ (List.mem_append_right _ h)) hown hK hH t_h0 (th_nz rfl) rfl rfl 6 (th_ltN rfl) (hts (.fieldLink RX3 15 "BayMoorings$Buoy" "low" "I") (List.mem_cons_of_mem _ (List.mem_append_left _ (List.mem_of_getElem? (i := 0) rfl)))) (fun _ h9 => h9) (th_fI e6 rfl) dX3_wear_2 ?_
  refine lv_iconst (v := 3) hx hb dX3_wear_5 ic_3 ?_
  refine lv_iadd hx hb dX3_wear_6 ?_
  refine lv_topi (fun x7 e7 => ?_)
  refine lv_bipush (v := 100) hx hb dX3_wear_7 bp_100 ?_
  refine va_mmin hx hb (by rw [hml]; exact hl.1.symm) hown (hts (.methodLink RX3 45 Lib.Math.min.name) (List.mem_cons_of_mem _ (List.mem_append_left _ (List.mem_of_getElem? (i := 1) rfl)))) (hts (.static Lib.Math.min.name) (List.mem_cons_of_mem _ (List.mem_append_left _ (List.mem_of_getElem? (i := 2) rfl)))) (hts (.initialized "java/lang/Math") (List.mem_cons_of_mem _ (List.mem_append_left _ (List.mem_of_getElem? (i := 3) rfl)))) (hts (.code Lib.Math.min.name Lib.Math.min.code 2 (some .int)) (List.mem_cons_of_mem _ (List.mem_append_left _ (List.mem_of_getElem? (i := 4) rfl)))) (Nat.le_of_ble_eq_true rfl) (Nat.le_of_ble_eq_true rfl) (Nat.zero_le _) (Nat.zero_le _) dX3_wear_9 ?_
  refine lv_topi (fun x8 e8 => ?_)
  have em8 : x8 = th_mn x7 100 := e8
  refine th_put (ci := 2) (v := .int x8) (T := TX3) (C := RX3) (N := 8) (ty := .int) (gi' := va_up gi h0 (upd (gi h0) 6 x8)) (gr' := gr) hx hb hts (fun w h => List.mem_cons_of_mem _ (List.mem_append_right _ h)) tyX3 tyX3_ok nmX3 hown hK hH hS t_h0 (th_nz rfl) (Or.inl (th_nzE t_h0 rfl)) rfl rfl 6 (th_ltN rfl) (hts (.fieldLink RX3 15 "BayMoorings$Buoy" "low" "I") (List.mem_cons_of_mem _ (List.mem_append_left _ (List.mem_of_getElem? (i := 0) rfl)))) (fun _ h9 => h9) rfl (by decide +kernel) rfl rfl (Nat.le_of_ble_eq_true rfl) (by rw [va_up_self]; rfl) (by rw [va_up_self]; show (∃ q, gr h0 5 = some q ∧ τ q = 26); exact (show (∃ q, gr h0 5 = some q ∧ τ q = 26) from (hH.at t_h0 (th_nz rfl)).2)) (fun b hb => ⟨va_up_ne _ _ hb, rfl⟩) dX3_wear_12 (fun H locs hH hS => ?_)
  obtain ⟨gi9, eg9⟩ : ∃ g, g = va_up gi h0 (upd (gi h0) 6 x8) := ⟨_, rfl⟩
  rw [← eg9] at hH
  have hu9 : gi9 h0 6 = x8 := (th_uI eg9).1
  have ho9 : ∀ b j, b ≠ h0 ∨ j ≠ 6 → gi9 b j = gi b j := (th_uI eg9).2
  have hM := hM.i t_h0 (th_mem (a := 306) rfl) ho9
  refine lv_aload_n hx hb dX3_wear_15 rfl (lv_at hl 0 rfl) ?_
  refine lv_aload_n hx hb dX3_wear_16 rfl (lv_at hl 0 rfl) ?_
  obtain ⟨x11, e11⟩ : ∃ y : Int32, y = gi9 h0 7 := ⟨_, rfl⟩
  refine th_get (ci := 2) (v := .int x11) (T := TX3) (C := RX3) (N := 8) hx hb hts (fun w h => List.mem_cons_of_mem _ (List.mem_append_right _ h)) hown hK hH t_h0 (th_nz rfl) rfl rfl 7 (th_ltN rfl) (hts (.fieldLink RX3 19 "BayMoorings$Buoy" "high" "I") (List.mem_cons_of_mem _ (List.mem_append_left _ (List.mem_of_getElem? (i := 5) rfl)))) (fun _ h9 => h9) (th_fI e11 rfl) dX3_wear_17 ?_
  refine lv_iload_n hx hb dX3_wear_20 rfl (lv_at hl 1 rfl) ?_
  refine lv_if_eq (tgt := 29) hx hb dX3_wear_21 (th_eqI rfl) (fun c12 => ?_) (fun c12 => ?_)
  · skip
    have f13 : rg 0 0 p1 := rg_w (rg_eq f_p1 rgc_0 c12).1 (th_leI rfl) (th_leI rfl)
    refine lv_bipush (v := 12) hx hb dX3_wear_29 bp_12 ?_
    exact J31 gi9 _ _ _ x11 12 x8 x11 hH hS hM (lv_sub hl [] rfl) (rg_w rgc_12 (th_leI rfl) (th_leI rfl)) hu9.symm e11 (hF.trans (by simp only [↓reduceIte, F_X3_wear, ← e6, ← e7, ← em8, ← eg9, ← e11, eq_true c12]))
  · skip
    have f14 : rg 1 1 p1 := rg_w (rg_neL f_p1 rgc_0 c12) (th_leI rfl) (th_leI rfl)
    refine lv_bipush (v := 20) hx hb dX3_wear_24 bp_20 ?_
    refine lv_goto (tgt := 31) hx hb dX3_wear_26 (th_eqI rfl) ?_
    exact J31 gi9 _ _ _ x11 20 x8 x11 hH hS hM (lv_sub hl [] rfl) (rg_w rgc_20 (th_leI rfl) (th_leI rfl)) hu9.symm e11 (hF.trans (by simp only [↓reduceIte, F_X3_wear, ← e6, ← e7, ← em8, ← eg9, ← e11, eq_false c12]))

noncomputable def F_X3_holds (τ : th_t) (Z : th_Zt) (gi : th_i) (gr : th_r) (h0 : Nat) (h1 : Nat) (p2 : Int32) : Int32 :=
  let x1 : Int32 := gi h0 7
  let x2 : Int32 := x1 + p2
  let x3 : Int32 := gi h1 1
  let x4 : Int32 := x3 / 10
  let x5 : Int32 := x2 + x4
  if (100 : Int32) < x5 then (
    0) else (
    1)
set_option maxHeartbeats 8000000 in
set_option maxRecDepth 100000 in
theorem k_X3_holds (l : Launch) (D : va_G) (cA : Nat → ClassId) (Z : th_Zt) (τ : th_t) (gi : th_i) (gr : th_r) (sz : Nat) (h0 : Nat) (t_h0 : τ h0 = 3) (h1 : Nat) (t_h1 : τ h1 = 8 ∨ τ h1 = 9 ∨ τ h1 = 4) (p2 : Int32) : Met l yX3_holds wsX3_holds ({ frames := 0, cells := 0, slots := 0, locals := 0 }) (va_Pc [.ref h0, .ref h1, .int p2] (th_Pre D cA Z τ gi gr sz)) (va_Qi (fun (r : Int32) (_ : Unit) => rg 0 1 r ∧ (F_X3_holds τ Z gi gr h0 h1 p2 = r)) (fun (_ : Unit) t => th_H D cA τ gi gr t.heap) (th_A τ sz)) 0 0 (th_A τ sz) := by
  refine Met.ofW (cc := cX3_holds) (maxL := 3) (ret := (some .boolean)) (by decide) rfl ?_
  intro p e s m args below meth c s₁ B hml hv
  obtain ⟨rfl, hsz, hH, hK, hN, hZ⟩ := hv
  have hx := B.exec
  have hb := B.bytes
  have hr := B.returns
  have hts := atoms_spec (ws := wsX3_holds) B.pre
  have hown : s.vm.findClass RX3 = some m.cls := findClass_of_methodNamed B.named
  have hlocks := B.notSynchronized
  subst hsz
  have hS : va_S (th_A τ s.heap.size) s.heap s.heap [] := va_S.rf
  have hl := lv_entry ([.ref h0, .ref h1, .int p2]) (n := 3) (Nat.le_of_ble_eq_true rfl)
  rw [lg_entry_eq]
  generalize (lg_sl ([.ref h0, .ref h1, .int p2]) ++ List.replicate (3 - (lg_sl ([.ref h0, .ref h1, .int p2])).length) Slot.unset).toArray = ls at hl ⊢
  have hl : lv_has ls 3 [(0, .ref h0), (1, .ref h1), (2, .int p2)] := hl
  have hF : F_X3_holds τ Z gi gr h0 h1 p2 = F_X3_holds τ Z gi gr h0 h1 p2 := rfl
  refine lv_aload_n hx hb dX3_holds_0 rfl (lv_at hl 0 rfl) ?_
  obtain ⟨x1, e1⟩ : ∃ y : Int32, y = gi h0 7 := ⟨_, rfl⟩
  refine th_get (ci := 2) (v := .int x1) (T := TX3) (C := RX3) (N := 8) hx hb hts (fun w h => List.mem_cons_of_mem _ (List.mem_append_left _ (List.mem_append_left _ (List.mem_append_left _ (List.mem_append_right _ h))))) hown hK hH t_h0 (th_nz rfl) rfl rfl 7 (th_ltN rfl) (hts (.fieldLink RX3 19 "BayMoorings$Buoy" "high" "I") (List.mem_cons_of_mem _ (List.mem_append_left _ (List.mem_append_left _ (List.mem_append_left _ (List.mem_append_left _ (List.mem_of_getElem? (i := 0) rfl))))))) (fun _ h9 => h9) (th_fI e1 rfl) dX3_holds_1 ?_
  refine lv_iload_n hx hb dX3_holds_4 rfl (lv_at hl 2 rfl) ?_
  refine lv_iadd hx hb dX3_holds_5 ?_
  refine lv_topi (fun x2 e2 => ?_)
  refine lv_aload_n hx hb dX3_holds_6 rfl (lv_at hl 1 rfl) ?_
  obtain ⟨x3, e3⟩ : ∃ y : Int32, y = gi h1 1 := ⟨_, rfl⟩
  refine th_any3 t_h1 (fun t9 k9 => th_get (ci := 7) (v := .int x3) (T := TX8) (C := RX8) (N := 6) hx hb hts (fun w h => List.mem_cons_of_mem _ (List.mem_append_left _ (List.mem_append_right _ h))) hown hK hH t9 (th_nz rfl) rfl rfl 1 (th_ltN rfl) (hts (.fieldLink RX3 51 "BayMoorings$Boat" "length" "I") (List.mem_cons_of_mem _ (List.mem_append_left _ (List.mem_append_left _ (List.mem_append_left _ (List.mem_append_left _ (List.mem_of_getElem? (i := 1) rfl))))))) (fun _ h9 => h9) (th_fI e3 rfl) dX3_holds_7 k9) (fun t9 k9 => th_get (ci := 8) (v := .int x3) (T := TX9) (C := RX9) (N := 6) hx hb hts (fun w h => List.mem_cons_of_mem _ (List.mem_append_right _ h)) hown hK hH t9 (th_nz rfl) rfl rfl 1 (th_ltN rfl) (hts (.fieldLink RX3 51 "BayMoorings$Boat" "length" "I") (List.mem_cons_of_mem _ (List.mem_append_left _ (List.mem_append_left _ (List.mem_append_left _ (List.mem_append_left _ (List.mem_of_getElem? (i := 1) rfl))))))) (fun _ h9 => h9) (th_fI e3 rfl) dX3_holds_7 k9) (fun t9 k9 => th_get (ci := 3) (v := .int x3) (T := TX4) (C := RX4) (N := 6) hx hb hts (fun w h => List.mem_cons_of_mem _ (List.mem_append_left _ (List.mem_append_left _ (List.mem_append_right _ h)))) hown hK hH t9 (th_nz rfl) rfl rfl 1 (th_ltN rfl) (hts (.fieldLink RX3 51 "BayMoorings$Boat" "length" "I") (List.mem_cons_of_mem _ (List.mem_append_left _ (List.mem_append_left _ (List.mem_append_left _ (List.mem_append_left _ (List.mem_of_getElem? (i := 1) rfl))))))) (fun _ h9 => h9) (th_fI e3 rfl) dX3_holds_7 k9) ?_
  refine lv_bipush (v := 10) hx hb dX3_holds_10 bp_10 ?_
  refine lv_idiv hx hb dX3_holds_12 (rg_ne0 rgc_10 (Or.inl (th_ltI rfl))) ?_
  refine lv_topi (fun x4 e4 => ?_)
  refine lv_iadd hx hb dX3_holds_13 ?_
  refine lv_topi (fun x5 e5 => ?_)
  refine lv_bipush (v := 100) hx hb dX3_holds_14 bp_100 ?_
  refine lv_icmp_gt (tgt := 23) hx hb dX3_holds_16 (th_eqI rfl) (fun c6 => ?_) (fun c6 => ?_)
  · skip
    have f7 : rg 101 2147483647 x5 := rg_w (rg_lt rgc_100 (rg_any x5) c6).2 (th_leI rfl) (th_leI rfl)
    refine lv_iconst (v := 0) hx hb dX3_holds_23 ic_0 ?_
    exact W.zret (v := 0) hx hb hr (rg_nb (rg_w rgc_0 (th_leI rfl) (th_leI rfl))) (fun t ht hW => ⟨⟨0, (), rfl, ⟨(rg_w rgc_0 (th_leI rfl) (th_leI rfl)), (hF.trans (by simp only [↓reduceIte, F_X3_holds, ← e1, ← e2, ← e3, ← e4, ← e5, eq_true c6]))⟩, th_Ht ht hH⟩, hS.F ht⟩) hS.2.2 dX3_holds_24
  · skip
    have f8 : rg (-2147483648) 100 x5 := rg_w (rg_nlt rgc_100 (rg_any x5) c6).2 (th_leI rfl) (th_leI rfl)
    refine lv_iconst (v := 1) hx hb dX3_holds_19 ic_1 ?_
    refine lv_goto (tgt := 24) hx hb dX3_holds_20 (th_eqI rfl) ?_
    exact W.zret (v := 1) hx hb hr (rg_nb (rg_w rgc_1 (th_leI rfl) (th_leI rfl))) (fun t ht hW => ⟨⟨1, (), rfl, ⟨(rg_w rgc_1 (th_leI rfl) (th_leI rfl)), (hF.trans (by simp only [↓reduceIte, F_X3_holds, ← e1, ← e2, ← e3, ← e4, ← e5, eq_false c6]))⟩, th_Ht ht hH⟩, hS.F ht⟩) hS.2.2 dX3_holds_24
