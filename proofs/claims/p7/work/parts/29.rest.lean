noncomputable def f_X5_blow_113 (τ : th_t) (Z : th_Zt) (gi : th_i) (gr : th_r) (h0 : Nat) (p1 : Int32) (gi_21 : th_i) (y21_2 : Int32) (k_21 : th_i → Int32 → th_i) (gi_113 : th_i) : th_i :=
  let w113_0 : Int32 := gi_113 h0 2
  let x1 : Int32 := y21_2 + 1
  k_21 gi_113 x1
noncomputable def f_X5_blow_21 (τ : th_t) (Z : th_Zt) (gi : th_i) (gr : th_r) (h0 : Nat) (p1 : Int32) : Nat → th_i → Int32 → th_i
  | 0, gi_21, y21_2 => (gi_21)
  | n21 + 1, gi_21, y21_2 =>
    let w21_0 : Int32 := gi_21 h0 2
    let q2 : Nat := (gr h0 0).getD 0
    let x3 : Int32 := gi_21 q2 6
    if x3 ≤ y21_2 then (
      (gi_21)) else (
      let r9 : Option Nat := F_X0_boatAt τ Z gi_21 gr q2 y21_2
      let q11 : Nat := (gr h0 1).getD 0
      let x13 : Int32 := F_X1_buoyOf τ Z gi_21 gr q11 y21_2
      let r15 : Option Nat := F_X0_buoyAt τ Z gi_21 gr q2 x13
      Option.elim r9 (
        f_X5_blow_113 τ Z gi gr h0 p1 gi_21 y21_2 (f_X5_blow_21 τ Z gi gr h0 p1 n21) gi_21) (fun q16 =>
        Option.elim r15 (
          f_X5_blow_113 τ Z gi gr h0 p1 gi_21 y21_2 (f_X5_blow_21 τ Z gi gr h0 p1 n21) gi_21) (fun q17 =>
          let x19 : Int32 := F_X3_holds τ Z gi_21 gr q17 q16 p1
          if x19 = (0 : Int32) then (
            let x24 : Int32 := w21_0 + 1
            let gi25 : th_i := va_up gi_21 h0 (upd (gi_21 h0) 2 x24)
            let x29 : Int32 := F_X5_refugeOf τ Z gi25 gr h0 q16 p1
            let gi32 : th_i := F_X1_lift τ Z gi25 gr q11 y21_2
            let gi37 : th_i := F_X1_put τ Z gi32 gr q11 y21_2 x29
            f_X5_blow_113 τ Z gi gr h0 p1 gi_21 y21_2 (f_X5_blow_21 τ Z gi gr h0 p1 n21) gi37) else (
            f_X5_blow_113 τ Z gi gr h0 p1 gi_21 y21_2 (f_X5_blow_21 τ Z gi gr h0 p1 n21) gi_21))))
noncomputable def F_X5_blow (τ : th_t) (Z : th_Zt) (gi : th_i) (gr : th_r) (h0 : Nat) (p1 : Int32) : th_i :=
  let q40 : Nat := (gr h0 1).getD 0
  let q41 : Nat := (gr h0 0).getD 0
  let q42 : Nat := (gr q41 4).getD 0
  let gi44 : th_i := F_X1_copyFrom τ Z gi gr q40 q42
  let gi45 : th_i := va_up gi44 h0 (upd (gi44 h0) 2 0)
  f_X5_blow_21 τ Z gi gr h0 p1 ((16 - (0 : Int32).toInt).toNat + 1) gi45 0
set_option maxHeartbeats 8000000 in
set_option maxRecDepth 100000 in
theorem k_X5_blow (l : Launch) (D : va_G) (cA : Nat → ClassId) (Z : th_Zt) (τ : th_t) (gi : th_i) (gr : th_r) (sz : Nat) (h0 : Nat) (t_h0 : τ h0 = 5) (p1 : Int32) : Met l yX5_blow wsX5_blow ({ frames := 5, cells := 0, slots := 0, locals := 147 }) (va_Pc [.ref h0, .int p1] (th_Pre D cA Z τ gi gr sz)) (va_Qv (fun (u : th_i × th_r) => th_Mod [502, 2400, 2500] τ gi gr u.1 u.2 ∧ u.2 = gr ∧ (F_X5_blow τ Z gi gr h0 p1 = u.1)) (fun (u : th_i × th_r) t => th_H D cA τ u.1 u.2 t.heap) (th_A τ sz)) 0 0 (th_A τ sz) := by
  refine Met.ofW (cc := cX5_blow) (maxL := 6) (ret := none) (by decide) rfl ?_
  intro p e s m args below meth c s₁ B hml hv
  obtain ⟨rfl, hsz, hH, hK, hN, hZ⟩ := hv
  have hx := B.exec
  have hb := B.bytes
  have hr := B.returns
  have hts := atoms_spec (ws := wsX5_blow) B.pre
  have hown : s.vm.findClass RX5 = some m.cls := findClass_of_methodNamed B.named
  have hlocks := B.notSynchronized
  subst hsz
  have hM : th_Mod [502, 2400, 2500] τ gi gr gi gr := th_Mod.rf
  have J21 : ∀ (n21 : Nat) (gi_21 : th_i) (H : Heap) (locs : List Loc) (ls : Array Slot) (y21_2 : Int32) (w21_0 : Int32), (16 - y21_2.toInt).toNat < n21 → th_H D cA τ gi_21 gr H → va_S (th_A τ s.heap.size) s.heap H locs → th_Mod [502, 2400, 2500] τ gi gr gi_21 gr → lv_has ls 6 [(0, .ref h0), (1, .int p1), (2, .int y21_2)] → rg 0 16 y21_2 → w21_0 = gi_21 h0 2 → F_X5_blow τ Z gi gr h0 p1 = f_X5_blow_21 τ Z gi gr h0 p1 n21 gi_21 y21_2 → W p l e (headSpec wsX5_blow ({ frames := 5, cells := 0, slots := 0, locals := 147 })).room s m [.ref h0, .int p1].toArray below meth c H locs 0 0 (MQ below (va_Qv (fun (u : th_i × th_r) => th_Mod [502, 2400, 2500] τ gi gr u.1 u.2 ∧ u.2 = gr ∧ (F_X5_blow τ Z gi gr h0 p1 = u.1)) (fun (u : th_i × th_r) t => th_H D cA τ u.1 u.2 t.heap) (th_A τ s.heap.size)) [.ref h0, .int p1].toArray s 0 0 (th_A τ s.heap.size)) (F0 m 21 ls []) := by
    intro n21
    induction n21 with
    | zero =>
      intro gi_21 H locs ls y21_2 w21_0 hn
      exact absurd hn (Nat.not_lt_zero _)
    | succ n21 ih21 =>
      intro gi_21 H locs ls y21_2 w21_0 hn21 hH hS hM hl fy21_2 ew21_0 hF
      have J113 : ∀ (gi_113 : th_i) (H : Heap) (locs : List Loc) (ls : Array Slot) (w113_0 : Int32), th_H D cA τ gi_113 gr H → va_S (th_A τ s.heap.size) s.heap H locs → th_Mod [502, 2400, 2500] τ gi gr gi_113 gr → lv_has ls 6 [(0, .ref h0), (1, .int p1), (2, .int y21_2)] → rg 0 15 y21_2 → w113_0 = gi_113 h0 2 → F_X5_blow τ Z gi gr h0 p1 = f_X5_blow_113 τ Z gi gr h0 p1 gi_21 y21_2 (f_X5_blow_21 τ Z gi gr h0 p1 n21) gi_113 → W p l e (headSpec wsX5_blow ({ frames := 5, cells := 0, slots := 0, locals := 147 })).room s m [.ref h0, .int p1].toArray below meth c H locs 0 0 (MQ below (va_Qv (fun (u : th_i × th_r) => th_Mod [502, 2400, 2500] τ gi gr u.1 u.2 ∧ u.2 = gr ∧ (F_X5_blow τ Z gi gr h0 p1 = u.1)) (fun (u : th_i × th_r) t => th_H D cA τ u.1 u.2 t.heap) (th_A τ s.heap.size)) [.ref h0, .int p1].toArray s 0 0 (th_A τ s.heap.size)) (F0 m 113 ls []) := by
        intro gi_113 H locs ls w113_0 hH hS hM hl fy113_2 ew113_0 hF
        obtain ⟨x1, e1⟩ : ∃ y : Int32, y = y21_2 + 1 := ⟨_, rfl⟩
        have f1 : rg 1 16 x1 := rg_e e1 (rg_w (rg_add fy113_2 rgc_1 (th_leI rfl) (th_leI rfl)) (th_leI rfl) (th_leI rfl))
        refine lv_iinc (v := x1) (lv' := [(2, .int x1), (0, .ref h0), (1, .int p1)]) hx hb dX5_blow_113 hl (k := 2) rfl (by rw [e1]; rfl) (th_ltN rfl) rfl (fun ls hl => ?_)
        refine lv_goto (tgt := 21) hx hb dX5_blow_116 (th_eqI rfl) ?_
        exact ih21 gi_113 _ _ _ x1 w113_0 (th_up (rg_dA e1 fy113_2 rgc_1 (th_leI rfl) (th_leI rfl)) fy113_2 hn21 (th_ltI rfl)) hH hS hM (lv_sub hl [1, 2, 0] rfl) (rg_w f1 (th_leI rfl) (th_leI rfl)) ew113_0 (hF.trans (by simp only [f_X5_blow_113, ← ew113_0, ← e1]))
      refine lv_iload_n hx hb dX5_blow_21 rfl (lv_at hl 2 rfl) ?_
      refine lv_aload_n hx hb dX5_blow_22 rfl (lv_at hl 0 rfl) ?_
      obtain ⟨q2, r2, t2⟩ : ∃ q, gr h0 0 = some q ∧ τ q = 1 := (thI_5 hH t_h0).1
      refine th_get (ci := 4) (v := .ref q2) (T := TX5) (C := RX5) (N := 3) hx hb hts (fun w h => List.mem_cons_of_mem _ (List.mem_append_left _ (List.mem_append_left _ (List.mem_append_left _ (List.mem_append_left _ (List.mem_append_left _ (List.mem_append_left _ (List.mem_append_right _ h)))))))) hown hK hH t_h0 (th_nz rfl) (thE_5 _ _ _) rfl 0 (th_ltN rfl) (hts (.fieldLink RX5 22 "BayMoorings$Flight" "bay" "LBayMoorings$Bay;") (List.mem_cons_of_mem _ (List.mem_append_left _ (List.mem_append_left _ (List.mem_append_left _ (List.mem_append_left _ (List.mem_append_left _ (List.mem_append_left _ (List.mem_append_left _ (List.mem_append_left _ (List.mem_of_getElem? (i := 1) rfl))))))))))) (fun _ h9 => h9) (th_fR r2 rfl) dX5_blow_23 ?_
      obtain ⟨x3, e3⟩ : ∃ y : Int32, y = gi_21 q2 6 := ⟨_, rfl⟩
      refine th_get (ci := 0) (v := .int x3) (T := TX0) (C := RX0) (N := 9) hx hb hts (fun w h => List.mem_cons_of_mem _ (List.mem_append_left _ (List.mem_append_left _ (List.mem_append_left _ (List.mem_append_left _ (List.mem_append_left _ (List.mem_append_right _ h))))))) hown hK hH t2 (th_nz rfl) (thE_1 _ _ _) rfl 6 (th_ltN rfl) (hts (.fieldLink RX5 33 "BayMoorings$Bay" "boatCount" "I") (List.mem_cons_of_mem _ (List.mem_append_left _ (List.mem_append_left _ (List.mem_append_left _ (List.mem_append_left _ (List.mem_append_left _ (List.mem_append_left _ (List.mem_append_left _ (List.mem_append_left _ (List.mem_of_getElem? (i := 4) rfl))))))))))) (fun _ h9 => h9) (th_fI e3 rfl) dX5_blow_26 ?_
      have f3 : rg 0 16 x3 := rg_e e3 ((thI_1 hH t2).2.2.2.2.2.2)
      refine lv_icmp_ge (tgt := 119) hx hb dX5_blow_29 (th_eqI rfl) (fun c4 => ?_) (fun c4 => ?_)
      · skip
        exact W.vret hx hb hr (fun t ht hW => ⟨⟨(gi_21, gr), rfl, ⟨hM, rfl, (hF.trans (by simp only [↓reduceIte, f_X5_blow_21, ← ew21_0, r2, Option.getD_some, ← e3, eq_true c4]))⟩, th_Ht ht hH⟩, hS.F ht⟩) hS.2.2 dX5_blow_119
      · skip
        have f5 : rg 1 16 x3 := rg_w (rg_nle f3 fy21_2 c4).1 (th_leI rfl) (th_leI rfl)
        have f6 : rg 0 15 y21_2 := rg_w (rg_nle f3 fy21_2 c4).2 (th_leI rfl) (th_leI rfl)
        refine lv_aload_n hx hb dX5_blow_32 rfl (lv_at hl 0 rfl) ?_
        refine th_get (ci := 4) (v := .ref q2) (T := TX5) (C := RX5) (N := 3) hx hb hts (fun w h => List.mem_cons_of_mem _ (List.mem_append_left _ (List.mem_append_left _ (List.mem_append_left _ (List.mem_append_left _ (List.mem_append_left _ (List.mem_append_left _ (List.mem_append_right _ h)))))))) hown hK hH t_h0 (th_nz rfl) (thE_5 _ _ _) rfl 0 (th_ltN rfl) (hts (.fieldLink RX5 22 "BayMoorings$Flight" "bay" "LBayMoorings$Bay;") (List.mem_cons_of_mem _ (List.mem_append_left _ (List.mem_append_left _ (List.mem_append_left _ (List.mem_append_left _ (List.mem_append_left _ (List.mem_append_left _ (List.mem_append_left _ (List.mem_append_left _ (List.mem_of_getElem? (i := 1) rfl))))))))))) (fun _ h9 => h9) (th_fR r2 rfl) dX5_blow_33 ?_
        refine lv_iload_n hx hb dX5_blow_36 rfl (lv_at hl 2 rfl) ?_
        have hA8 := th_Asub (τ := τ) hS
        refine va_callq (va_runV (As := [.int y21_2]) (rest := []) ⟨hx, hb, hml, hown, hts⟩ (k_X0_boatAt l D cA Z τ gi_21 gr _ q2 t2 y21_2) (cwV 1 hts gX5_blow_X0_boatAt rfl rfl rfl hd_X0_boatAt__1 ⟨Nat.le_of_ble_eq_true rfl, Nat.le_of_ble_eq_true rfl⟩) ⟨th_blind, tr_1 hK hH t2, (th_pre hH hK hN hZ hS hA8)⟩ rfl rfl hl.1 rfl (lv_room (Nat.le_of_ble_eq_true rfl)) dX5_blow_37 ⟨Nat.le_of_ble_eq_true rfl, Nat.le_of_ble_eq_true rfl⟩) hS (fun q _ h => hA8 q h) hA8 (fun r9 u t H locs ht hvm hw9 hB hz1 hk1 hS => ?_)
        try dsimp only at hw9 hB
        rw [ht] at hB
        have hH := hB
        refine th_astoreq_n (i := 3) (lv' := [(3, va_rf r9), (0, .ref h0), (1, .int p1), (2, .int y21_2)]) hx hb dX5_blow_40 rfl hl (th_ltN rfl) rfl (fun ls hl => ?_)
        refine lv_aload_n hx hb dX5_blow_41 rfl (lv_at hl 1 rfl) ?_
        refine th_get (ci := 4) (v := .ref q2) (T := TX5) (C := RX5) (N := 3) hx hb hts (fun w h => List.mem_cons_of_mem _ (List.mem_append_left _ (List.mem_append_left _ (List.mem_append_left _ (List.mem_append_left _ (List.mem_append_left _ (List.mem_append_left _ (List.mem_append_right _ h)))))))) hown hK hH t_h0 (th_nz rfl) (thE_5 _ _ _) rfl 0 (th_ltN rfl) (hts (.fieldLink RX5 22 "BayMoorings$Flight" "bay" "LBayMoorings$Bay;") (List.mem_cons_of_mem _ (List.mem_append_left _ (List.mem_append_left _ (List.mem_append_left _ (List.mem_append_left _ (List.mem_append_left _ (List.mem_append_left _ (List.mem_append_left _ (List.mem_append_left _ (List.mem_of_getElem? (i := 1) rfl))))))))))) (fun _ h9 => h9) (th_fR r2 rfl) dX5_blow_42 ?_
        refine lv_aload_n hx hb dX5_blow_45 rfl (lv_at hl 1 rfl) ?_
        obtain ⟨q11, r11, t11⟩ : ∃ q, gr h0 1 = some q ∧ τ q = 2 := (thI_5 hH t_h0).2
        refine th_get (ci := 4) (v := .ref q11) (T := TX5) (C := RX5) (N := 3) hx hb hts (fun w h => List.mem_cons_of_mem _ (List.mem_append_left _ (List.mem_append_left _ (List.mem_append_left _ (List.mem_append_left _ (List.mem_append_left _ (List.mem_append_left _ (List.mem_append_right _ h)))))))) hown hK hH t_h0 (th_nz rfl) (thE_5 _ _ _) rfl 1 (th_ltN rfl) (hts (.fieldLink RX5 12 "BayMoorings$Flight" "berths" "LBayMoorings$Berths;") (List.mem_cons_of_mem _ (List.mem_append_left _ (List.mem_append_left _ (List.mem_append_left _ (List.mem_append_left _ (List.mem_append_left _ (List.mem_append_left _ (List.mem_append_left _ (List.mem_append_left _ (List.mem_of_getElem? (i := 0) rfl))))))))))) (fun _ h9 => h9) (th_fR r11 rfl) dX5_blow_46 ?_
        refine lv_iload_n hx hb dX5_blow_49 rfl (lv_at hl 3 rfl) ?_
        have hA12 := th_Asub (τ := τ) hS
        refine va_calli (va_runV (As := [.int y21_2]) (rest := [.ref q2]) ⟨hx, hb, hml, hown, hts⟩ (k_X1_buoyOf l D cA Z τ gi_21 gr _ q11 t11 y21_2) (cwV 1 hts gX5_blow_X1_buoyOf rfl rfl rfl hd_X1_buoyOf__1 ⟨Nat.le_of_ble_eq_true rfl, Nat.le_of_ble_eq_true rfl⟩) ⟨th_blind, tr_2 hK hH t11, (th_pre hH hK hN hZ hS hA12)⟩ rfl rfl hl.1 rfl (lv_room (Nat.le_of_ble_eq_true rfl)) dX5_blow_50 ⟨Nat.le_of_ble_eq_true rfl, Nat.le_of_ble_eq_true rfl⟩) hS (fun q _ h => hA12 q h) hA12 (fun x13 u t H locs ht hvm hw13 hB hz1 hk1 hS => ?_)
        try dsimp only at hw13 hB
        rw [ht] at hB
        have hH := hB
        have hA14 := th_Asub (τ := τ) hS
        refine va_callq (va_runV (As := [.int x13]) (rest := []) ⟨hx, hb, hml, hown, hts⟩ (k_X0_buoyAt l D cA Z τ gi_21 gr _ q2 t2 x13) (cwV 1 hts gX5_blow_X0_buoyAt rfl rfl rfl hd_X0_buoyAt__1 ⟨Nat.le_of_ble_eq_true rfl, Nat.le_of_ble_eq_true rfl⟩) ⟨th_blind, tr_1 hK hH t2, (th_pre hH hK hN hZ hS hA14)⟩ rfl rfl hl.1 rfl (lv_room (Nat.le_of_ble_eq_true rfl)) dX5_blow_53 ⟨Nat.le_of_ble_eq_true rfl, Nat.le_of_ble_eq_true rfl⟩) hS (fun q _ h => hA14 q h) hA14 (fun r15 u t H locs ht hvm hw15 hB hz1 hk1 hS => ?_)
        try dsimp only at hw15 hB
        rw [ht] at hB
        have hH := hB
        refine th_astoreq (i := 4) (lv' := [(4, va_rf r15), (3, va_rf r9), (0, .ref h0), (1, .int p1), (2, .int y21_2)]) hx hb dX5_blow_56 hl (th_ltN rfl) (by simp [th_cat]) (fun ls hl => ?_)
        refine th_aloadq_n hx hb dX5_blow_58 rfl (lv_at hl 1 rfl) ?_
        refine th_ifnull (tgt := 113) hx hb dX5_blow_59 (th_eqI rfl) (fun z16 => ?_) (fun q16 z16 => ?_)
        · skip
          subst z16
          have hl : lv_has ls 6 [(4, va_rf r15), (3, .null), (0, .ref h0), (1, .int p1), (2, .int y21_2)] := hl
          exact J113 gi_21 _ _ _ w21_0 hH hS hM (lv_sub hl [2, 3, 4] rfl) f6 ew21_0 (hF.trans (by simp only [↓reduceIte, f_X5_blow_21, ← ew21_0, r2, Option.getD_some, ← e3, eq_false c4, hw9.2, r11, hw13, hw15.2, Option.elim_none]))
        · skip
          subst z16
          have t16 := hw9.1 q16 rfl
          have hl : lv_has ls 6 [(4, va_rf r15), (3, .ref q16), (0, .ref h0), (1, .int p1), (2, .int y21_2)] := hl
          refine th_aloadq hx hb dX5_blow_62 (lv_at hl 0 rfl) ?_
          refine th_ifnull (tgt := 113) hx hb dX5_blow_64 (th_eqI rfl) (fun z17 => ?_) (fun q17 z17 => ?_)
          · skip
            subst z17
            have hl : lv_has ls 6 [(4, .null), (3, .ref q16), (0, .ref h0), (1, .int p1), (2, .int y21_2)] := hl
            exact J113 gi_21 _ _ _ w21_0 hH hS hM (lv_sub hl [2, 3, 4] rfl) f6 ew21_0 (hF.trans (by simp only [↓reduceIte, f_X5_blow_21, ← ew21_0, r2, Option.getD_some, ← e3, eq_false c4, hw9.2, r11, hw13, hw15.2, Option.elim_some, Option.elim_none]))
          · skip
            subst z17
            have t17 := hw15.1 q17 rfl
            have hl : lv_has ls 6 [(4, .ref q17), (3, .ref q16), (0, .ref h0), (1, .int p1), (2, .int y21_2)] := hl
            refine lv_aload hx hb dX5_blow_67 (lv_at hl 0 rfl) ?_
            refine lv_aload_n hx hb dX5_blow_69 rfl (lv_at hl 1 rfl) ?_
            refine lv_iload_n hx hb dX5_blow_70 rfl (lv_at hl 3 rfl) ?_
            have hA18 := th_Asub (τ := τ) hS
            refine va_calli (va_runV (As := [.ref q16, .int p1]) (rest := []) ⟨hx, hb, hml, hown, hts⟩ (k_X3_holds l D cA Z τ gi_21 gr _ q17 t17 q16 t16 p1) (cwV 2 hts gX5_blow_X3_holds rfl rfl rfl hd_X3_holds__2 ⟨Nat.le_of_ble_eq_true rfl, Nat.le_of_ble_eq_true rfl⟩) ⟨th_blind, tr_3 hK hH t17, (th_pre hH hK hN hZ hS hA18)⟩ rfl rfl hl.1 rfl (lv_room (Nat.le_of_ble_eq_true rfl)) dX5_blow_71 ⟨Nat.le_of_ble_eq_true rfl, Nat.le_of_ble_eq_true rfl⟩) hS (fun q _ h => hA18 q h) hA18 (fun x19 u t H locs ht hvm hw19 hB hz1 hk1 hS => ?_)
            try dsimp only at hw19 hB
            rw [ht] at hB
            have hH := hB
            refine lv_if_ne (tgt := 113) hx hb dX5_blow_74 (th_eqI rfl) (fun c20 => ?_) (fun c20 => ?_)
            · skip
              have f21 : rg 1 1 x19 := rg_w (rg_neL hw19.1 rgc_0 c20) (th_leI rfl) (th_leI rfl)
              exact J113 gi_21 _ _ _ w21_0 hH hS hM (lv_sub hl [2, 3, 4] rfl) f6 ew21_0 (hF.trans (by simp only [↓reduceIte, f_X5_blow_21, ← ew21_0, r2, Option.getD_some, ← e3, eq_false c4, hw9.2, r11, hw13, hw15.2, Option.elim_some, hw19.2, eq_false c20]))
            · skip
              have f22 : rg 0 0 x19 := rg_w (rg_eq hw19.1 rgc_0 c20).1 (th_leI rfl) (th_leI rfl)
              refine lv_aload_n hx hb dX5_blow_77 rfl (lv_at hl 2 rfl) ?_
              refine lv_dup hx hb dX5_blow_78 rfl ?_
              refine th_get (ci := 4) (v := .int w21_0) (T := TX5) (C := RX5) (N := 3) hx hb hts (fun w h => List.mem_cons_of_mem _ (List.mem_append_left _ (List.mem_append_left _ (List.mem_append_left _ (List.mem_append_left _ (List.mem_append_left _ (List.mem_append_left _ (List.mem_append_right _ h)))))))) hown hK hH t_h0 (th_nz rfl) (thE_5 _ _ _) rfl 2 (th_ltN rfl) (hts (.fieldLink RX5 18 "BayMoorings$Flight" "fleeing" "I") (List.mem_cons_of_mem _ (List.mem_append_left _ (List.mem_append_left _ (List.mem_append_left _ (List.mem_append_left _ (List.mem_append_left _ (List.mem_append_left _ (List.mem_append_left _ (List.mem_append_left _ (List.mem_of_getElem? (i := 3) rfl))))))))))) (fun _ h9 => h9) (th_fI ew21_0 rfl) dX5_blow_79 ?_
              refine lv_iconst (v := 1) hx hb dX5_blow_82 ic_1 ?_
              refine lv_iadd hx hb dX5_blow_83 ?_
              refine lv_topi (fun x24 e24 => ?_)
              refine th_put (ci := 4) (v := .int x24) (T := TX5) (C := RX5) (N := 3) (ty := .int) (gi' := va_up gi_21 h0 (upd (gi_21 h0) 2 x24)) (gr' := gr) hx hb hts (fun w h => List.mem_cons_of_mem _ (List.mem_append_left _ (List.mem_append_left _ (List.mem_append_left _ (List.mem_append_left _ (List.mem_append_left _ (List.mem_append_left _ (List.mem_append_right _ h)))))))) tyX5 tyX5_ok nmX5 hown hK hH hS t_h0 (th_nz rfl) (Or.inl (th_nzE t_h0 rfl)) rfl rfl 2 (th_ltN rfl) (hts (.fieldLink RX5 18 "BayMoorings$Flight" "fleeing" "I") (List.mem_cons_of_mem _ (List.mem_append_left _ (List.mem_append_left _ (List.mem_append_left _ (List.mem_append_left _ (List.mem_append_left _ (List.mem_append_left _ (List.mem_append_left _ (List.mem_append_left _ (List.mem_of_getElem? (i := 3) rfl))))))))))) (fun _ h9 => h9) rfl (by decide +kernel) rfl rfl (Nat.le_of_ble_eq_true rfl) (by rw [va_up_self]; rfl) (by rw [va_up_self]; show (∃ q, gr h0 0 = some q ∧ τ q = 1) ∧ (∃ q, gr h0 1 = some q ∧ τ q = 2); exact ⟨(thI_5 hH t_h0).1, (thI_5 hH t_h0).2⟩) (fun b hb => ⟨va_up_ne _ _ hb, rfl⟩) dX5_blow_84 (fun H locs hH hS => ?_)
              obtain ⟨gi25, eg25⟩ : ∃ g, g = va_up gi_21 h0 (upd (gi_21 h0) 2 x24) := ⟨_, rfl⟩
              rw [← eg25] at hH
              have hu25 : gi25 h0 2 = x24 := (th_uI eg25).1
              have ho25 : ∀ b j, b ≠ h0 ∨ j ≠ 2 → gi25 b j = gi_21 b j := (th_uI eg25).2
              have e27 : x3 = gi25 q2 6 := Eq.trans e3 (Eq.symm (ho25 _ _ (Or.inl (th_ne t2 t_h0 (th_nz rfl)))))
              have hM := hM.i t_h0 (th_mem (a := 502) rfl) ho25
              refine lv_aload_n hx hb dX5_blow_87 rfl (lv_at hl 2 rfl) ?_
              refine lv_aload_n hx hb dX5_blow_88 rfl (lv_at hl 1 rfl) ?_
              refine lv_iload_n hx hb dX5_blow_89 rfl (lv_at hl 3 rfl) ?_
              have hA28 := th_Asub (τ := τ) hS
              refine va_calli (va_runV (As := [.ref q16, .int p1]) (rest := []) ⟨hx, hb, hml, hown, hts⟩ (k_X5_refugeOf l D cA Z τ gi25 gr _ h0 t_h0 q16 t16 p1) (cwV 2 hts gX5_blow_X5_refugeOf rfl rfl rfl hd_X5_refugeOf__2 ⟨Nat.le_of_ble_eq_true rfl, Nat.le_of_ble_eq_true rfl⟩) ⟨th_blind, tr_5 hK hH t_h0, (th_pre hH hK hN hZ hS hA28)⟩ rfl rfl hl.1 rfl (lv_room (Nat.le_of_ble_eq_true rfl)) dX5_blow_90 ⟨Nat.le_of_ble_eq_true rfl, Nat.le_of_ble_eq_true rfl⟩) hS (fun q _ h => hA28 q h) hA28 (fun x29 u t H locs ht hvm hw29 hB hz1 hk1 hS => ?_)
              try dsimp only at hw29 hB
              rw [ht] at hB
              have hH := hB
              refine lv_istore (i := 5) (lv' := [(5, .int x29), (4, .ref q17), (3, .ref q16), (0, .ref h0), (1, .int p1), (2, .int y21_2)]) hx hb dX5_blow_93 hl (th_ltN rfl) rfl (fun ls hl => ?_)
              refine lv_aload_n hx hb dX5_blow_95 rfl (lv_at hl 3 rfl) ?_
              refine th_get (ci := 4) (v := .ref q11) (T := TX5) (C := RX5) (N := 3) hx hb hts (fun w h => List.mem_cons_of_mem _ (List.mem_append_left _ (List.mem_append_left _ (List.mem_append_left _ (List.mem_append_left _ (List.mem_append_left _ (List.mem_append_left _ (List.mem_append_right _ h)))))))) hown hK hH t_h0 (th_nz rfl) (thE_5 _ _ _) rfl 1 (th_ltN rfl) (hts (.fieldLink RX5 12 "BayMoorings$Flight" "berths" "LBayMoorings$Berths;") (List.mem_cons_of_mem _ (List.mem_append_left _ (List.mem_append_left _ (List.mem_append_left _ (List.mem_append_left _ (List.mem_append_left _ (List.mem_append_left _ (List.mem_append_left _ (List.mem_append_left _ (List.mem_of_getElem? (i := 0) rfl))))))))))) (fun _ h9 => h9) (th_fR r11 rfl) dX5_blow_96 ?_
              refine lv_iload_n hx hb dX5_blow_99 rfl (lv_at hl 5 rfl) ?_
              have hA31 := th_Asub (τ := τ) hS
              refine va_callv (va_runV (As := [.int y21_2]) (rest := []) ⟨hx, hb, hml, hown, hts⟩ (k_X1_lift l D cA Z τ gi25 gr _ q11 t11 y21_2) (cwV 1 hts gX5_blow_X1_lift rfl rfl rfl hd_X1_lift__1 ⟨Nat.le_of_ble_eq_true rfl, Nat.le_of_ble_eq_true rfl⟩) ⟨th_blind, tr_2 hK hH t11, (th_pre hH hK hN hZ hS hA31)⟩ rfl rfl hl.1 rfl (lv_room (Nat.le_of_ble_eq_true rfl)) dX5_blow_100 ⟨Nat.le_of_ble_eq_true rfl, Nat.le_of_ble_eq_true rfl⟩) hS (fun q _ h => hA31 q h) hA31 (fun  u t H locs ht hvm hw32 hB hz1 hk1 hS => ?_)
              try dsimp only at hw32 hB
              rw [ht] at hB
              have hH := hB
              obtain ⟨gi32, gr32⟩ := u
              try dsimp only at hw32 hH
              obtain rfl : gr = gr32 := (hw32.2.1).symm
              have hM := hM.tr hw32.1 (fun _ h => h) (th_sub rfl)
              have e33 : x3 = gi32 q2 6 := Eq.trans e27 (Eq.symm (hw32.1 q2 6 (th_nzE t2 rfl) (th_nmE (key := 106) t2 rfl rfl)).1)
              have e34 : x24 = gi32 h0 2 := Eq.trans hu25.symm (Eq.symm (hw32.1 h0 2 (th_nzE t_h0 rfl) (th_nmE (key := 502) t_h0 rfl rfl)).1)
              refine lv_aload_n hx hb dX5_blow_103 rfl (lv_at hl 3 rfl) ?_
              refine th_get (ci := 4) (v := .ref q11) (T := TX5) (C := RX5) (N := 3) hx hb hts (fun w h => List.mem_cons_of_mem _ (List.mem_append_left _ (List.mem_append_left _ (List.mem_append_left _ (List.mem_append_left _ (List.mem_append_left _ (List.mem_append_left _ (List.mem_append_right _ h)))))))) hown hK hH t_h0 (th_nz rfl) (thE_5 _ _ _) rfl 1 (th_ltN rfl) (hts (.fieldLink RX5 12 "BayMoorings$Flight" "berths" "LBayMoorings$Berths;") (List.mem_cons_of_mem _ (List.mem_append_left _ (List.mem_append_left _ (List.mem_append_left _ (List.mem_append_left _ (List.mem_append_left _ (List.mem_append_left _ (List.mem_append_left _ (List.mem_append_left _ (List.mem_of_getElem? (i := 0) rfl))))))))))) (fun _ h9 => h9) (th_fR r11 rfl) dX5_blow_104 ?_
              refine lv_iload_n hx hb dX5_blow_107 rfl (lv_at hl 5 rfl) ?_
              refine lv_iload hx hb dX5_blow_108 (lv_at hl 0 rfl) ?_
              have hA36 := th_Asub (τ := τ) hS
              refine va_callv (va_runV (As := [.int y21_2, .int x29]) (rest := []) ⟨hx, hb, hml, hown, hts⟩ (k_X1_put l D cA Z τ gi32 gr _ q11 t11 y21_2 x29) (cwV 2 hts gX5_blow_X1_put rfl rfl rfl hd_X1_put__2 ⟨Nat.le_of_ble_eq_true rfl, Nat.le_of_ble_eq_true rfl⟩) ⟨th_blind, tr_2 hK hH t11, (th_pre hH hK hN hZ hS hA36)⟩ rfl rfl hl.1 rfl (lv_room (Nat.le_of_ble_eq_true rfl)) dX5_blow_110 ⟨Nat.le_of_ble_eq_true rfl, Nat.le_of_ble_eq_true rfl⟩) hS (fun q _ h => hA36 q h) hA36 (fun  u t H locs ht hvm hw37 hB hz1 hk1 hS => ?_)
              try dsimp only at hw37 hB
              rw [ht] at hB
              have hH := hB
              obtain ⟨gi37, gr37⟩ := u
              try dsimp only at hw37 hH
              obtain rfl : gr = gr37 := (hw37.2.1).symm
              have hM := hM.tr hw37.1 (fun _ h => h) (th_sub rfl)
              have e38 : x3 = gi37 q2 6 := Eq.trans e33 (Eq.symm (hw37.1 q2 6 (th_nzE t2 rfl) (th_nmE (key := 106) t2 rfl rfl)).1)
              have e39 : x24 = gi37 h0 2 := Eq.trans e34 (Eq.symm (hw37.1 h0 2 (th_nzE t_h0 rfl) (th_nmE (key := 502) t_h0 rfl rfl)).1)
              exact J113 gi37 _ _ _ x24 hH hS hM (lv_sub hl [3, 4, 5] rfl) f6 e39 (hF.trans (by simp only [↓reduceIte, f_X5_blow_21, ← ew21_0, r2, Option.getD_some, ← e3, eq_false c4, hw9.2, r11, hw13, hw15.2, Option.elim_some, hw19.2, eq_true c20, ← e24, ← eg25, hw29, hw32.2.2, hw37.2.2]))
  have hS : va_S (th_A τ s.heap.size) s.heap s.heap [] := va_S.rf
  have hl := lv_entry ([.ref h0, .int p1]) (n := 6) (Nat.le_of_ble_eq_true rfl)
  rw [lg_entry_eq]
  generalize (lg_sl ([.ref h0, .int p1]) ++ List.replicate (6 - (lg_sl ([.ref h0, .int p1])).length) Slot.unset).toArray = ls at hl ⊢
  have hl : lv_has ls 6 [(0, .ref h0), (1, .int p1)] := hl
  have hF : F_X5_blow τ Z gi gr h0 p1 = F_X5_blow τ Z gi gr h0 p1 := rfl
  refine lv_aload_n hx hb dX5_blow_0 rfl (lv_at hl 0 rfl) ?_
  obtain ⟨q40, r40, t40⟩ : ∃ q, gr h0 1 = some q ∧ τ q = 2 := (thI_5 hH t_h0).2
  refine th_get (ci := 4) (v := .ref q40) (T := TX5) (C := RX5) (N := 3) hx hb hts (fun w h => List.mem_cons_of_mem _ (List.mem_append_left _ (List.mem_append_left _ (List.mem_append_left _ (List.mem_append_left _ (List.mem_append_left _ (List.mem_append_left _ (List.mem_append_right _ h)))))))) hown hK hH t_h0 (th_nz rfl) (thE_5 _ _ _) rfl 1 (th_ltN rfl) (hts (.fieldLink RX5 12 "BayMoorings$Flight" "berths" "LBayMoorings$Berths;") (List.mem_cons_of_mem _ (List.mem_append_left _ (List.mem_append_left _ (List.mem_append_left _ (List.mem_append_left _ (List.mem_append_left _ (List.mem_append_left _ (List.mem_append_left _ (List.mem_append_left _ (List.mem_of_getElem? (i := 0) rfl))))))))))) (fun _ h9 => h9) (th_fR r40 rfl) dX5_blow_1 ?_
  refine lv_aload_n hx hb dX5_blow_4 rfl (lv_at hl 0 rfl) ?_
  obtain ⟨q41, r41, t41⟩ : ∃ q, gr h0 0 = some q ∧ τ q = 1 := (thI_5 hH t_h0).1
  refine th_get (ci := 4) (v := .ref q41) (T := TX5) (C := RX5) (N := 3) hx hb hts (fun w h => List.mem_cons_of_mem _ (List.mem_append_left _ (List.mem_append_left _ (List.mem_append_left _ (List.mem_append_left _ (List.mem_append_left _ (List.mem_append_left _ (List.mem_append_right _ h)))))))) hown hK hH t_h0 (th_nz rfl) (thE_5 _ _ _) rfl 0 (th_ltN rfl) (hts (.fieldLink RX5 22 "BayMoorings$Flight" "bay" "LBayMoorings$Bay;") (List.mem_cons_of_mem _ (List.mem_append_left _ (List.mem_append_left _ (List.mem_append_left _ (List.mem_append_left _ (List.mem_append_left _ (List.mem_append_left _ (List.mem_append_left _ (List.mem_append_left _ (List.mem_of_getElem? (i := 1) rfl))))))))))) (fun _ h9 => h9) (th_fR r41 rfl) dX5_blow_5 ?_
  obtain ⟨q42, r42, t42⟩ : ∃ q, gr q41 4 = some q ∧ τ q = 2 := (thI_1 hH t41).2.2.2.2.1
  refine th_get (ci := 0) (v := .ref q42) (T := TX0) (C := RX0) (N := 9) hx hb hts (fun w h => List.mem_cons_of_mem _ (List.mem_append_left _ (List.mem_append_left _ (List.mem_append_left _ (List.mem_append_left _ (List.mem_append_left _ (List.mem_append_right _ h))))))) hown hK hH t41 (th_nz rfl) (thE_1 _ _ _) rfl 4 (th_ltN rfl) (hts (.fieldLink RX5 26 "BayMoorings$Bay" "berths" "LBayMoorings$Berths;") (List.mem_cons_of_mem _ (List.mem_append_left _ (List.mem_append_left _ (List.mem_append_left _ (List.mem_append_left _ (List.mem_append_left _ (List.mem_append_left _ (List.mem_append_left _ (List.mem_append_left _ (List.mem_of_getElem? (i := 2) rfl))))))))))) (fun _ h9 => h9) (th_fR r42 rfl) dX5_blow_8 ?_
  have hA43 := th_Asub (τ := τ) hS
  refine va_callv (va_runV (As := [.ref q42]) (rest := []) ⟨hx, hb, hml, hown, hts⟩ (k_X1_copyFrom l D cA Z τ gi gr _ q40 t40 q42 t42) (cwV 1 hts gX5_blow_X1_copyFrom rfl rfl rfl hd_X1_copyFrom__1 ⟨Nat.le_of_ble_eq_true rfl, Nat.le_of_ble_eq_true rfl⟩) ⟨th_blind, tr_2 hK hH t40, (th_pre hH hK hN hZ hS hA43)⟩ rfl rfl hl.1 rfl (lv_room (Nat.le_of_ble_eq_true rfl)) dX5_blow_11 ⟨Nat.le_of_ble_eq_true rfl, Nat.le_of_ble_eq_true rfl⟩) hS (fun q _ h => hA43 q h) hA43 (fun  u t H locs ht hvm hw44 hB hz1 hk1 hS => ?_)
  try dsimp only at hw44 hB
  rw [ht] at hB
  have hH := hB
  obtain ⟨gi44, gr44⟩ := u
  try dsimp only at hw44 hH
  obtain rfl : gr = gr44 := (hw44.2.1).symm
  have hM := hM.tr hw44.1 (fun _ h => h) (th_sub rfl)
  refine lv_aload_n hx hb dX5_blow_14 rfl (lv_at hl 0 rfl) ?_
  refine lv_iconst (v := 0) hx hb dX5_blow_15 ic_0 ?_
  refine th_put (ci := 4) (v := .int 0) (T := TX5) (C := RX5) (N := 3) (ty := .int) (gi' := va_up gi44 h0 (upd (gi44 h0) 2 0)) (gr' := gr) hx hb hts (fun w h => List.mem_cons_of_mem _ (List.mem_append_left _ (List.mem_append_left _ (List.mem_append_left _ (List.mem_append_left _ (List.mem_append_left _ (List.mem_append_left _ (List.mem_append_right _ h)))))))) tyX5 tyX5_ok nmX5 hown hK hH hS t_h0 (th_nz rfl) (Or.inl (th_nzE t_h0 rfl)) rfl rfl 2 (th_ltN rfl) (hts (.fieldLink RX5 18 "BayMoorings$Flight" "fleeing" "I") (List.mem_cons_of_mem _ (List.mem_append_left _ (List.mem_append_left _ (List.mem_append_left _ (List.mem_append_left _ (List.mem_append_left _ (List.mem_append_left _ (List.mem_append_left _ (List.mem_append_left _ (List.mem_of_getElem? (i := 3) rfl))))))))))) (fun _ h9 => h9) rfl (by decide +kernel) rfl rfl (Nat.le_of_ble_eq_true rfl) (by rw [va_up_self]; rfl) (by rw [va_up_self]; show (∃ q, gr h0 0 = some q ∧ τ q = 1) ∧ (∃ q, gr h0 1 = some q ∧ τ q = 2); exact ⟨(thI_5 hH t_h0).1, (thI_5 hH t_h0).2⟩) (fun b hb => ⟨va_up_ne _ _ hb, rfl⟩) dX5_blow_16 (fun H locs hH hS => ?_)
  obtain ⟨gi45, eg45⟩ : ∃ g, g = va_up gi44 h0 (upd (gi44 h0) 2 0) := ⟨_, rfl⟩
  rw [← eg45] at hH
  have hu45 : gi45 h0 2 = 0 := (th_uI eg45).1
  have ho45 : ∀ b j, b ≠ h0 ∨ j ≠ 2 → gi45 b j = gi44 b j := (th_uI eg45).2
  have hM := hM.i t_h0 (th_mem (a := 502) rfl) ho45
  refine lv_iconst (v := 0) hx hb dX5_blow_19 ic_0 ?_
  refine lv_istore_n (i := 2) (lv' := [(2, .int 0), (0, .ref h0), (1, .int p1)]) hx hb dX5_blow_20 rfl hl (th_ltN rfl) rfl (fun ls hl => ?_)
  exact J21 _ gi45 _ _ _ 0 0 (Nat.lt_add_one _) hH hS hM (lv_sub hl [1, 2, 0] rfl) (rg_w rgc_0 (th_leI rfl) (th_leI rfl)) hu45.symm (hF.trans (by simp only [F_X5_blow, r40, Option.getD_some, r41, r42, hw44.2.2, ← eg45]))

noncomputable def F_X7_keepIfBetter (τ : th_t) (Z : th_Zt) (gi : th_i) (gr : th_r) (h0 : Nat) (p1 : Int32) : th_i :=
  let x1 : Int32 := gi h0 7
  if p1 ≤ x1 then (
    (gi)) else (
    let gi3 : th_i := va_up gi h0 (upd (gi h0) 7 p1)
    let q5 : Nat := (gr h0 5).getD 0
    let q6 : Nat := (gr h0 6).getD 0
    let gi7 : th_i := va_up gi3 q6 (va_cpy (gi3 q5) (gi3 q6) (0 : Int32).toNatClampNeg (0 : Int32).toNatClampNeg (5 : Int32).toNatClampNeg)
    (gi7))
set_option maxHeartbeats 8000000 in
set_option maxRecDepth 100000 in
theorem k_X7_keepIfBetter (l : Launch) (D : va_G) (cA : Nat → ClassId) (Z : th_Zt) (τ : th_t) (gi : th_i) (gr : th_r) (sz : Nat) (h0 : Nat) (t_h0 : τ h0 = 7) (p1 : Int32) : Met l yX7_keepIfBetter wsX7_keepIfBetter ({ frames := 1, cells := 0, slots := 0, locals := 60 }) (va_Pc [.ref h0, .int p1] (th_Pre D cA Z τ gi gr sz)) (va_Qv (fun (u : th_i × th_r) => th_Mod [707, 3400] τ gi gr u.1 u.2 ∧ u.2 = gr ∧ (F_X7_keepIfBetter τ Z gi gr h0 p1 = u.1)) (fun (u : th_i × th_r) t => th_H D cA τ u.1 u.2 t.heap) (th_A τ sz)) 0 0 (th_A τ sz) := by
  refine Met.ofW (cc := cX7_keepIfBetter) (maxL := 2) (ret := none) (by decide) rfl ?_
  intro p e s m args below meth c s₁ B hml hv
  obtain ⟨rfl, hsz, hH, hK, hN, hZ⟩ := hv
  have hx := B.exec
  have hb := B.bytes
  have hr := B.returns
  have hts := atoms_spec (ws := wsX7_keepIfBetter) B.pre
  have hown : s.vm.findClass RX7 = some m.cls := findClass_of_methodNamed B.named
  have hlocks := B.notSynchronized
  subst hsz
  have hM : th_Mod [707, 3400] τ gi gr gi gr := th_Mod.rf
  have hS : va_S (th_A τ s.heap.size) s.heap s.heap [] := va_S.rf
  have hl := lv_entry ([.ref h0, .int p1]) (n := 2) (Nat.le_of_ble_eq_true rfl)
  rw [lg_entry_eq]
  generalize (lg_sl ([.ref h0, .int p1]) ++ List.replicate (2 - (lg_sl ([.ref h0, .int p1])).length) Slot.unset).toArray = ls at hl ⊢
  have hl : lv_has ls 2 [(0, .ref h0), (1, .int p1)] := hl
  have hF : F_X7_keepIfBetter τ Z gi gr h0 p1 = F_X7_keepIfBetter τ Z gi gr h0 p1 := rfl
  refine lv_iload_n hx hb dX7_keepIfBetter_0 rfl (lv_at hl 1 rfl) ?_
  refine lv_aload_n hx hb dX7_keepIfBetter_1 rfl (lv_at hl 0 rfl) ?_
  obtain ⟨x1, e1⟩ : ∃ y : Int32, y = gi h0 7 := ⟨_, rfl⟩
  refine th_get (ci := 6) (v := .int x1) (T := TX7) (C := RX7) (N := 8) hx hb hts (fun w h => List.mem_cons_of_mem _ (List.mem_append_right _ h)) hown hK hH t_h0 (th_nz rfl) (thE_7 _ _ _) rfl 7 (th_ltN rfl) (hts (.fieldLink RX7 34 "BayMoorings$Search" "bestCount" "I") (List.mem_cons_of_mem _ (List.mem_append_left _ (List.mem_of_getElem? (i := 0) rfl)))) (fun _ h9 => h9) (th_fI e1 rfl) dX7_keepIfBetter_2 ?_
  refine lv_icmp_le (tgt := 27) hx hb dX7_keepIfBetter_5 (th_eqI rfl) (fun c2 => ?_) (fun c2 => ?_)
  · skip
    exact W.vret hx hb hr (fun t ht hW => ⟨⟨(gi, gr), rfl, ⟨hM, rfl, (hF.trans (by simp only [↓reduceIte, F_X7_keepIfBetter, ← e1, eq_true c2]))⟩, th_Ht ht hH⟩, hS.F ht⟩) hS.2.2 dX7_keepIfBetter_27
  · skip
    refine lv_aload_n hx hb dX7_keepIfBetter_8 rfl (lv_at hl 0 rfl) ?_
    refine lv_iload_n hx hb dX7_keepIfBetter_9 rfl (lv_at hl 1 rfl) ?_
    refine th_put (ci := 6) (v := .int p1) (T := TX7) (C := RX7) (N := 8) (ty := .int) (gi' := va_up gi h0 (upd (gi h0) 7 p1)) (gr' := gr) hx hb hts (fun w h => List.mem_cons_of_mem _ (List.mem_append_right _ h)) tyX7 tyX7_ok nmX7 hown hK hH hS t_h0 (th_nz rfl) (Or.inl (th_nzE t_h0 rfl)) rfl rfl 7 (th_ltN rfl) (hts (.fieldLink RX7 34 "BayMoorings$Search" "bestCount" "I") (List.mem_cons_of_mem _ (List.mem_append_left _ (List.mem_of_getElem? (i := 0) rfl)))) (fun _ h9 => h9) rfl (by decide +kernel) rfl rfl (Nat.le_of_ble_eq_true rfl) (by rw [va_up_self]; rfl) (by rw [va_up_self]; show (∃ q, gr h0 0 = some q ∧ τ q = 1) ∧ (∃ q, gr h0 1 = some q ∧ τ q = 30) ∧ rg 0 5 (gi h0 2) ∧ (∃ q, gr h0 3 = some q ∧ τ q = 31) ∧ (∃ q, gr h0 4 = some q ∧ τ q = 32) ∧ (∃ q, gr h0 5 = some q ∧ τ q = 33) ∧ (∃ q, gr h0 6 = some q ∧ τ q = 34); exact ⟨(thI_7 hH t_h0).1, (thI_7 hH t_h0).2.1, (thI_7 hH t_h0).2.2.1, (thI_7 hH t_h0).2.2.2.1, (thI_7 hH t_h0).2.2.2.2.1, (thI_7 hH t_h0).2.2.2.2.2.1, (thI_7 hH t_h0).2.2.2.2.2.2⟩) (fun b hb => ⟨va_up_ne _ _ hb, rfl⟩) dX7_keepIfBetter_10 (fun H locs hH hS => ?_)
    obtain ⟨gi3, eg3⟩ : ∃ g, g = va_up gi h0 (upd (gi h0) 7 p1) := ⟨_, rfl⟩
    rw [← eg3] at hH
    have hu3 : gi3 h0 7 = p1 := (th_uI eg3).1
    have ho3 : ∀ b j, b ≠ h0 ∨ j ≠ 7 → gi3 b j = gi b j := (th_uI eg3).2
    have hM := hM.i t_h0 (th_mem (a := 707) rfl) ho3
    refine lv_aload_n hx hb dX7_keepIfBetter_13 rfl (lv_at hl 0 rfl) ?_
    obtain ⟨q5, r5, t5⟩ : ∃ q, gr h0 5 = some q ∧ τ q = 33 := (thI_7 hH t_h0).2.2.2.2.2.1
    refine th_get (ci := 6) (v := .ref q5) (T := TX7) (C := RX7) (N := 8) hx hb hts (fun w h => List.mem_cons_of_mem _ (List.mem_append_right _ h)) hown hK hH t_h0 (th_nz rfl) (thE_7 _ _ _) rfl 5 (th_ltN rfl) (hts (.fieldLink RX7 28 "BayMoorings$Search" "trial" "[I") (List.mem_cons_of_mem _ (List.mem_append_left _ (List.mem_of_getElem? (i := 1) rfl)))) (fun _ h9 => h9) (th_fR r5 rfl) dX7_keepIfBetter_14 ?_
    refine lv_iconst (v := 0) hx hb dX7_keepIfBetter_17 ic_0 ?_
    refine lv_aload_n hx hb dX7_keepIfBetter_18 rfl (lv_at hl 0 rfl) ?_
    obtain ⟨q6, r6, t6⟩ : ∃ q, gr h0 6 = some q ∧ τ q = 34 := (thI_7 hH t_h0).2.2.2.2.2.2
    refine th_get (ci := 6) (v := .ref q6) (T := TX7) (C := RX7) (N := 8) hx hb hts (fun w h => List.mem_cons_of_mem _ (List.mem_append_right _ h)) hown hK hH t_h0 (th_nz rfl) (thE_7 _ _ _) rfl 6 (th_ltN rfl) (hts (.fieldLink RX7 31 "BayMoorings$Search" "best" "[I") (List.mem_cons_of_mem _ (List.mem_append_left _ (List.mem_of_getElem? (i := 2) rfl)))) (fun _ h9 => h9) (th_fR r6 rfl) dX7_keepIfBetter_19 ?_
    refine lv_iconst (v := 0) hx hb dX7_keepIfBetter_22 ic_0 ?_
    refine lv_iconst (v := 5) hx hb dX7_keepIfBetter_23 ic_5 ?_
    refine th_copy hx hb (by rw [hml]; exact hl.1.symm) hown (hts (.methodLink RX7 94 arraycopyName) (List.mem_cons_of_mem _ (List.mem_append_left _ (List.mem_of_getElem? (i := 3) rfl)))) (hts (.native arraycopyName) (List.mem_cons_of_mem _ (List.mem_append_left _ (List.mem_of_getElem? (i := 4) rfl)))) (hts (.static arraycopyName) (List.mem_cons_of_mem _ (List.mem_append_left _ (List.mem_of_getElem? (i := 5) rfl)))) (hts (.initialized "java/lang/System") (List.mem_cons_of_mem _ (List.mem_append_left _ (List.mem_of_getElem? (i := 6) rfl)))) hK hH hS t5 t6 (by decide) (by decide) (Or.inl (by rw [t6]; decide)) 0 rfl rfl (fun _ => rfl) (by decide) (by decide) (by decide) (by decide) (by decide) (fun _ => trivial) (Nat.le_of_ble_eq_true rfl) (Nat.le_of_ble_eq_true rfl) dX7_keepIfBetter_24 (fun gi7 H locs eg7 ho7 hH hS => ?_)
    have hM := hM.a t6 (fun _ => th_mem (a := 3400) rfl) ho7
    exact W.vret hx hb hr (fun t ht hW => ⟨⟨(gi7, gr), rfl, ⟨hM, rfl, (hF.trans (by simp only [↓reduceIte, F_X7_keepIfBetter, ← e1, eq_false c2, ← eg3, r5, Option.getD_some, r6, ← eg7]))⟩, th_Ht ht hH⟩, hS.F ht⟩) hS.2.2 dX7_keepIfBetter_27

noncomputable def f_X7_settle_5_13 (τ : th_t) (Z : th_Zt) (gi : th_i) (gr : th_r) (h0 : Nat) (p1 : Int32) (p2 : Int32) (gi_13 : th_i) : th_i :=
  let w13_0 : Int32 := gi_13 h0 2
  let gi2 : th_i := F_X7_keepIfBetter τ Z gi_13 gr h0 p2
  (gi2)
noncomputable def F_X7_settle_5 (τ : th_t) (Z : th_Zt) (gi : th_i) (gr : th_r) (h0 : Nat) (p1 : Int32) (p2 : Int32) : th_i :=
  let x4 : Int32 := gi h0 2
  if x4 ≤ p1 then (
    f_X7_settle_5_13 τ Z gi gr h0 p1 p2 gi) else (
    (gi))
set_option maxHeartbeats 8000000 in
set_option maxRecDepth 100000 in
theorem k_X7_settle_5 (l : Launch) (D : va_G) (cA : Nat → ClassId) (Z : th_Zt) (τ : th_t) (gi : th_i) (gr : th_r) (sz : Nat) (h0 : Nat) (t_h0 : τ h0 = 7) (p1 : Int32) (f_p1 : rg 5 5 p1) (p2 : Int32) : Met l yX7_settle wsX7_settle ({ frames := 2, cells := 0, slots := 0, locals := 81 }) (va_Pc [.ref h0, .int p1, .int p2] (th_Pre D cA Z τ gi gr sz)) (va_Qv (fun (u : th_i × th_r) => th_Mod [707, 3400] τ gi gr u.1 u.2 ∧ u.2 = gr ∧ (F_X7_settle_5 τ Z gi gr h0 p1 p2 = u.1)) (fun (u : th_i × th_r) t => th_H D cA τ u.1 u.2 t.heap) (th_A τ sz)) 0 0 (th_A τ sz) := by
  refine Met.ofW (cc := cX7_settle) (maxL := 5) (ret := none) (by decide) rfl ?_
  intro p e s m args below meth c s₁ B hml hv
  obtain ⟨rfl, hsz, hH, hK, hN, hZ⟩ := hv
  have hx := B.exec
  have hb := B.bytes
  have hr := B.returns
  have hts := atoms_spec (ws := wsX7_settle) B.pre
  have hown : s.vm.findClass RX7 = some m.cls := findClass_of_methodNamed B.named
  have hlocks := B.notSynchronized
  subst hsz
  have hM : th_Mod [707, 3400] τ gi gr gi gr := th_Mod.rf
  have J13 : ∀ (gi_13 : th_i) (H : Heap) (locs : List Loc) (ls : Array Slot) (w13_0 : Int32), th_H D cA τ gi_13 gr H → va_S (th_A τ s.heap.size) s.heap H locs → th_Mod [707, 3400] τ gi gr gi_13 gr → lv_has ls 5 [(0, .ref h0), (2, .int p2)] → w13_0 = gi_13 h0 2 → rg 0 5 w13_0 → F_X7_settle_5 τ Z gi gr h0 p1 p2 = f_X7_settle_5_13 τ Z gi gr h0 p1 p2 gi_13 → W p l e (headSpec wsX7_settle ({ frames := 2, cells := 0, slots := 0, locals := 81 })).room s m [.ref h0, .int p1, .int p2].toArray below meth c H locs 0 0 (MQ below (va_Qv (fun (u : th_i × th_r) => th_Mod [707, 3400] τ gi gr u.1 u.2 ∧ u.2 = gr ∧ (F_X7_settle_5 τ Z gi gr h0 p1 p2 = u.1)) (fun (u : th_i × th_r) t => th_H D cA τ u.1 u.2 t.heap) (th_A τ s.heap.size)) [.ref h0, .int p1, .int p2].toArray s 0 0 (th_A τ s.heap.size)) (F0 m 13 ls []) := by
    intro gi_13 H locs ls w13_0 hH hS hM hl ew13_0 fw13_0 hF
    refine lv_aload_n hx hb dX7_settle_13 rfl (lv_at hl 0 rfl) ?_
    refine lv_iload_n hx hb dX7_settle_14 rfl (lv_at hl 1 rfl) ?_
    have hA1 := th_Asub (τ := τ) hS
    refine va_callv (va_runV (As := [.int p2]) (rest := []) ⟨hx, hb, hml, hown, hts⟩ (k_X7_keepIfBetter l D cA Z τ gi_13 gr _ h0 t_h0 p2) (cwV 1 hts gX7_settle_X7_keepIfBetter rfl rfl rfl hd_X7_keepIfBetter__1 ⟨Nat.le_of_ble_eq_true rfl, Nat.le_of_ble_eq_true rfl⟩) ⟨th_blind, tr_7 hK hH t_h0, (th_pre hH hK hN hZ hS hA1)⟩ rfl rfl hl.1 rfl (lv_room (Nat.le_of_ble_eq_true rfl)) dX7_settle_15 ⟨Nat.le_of_ble_eq_true rfl, Nat.le_of_ble_eq_true rfl⟩) hS (fun q _ h => hA1 q h) hA1 (fun  u t H locs ht hvm hw2 hB hz1 hk1 hS => ?_)
    try dsimp only at hw2 hB
    rw [ht] at hB
    have hH := hB
    obtain ⟨gi2, gr2⟩ := u
    try dsimp only at hw2 hH
    obtain rfl : gr = gr2 := (hw2.2.1).symm
    have hM := hM.tr hw2.1 (fun _ h => h) (th_sub rfl)
    have e3 : w13_0 = gi2 h0 2 := Eq.trans ew13_0 (Eq.symm (hw2.1 h0 2 (th_nzE t_h0 rfl) (th_nmE (key := 702) t_h0 rfl rfl)).1)
    exact W.vret hx hb hr (fun t ht hW => ⟨⟨(gi2, gr), rfl, ⟨hM, rfl, (hF.trans (by simp only [f_X7_settle_5_13, ← ew13_0, hw2.2.2]))⟩, th_Ht ht hH⟩, hS.F ht⟩) hS.2.2 dX7_settle_18
  have hS : va_S (th_A τ s.heap.size) s.heap s.heap [] := va_S.rf
  have hl := lv_entry ([.ref h0, .int p1, .int p2]) (n := 5) (Nat.le_of_ble_eq_true rfl)
  rw [lg_entry_eq]
  generalize (lg_sl ([.ref h0, .int p1, .int p2]) ++ List.replicate (5 - (lg_sl ([.ref h0, .int p1, .int p2])).length) Slot.unset).toArray = ls at hl ⊢
  have hl : lv_has ls 5 [(0, .ref h0), (1, .int p1), (2, .int p2)] := hl
  have hF : F_X7_settle_5 τ Z gi gr h0 p1 p2 = F_X7_settle_5 τ Z gi gr h0 p1 p2 := rfl
  refine lv_iload_n hx hb dX7_settle_0 rfl (lv_at hl 1 rfl) ?_
  refine lv_aload_n hx hb dX7_settle_1 rfl (lv_at hl 0 rfl) ?_
  obtain ⟨x4, e4⟩ : ∃ y : Int32, y = gi h0 2 := ⟨_, rfl⟩
  refine th_get (ci := 6) (v := .int x4) (T := TX7) (C := RX7) (N := 8) hx hb hts (fun w h => List.mem_cons_of_mem _ (List.mem_append_left _ (List.mem_append_left _ (List.mem_append_left _ (List.mem_append_left _ (List.mem_append_left _ (List.mem_append_right _ h))))))) hown hK hH t_h0 (th_nz rfl) (thE_7 _ _ _) rfl 2 (th_ltN rfl) (hts (.fieldLink RX7 17 "BayMoorings$Search" "size" "I") (List.mem_cons_of_mem _ (List.mem_append_left _ (List.mem_append_left _ (List.mem_append_left _ (List.mem_append_left _ (List.mem_append_left _ (List.mem_append_left _ (List.mem_append_left _ (List.mem_of_getElem? (i := 0) rfl)))))))))) (fun _ h9 => h9) (th_fI e4 rfl) dX7_settle_2 ?_
  have f4 : rg 0 5 x4 := rg_e e4 ((thI_7 hH t_h0).2.2.1)
  refine lv_icmp_ge (tgt := 13) hx hb dX7_settle_5 (th_eqI rfl) (fun c5 => ?_) (fun c5 => ?_)
  · skip
    exact J13 gi _ _ _ x4 hH hS hM (lv_sub hl [0, 2] rfl) e4 f4 (hF.trans (by simp only [↓reduceIte, F_X7_settle_5, ← e4, eq_true c5]))
  · skip
    exact absurd (rg_nle f4 f_p1 c5).1 (rg_no (th_ltI rfl))

noncomputable def f_X7_settle_4_13 (τ : th_t) (Z : th_Zt) (gi : th_i) (gr : th_r) (h0 : Nat) (p1 : Int32) (p2 : Int32) (gi_13 : th_i) : th_i :=
  let w13_0 : Int32 := gi_13 h0 2
  let gi44 : th_i := F_X7_keepIfBetter τ Z gi_13 gr h0 p2
  (gi44)
noncomputable def f_X7_settle_4_94 (τ : th_t) (Z : th_Zt) (gi : th_i) (gr : th_r) (h0 : Nat) (p1 : Int32) (p2 : Int32) (gi_48 : th_i) (y48_3 : Int32) (y48_4 : Int32) (k_48 : th_i → Int32 → Int32 → th_i) (gi_94 : th_i) : th_i :=
  let w94_0 : Int32 := gi_94 h0 2
  let x1 : Int32 := y48_4 + 1
  k_48 gi_94 y48_3 x1
noncomputable def f_X7_settle_4_48 (τ : th_t) (Z : th_Zt) (gi : th_i) (gr : th_r) (h0 : Nat) (p1 : Int32) (p2 : Int32) : Nat → th_i → Int32 → Int32 → th_i
  | 0, gi_48, y48_3, y48_4 => (gi_48)
  | n48 + 1, gi_48, y48_3, y48_4 =>
    let w48_0 : Int32 := gi_48 h0 2
    let q2 : Nat := (gr h0 0).getD 0
    let x3 : Int32 := gi_48 q2 5
    if x3 ≤ y48_4 then (
      let q5 : Nat := (gr h0 5).getD 0
      let gi6 : th_i := va_up gi_48 q5 (upd (gi_48 q5) p1.toNatClampNeg (-1))
      let gi10 : th_i := F_X7_narrow τ Z gi6 gr h0 p1 (-1)
      let x14 : Int32 := p1 + 1
      let gi16 : th_i := F_X7_settle_5 τ Z gi10 gr h0 x14 p2
      (gi16)) else (
      let x22 : Int32 := y48_3 >>> (y48_4 &&& 31)
      let x23 : Int32 := x22 &&& 1
      if x23 = (0 : Int32) then (
        f_X7_settle_4_94 τ Z gi gr h0 p1 p2 gi_48 y48_3 y48_4 (f_X7_settle_4_48 τ Z gi gr h0 p1 p2 n48) gi_48) else (
        let q27 : Nat := (gr h0 5).getD 0
        let gi28 : th_i := va_up gi_48 q27 (upd (gi_48 q27) p1.toNatClampNeg y48_4)
        let gi32 : th_i := F_X7_narrow τ Z gi28 gr h0 p1 y48_4
        let x36 : Int32 := p1 + 1
        let x37 : Int32 := p2 + 1
        let gi39 : th_i := F_X7_settle_5 τ Z gi32 gr h0 x36 x37
        f_X7_settle_4_94 τ Z gi gr h0 p1 p2 gi_48 y48_3 y48_4 (f_X7_settle_4_48 τ Z gi gr h0 p1 p2 n48) gi39))
noncomputable def F_X7_settle_4 (τ : th_t) (Z : th_Zt) (gi : th_i) (gr : th_r) (h0 : Nat) (p1 : Int32) (p2 : Int32) : th_i :=
  let x46 : Int32 := gi h0 2
  if x46 ≤ p1 then (
    f_X7_settle_4_13 τ Z gi gr h0 p1 p2 gi) else (
    if p1 < (5 : Int32) then (
      let x52 : Int32 := F_X7_hopefulFrom τ Z gi gr h0 p1
      let x53 : Int32 := p2 + x52
      let x54 : Int32 := gi h0 7
      if x54 < x53 then (
        let q56 : Nat := (gr h0 3).getD 0
        let x57 : Int32 := p1 * 5
        let x58 : Int32 := x57 + p1
        let x59 : Int32 := gi q56 x58.toNatClampNeg
        f_X7_settle_4_48 τ Z gi gr h0 p1 p2 ((12 - (0 : Int32).toInt).toNat + 1) gi x59 0) else (
        (gi))) else (
      (gi)))
set_option maxHeartbeats 8000000 in
set_option maxRecDepth 100000 in
theorem k_X7_settle_4 (l : Launch) (D : va_G) (cA : Nat → ClassId) (Z : th_Zt) (τ : th_t) (gi : th_i) (gr : th_r) (sz : Nat) (h0 : Nat) (t_h0 : τ h0 = 7) (p1 : Int32) (f_p1 : rg 4 4 p1) (p2 : Int32) : Met l yX7_settle wsX7_settle ({ frames := 5, cells := 0, slots := 0, locals := 152 }) (va_Pc [.ref h0, .int p1, .int p2] (th_Pre D cA Z τ gi gr sz)) (va_Qv (fun (u : th_i × th_r) => th_Mod [707, 3100, 3200, 3300, 3400] τ gi gr u.1 u.2 ∧ u.2 = gr ∧ (F_X7_settle_4 τ Z gi gr h0 p1 p2 = u.1)) (fun (u : th_i × th_r) t => th_H D cA τ u.1 u.2 t.heap) (th_A τ sz)) 0 0 (th_A τ sz) := by
  refine Met.ofW (cc := cX7_settle) (maxL := 5) (ret := none) (by decide) rfl ?_
  intro p e s m args below meth c s₁ B hml hv
  obtain ⟨rfl, hsz, hH, hK, hN, hZ⟩ := hv
  have hx := B.exec
  have hb := B.bytes
  have hr := B.returns
  have hts := atoms_spec (ws := wsX7_settle) B.pre
  have hown : s.vm.findClass RX7 = some m.cls := findClass_of_methodNamed B.named
  have hlocks := B.notSynchronized
  subst hsz
  have hM : th_Mod [707, 3100, 3200, 3300, 3400] τ gi gr gi gr := th_Mod.rf
  have J48 : ∀ (n48 : Nat) (gi_48 : th_i) (H : Heap) (locs : List Loc) (ls : Array Slot) (y48_3 : Int32) (y48_4 : Int32) (w48_0 : Int32), (12 - y48_4.toInt).toNat < n48 → th_H D cA τ gi_48 gr H → va_S (th_A τ s.heap.size) s.heap H locs → th_Mod [707, 3100, 3200, 3300, 3400] τ gi gr gi_48 gr → lv_has ls 5 [(0, .ref h0), (1, .int p1), (2, .int p2), (3, .int y48_3), (4, .int y48_4)] → rg 4 4 p1 → rg 0 12 y48_4 → w48_0 = gi_48 h0 2 → rg 5 5 w48_0 → F_X7_settle_4 τ Z gi gr h0 p1 p2 = f_X7_settle_4_48 τ Z gi gr h0 p1 p2 n48 gi_48 y48_3 y48_4 → W p l e (headSpec wsX7_settle ({ frames := 5, cells := 0, slots := 0, locals := 152 })).room s m [.ref h0, .int p1, .int p2].toArray below meth c H locs 0 0 (MQ below (va_Qv (fun (u : th_i × th_r) => th_Mod [707, 3100, 3200, 3300, 3400] τ gi gr u.1 u.2 ∧ u.2 = gr ∧ (F_X7_settle_4 τ Z gi gr h0 p1 p2 = u.1)) (fun (u : th_i × th_r) t => th_H D cA τ u.1 u.2 t.heap) (th_A τ s.heap.size)) [.ref h0, .int p1, .int p2].toArray s 0 0 (th_A τ s.heap.size)) (F0 m 48 ls []) := by
    intro n48
    induction n48 with
    | zero =>
      intro gi_48 H locs ls y48_3 y48_4 w48_0 hn
      exact absurd hn (Nat.not_lt_zero _)
    | succ n48 ih48 =>
      intro gi_48 H locs ls y48_3 y48_4 w48_0 hn48 hH hS hM hl fy48_1 fy48_4 ew48_0 fw48_0 hF
      have J94 : ∀ (gi_94 : th_i) (H : Heap) (locs : List Loc) (ls : Array Slot) (w94_0 : Int32), th_H D cA τ gi_94 gr H → va_S (th_A τ s.heap.size) s.heap H locs → th_Mod [707, 3100, 3200, 3300, 3400] τ gi gr gi_94 gr → lv_has ls 5 [(0, .ref h0), (1, .int p1), (2, .int p2), (3, .int y48_3), (4, .int y48_4)] → rg 4 4 p1 → rg 0 11 y48_4 → w94_0 = gi_94 h0 2 → rg 5 5 w94_0 → F_X7_settle_4 τ Z gi gr h0 p1 p2 = f_X7_settle_4_94 τ Z gi gr h0 p1 p2 gi_48 y48_3 y48_4 (f_X7_settle_4_48 τ Z gi gr h0 p1 p2 n48) gi_94 → W p l e (headSpec wsX7_settle ({ frames := 5, cells := 0, slots := 0, locals := 152 })).room s m [.ref h0, .int p1, .int p2].toArray below meth c H locs 0 0 (MQ below (va_Qv (fun (u : th_i × th_r) => th_Mod [707, 3100, 3200, 3300, 3400] τ gi gr u.1 u.2 ∧ u.2 = gr ∧ (F_X7_settle_4 τ Z gi gr h0 p1 p2 = u.1)) (fun (u : th_i × th_r) t => th_H D cA τ u.1 u.2 t.heap) (th_A τ s.heap.size)) [.ref h0, .int p1, .int p2].toArray s 0 0 (th_A τ s.heap.size)) (F0 m 94 ls []) := by
        intro gi_94 H locs ls w94_0 hH hS hM hl fy94_1 fy94_4 ew94_0 fw94_0 hF
        obtain ⟨x1, e1⟩ : ∃ y : Int32, y = y48_4 + 1 := ⟨_, rfl⟩
        have f1 : rg 1 12 x1 := rg_e e1 (rg_w (rg_add fy94_4 rgc_1 (th_leI rfl) (th_leI rfl)) (th_leI rfl) (th_leI rfl))
        refine lv_iinc (v := x1) (lv' := [(4, .int x1), (0, .ref h0), (1, .int p1), (2, .int p2), (3, .int y48_3)]) hx hb dX7_settle_94 hl (k := 4) rfl (by rw [e1]; rfl) (th_ltN rfl) rfl (fun ls hl => ?_)
        refine lv_goto (tgt := 48) hx hb dX7_settle_97 (th_eqI rfl) ?_
        exact ih48 gi_94 _ _ _ y48_3 x1 w94_0 (th_up (rg_dA e1 fy94_4 rgc_1 (th_leI rfl) (th_leI rfl)) fy94_4 hn48 (th_ltI rfl)) hH hS hM (lv_sub hl [1, 2, 3, 4, 0] rfl) fy94_1 (rg_w f1 (th_leI rfl) (th_leI rfl)) ew94_0 fw94_0 (hF.trans (by simp only [f_X7_settle_4_94, ← ew94_0, ← e1]))
      refine lv_iload hx hb dX7_settle_48 (lv_at hl 4 rfl) ?_
      refine lv_aload_n hx hb dX7_settle_50 rfl (lv_at hl 0 rfl) ?_
      obtain ⟨q2, r2, t2⟩ : ∃ q, gr h0 0 = some q ∧ τ q = 1 := (thI_7 hH t_h0).1
      refine th_get (ci := 6) (v := .ref q2) (T := TX7) (C := RX7) (N := 8) hx hb hts (fun w h => List.mem_cons_of_mem _ (List.mem_append_left _ (List.mem_append_left _ (List.mem_append_left _ (List.mem_append_left _ (List.mem_append_left _ (List.mem_append_right _ h))))))) hown hK hH t_h0 (th_nz rfl) (thE_7 _ _ _) rfl 0 (th_ltN rfl) (hts (.fieldLink RX7 37 "BayMoorings$Search" "bay" "LBayMoorings$Bay;") (List.mem_cons_of_mem _ (List.mem_append_left _ (List.mem_append_left _ (List.mem_append_left _ (List.mem_append_left _ (List.mem_append_left _ (List.mem_append_left _ (List.mem_append_left _ (List.mem_of_getElem? (i := 3) rfl)))))))))) (fun _ h9 => h9) (th_fR r2 rfl) dX7_settle_51 ?_
      obtain ⟨x3, e3⟩ : ∃ y : Int32, y = gi_48 q2 5 := ⟨_, rfl⟩
      refine th_get (ci := 0) (v := .int x3) (T := TX0) (C := RX0) (N := 9) hx hb hts (fun w h => List.mem_cons_of_mem _ (List.mem_append_left _ (List.mem_append_left _ (List.mem_append_left _ (List.mem_append_left _ (List.mem_append_right _ h)))))) hown hK hH t2 (th_nz rfl) (thE_1 _ _ _) rfl 5 (th_ltN rfl) (hts (.fieldLink RX7 68 "BayMoorings$Bay" "buoyCount" "I") (List.mem_cons_of_mem _ (List.mem_append_left _ (List.mem_append_left _ (List.mem_append_left _ (List.mem_append_left _ (List.mem_append_left _ (List.mem_append_left _ (List.mem_append_left _ (List.mem_of_getElem? (i := 4) rfl)))))))))) (fun _ h9 => h9) (th_fI e3 rfl) dX7_settle_54 ?_
      have f3 : rg 0 12 x3 := rg_e e3 ((thI_1 hH t2).2.2.2.2.2.1)
      refine lv_icmp_ge (tgt := 100) hx hb dX7_settle_57 (th_eqI rfl) (fun c4 => ?_) (fun c4 => ?_)
      · skip
        refine lv_aload_n hx hb dX7_settle_100 rfl (lv_at hl 0 rfl) ?_
        obtain ⟨q5, r5, t5⟩ : ∃ q, gr h0 5 = some q ∧ τ q = 33 := (thI_7 hH t_h0).2.2.2.2.2.1
        refine th_get (ci := 6) (v := .ref q5) (T := TX7) (C := RX7) (N := 8) hx hb hts (fun w h => List.mem_cons_of_mem _ (List.mem_append_left _ (List.mem_append_left _ (List.mem_append_left _ (List.mem_append_left _ (List.mem_append_left _ (List.mem_append_right _ h))))))) hown hK hH t_h0 (th_nz rfl) (thE_7 _ _ _) rfl 5 (th_ltN rfl) (hts (.fieldLink RX7 28 "BayMoorings$Search" "trial" "[I") (List.mem_cons_of_mem _ (List.mem_append_left _ (List.mem_append_left _ (List.mem_append_left _ (List.mem_append_left _ (List.mem_append_left _ (List.mem_append_left _ (List.mem_append_left _ (List.mem_of_getElem? (i := 5) rfl)))))))))) (fun _ h9 => h9) (th_fR r5 rfl) dX7_settle_101 ?_
        refine lv_iload_n hx hb dX7_settle_104 rfl (lv_at hl 1 rfl) ?_
        refine lv_iconst (v := (-1)) hx hb dX7_settle_105 ic_m1 ?_
        refine th_iast hx hb hK hH hS t5 (th_nz rfl) (Or.inl (th_nzE t5 rfl)) 0 (fun _ => thE_33 _ _ _) rfl (rg_in (n := 5) fy48_1 (th_leI rfl) (th_ltI rfl)) (trivial) dX7_settle_106 (fun gi6 H locs hu6 ho6 hH hS => ?_)
        have eg6 : gi6 = va_up gi_48 q5 (upd (gi_48 q5) p1.toNatClampNeg (-1)) := th_upE hu6 ho6
        have e7 : w48_0 = gi6 h0 2 := Eq.trans ew48_0 (Eq.symm (ho6 _ _ (Or.inl (th_ne t_h0 t5 (th_nz rfl)))))
        have e8 : x3 = gi6 q2 5 := Eq.trans e3 (Eq.symm (ho6 _ _ (Or.inl (th_ne t2 t5 (th_nz rfl)))))
        have hM := hM.i t5 (th_mem (a := 3300) rfl) ho6
        refine lv_aload_n hx hb dX7_settle_107 rfl (lv_at hl 0 rfl) ?_
        refine lv_iload_n hx hb dX7_settle_108 rfl (lv_at hl 1 rfl) ?_
        refine lv_iconst (v := (-1)) hx hb dX7_settle_109 ic_m1 ?_
        have hA9 := th_Asub (τ := τ) hS
        refine va_callv (va_runV (As := [.int p1, .int (-1)]) (rest := []) ⟨hx, hb, hml, hown, hts⟩ (k_X7_narrow l D cA Z τ gi6 gr _ h0 t_h0 p1 (rg_w fy48_1 (th_leI rfl) (th_leI rfl)) (-1) (rg_w rgc_m1 (th_leI rfl) (th_leI rfl))) (cwV 2 hts gX7_settle_X7_narrow rfl rfl rfl hd_X7_narrow__2 ⟨Nat.le_of_ble_eq_true rfl, Nat.le_of_ble_eq_true rfl⟩) ⟨th_blind, tr_7 hK hH t_h0, (th_pre hH hK hN hZ hS hA9)⟩ rfl rfl hl.1 rfl (lv_room (Nat.le_of_ble_eq_true rfl)) dX7_settle_110 ⟨Nat.le_of_ble_eq_true rfl, Nat.le_of_ble_eq_true rfl⟩) hS (fun q _ h => hA9 q h) hA9 (fun  u t H locs ht hvm hw10 hB hz1 hk1 hS => ?_)
        try dsimp only at hw10 hB
        rw [ht] at hB
        have hH := hB
        obtain ⟨gi10, gr10⟩ := u
        try dsimp only at hw10 hH
        obtain rfl : gr = gr10 := (hw10.2.1).symm
        have hM := hM.tr hw10.1 (fun _ h => h) (th_sub rfl)
        have e11 : w48_0 = gi10 h0 2 := Eq.trans e7 (Eq.symm (hw10.1 h0 2 (th_nzE t_h0 rfl) (th_nmE (key := 702) t_h0 rfl rfl)).1)
        have e12 : x3 = gi10 q2 5 := Eq.trans e8 (Eq.symm (hw10.1 q2 5 (th_nzE t2 rfl) (th_nmE (key := 105) t2 rfl rfl)).1)
        have e13 : (-1) = gi10 q5 (p1.toNatClampNeg) := Eq.trans hu6.symm (Eq.symm (hw10.1 q5 (p1.toNatClampNeg) (th_nzE t5 rfl) (th_nmE (key := 3300) t5 rfl rfl)).1)
        refine lv_aload_n hx hb dX7_settle_113 rfl (lv_at hl 0 rfl) ?_
        refine lv_iload_n hx hb dX7_settle_114 rfl (lv_at hl 1 rfl) ?_
        refine lv_iconst (v := 1) hx hb dX7_settle_115 ic_1 ?_
        refine lv_iadd hx hb dX7_settle_116 ?_
        refine lv_topi (fun x14 e14 => ?_)
        have f14 : rg 5 5 x14 := rg_e e14 (rg_w (rg_add fy48_1 rgc_1 (th_leI rfl) (th_leI rfl)) (th_leI rfl) (th_leI rfl))
        refine lv_iload_n hx hb dX7_settle_117 rfl (lv_at hl 2 rfl) ?_
        have hA15 := th_Asub (τ := τ) hS
        refine va_callv (va_runV (As := [.int x14, .int p2]) (rest := []) ⟨hx, hb, hml, hown, hts⟩ (k_X7_settle_5 l D cA Z τ gi10 gr _ h0 t_h0 x14 f14 p2) (cwV 2 hts gX7_settle_X7_settle rfl rfl rfl hd_X7_settle__2 ⟨Nat.le_of_ble_eq_true rfl, Nat.le_of_ble_eq_true rfl⟩) ⟨th_blind, tr_7 hK hH t_h0, (th_pre hH hK hN hZ hS hA15)⟩ rfl rfl hl.1 rfl (lv_room (Nat.le_of_ble_eq_true rfl)) dX7_settle_118 ⟨Nat.le_of_ble_eq_true rfl, Nat.le_of_ble_eq_true rfl⟩) hS (fun q _ h => hA15 q h) hA15 (fun  u t H locs ht hvm hw16 hB hz1 hk1 hS => ?_)
        try dsimp only at hw16 hB
        rw [ht] at hB
        have hH := hB
        obtain ⟨gi16, gr16⟩ := u
        try dsimp only at hw16 hH
        obtain rfl : gr = gr16 := (hw16.2.1).symm
        have hM := hM.tr hw16.1 (fun _ h => h) (th_sub rfl)
        have e17 : w48_0 = gi16 h0 2 := Eq.trans e11 (Eq.symm (hw16.1 h0 2 (th_nzE t_h0 rfl) (th_nmE (key := 702) t_h0 rfl rfl)).1)
        have e18 : x3 = gi16 q2 5 := Eq.trans e12 (Eq.symm (hw16.1 q2 5 (th_nzE t2 rfl) (th_nmE (key := 105) t2 rfl rfl)).1)
        have e19 : (-1) = gi16 q5 (p1.toNatClampNeg) := Eq.trans e13 (Eq.symm (hw16.1 q5 (p1.toNatClampNeg) (th_nzE t5 rfl) (th_nmE (key := 3300) t5 rfl rfl)).1)
        exact W.vret hx hb hr (fun t ht hW => ⟨⟨(gi16, gr), rfl, ⟨hM, rfl, (hF.trans (by simp only [↓reduceIte, f_X7_settle_4_48, ← ew48_0, r2, Option.getD_some, ← e3, eq_true c4, r5, ← eg6, hw10.2.2, ← e14, hw16.2.2]))⟩, th_Ht ht hH⟩, hS.F ht⟩) hS.2.2 dX7_settle_121
      · skip
        have f20 : rg 1 12 x3 := rg_w (rg_nle f3 fy48_4 c4).1 (th_leI rfl) (th_leI rfl)
        have f21 : rg 0 11 y48_4 := rg_w (rg_nle f3 fy48_4 c4).2 (th_leI rfl) (th_leI rfl)
        refine lv_iload_n hx hb dX7_settle_60 rfl (lv_at hl 3 rfl) ?_
        refine lv_iload hx hb dX7_settle_61 (lv_at hl 4 rfl) ?_
        refine lv_ishr hx hb dX7_settle_63 ?_
        refine lv_topi (fun x22 e22 => ?_)
        refine lv_iconst (v := 1) hx hb dX7_settle_64 ic_1 ?_
        refine lv_iand hx hb dX7_settle_65 ?_
        refine lv_topi (fun x23 e23 => ?_)
        have f23 : rg 0 1 x23 := rg_e e23 (rg_and 1 (by decide) (th_leN rfl) (th_eqI rfl))
        refine lv_if_eq (tgt := 94) hx hb dX7_settle_66 (th_eqI rfl) (fun c24 => ?_) (fun c24 => ?_)
        · skip
          have f25 : rg 0 0 x23 := rg_w (rg_eq f23 rgc_0 c24).1 (th_leI rfl) (th_leI rfl)
          exact J94 gi_48 _ _ _ w48_0 hH hS hM (lv_sub hl [0, 1, 2, 3, 4] rfl) fy48_1 f21 ew48_0 fw48_0 (hF.trans (by simp only [↓reduceIte, f_X7_settle_4_48, ← ew48_0, r2, Option.getD_some, ← e3, eq_false c4, ← e22, ← e23, eq_true c24]))
        · skip
          have f26 : rg 1 1 x23 := rg_w (rg_neL f23 rgc_0 c24) (th_leI rfl) (th_leI rfl)
          refine lv_aload_n hx hb dX7_settle_69 rfl (lv_at hl 0 rfl) ?_
          obtain ⟨q27, r27, t27⟩ : ∃ q, gr h0 5 = some q ∧ τ q = 33 := (thI_7 hH t_h0).2.2.2.2.2.1
          refine th_get (ci := 6) (v := .ref q27) (T := TX7) (C := RX7) (N := 8) hx hb hts (fun w h => List.mem_cons_of_mem _ (List.mem_append_left _ (List.mem_append_left _ (List.mem_append_left _ (List.mem_append_left _ (List.mem_append_left _ (List.mem_append_right _ h))))))) hown hK hH t_h0 (th_nz rfl) (thE_7 _ _ _) rfl 5 (th_ltN rfl) (hts (.fieldLink RX7 28 "BayMoorings$Search" "trial" "[I") (List.mem_cons_of_mem _ (List.mem_append_left _ (List.mem_append_left _ (List.mem_append_left _ (List.mem_append_left _ (List.mem_append_left _ (List.mem_append_left _ (List.mem_append_left _ (List.mem_of_getElem? (i := 5) rfl)))))))))) (fun _ h9 => h9) (th_fR r27 rfl) dX7_settle_70 ?_
          refine lv_iload_n hx hb dX7_settle_73 rfl (lv_at hl 1 rfl) ?_
          refine lv_iload hx hb dX7_settle_74 (lv_at hl 4 rfl) ?_
          refine th_iast hx hb hK hH hS t27 (th_nz rfl) (Or.inl (th_nzE t27 rfl)) 0 (fun _ => thE_33 _ _ _) rfl (rg_in (n := 5) fy48_1 (th_leI rfl) (th_ltI rfl)) (trivial) dX7_settle_76 (fun gi28 H locs hu28 ho28 hH hS => ?_)
          have eg28 : gi28 = va_up gi_48 q27 (upd (gi_48 q27) p1.toNatClampNeg y48_4) := th_upE hu28 ho28
          have e29 : w48_0 = gi28 h0 2 := Eq.trans ew48_0 (Eq.symm (ho28 _ _ (Or.inl (th_ne t_h0 t27 (th_nz rfl)))))
          have e30 : x3 = gi28 q2 5 := Eq.trans e3 (Eq.symm (ho28 _ _ (Or.inl (th_ne t2 t27 (th_nz rfl)))))
          have hM := hM.i t27 (th_mem (a := 3300) rfl) ho28
          refine lv_aload_n hx hb dX7_settle_77 rfl (lv_at hl 0 rfl) ?_
          refine lv_iload_n hx hb dX7_settle_78 rfl (lv_at hl 1 rfl) ?_
          refine lv_iload hx hb dX7_settle_79 (lv_at hl 4 rfl) ?_
          have hA31 := th_Asub (τ := τ) hS
          refine va_callv (va_runV (As := [.int p1, .int y48_4]) (rest := []) ⟨hx, hb, hml, hown, hts⟩ (k_X7_narrow l D cA Z τ gi28 gr _ h0 t_h0 p1 (rg_w fy48_1 (th_leI rfl) (th_leI rfl)) y48_4 (rg_w f21 (th_leI rfl) (th_leI rfl))) (cwV 2 hts gX7_settle_X7_narrow rfl rfl rfl hd_X7_narrow__2 ⟨Nat.le_of_ble_eq_true rfl, Nat.le_of_ble_eq_true rfl⟩) ⟨th_blind, tr_7 hK hH t_h0, (th_pre hH hK hN hZ hS hA31)⟩ rfl rfl hl.1 rfl (lv_room (Nat.le_of_ble_eq_true rfl)) dX7_settle_81 ⟨Nat.le_of_ble_eq_true rfl, Nat.le_of_ble_eq_true rfl⟩) hS (fun q _ h => hA31 q h) hA31 (fun  u t H locs ht hvm hw32 hB hz1 hk1 hS => ?_)
          try dsimp only at hw32 hB
          rw [ht] at hB
          have hH := hB
          obtain ⟨gi32, gr32⟩ := u
          try dsimp only at hw32 hH
          obtain rfl : gr = gr32 := (hw32.2.1).symm
          have hM := hM.tr hw32.1 (fun _ h => h) (th_sub rfl)
          have e33 : w48_0 = gi32 h0 2 := Eq.trans e29 (Eq.symm (hw32.1 h0 2 (th_nzE t_h0 rfl) (th_nmE (key := 702) t_h0 rfl rfl)).1)
          have e34 : x3 = gi32 q2 5 := Eq.trans e30 (Eq.symm (hw32.1 q2 5 (th_nzE t2 rfl) (th_nmE (key := 105) t2 rfl rfl)).1)
          have e35 : y48_4 = gi32 q27 (p1.toNatClampNeg) := Eq.trans hu28.symm (Eq.symm (hw32.1 q27 (p1.toNatClampNeg) (th_nzE t27 rfl) (th_nmE (key := 3300) t27 rfl rfl)).1)
          refine lv_aload_n hx hb dX7_settle_84 rfl (lv_at hl 0 rfl) ?_
          refine lv_iload_n hx hb dX7_settle_85 rfl (lv_at hl 1 rfl) ?_
          refine lv_iconst (v := 1) hx hb dX7_settle_86 ic_1 ?_
          refine lv_iadd hx hb dX7_settle_87 ?_
          refine lv_topi (fun x36 e36 => ?_)
          have f36 : rg 5 5 x36 := rg_e e36 (rg_w (rg_add fy48_1 rgc_1 (th_leI rfl) (th_leI rfl)) (th_leI rfl) (th_leI rfl))
          refine lv_iload_n hx hb dX7_settle_88 rfl (lv_at hl 2 rfl) ?_
          refine lv_iconst (v := 1) hx hb dX7_settle_89 ic_1 ?_
          refine lv_iadd hx hb dX7_settle_90 ?_
          refine lv_topi (fun x37 e37 => ?_)
          have hA38 := th_Asub (τ := τ) hS
          refine va_callv (va_runV (As := [.int x36, .int x37]) (rest := []) ⟨hx, hb, hml, hown, hts⟩ (k_X7_settle_5 l D cA Z τ gi32 gr _ h0 t_h0 x36 f36 x37) (cwV 2 hts gX7_settle_X7_settle rfl rfl rfl hd_X7_settle__2 ⟨Nat.le_of_ble_eq_true rfl, Nat.le_of_ble_eq_true rfl⟩) ⟨th_blind, tr_7 hK hH t_h0, (th_pre hH hK hN hZ hS hA38)⟩ rfl rfl hl.1 rfl (lv_room (Nat.le_of_ble_eq_true rfl)) dX7_settle_91 ⟨Nat.le_of_ble_eq_true rfl, Nat.le_of_ble_eq_true rfl⟩) hS (fun q _ h => hA38 q h) hA38 (fun  u t H locs ht hvm hw39 hB hz1 hk1 hS => ?_)
          try dsimp only at hw39 hB
          rw [ht] at hB
          have hH := hB
          obtain ⟨gi39, gr39⟩ := u
          try dsimp only at hw39 hH
          obtain rfl : gr = gr39 := (hw39.2.1).symm
          have hM := hM.tr hw39.1 (fun _ h => h) (th_sub rfl)
          have e40 : w48_0 = gi39 h0 2 := Eq.trans e33 (Eq.symm (hw39.1 h0 2 (th_nzE t_h0 rfl) (th_nmE (key := 702) t_h0 rfl rfl)).1)
          have e41 : x3 = gi39 q2 5 := Eq.trans e34 (Eq.symm (hw39.1 q2 5 (th_nzE t2 rfl) (th_nmE (key := 105) t2 rfl rfl)).1)
          have e42 : y48_4 = gi39 q27 (p1.toNatClampNeg) := Eq.trans e35 (Eq.symm (hw39.1 q27 (p1.toNatClampNeg) (th_nzE t27 rfl) (th_nmE (key := 3300) t27 rfl rfl)).1)
          exact J94 gi39 _ _ _ w48_0 hH hS hM (lv_sub hl [0, 1, 2, 3, 4] rfl) fy48_1 f21 e40 fw48_0 (hF.trans (by simp only [↓reduceIte, f_X7_settle_4_48, ← ew48_0, r2, Option.getD_some, ← e3, eq_false c4, ← e22, ← e23, eq_false c24, r27, ← eg28, hw32.2.2, ← e36, ← e37, hw39.2.2]))
  have J13 : ∀ (gi_13 : th_i) (H : Heap) (locs : List Loc) (ls : Array Slot) (w13_0 : Int32), th_H D cA τ gi_13 gr H → va_S (th_A τ s.heap.size) s.heap H locs → th_Mod [707, 3100, 3200, 3300, 3400] τ gi gr gi_13 gr → lv_has ls 5 [(0, .ref h0), (2, .int p2)] → w13_0 = gi_13 h0 2 → rg 0 4 w13_0 → F_X7_settle_4 τ Z gi gr h0 p1 p2 = f_X7_settle_4_13 τ Z gi gr h0 p1 p2 gi_13 → W p l e (headSpec wsX7_settle ({ frames := 5, cells := 0, slots := 0, locals := 152 })).room s m [.ref h0, .int p1, .int p2].toArray below meth c H locs 0 0 (MQ below (va_Qv (fun (u : th_i × th_r) => th_Mod [707, 3100, 3200, 3300, 3400] τ gi gr u.1 u.2 ∧ u.2 = gr ∧ (F_X7_settle_4 τ Z gi gr h0 p1 p2 = u.1)) (fun (u : th_i × th_r) t => th_H D cA τ u.1 u.2 t.heap) (th_A τ s.heap.size)) [.ref h0, .int p1, .int p2].toArray s 0 0 (th_A τ s.heap.size)) (F0 m 13 ls []) := by
    intro gi_13 H locs ls w13_0 hH hS hM hl ew13_0 fw13_0 hF
    refine lv_aload_n hx hb dX7_settle_13 rfl (lv_at hl 0 rfl) ?_
    refine lv_iload_n hx hb dX7_settle_14 rfl (lv_at hl 1 rfl) ?_
    have hA43 := th_Asub (τ := τ) hS
    refine va_callv (va_runV (As := [.int p2]) (rest := []) ⟨hx, hb, hml, hown, hts⟩ (k_X7_keepIfBetter l D cA Z τ gi_13 gr _ h0 t_h0 p2) (cwV 1 hts gX7_settle_X7_keepIfBetter rfl rfl rfl hd_X7_keepIfBetter__1 ⟨Nat.le_of_ble_eq_true rfl, Nat.le_of_ble_eq_true rfl⟩) ⟨th_blind, tr_7 hK hH t_h0, (th_pre hH hK hN hZ hS hA43)⟩ rfl rfl hl.1 rfl (lv_room (Nat.le_of_ble_eq_true rfl)) dX7_settle_15 ⟨Nat.le_of_ble_eq_true rfl, Nat.le_of_ble_eq_true rfl⟩) hS (fun q _ h => hA43 q h) hA43 (fun  u t H locs ht hvm hw44 hB hz1 hk1 hS => ?_)
    try dsimp only at hw44 hB
    rw [ht] at hB
    have hH := hB
    obtain ⟨gi44, gr44⟩ := u
    try dsimp only at hw44 hH
    obtain rfl : gr = gr44 := (hw44.2.1).symm
    have hM := hM.tr hw44.1 (fun _ h => h) (th_sub rfl)
    have e45 : w13_0 = gi44 h0 2 := Eq.trans ew13_0 (Eq.symm (hw44.1 h0 2 (th_nzE t_h0 rfl) (th_nmE (key := 702) t_h0 rfl rfl)).1)
    exact W.vret hx hb hr (fun t ht hW => ⟨⟨(gi44, gr), rfl, ⟨hM, rfl, (hF.trans (by simp only [f_X7_settle_4_13, ← ew13_0, hw44.2.2]))⟩, th_Ht ht hH⟩, hS.F ht⟩) hS.2.2 dX7_settle_18
  have hS : va_S (th_A τ s.heap.size) s.heap s.heap [] := va_S.rf
  have hl := lv_entry ([.ref h0, .int p1, .int p2]) (n := 5) (Nat.le_of_ble_eq_true rfl)
  rw [lg_entry_eq]
  generalize (lg_sl ([.ref h0, .int p1, .int p2]) ++ List.replicate (5 - (lg_sl ([.ref h0, .int p1, .int p2])).length) Slot.unset).toArray = ls at hl ⊢
  have hl : lv_has ls 5 [(0, .ref h0), (1, .int p1), (2, .int p2)] := hl
  have hF : F_X7_settle_4 τ Z gi gr h0 p1 p2 = F_X7_settle_4 τ Z gi gr h0 p1 p2 := rfl
  refine lv_iload_n hx hb dX7_settle_0 rfl (lv_at hl 1 rfl) ?_
  refine lv_aload_n hx hb dX7_settle_1 rfl (lv_at hl 0 rfl) ?_
  obtain ⟨x46, e46⟩ : ∃ y : Int32, y = gi h0 2 := ⟨_, rfl⟩
  refine th_get (ci := 6) (v := .int x46) (T := TX7) (C := RX7) (N := 8) hx hb hts (fun w h => List.mem_cons_of_mem _ (List.mem_append_left _ (List.mem_append_left _ (List.mem_append_left _ (List.mem_append_left _ (List.mem_append_left _ (List.mem_append_right _ h))))))) hown hK hH t_h0 (th_nz rfl) (thE_7 _ _ _) rfl 2 (th_ltN rfl) (hts (.fieldLink RX7 17 "BayMoorings$Search" "size" "I") (List.mem_cons_of_mem _ (List.mem_append_left _ (List.mem_append_left _ (List.mem_append_left _ (List.mem_append_left _ (List.mem_append_left _ (List.mem_append_left _ (List.mem_append_left _ (List.mem_of_getElem? (i := 0) rfl)))))))))) (fun _ h9 => h9) (th_fI e46 rfl) dX7_settle_2 ?_
  have f46 : rg 0 5 x46 := rg_e e46 ((thI_7 hH t_h0).2.2.1)
  refine lv_icmp_ge (tgt := 13) hx hb dX7_settle_5 (th_eqI rfl) (fun c47 => ?_) (fun c47 => ?_)
  · skip
    have f48 : rg 0 4 x46 := rg_w (rg_le f46 f_p1 c47).1 (th_leI rfl) (th_leI rfl)
    exact J13 gi _ _ _ x46 hH hS hM (lv_sub hl [0, 2] rfl) e46 f48 (hF.trans (by simp only [↓reduceIte, F_X7_settle_4, ← e46, eq_true c47]))
  · skip
    have f49 : rg 5 5 x46 := rg_w (rg_nle f46 f_p1 c47).1 (th_leI rfl) (th_leI rfl)
    refine lv_iload_n hx hb dX7_settle_8 rfl (lv_at hl 1 rfl) ?_
    refine lv_iconst (v := 5) hx hb dX7_settle_9 ic_5 ?_
    refine lv_icmp_lt (tgt := 19) hx hb dX7_settle_10 (th_eqI rfl) (fun c50 => ?_) (fun c50 => ?_)
    · skip
      refine lv_iload_n hx hb dX7_settle_19 rfl (lv_at hl 2 rfl) ?_
      refine lv_aload_n hx hb dX7_settle_20 rfl (lv_at hl 0 rfl) ?_
      refine lv_iload_n hx hb dX7_settle_21 rfl (lv_at hl 1 rfl) ?_
      have hA51 := th_Asub (τ := τ) hS
      refine va_calli (va_runV (As := [.int p1]) (rest := [.int p2]) ⟨hx, hb, hml, hown, hts⟩ (k_X7_hopefulFrom l D cA Z τ gi gr _ h0 t_h0 p1 (rg_w f_p1 (th_leI rfl) (th_leI rfl))) (cwV 1 hts gX7_settle_X7_hopefulFrom rfl rfl rfl hd_X7_hopefulFrom__1 ⟨Nat.le_of_ble_eq_true rfl, Nat.le_of_ble_eq_true rfl⟩) ⟨th_blind, tr_7 hK hH t_h0, (th_pre hH hK hN hZ hS hA51)⟩ rfl rfl hl.1 rfl (lv_room (Nat.le_of_ble_eq_true rfl)) dX7_settle_22 ⟨Nat.le_of_ble_eq_true rfl, Nat.le_of_ble_eq_true rfl⟩) hS (fun q _ h => hA51 q h) hA51 (fun x52 u t H locs ht hvm hw52 hB hz1 hk1 hS => ?_)
      try dsimp only at hw52 hB
      rw [ht] at hB
      have hH := hB
      refine lv_iadd hx hb dX7_settle_25 ?_
      refine lv_topi (fun x53 e53 => ?_)
      refine lv_aload_n hx hb dX7_settle_26 rfl (lv_at hl 0 rfl) ?_
      obtain ⟨x54, e54⟩ : ∃ y : Int32, y = gi h0 7 := ⟨_, rfl⟩
      refine th_get (ci := 6) (v := .int x54) (T := TX7) (C := RX7) (N := 8) hx hb hts (fun w h => List.mem_cons_of_mem _ (List.mem_append_left _ (List.mem_append_left _ (List.mem_append_left _ (List.mem_append_left _ (List.mem_append_left _ (List.mem_append_right _ h))))))) hown hK hH t_h0 (th_nz rfl) (thE_7 _ _ _) rfl 7 (th_ltN rfl) (hts (.fieldLink RX7 34 "BayMoorings$Search" "bestCount" "I") (List.mem_cons_of_mem _ (List.mem_append_left _ (List.mem_append_left _ (List.mem_append_left _ (List.mem_append_left _ (List.mem_append_left _ (List.mem_append_left _ (List.mem_append_left _ (List.mem_of_getElem? (i := 1) rfl)))))))))) (fun _ h9 => h9) (th_fI e54 rfl) dX7_settle_27 ?_
      refine lv_icmp_gt (tgt := 34) hx hb dX7_settle_30 (th_eqI rfl) (fun c55 => ?_) (fun c55 => ?_)
      · skip
        refine lv_aload_n hx hb dX7_settle_34 rfl (lv_at hl 0 rfl) ?_
        obtain ⟨q56, r56, t56⟩ : ∃ q, gr h0 3 = some q ∧ τ q = 31 := (thI_7 hH t_h0).2.2.2.1
        refine th_get (ci := 6) (v := .ref q56) (T := TX7) (C := RX7) (N := 8) hx hb hts (fun w h => List.mem_cons_of_mem _ (List.mem_append_left _ (List.mem_append_left _ (List.mem_append_left _ (List.mem_append_left _ (List.mem_append_left _ (List.mem_append_right _ h))))))) hown hK hH t_h0 (th_nz rfl) (thE_7 _ _ _) rfl 3 (th_ltN rfl) (hts (.fieldLink RX7 21 "BayMoorings$Search" "open" "[I") (List.mem_cons_of_mem _ (List.mem_append_left _ (List.mem_append_left _ (List.mem_append_left _ (List.mem_append_left _ (List.mem_append_left _ (List.mem_append_left _ (List.mem_append_left _ (List.mem_of_getElem? (i := 2) rfl)))))))))) (fun _ h9 => h9) (th_fR r56 rfl) dX7_settle_35 ?_
        refine lv_iload_n hx hb dX7_settle_38 rfl (lv_at hl 1 rfl) ?_
        refine lv_iconst (v := 5) hx hb dX7_settle_39 ic_5 ?_
        refine lv_imul hx hb dX7_settle_40 ?_
        refine lv_topi (fun x57 e57 => ?_)
        have f57 : rg 20 20 x57 := rg_e e57 (rg_w (rg_mul f_p1 rgc_5 (th_leI rfl) (th_leI rfl) (th_leI rfl)) (th_leI rfl) (th_leI rfl))
        refine lv_iload_n hx hb dX7_settle_41 rfl (lv_at hl 1 rfl) ?_
        refine lv_iadd hx hb dX7_settle_42 ?_
        refine lv_topi (fun x58 e58 => ?_)
        have f58 : rg 24 24 x58 := rg_e e58 (rg_w (rg_add f57 f_p1 (th_leI rfl) (th_leI rfl)) (th_leI rfl) (th_leI rfl))
        refine th_iald hx hb hK hH t56 (th_nz rfl) 0 (thE_31 _ _ _) rfl (rg_in (n := 30) f58 (th_leI rfl) (th_ltI rfl)) dX7_settle_43 ?_
        refine lv_topi (fun x59 e59 => ?_)
        refine lv_istore_n (i := 3) (lv' := [(3, .int x59), (0, .ref h0), (1, .int p1), (2, .int p2)]) hx hb dX7_settle_44 rfl hl (th_ltN rfl) rfl (fun ls hl => ?_)
        refine lv_iconst (v := 0) hx hb dX7_settle_45 ic_0 ?_
        refine lv_istore (i := 4) (lv' := [(4, .int 0), (3, .int x59), (0, .ref h0), (1, .int p1), (2, .int p2)]) hx hb dX7_settle_46 hl (th_ltN rfl) rfl (fun ls hl => ?_)
        exact J48 _ gi _ _ _ x59 0 x46 (Nat.lt_add_one _) hH hS hM (lv_sub hl [2, 3, 4, 1, 0] rfl) f_p1 (rg_w rgc_0 (th_leI rfl) (th_leI rfl)) e46 f49 (hF.trans (by simp only [↓reduceIte, F_X7_settle_4, ← e46, eq_false c47, eq_true c50, hw52, ← e53, ← e54, eq_true c55, r56, Option.getD_some, ← e57, ← e58, ← e59]))
      · skip
        exact W.vret hx hb hr (fun t ht hW => ⟨⟨(gi, gr), rfl, ⟨hM, rfl, (hF.trans (by simp only [↓reduceIte, F_X7_settle_4, ← e46, eq_false c47, eq_true c50, hw52, ← e53, ← e54, eq_false c55]))⟩, th_Ht ht hH⟩, hS.F ht⟩) hS.2.2 dX7_settle_33
    · skip
      exact absurd (rg_nlt f_p1 rgc_5 c50).1 (rg_no (th_ltI rfl))

noncomputable def f_X7_settle_3_13 (τ : th_t) (Z : th_Zt) (gi : th_i) (gr : th_r) (h0 : Nat) (p1 : Int32) (p2 : Int32) (gi_13 : th_i) : th_i :=
  let w13_0 : Int32 := gi_13 h0 2
  let gi42 : th_i := F_X7_keepIfBetter τ Z gi_13 gr h0 p2
  (gi42)
noncomputable def f_X7_settle_3_94 (τ : th_t) (Z : th_Zt) (gi : th_i) (gr : th_r) (h0 : Nat) (p1 : Int32) (p2 : Int32) (gi_48 : th_i) (y48_3 : Int32) (y48_4 : Int32) (k_48 : th_i → Int32 → Int32 → th_i) (gi_94 : th_i) : th_i :=
  let w94_0 : Int32 := gi_94 h0 2
  let x1 : Int32 := y48_4 + 1
  k_48 gi_94 y48_3 x1
noncomputable def f_X7_settle_3_48 (τ : th_t) (Z : th_Zt) (gi : th_i) (gr : th_r) (h0 : Nat) (p1 : Int32) (p2 : Int32) : Nat → th_i → Int32 → Int32 → th_i
  | 0, gi_48, y48_3, y48_4 => (gi_48)
  | n48 + 1, gi_48, y48_3, y48_4 =>
    let w48_0 : Int32 := gi_48 h0 2
    let q2 : Nat := (gr h0 0).getD 0
    let x3 : Int32 := gi_48 q2 5
    if x3 ≤ y48_4 then (
      let q5 : Nat := (gr h0 5).getD 0
      let gi6 : th_i := va_up gi_48 q5 (upd (gi_48 q5) p1.toNatClampNeg (-1))
      let gi10 : th_i := F_X7_narrow τ Z gi6 gr h0 p1 (-1)
      let x14 : Int32 := p1 + 1
      let gi16 : th_i := F_X7_settle_4 τ Z gi10 gr h0 x14 p2
      (gi16)) else (
      let x21 : Int32 := y48_3 >>> (y48_4 &&& 31)
      let x22 : Int32 := x21 &&& 1
      if x22 = (0 : Int32) then (
        f_X7_settle_3_94 τ Z gi gr h0 p1 p2 gi_48 y48_3 y48_4 (f_X7_settle_3_48 τ Z gi gr h0 p1 p2 n48) gi_48) else (
        let q26 : Nat := (gr h0 5).getD 0
        let gi27 : th_i := va_up gi_48 q26 (upd (gi_48 q26) p1.toNatClampNeg y48_4)
        let gi31 : th_i := F_X7_narrow τ Z gi27 gr h0 p1 y48_4
        let x35 : Int32 := p1 + 1
        let x36 : Int32 := p2 + 1
        let gi38 : th_i := F_X7_settle_4 τ Z gi31 gr h0 x35 x36
        f_X7_settle_3_94 τ Z gi gr h0 p1 p2 gi_48 y48_3 y48_4 (f_X7_settle_3_48 τ Z gi gr h0 p1 p2 n48) gi38))
noncomputable def F_X7_settle_3 (τ : th_t) (Z : th_Zt) (gi : th_i) (gr : th_r) (h0 : Nat) (p1 : Int32) (p2 : Int32) : th_i :=
  let x44 : Int32 := gi h0 2
  if x44 ≤ p1 then (
    f_X7_settle_3_13 τ Z gi gr h0 p1 p2 gi) else (
    if p1 < (5 : Int32) then (
      let x50 : Int32 := F_X7_hopefulFrom τ Z gi gr h0 p1
      let x51 : Int32 := p2 + x50
      let x52 : Int32 := gi h0 7
      if x52 < x51 then (
        let q54 : Nat := (gr h0 3).getD 0
        let x55 : Int32 := p1 * 5
        let x56 : Int32 := x55 + p1
        let x57 : Int32 := gi q54 x56.toNatClampNeg
        f_X7_settle_3_48 τ Z gi gr h0 p1 p2 ((12 - (0 : Int32).toInt).toNat + 1) gi x57 0) else (
        (gi))) else (
      (gi)))
set_option maxHeartbeats 8000000 in
set_option maxRecDepth 100000 in
theorem k_X7_settle_3 (l : Launch) (D : va_G) (cA : Nat → ClassId) (Z : th_Zt) (τ : th_t) (gi : th_i) (gr : th_r) (sz : Nat) (h0 : Nat) (t_h0 : τ h0 = 7) (p1 : Int32) (f_p1 : rg 3 3 p1) (p2 : Int32) : Met l yX7_settle wsX7_settle ({ frames := 6, cells := 0, slots := 0, locals := 176 }) (va_Pc [.ref h0, .int p1, .int p2] (th_Pre D cA Z τ gi gr sz)) (va_Qv (fun (u : th_i × th_r) => th_Mod [707, 3100, 3200, 3300, 3400] τ gi gr u.1 u.2 ∧ u.2 = gr ∧ (F_X7_settle_3 τ Z gi gr h0 p1 p2 = u.1)) (fun (u : th_i × th_r) t => th_H D cA τ u.1 u.2 t.heap) (th_A τ sz)) 0 0 (th_A τ sz) := by
  refine Met.ofW (cc := cX7_settle) (maxL := 5) (ret := none) (by decide) rfl ?_
  intro p e s m args below meth c s₁ B hml hv
  obtain ⟨rfl, hsz, hH, hK, hN, hZ⟩ := hv
  have hx := B.exec
  have hb := B.bytes
  have hr := B.returns
  have hts := atoms_spec (ws := wsX7_settle) B.pre
  have hown : s.vm.findClass RX7 = some m.cls := findClass_of_methodNamed B.named
  have hlocks := B.notSynchronized
  subst hsz
  have hM : th_Mod [707, 3100, 3200, 3300, 3400] τ gi gr gi gr := th_Mod.rf
  have J48 : ∀ (n48 : Nat) (gi_48 : th_i) (H : Heap) (locs : List Loc) (ls : Array Slot) (y48_3 : Int32) (y48_4 : Int32) (w48_0 : Int32), (12 - y48_4.toInt).toNat < n48 → th_H D cA τ gi_48 gr H → va_S (th_A τ s.heap.size) s.heap H locs → th_Mod [707, 3100, 3200, 3300, 3400] τ gi gr gi_48 gr → lv_has ls 5 [(0, .ref h0), (1, .int p1), (2, .int p2), (3, .int y48_3), (4, .int y48_4)] → rg 3 3 p1 → rg 0 12 y48_4 → w48_0 = gi_48 h0 2 → rg 4 5 w48_0 → F_X7_settle_3 τ Z gi gr h0 p1 p2 = f_X7_settle_3_48 τ Z gi gr h0 p1 p2 n48 gi_48 y48_3 y48_4 → W p l e (headSpec wsX7_settle ({ frames := 6, cells := 0, slots := 0, locals := 176 })).room s m [.ref h0, .int p1, .int p2].toArray below meth c H locs 0 0 (MQ below (va_Qv (fun (u : th_i × th_r) => th_Mod [707, 3100, 3200, 3300, 3400] τ gi gr u.1 u.2 ∧ u.2 = gr ∧ (F_X7_settle_3 τ Z gi gr h0 p1 p2 = u.1)) (fun (u : th_i × th_r) t => th_H D cA τ u.1 u.2 t.heap) (th_A τ s.heap.size)) [.ref h0, .int p1, .int p2].toArray s 0 0 (th_A τ s.heap.size)) (F0 m 48 ls []) := by
    intro n48
    induction n48 with
    | zero =>
      intro gi_48 H locs ls y48_3 y48_4 w48_0 hn
      exact absurd hn (Nat.not_lt_zero _)
    | succ n48 ih48 =>
      intro gi_48 H locs ls y48_3 y48_4 w48_0 hn48 hH hS hM hl fy48_1 fy48_4 ew48_0 fw48_0 hF
      have J94 : ∀ (gi_94 : th_i) (H : Heap) (locs : List Loc) (ls : Array Slot) (w94_0 : Int32), th_H D cA τ gi_94 gr H → va_S (th_A τ s.heap.size) s.heap H locs → th_Mod [707, 3100, 3200, 3300, 3400] τ gi gr gi_94 gr → lv_has ls 5 [(0, .ref h0), (1, .int p1), (2, .int p2), (3, .int y48_3), (4, .int y48_4)] → rg 3 3 p1 → rg 0 11 y48_4 → w94_0 = gi_94 h0 2 → rg 4 5 w94_0 → F_X7_settle_3 τ Z gi gr h0 p1 p2 = f_X7_settle_3_94 τ Z gi gr h0 p1 p2 gi_48 y48_3 y48_4 (f_X7_settle_3_48 τ Z gi gr h0 p1 p2 n48) gi_94 → W p l e (headSpec wsX7_settle ({ frames := 6, cells := 0, slots := 0, locals := 176 })).room s m [.ref h0, .int p1, .int p2].toArray below meth c H locs 0 0 (MQ below (va_Qv (fun (u : th_i × th_r) => th_Mod [707, 3100, 3200, 3300, 3400] τ gi gr u.1 u.2 ∧ u.2 = gr ∧ (F_X7_settle_3 τ Z gi gr h0 p1 p2 = u.1)) (fun (u : th_i × th_r) t => th_H D cA τ u.1 u.2 t.heap) (th_A τ s.heap.size)) [.ref h0, .int p1, .int p2].toArray s 0 0 (th_A τ s.heap.size)) (F0 m 94 ls []) := by
        intro gi_94 H locs ls w94_0 hH hS hM hl fy94_1 fy94_4 ew94_0 fw94_0 hF
        obtain ⟨x1, e1⟩ : ∃ y : Int32, y = y48_4 + 1 := ⟨_, rfl⟩
        have f1 : rg 1 12 x1 := rg_e e1 (rg_w (rg_add fy94_4 rgc_1 (th_leI rfl) (th_leI rfl)) (th_leI rfl) (th_leI rfl))
        refine lv_iinc (v := x1) (lv' := [(4, .int x1), (0, .ref h0), (1, .int p1), (2, .int p2), (3, .int y48_3)]) hx hb dX7_settle_94 hl (k := 4) rfl (by rw [e1]; rfl) (th_ltN rfl) rfl (fun ls hl => ?_)
        refine lv_goto (tgt := 48) hx hb dX7_settle_97 (th_eqI rfl) ?_
        exact ih48 gi_94 _ _ _ y48_3 x1 w94_0 (th_up (rg_dA e1 fy94_4 rgc_1 (th_leI rfl) (th_leI rfl)) fy94_4 hn48 (th_ltI rfl)) hH hS hM (lv_sub hl [1, 2, 3, 4, 0] rfl) fy94_1 (rg_w f1 (th_leI rfl) (th_leI rfl)) ew94_0 fw94_0 (hF.trans (by simp only [f_X7_settle_3_94, ← ew94_0, ← e1]))
      refine lv_iload hx hb dX7_settle_48 (lv_at hl 4 rfl) ?_
      refine lv_aload_n hx hb dX7_settle_50 rfl (lv_at hl 0 rfl) ?_
      obtain ⟨q2, r2, t2⟩ : ∃ q, gr h0 0 = some q ∧ τ q = 1 := (thI_7 hH t_h0).1
      refine th_get (ci := 6) (v := .ref q2) (T := TX7) (C := RX7) (N := 8) hx hb hts (fun w h => List.mem_cons_of_mem _ (List.mem_append_left _ (List.mem_append_left _ (List.mem_append_left _ (List.mem_append_left _ (List.mem_append_left _ (List.mem_append_right _ h))))))) hown hK hH t_h0 (th_nz rfl) (thE_7 _ _ _) rfl 0 (th_ltN rfl) (hts (.fieldLink RX7 37 "BayMoorings$Search" "bay" "LBayMoorings$Bay;") (List.mem_cons_of_mem _ (List.mem_append_left _ (List.mem_append_left _ (List.mem_append_left _ (List.mem_append_left _ (List.mem_append_left _ (List.mem_append_left _ (List.mem_append_left _ (List.mem_of_getElem? (i := 3) rfl)))))))))) (fun _ h9 => h9) (th_fR r2 rfl) dX7_settle_51 ?_
      obtain ⟨x3, e3⟩ : ∃ y : Int32, y = gi_48 q2 5 := ⟨_, rfl⟩
      refine th_get (ci := 0) (v := .int x3) (T := TX0) (C := RX0) (N := 9) hx hb hts (fun w h => List.mem_cons_of_mem _ (List.mem_append_left _ (List.mem_append_left _ (List.mem_append_left _ (List.mem_append_left _ (List.mem_append_right _ h)))))) hown hK hH t2 (th_nz rfl) (thE_1 _ _ _) rfl 5 (th_ltN rfl) (hts (.fieldLink RX7 68 "BayMoorings$Bay" "buoyCount" "I") (List.mem_cons_of_mem _ (List.mem_append_left _ (List.mem_append_left _ (List.mem_append_left _ (List.mem_append_left _ (List.mem_append_left _ (List.mem_append_left _ (List.mem_append_left _ (List.mem_of_getElem? (i := 4) rfl)))))))))) (fun _ h9 => h9) (th_fI e3 rfl) dX7_settle_54 ?_
      have f3 : rg 0 12 x3 := rg_e e3 ((thI_1 hH t2).2.2.2.2.2.1)
      refine lv_icmp_ge (tgt := 100) hx hb dX7_settle_57 (th_eqI rfl) (fun c4 => ?_) (fun c4 => ?_)
      · skip
        refine lv_aload_n hx hb dX7_settle_100 rfl (lv_at hl 0 rfl) ?_
        obtain ⟨q5, r5, t5⟩ : ∃ q, gr h0 5 = some q ∧ τ q = 33 := (thI_7 hH t_h0).2.2.2.2.2.1
        refine th_get (ci := 6) (v := .ref q5) (T := TX7) (C := RX7) (N := 8) hx hb hts (fun w h => List.mem_cons_of_mem _ (List.mem_append_left _ (List.mem_append_left _ (List.mem_append_left _ (List.mem_append_left _ (List.mem_append_left _ (List.mem_append_right _ h))))))) hown hK hH t_h0 (th_nz rfl) (thE_7 _ _ _) rfl 5 (th_ltN rfl) (hts (.fieldLink RX7 28 "BayMoorings$Search" "trial" "[I") (List.mem_cons_of_mem _ (List.mem_append_left _ (List.mem_append_left _ (List.mem_append_left _ (List.mem_append_left _ (List.mem_append_left _ (List.mem_append_left _ (List.mem_append_left _ (List.mem_of_getElem? (i := 5) rfl)))))))))) (fun _ h9 => h9) (th_fR r5 rfl) dX7_settle_101 ?_
        refine lv_iload_n hx hb dX7_settle_104 rfl (lv_at hl 1 rfl) ?_
        refine lv_iconst (v := (-1)) hx hb dX7_settle_105 ic_m1 ?_
        refine th_iast hx hb hK hH hS t5 (th_nz rfl) (Or.inl (th_nzE t5 rfl)) 0 (fun _ => thE_33 _ _ _) rfl (rg_in (n := 5) fy48_1 (th_leI rfl) (th_ltI rfl)) (trivial) dX7_settle_106 (fun gi6 H locs hu6 ho6 hH hS => ?_)
        have eg6 : gi6 = va_up gi_48 q5 (upd (gi_48 q5) p1.toNatClampNeg (-1)) := th_upE hu6 ho6
        have e7 : w48_0 = gi6 h0 2 := Eq.trans ew48_0 (Eq.symm (ho6 _ _ (Or.inl (th_ne t_h0 t5 (th_nz rfl)))))
        have e8 : x3 = gi6 q2 5 := Eq.trans e3 (Eq.symm (ho6 _ _ (Or.inl (th_ne t2 t5 (th_nz rfl)))))
        have hM := hM.i t5 (th_mem (a := 3300) rfl) ho6
        refine lv_aload_n hx hb dX7_settle_107 rfl (lv_at hl 0 rfl) ?_
        refine lv_iload_n hx hb dX7_settle_108 rfl (lv_at hl 1 rfl) ?_
        refine lv_iconst (v := (-1)) hx hb dX7_settle_109 ic_m1 ?_
        have hA9 := th_Asub (τ := τ) hS
        refine va_callv (va_runV (As := [.int p1, .int (-1)]) (rest := []) ⟨hx, hb, hml, hown, hts⟩ (k_X7_narrow l D cA Z τ gi6 gr _ h0 t_h0 p1 (rg_w fy48_1 (th_leI rfl) (th_leI rfl)) (-1) (rg_w rgc_m1 (th_leI rfl) (th_leI rfl))) (cwV 2 hts gX7_settle_X7_narrow rfl rfl rfl hd_X7_narrow__2 ⟨Nat.le_of_ble_eq_true rfl, Nat.le_of_ble_eq_true rfl⟩) ⟨th_blind, tr_7 hK hH t_h0, (th_pre hH hK hN hZ hS hA9)⟩ rfl rfl hl.1 rfl (lv_room (Nat.le_of_ble_eq_true rfl)) dX7_settle_110 ⟨Nat.le_of_ble_eq_true rfl, Nat.le_of_ble_eq_true rfl⟩) hS (fun q _ h => hA9 q h) hA9 (fun  u t H locs ht hvm hw10 hB hz1 hk1 hS => ?_)
        try dsimp only at hw10 hB
        rw [ht] at hB
        have hH := hB
        obtain ⟨gi10, gr10⟩ := u
        try dsimp only at hw10 hH
        obtain rfl : gr = gr10 := (hw10.2.1).symm
        have hM := hM.tr hw10.1 (fun _ h => h) (th_sub rfl)
        have e11 : w48_0 = gi10 h0 2 := Eq.trans e7 (Eq.symm (hw10.1 h0 2 (th_nzE t_h0 rfl) (th_nmE (key := 702) t_h0 rfl rfl)).1)
        have e12 : x3 = gi10 q2 5 := Eq.trans e8 (Eq.symm (hw10.1 q2 5 (th_nzE t2 rfl) (th_nmE (key := 105) t2 rfl rfl)).1)
        have e13 : (-1) = gi10 q5 (p1.toNatClampNeg) := Eq.trans hu6.symm (Eq.symm (hw10.1 q5 (p1.toNatClampNeg) (th_nzE t5 rfl) (th_nmE (key := 3300) t5 rfl rfl)).1)
        refine lv_aload_n hx hb dX7_settle_113 rfl (lv_at hl 0 rfl) ?_
        refine lv_iload_n hx hb dX7_settle_114 rfl (lv_at hl 1 rfl) ?_
        refine lv_iconst (v := 1) hx hb dX7_settle_115 ic_1 ?_
        refine lv_iadd hx hb dX7_settle_116 ?_
        refine lv_topi (fun x14 e14 => ?_)
        have f14 : rg 4 4 x14 := rg_e e14 (rg_w (rg_add fy48_1 rgc_1 (th_leI rfl) (th_leI rfl)) (th_leI rfl) (th_leI rfl))
        refine lv_iload_n hx hb dX7_settle_117 rfl (lv_at hl 2 rfl) ?_
        have hA15 := th_Asub (τ := τ) hS
        refine va_callv (va_runV (As := [.int x14, .int p2]) (rest := []) ⟨hx, hb, hml, hown, hts⟩ (k_X7_settle_4 l D cA Z τ gi10 gr _ h0 t_h0 x14 f14 p2) (cwV 2 hts gX7_settle_X7_settle rfl rfl rfl hd_X7_settle__2 ⟨Nat.le_of_ble_eq_true rfl, Nat.le_of_ble_eq_true rfl⟩) ⟨th_blind, tr_7 hK hH t_h0, (th_pre hH hK hN hZ hS hA15)⟩ rfl rfl hl.1 rfl (lv_room (Nat.le_of_ble_eq_true rfl)) dX7_settle_118 ⟨Nat.le_of_ble_eq_true rfl, Nat.le_of_ble_eq_true rfl⟩) hS (fun q _ h => hA15 q h) hA15 (fun  u t H locs ht hvm hw16 hB hz1 hk1 hS => ?_)
        try dsimp only at hw16 hB
        rw [ht] at hB
        have hH := hB
        obtain ⟨gi16, gr16⟩ := u
        try dsimp only at hw16 hH
        obtain rfl : gr = gr16 := (hw16.2.1).symm
        have hM := hM.tr hw16.1 (fun _ h => h) (th_sub rfl)
        have e17 : w48_0 = gi16 h0 2 := Eq.trans e11 (Eq.symm (hw16.1 h0 2 (th_nzE t_h0 rfl) (th_nmE (key := 702) t_h0 rfl rfl)).1)
        have e18 : x3 = gi16 q2 5 := Eq.trans e12 (Eq.symm (hw16.1 q2 5 (th_nzE t2 rfl) (th_nmE (key := 105) t2 rfl rfl)).1)
        exact W.vret hx hb hr (fun t ht hW => ⟨⟨(gi16, gr), rfl, ⟨hM, rfl, (hF.trans (by simp only [↓reduceIte, f_X7_settle_3_48, ← ew48_0, r2, Option.getD_some, ← e3, eq_true c4, r5, ← eg6, hw10.2.2, ← e14, hw16.2.2]))⟩, th_Ht ht hH⟩, hS.F ht⟩) hS.2.2 dX7_settle_121
      · skip
        have f19 : rg 1 12 x3 := rg_w (rg_nle f3 fy48_4 c4).1 (th_leI rfl) (th_leI rfl)
        have f20 : rg 0 11 y48_4 := rg_w (rg_nle f3 fy48_4 c4).2 (th_leI rfl) (th_leI rfl)
        refine lv_iload_n hx hb dX7_settle_60 rfl (lv_at hl 3 rfl) ?_
        refine lv_iload hx hb dX7_settle_61 (lv_at hl 4 rfl) ?_
        refine lv_ishr hx hb dX7_settle_63 ?_
        refine lv_topi (fun x21 e21 => ?_)
        refine lv_iconst (v := 1) hx hb dX7_settle_64 ic_1 ?_
        refine lv_iand hx hb dX7_settle_65 ?_
        refine lv_topi (fun x22 e22 => ?_)
        have f22 : rg 0 1 x22 := rg_e e22 (rg_and 1 (by decide) (th_leN rfl) (th_eqI rfl))
        refine lv_if_eq (tgt := 94) hx hb dX7_settle_66 (th_eqI rfl) (fun c23 => ?_) (fun c23 => ?_)
        · skip
          have f24 : rg 0 0 x22 := rg_w (rg_eq f22 rgc_0 c23).1 (th_leI rfl) (th_leI rfl)
          exact J94 gi_48 _ _ _ w48_0 hH hS hM (lv_sub hl [0, 1, 2, 3, 4] rfl) fy48_1 f20 ew48_0 fw48_0 (hF.trans (by simp only [↓reduceIte, f_X7_settle_3_48, ← ew48_0, r2, Option.getD_some, ← e3, eq_false c4, ← e21, ← e22, eq_true c23]))
        · skip
          have f25 : rg 1 1 x22 := rg_w (rg_neL f22 rgc_0 c23) (th_leI rfl) (th_leI rfl)
          refine lv_aload_n hx hb dX7_settle_69 rfl (lv_at hl 0 rfl) ?_
          obtain ⟨q26, r26, t26⟩ : ∃ q, gr h0 5 = some q ∧ τ q = 33 := (thI_7 hH t_h0).2.2.2.2.2.1
          refine th_get (ci := 6) (v := .ref q26) (T := TX7) (C := RX7) (N := 8) hx hb hts (fun w h => List.mem_cons_of_mem _ (List.mem_append_left _ (List.mem_append_left _ (List.mem_append_left _ (List.mem_append_left _ (List.mem_append_left _ (List.mem_append_right _ h))))))) hown hK hH t_h0 (th_nz rfl) (thE_7 _ _ _) rfl 5 (th_ltN rfl) (hts (.fieldLink RX7 28 "BayMoorings$Search" "trial" "[I") (List.mem_cons_of_mem _ (List.mem_append_left _ (List.mem_append_left _ (List.mem_append_left _ (List.mem_append_left _ (List.mem_append_left _ (List.mem_append_left _ (List.mem_append_left _ (List.mem_of_getElem? (i := 5) rfl)))))))))) (fun _ h9 => h9) (th_fR r26 rfl) dX7_settle_70 ?_
          refine lv_iload_n hx hb dX7_settle_73 rfl (lv_at hl 1 rfl) ?_
          refine lv_iload hx hb dX7_settle_74 (lv_at hl 4 rfl) ?_
          refine th_iast hx hb hK hH hS t26 (th_nz rfl) (Or.inl (th_nzE t26 rfl)) 0 (fun _ => thE_33 _ _ _) rfl (rg_in (n := 5) fy48_1 (th_leI rfl) (th_ltI rfl)) (trivial) dX7_settle_76 (fun gi27 H locs hu27 ho27 hH hS => ?_)
          have eg27 : gi27 = va_up gi_48 q26 (upd (gi_48 q26) p1.toNatClampNeg y48_4) := th_upE hu27 ho27
          have e28 : w48_0 = gi27 h0 2 := Eq.trans ew48_0 (Eq.symm (ho27 _ _ (Or.inl (th_ne t_h0 t26 (th_nz rfl)))))
          have e29 : x3 = gi27 q2 5 := Eq.trans e3 (Eq.symm (ho27 _ _ (Or.inl (th_ne t2 t26 (th_nz rfl)))))
          have hM := hM.i t26 (th_mem (a := 3300) rfl) ho27
          refine lv_aload_n hx hb dX7_settle_77 rfl (lv_at hl 0 rfl) ?_
          refine lv_iload_n hx hb dX7_settle_78 rfl (lv_at hl 1 rfl) ?_
          refine lv_iload hx hb dX7_settle_79 (lv_at hl 4 rfl) ?_
          have hA30 := th_Asub (τ := τ) hS
          refine va_callv (va_runV (As := [.int p1, .int y48_4]) (rest := []) ⟨hx, hb, hml, hown, hts⟩ (k_X7_narrow l D cA Z τ gi27 gr _ h0 t_h0 p1 (rg_w fy48_1 (th_leI rfl) (th_leI rfl)) y48_4 (rg_w f20 (th_leI rfl) (th_leI rfl))) (cwV 2 hts gX7_settle_X7_narrow rfl rfl rfl hd_X7_narrow__2 ⟨Nat.le_of_ble_eq_true rfl, Nat.le_of_ble_eq_true rfl⟩) ⟨th_blind, tr_7 hK hH t_h0, (th_pre hH hK hN hZ hS hA30)⟩ rfl rfl hl.1 rfl (lv_room (Nat.le_of_ble_eq_true rfl)) dX7_settle_81 ⟨Nat.le_of_ble_eq_true rfl, Nat.le_of_ble_eq_true rfl⟩) hS (fun q _ h => hA30 q h) hA30 (fun  u t H locs ht hvm hw31 hB hz1 hk1 hS => ?_)
          try dsimp only at hw31 hB
          rw [ht] at hB
          have hH := hB
          obtain ⟨gi31, gr31⟩ := u
          try dsimp only at hw31 hH
          obtain rfl : gr = gr31 := (hw31.2.1).symm
          have hM := hM.tr hw31.1 (fun _ h => h) (th_sub rfl)
          have e32 : w48_0 = gi31 h0 2 := Eq.trans e28 (Eq.symm (hw31.1 h0 2 (th_nzE t_h0 rfl) (th_nmE (key := 702) t_h0 rfl rfl)).1)
          have e33 : x3 = gi31 q2 5 := Eq.trans e29 (Eq.symm (hw31.1 q2 5 (th_nzE t2 rfl) (th_nmE (key := 105) t2 rfl rfl)).1)
          have e34 : y48_4 = gi31 q26 (p1.toNatClampNeg) := Eq.trans hu27.symm (Eq.symm (hw31.1 q26 (p1.toNatClampNeg) (th_nzE t26 rfl) (th_nmE (key := 3300) t26 rfl rfl)).1)
          refine lv_aload_n hx hb dX7_settle_84 rfl (lv_at hl 0 rfl) ?_
          refine lv_iload_n hx hb dX7_settle_85 rfl (lv_at hl 1 rfl) ?_
          refine lv_iconst (v := 1) hx hb dX7_settle_86 ic_1 ?_
          refine lv_iadd hx hb dX7_settle_87 ?_
          refine lv_topi (fun x35 e35 => ?_)
          have f35 : rg 4 4 x35 := rg_e e35 (rg_w (rg_add fy48_1 rgc_1 (th_leI rfl) (th_leI rfl)) (th_leI rfl) (th_leI rfl))
          refine lv_iload_n hx hb dX7_settle_88 rfl (lv_at hl 2 rfl) ?_
          refine lv_iconst (v := 1) hx hb dX7_settle_89 ic_1 ?_
          refine lv_iadd hx hb dX7_settle_90 ?_
          refine lv_topi (fun x36 e36 => ?_)
          have hA37 := th_Asub (τ := τ) hS
          refine va_callv (va_runV (As := [.int x35, .int x36]) (rest := []) ⟨hx, hb, hml, hown, hts⟩ (k_X7_settle_4 l D cA Z τ gi31 gr _ h0 t_h0 x35 f35 x36) (cwV 2 hts gX7_settle_X7_settle rfl rfl rfl hd_X7_settle__2 ⟨Nat.le_of_ble_eq_true rfl, Nat.le_of_ble_eq_true rfl⟩) ⟨th_blind, tr_7 hK hH t_h0, (th_pre hH hK hN hZ hS hA37)⟩ rfl rfl hl.1 rfl (lv_room (Nat.le_of_ble_eq_true rfl)) dX7_settle_91 ⟨Nat.le_of_ble_eq_true rfl, Nat.le_of_ble_eq_true rfl⟩) hS (fun q _ h => hA37 q h) hA37 (fun  u t H locs ht hvm hw38 hB hz1 hk1 hS => ?_)
          try dsimp only at hw38 hB
          rw [ht] at hB
          have hH := hB
          obtain ⟨gi38, gr38⟩ := u
          try dsimp only at hw38 hH
          obtain rfl : gr = gr38 := (hw38.2.1).symm
          have hM := hM.tr hw38.1 (fun _ h => h) (th_sub rfl)
          have e39 : w48_0 = gi38 h0 2 := Eq.trans e32 (Eq.symm (hw38.1 h0 2 (th_nzE t_h0 rfl) (th_nmE (key := 702) t_h0 rfl rfl)).1)
          have e40 : x3 = gi38 q2 5 := Eq.trans e33 (Eq.symm (hw38.1 q2 5 (th_nzE t2 rfl) (th_nmE (key := 105) t2 rfl rfl)).1)
          exact J94 gi38 _ _ _ w48_0 hH hS hM (lv_sub hl [0, 1, 2, 3, 4] rfl) fy48_1 f20 e39 fw48_0 (hF.trans (by simp only [↓reduceIte, f_X7_settle_3_48, ← ew48_0, r2, Option.getD_some, ← e3, eq_false c4, ← e21, ← e22, eq_false c23, r26, ← eg27, hw31.2.2, ← e35, ← e36, hw38.2.2]))
  have J13 : ∀ (gi_13 : th_i) (H : Heap) (locs : List Loc) (ls : Array Slot) (w13_0 : Int32), th_H D cA τ gi_13 gr H → va_S (th_A τ s.heap.size) s.heap H locs → th_Mod [707, 3100, 3200, 3300, 3400] τ gi gr gi_13 gr → lv_has ls 5 [(0, .ref h0), (2, .int p2)] → w13_0 = gi_13 h0 2 → rg 0 3 w13_0 → F_X7_settle_3 τ Z gi gr h0 p1 p2 = f_X7_settle_3_13 τ Z gi gr h0 p1 p2 gi_13 → W p l e (headSpec wsX7_settle ({ frames := 6, cells := 0, slots := 0, locals := 176 })).room s m [.ref h0, .int p1, .int p2].toArray below meth c H locs 0 0 (MQ below (va_Qv (fun (u : th_i × th_r) => th_Mod [707, 3100, 3200, 3300, 3400] τ gi gr u.1 u.2 ∧ u.2 = gr ∧ (F_X7_settle_3 τ Z gi gr h0 p1 p2 = u.1)) (fun (u : th_i × th_r) t => th_H D cA τ u.1 u.2 t.heap) (th_A τ s.heap.size)) [.ref h0, .int p1, .int p2].toArray s 0 0 (th_A τ s.heap.size)) (F0 m 13 ls []) := by
    intro gi_13 H locs ls w13_0 hH hS hM hl ew13_0 fw13_0 hF
    refine lv_aload_n hx hb dX7_settle_13 rfl (lv_at hl 0 rfl) ?_
    refine lv_iload_n hx hb dX7_settle_14 rfl (lv_at hl 1 rfl) ?_
    have hA41 := th_Asub (τ := τ) hS
    refine va_callv (va_runV (As := [.int p2]) (rest := []) ⟨hx, hb, hml, hown, hts⟩ (k_X7_keepIfBetter l D cA Z τ gi_13 gr _ h0 t_h0 p2) (cwV 1 hts gX7_settle_X7_keepIfBetter rfl rfl rfl hd_X7_keepIfBetter__1 ⟨Nat.le_of_ble_eq_true rfl, Nat.le_of_ble_eq_true rfl⟩) ⟨th_blind, tr_7 hK hH t_h0, (th_pre hH hK hN hZ hS hA41)⟩ rfl rfl hl.1 rfl (lv_room (Nat.le_of_ble_eq_true rfl)) dX7_settle_15 ⟨Nat.le_of_ble_eq_true rfl, Nat.le_of_ble_eq_true rfl⟩) hS (fun q _ h => hA41 q h) hA41 (fun  u t H locs ht hvm hw42 hB hz1 hk1 hS => ?_)
    try dsimp only at hw42 hB
    rw [ht] at hB
    have hH := hB
    obtain ⟨gi42, gr42⟩ := u
    try dsimp only at hw42 hH
    obtain rfl : gr = gr42 := (hw42.2.1).symm
    have hM := hM.tr hw42.1 (fun _ h => h) (th_sub rfl)
    have e43 : w13_0 = gi42 h0 2 := Eq.trans ew13_0 (Eq.symm (hw42.1 h0 2 (th_nzE t_h0 rfl) (th_nmE (key := 702) t_h0 rfl rfl)).1)
    exact W.vret hx hb hr (fun t ht hW => ⟨⟨(gi42, gr), rfl, ⟨hM, rfl, (hF.trans (by simp only [f_X7_settle_3_13, ← ew13_0, hw42.2.2]))⟩, th_Ht ht hH⟩, hS.F ht⟩) hS.2.2 dX7_settle_18
  have hS : va_S (th_A τ s.heap.size) s.heap s.heap [] := va_S.rf
  have hl := lv_entry ([.ref h0, .int p1, .int p2]) (n := 5) (Nat.le_of_ble_eq_true rfl)
  rw [lg_entry_eq]
  generalize (lg_sl ([.ref h0, .int p1, .int p2]) ++ List.replicate (5 - (lg_sl ([.ref h0, .int p1, .int p2])).length) Slot.unset).toArray = ls at hl ⊢
  have hl : lv_has ls 5 [(0, .ref h0), (1, .int p1), (2, .int p2)] := hl
  have hF : F_X7_settle_3 τ Z gi gr h0 p1 p2 = F_X7_settle_3 τ Z gi gr h0 p1 p2 := rfl
  refine lv_iload_n hx hb dX7_settle_0 rfl (lv_at hl 1 rfl) ?_
  refine lv_aload_n hx hb dX7_settle_1 rfl (lv_at hl 0 rfl) ?_
  obtain ⟨x44, e44⟩ : ∃ y : Int32, y = gi h0 2 := ⟨_, rfl⟩
  refine th_get (ci := 6) (v := .int x44) (T := TX7) (C := RX7) (N := 8) hx hb hts (fun w h => List.mem_cons_of_mem _ (List.mem_append_left _ (List.mem_append_left _ (List.mem_append_left _ (List.mem_append_left _ (List.mem_append_left _ (List.mem_append_right _ h))))))) hown hK hH t_h0 (th_nz rfl) (thE_7 _ _ _) rfl 2 (th_ltN rfl) (hts (.fieldLink RX7 17 "BayMoorings$Search" "size" "I") (List.mem_cons_of_mem _ (List.mem_append_left _ (List.mem_append_left _ (List.mem_append_left _ (List.mem_append_left _ (List.mem_append_left _ (List.mem_append_left _ (List.mem_append_left _ (List.mem_of_getElem? (i := 0) rfl)))))))))) (fun _ h9 => h9) (th_fI e44 rfl) dX7_settle_2 ?_
  have f44 : rg 0 5 x44 := rg_e e44 ((thI_7 hH t_h0).2.2.1)
  refine lv_icmp_ge (tgt := 13) hx hb dX7_settle_5 (th_eqI rfl) (fun c45 => ?_) (fun c45 => ?_)
  · skip
    have f46 : rg 0 3 x44 := rg_w (rg_le f44 f_p1 c45).1 (th_leI rfl) (th_leI rfl)
    exact J13 gi _ _ _ x44 hH hS hM (lv_sub hl [0, 2] rfl) e44 f46 (hF.trans (by simp only [↓reduceIte, F_X7_settle_3, ← e44, eq_true c45]))
  · skip
    have f47 : rg 4 5 x44 := rg_w (rg_nle f44 f_p1 c45).1 (th_leI rfl) (th_leI rfl)
    refine lv_iload_n hx hb dX7_settle_8 rfl (lv_at hl 1 rfl) ?_
    refine lv_iconst (v := 5) hx hb dX7_settle_9 ic_5 ?_
    refine lv_icmp_lt (tgt := 19) hx hb dX7_settle_10 (th_eqI rfl) (fun c48 => ?_) (fun c48 => ?_)
    · skip
      refine lv_iload_n hx hb dX7_settle_19 rfl (lv_at hl 2 rfl) ?_
      refine lv_aload_n hx hb dX7_settle_20 rfl (lv_at hl 0 rfl) ?_
      refine lv_iload_n hx hb dX7_settle_21 rfl (lv_at hl 1 rfl) ?_
      have hA49 := th_Asub (τ := τ) hS
      refine va_calli (va_runV (As := [.int p1]) (rest := [.int p2]) ⟨hx, hb, hml, hown, hts⟩ (k_X7_hopefulFrom l D cA Z τ gi gr _ h0 t_h0 p1 (rg_w f_p1 (th_leI rfl) (th_leI rfl))) (cwV 1 hts gX7_settle_X7_hopefulFrom rfl rfl rfl hd_X7_hopefulFrom__1 ⟨Nat.le_of_ble_eq_true rfl, Nat.le_of_ble_eq_true rfl⟩) ⟨th_blind, tr_7 hK hH t_h0, (th_pre hH hK hN hZ hS hA49)⟩ rfl rfl hl.1 rfl (lv_room (Nat.le_of_ble_eq_true rfl)) dX7_settle_22 ⟨Nat.le_of_ble_eq_true rfl, Nat.le_of_ble_eq_true rfl⟩) hS (fun q _ h => hA49 q h) hA49 (fun x50 u t H locs ht hvm hw50 hB hz1 hk1 hS => ?_)
      try dsimp only at hw50 hB
      rw [ht] at hB
      have hH := hB
      refine lv_iadd hx hb dX7_settle_25 ?_
      refine lv_topi (fun x51 e51 => ?_)
      refine lv_aload_n hx hb dX7_settle_26 rfl (lv_at hl 0 rfl) ?_
      obtain ⟨x52, e52⟩ : ∃ y : Int32, y = gi h0 7 := ⟨_, rfl⟩
      refine th_get (ci := 6) (v := .int x52) (T := TX7) (C := RX7) (N := 8) hx hb hts (fun w h => List.mem_cons_of_mem _ (List.mem_append_left _ (List.mem_append_left _ (List.mem_append_left _ (List.mem_append_left _ (List.mem_append_left _ (List.mem_append_right _ h))))))) hown hK hH t_h0 (th_nz rfl) (thE_7 _ _ _) rfl 7 (th_ltN rfl) (hts (.fieldLink RX7 34 "BayMoorings$Search" "bestCount" "I") (List.mem_cons_of_mem _ (List.mem_append_left _ (List.mem_append_left _ (List.mem_append_left _ (List.mem_append_left _ (List.mem_append_left _ (List.mem_append_left _ (List.mem_append_left _ (List.mem_of_getElem? (i := 1) rfl)))))))))) (fun _ h9 => h9) (th_fI e52 rfl) dX7_settle_27 ?_
      refine lv_icmp_gt (tgt := 34) hx hb dX7_settle_30 (th_eqI rfl) (fun c53 => ?_) (fun c53 => ?_)
      · skip
        refine lv_aload_n hx hb dX7_settle_34 rfl (lv_at hl 0 rfl) ?_
        obtain ⟨q54, r54, t54⟩ : ∃ q, gr h0 3 = some q ∧ τ q = 31 := (thI_7 hH t_h0).2.2.2.1
        refine th_get (ci := 6) (v := .ref q54) (T := TX7) (C := RX7) (N := 8) hx hb hts (fun w h => List.mem_cons_of_mem _ (List.mem_append_left _ (List.mem_append_left _ (List.mem_append_left _ (List.mem_append_left _ (List.mem_append_left _ (List.mem_append_right _ h))))))) hown hK hH t_h0 (th_nz rfl) (thE_7 _ _ _) rfl 3 (th_ltN rfl) (hts (.fieldLink RX7 21 "BayMoorings$Search" "open" "[I") (List.mem_cons_of_mem _ (List.mem_append_left _ (List.mem_append_left _ (List.mem_append_left _ (List.mem_append_left _ (List.mem_append_left _ (List.mem_append_left _ (List.mem_append_left _ (List.mem_of_getElem? (i := 2) rfl)))))))))) (fun _ h9 => h9) (th_fR r54 rfl) dX7_settle_35 ?_
        refine lv_iload_n hx hb dX7_settle_38 rfl (lv_at hl 1 rfl) ?_
        refine lv_iconst (v := 5) hx hb dX7_settle_39 ic_5 ?_
        refine lv_imul hx hb dX7_settle_40 ?_
        refine lv_topi (fun x55 e55 => ?_)
        have f55 : rg 15 15 x55 := rg_e e55 (rg_w (rg_mul f_p1 rgc_5 (th_leI rfl) (th_leI rfl) (th_leI rfl)) (th_leI rfl) (th_leI rfl))
        refine lv_iload_n hx hb dX7_settle_41 rfl (lv_at hl 1 rfl) ?_
        refine lv_iadd hx hb dX7_settle_42 ?_
        refine lv_topi (fun x56 e56 => ?_)
        have f56 : rg 18 18 x56 := rg_e e56 (rg_w (rg_add f55 f_p1 (th_leI rfl) (th_leI rfl)) (th_leI rfl) (th_leI rfl))
        refine th_iald hx hb hK hH t54 (th_nz rfl) 0 (thE_31 _ _ _) rfl (rg_in (n := 30) f56 (th_leI rfl) (th_ltI rfl)) dX7_settle_43 ?_
        refine lv_topi (fun x57 e57 => ?_)
        refine lv_istore_n (i := 3) (lv' := [(3, .int x57), (0, .ref h0), (1, .int p1), (2, .int p2)]) hx hb dX7_settle_44 rfl hl (th_ltN rfl) rfl (fun ls hl => ?_)
        refine lv_iconst (v := 0) hx hb dX7_settle_45 ic_0 ?_
        refine lv_istore (i := 4) (lv' := [(4, .int 0), (3, .int x57), (0, .ref h0), (1, .int p1), (2, .int p2)]) hx hb dX7_settle_46 hl (th_ltN rfl) rfl (fun ls hl => ?_)
        exact J48 _ gi _ _ _ x57 0 x44 (Nat.lt_add_one _) hH hS hM (lv_sub hl [2, 3, 4, 1, 0] rfl) f_p1 (rg_w rgc_0 (th_leI rfl) (th_leI rfl)) e44 f47 (hF.trans (by simp only [↓reduceIte, F_X7_settle_3, ← e44, eq_false c45, eq_true c48, hw50, ← e51, ← e52, eq_true c53, r54, Option.getD_some, ← e55, ← e56, ← e57]))
      · skip
        exact W.vret hx hb hr (fun t ht hW => ⟨⟨(gi, gr), rfl, ⟨hM, rfl, (hF.trans (by simp only [↓reduceIte, F_X7_settle_3, ← e44, eq_false c45, eq_true c48, hw50, ← e51, ← e52, eq_false c53]))⟩, th_Ht ht hH⟩, hS.F ht⟩) hS.2.2 dX7_settle_33
    · skip
      exact absurd (rg_nlt f_p1 rgc_5 c48).1 (rg_no (th_ltI rfl))

noncomputable def f_X7_settle_2_13 (τ : th_t) (Z : th_Zt) (gi : th_i) (gr : th_r) (h0 : Nat) (p1 : Int32) (p2 : Int32) (gi_13 : th_i) : th_i :=
  let w13_0 : Int32 := gi_13 h0 2
  let gi42 : th_i := F_X7_keepIfBetter τ Z gi_13 gr h0 p2
  (gi42)
noncomputable def f_X7_settle_2_94 (τ : th_t) (Z : th_Zt) (gi : th_i) (gr : th_r) (h0 : Nat) (p1 : Int32) (p2 : Int32) (gi_48 : th_i) (y48_3 : Int32) (y48_4 : Int32) (k_48 : th_i → Int32 → Int32 → th_i) (gi_94 : th_i) : th_i :=
  let w94_0 : Int32 := gi_94 h0 2
  let x1 : Int32 := y48_4 + 1
  k_48 gi_94 y48_3 x1
noncomputable def f_X7_settle_2_48 (τ : th_t) (Z : th_Zt) (gi : th_i) (gr : th_r) (h0 : Nat) (p1 : Int32) (p2 : Int32) : Nat → th_i → Int32 → Int32 → th_i
  | 0, gi_48, y48_3, y48_4 => (gi_48)
  | n48 + 1, gi_48, y48_3, y48_4 =>
    let w48_0 : Int32 := gi_48 h0 2
    let q2 : Nat := (gr h0 0).getD 0
    let x3 : Int32 := gi_48 q2 5
    if x3 ≤ y48_4 then (
      let q5 : Nat := (gr h0 5).getD 0
      let gi6 : th_i := va_up gi_48 q5 (upd (gi_48 q5) p1.toNatClampNeg (-1))
      let gi10 : th_i := F_X7_narrow τ Z gi6 gr h0 p1 (-1)
      let x14 : Int32 := p1 + 1
      let gi16 : th_i := F_X7_settle_3 τ Z gi10 gr h0 x14 p2
      (gi16)) else (
      let x21 : Int32 := y48_3 >>> (y48_4 &&& 31)
      let x22 : Int32 := x21 &&& 1
      if x22 = (0 : Int32) then (
        f_X7_settle_2_94 τ Z gi gr h0 p1 p2 gi_48 y48_3 y48_4 (f_X7_settle_2_48 τ Z gi gr h0 p1 p2 n48) gi_48) else (
        let q26 : Nat := (gr h0 5).getD 0
        let gi27 : th_i := va_up gi_48 q26 (upd (gi_48 q26) p1.toNatClampNeg y48_4)
        let gi31 : th_i := F_X7_narrow τ Z gi27 gr h0 p1 y48_4
        let x35 : Int32 := p1 + 1
        let x36 : Int32 := p2 + 1
        let gi38 : th_i := F_X7_settle_3 τ Z gi31 gr h0 x35 x36
        f_X7_settle_2_94 τ Z gi gr h0 p1 p2 gi_48 y48_3 y48_4 (f_X7_settle_2_48 τ Z gi gr h0 p1 p2 n48) gi38))
noncomputable def F_X7_settle_2 (τ : th_t) (Z : th_Zt) (gi : th_i) (gr : th_r) (h0 : Nat) (p1 : Int32) (p2 : Int32) : th_i :=
  let x44 : Int32 := gi h0 2
  if x44 ≤ p1 then (
    f_X7_settle_2_13 τ Z gi gr h0 p1 p2 gi) else (
    if p1 < (5 : Int32) then (
      let x50 : Int32 := F_X7_hopefulFrom τ Z gi gr h0 p1
      let x51 : Int32 := p2 + x50
      let x52 : Int32 := gi h0 7
      if x52 < x51 then (
        let q54 : Nat := (gr h0 3).getD 0
        let x55 : Int32 := p1 * 5
        let x56 : Int32 := x55 + p1
        let x57 : Int32 := gi q54 x56.toNatClampNeg
        f_X7_settle_2_48 τ Z gi gr h0 p1 p2 ((12 - (0 : Int32).toInt).toNat + 1) gi x57 0) else (
        (gi))) else (
      (gi)))
set_option maxHeartbeats 8000000 in
set_option maxRecDepth 100000 in
theorem k_X7_settle_2 (l : Launch) (D : va_G) (cA : Nat → ClassId) (Z : th_Zt) (τ : th_t) (gi : th_i) (gr : th_r) (sz : Nat) (h0 : Nat) (t_h0 : τ h0 = 7) (p1 : Int32) (f_p1 : rg 2 2 p1) (p2 : Int32) : Met l yX7_settle wsX7_settle ({ frames := 7, cells := 0, slots := 0, locals := 200 }) (va_Pc [.ref h0, .int p1, .int p2] (th_Pre D cA Z τ gi gr sz)) (va_Qv (fun (u : th_i × th_r) => th_Mod [707, 3100, 3200, 3300, 3400] τ gi gr u.1 u.2 ∧ u.2 = gr ∧ (F_X7_settle_2 τ Z gi gr h0 p1 p2 = u.1)) (fun (u : th_i × th_r) t => th_H D cA τ u.1 u.2 t.heap) (th_A τ sz)) 0 0 (th_A τ sz) := by
  refine Met.ofW (cc := cX7_settle) (maxL := 5) (ret := none) (by decide) rfl ?_
  intro p e s m args below meth c s₁ B hml hv
  obtain ⟨rfl, hsz, hH, hK, hN, hZ⟩ := hv
  have hx := B.exec
  have hb := B.bytes
  have hr := B.returns
  have hts := atoms_spec (ws := wsX7_settle) B.pre
  have hown : s.vm.findClass RX7 = some m.cls := findClass_of_methodNamed B.named
  have hlocks := B.notSynchronized
  subst hsz
  have hM : th_Mod [707, 3100, 3200, 3300, 3400] τ gi gr gi gr := th_Mod.rf
  have J48 : ∀ (n48 : Nat) (gi_48 : th_i) (H : Heap) (locs : List Loc) (ls : Array Slot) (y48_3 : Int32) (y48_4 : Int32) (w48_0 : Int32), (12 - y48_4.toInt).toNat < n48 → th_H D cA τ gi_48 gr H → va_S (th_A τ s.heap.size) s.heap H locs → th_Mod [707, 3100, 3200, 3300, 3400] τ gi gr gi_48 gr → lv_has ls 5 [(0, .ref h0), (1, .int p1), (2, .int p2), (3, .int y48_3), (4, .int y48_4)] → rg 2 2 p1 → rg 0 12 y48_4 → w48_0 = gi_48 h0 2 → rg 3 5 w48_0 → F_X7_settle_2 τ Z gi gr h0 p1 p2 = f_X7_settle_2_48 τ Z gi gr h0 p1 p2 n48 gi_48 y48_3 y48_4 → W p l e (headSpec wsX7_settle ({ frames := 7, cells := 0, slots := 0, locals := 200 })).room s m [.ref h0, .int p1, .int p2].toArray below meth c H locs 0 0 (MQ below (va_Qv (fun (u : th_i × th_r) => th_Mod [707, 3100, 3200, 3300, 3400] τ gi gr u.1 u.2 ∧ u.2 = gr ∧ (F_X7_settle_2 τ Z gi gr h0 p1 p2 = u.1)) (fun (u : th_i × th_r) t => th_H D cA τ u.1 u.2 t.heap) (th_A τ s.heap.size)) [.ref h0, .int p1, .int p2].toArray s 0 0 (th_A τ s.heap.size)) (F0 m 48 ls []) := by
    intro n48
    induction n48 with
    | zero =>
      intro gi_48 H locs ls y48_3 y48_4 w48_0 hn
      exact absurd hn (Nat.not_lt_zero _)
    | succ n48 ih48 =>
      intro gi_48 H locs ls y48_3 y48_4 w48_0 hn48 hH hS hM hl fy48_1 fy48_4 ew48_0 fw48_0 hF
      have J94 : ∀ (gi_94 : th_i) (H : Heap) (locs : List Loc) (ls : Array Slot) (w94_0 : Int32), th_H D cA τ gi_94 gr H → va_S (th_A τ s.heap.size) s.heap H locs → th_Mod [707, 3100, 3200, 3300, 3400] τ gi gr gi_94 gr → lv_has ls 5 [(0, .ref h0), (1, .int p1), (2, .int p2), (3, .int y48_3), (4, .int y48_4)] → rg 2 2 p1 → rg 0 11 y48_4 → w94_0 = gi_94 h0 2 → rg 3 5 w94_0 → F_X7_settle_2 τ Z gi gr h0 p1 p2 = f_X7_settle_2_94 τ Z gi gr h0 p1 p2 gi_48 y48_3 y48_4 (f_X7_settle_2_48 τ Z gi gr h0 p1 p2 n48) gi_94 → W p l e (headSpec wsX7_settle ({ frames := 7, cells := 0, slots := 0, locals := 200 })).room s m [.ref h0, .int p1, .int p2].toArray below meth c H locs 0 0 (MQ below (va_Qv (fun (u : th_i × th_r) => th_Mod [707, 3100, 3200, 3300, 3400] τ gi gr u.1 u.2 ∧ u.2 = gr ∧ (F_X7_settle_2 τ Z gi gr h0 p1 p2 = u.1)) (fun (u : th_i × th_r) t => th_H D cA τ u.1 u.2 t.heap) (th_A τ s.heap.size)) [.ref h0, .int p1, .int p2].toArray s 0 0 (th_A τ s.heap.size)) (F0 m 94 ls []) := by
        intro gi_94 H locs ls w94_0 hH hS hM hl fy94_1 fy94_4 ew94_0 fw94_0 hF
        obtain ⟨x1, e1⟩ : ∃ y : Int32, y = y48_4 + 1 := ⟨_, rfl⟩
        have f1 : rg 1 12 x1 := rg_e e1 (rg_w (rg_add fy94_4 rgc_1 (th_leI rfl) (th_leI rfl)) (th_leI rfl) (th_leI rfl))
        refine lv_iinc (v := x1) (lv' := [(4, .int x1), (0, .ref h0), (1, .int p1), (2, .int p2), (3, .int y48_3)]) hx hb dX7_settle_94 hl (k := 4) rfl (by rw [e1]; rfl) (th_ltN rfl) rfl (fun ls hl => ?_)
        refine lv_goto (tgt := 48) hx hb dX7_settle_97 (th_eqI rfl) ?_
        exact ih48 gi_94 _ _ _ y48_3 x1 w94_0 (th_up (rg_dA e1 fy94_4 rgc_1 (th_leI rfl) (th_leI rfl)) fy94_4 hn48 (th_ltI rfl)) hH hS hM (lv_sub hl [1, 2, 3, 4, 0] rfl) fy94_1 (rg_w f1 (th_leI rfl) (th_leI rfl)) ew94_0 fw94_0 (hF.trans (by simp only [f_X7_settle_2_94, ← ew94_0, ← e1]))
      refine lv_iload hx hb dX7_settle_48 (lv_at hl 4 rfl) ?_
      refine lv_aload_n hx hb dX7_settle_50 rfl (lv_at hl 0 rfl) ?_
      obtain ⟨q2, r2, t2⟩ : ∃ q, gr h0 0 = some q ∧ τ q = 1 := (thI_7 hH t_h0).1
      refine th_get (ci := 6) (v := .ref q2) (T := TX7) (C := RX7) (N := 8) hx hb hts (fun w h => List.mem_cons_of_mem _ (List.mem_append_left _ (List.mem_append_left _ (List.mem_append_left _ (List.mem_append_left _ (List.mem_append_left _ (List.mem_append_right _ h))))))) hown hK hH t_h0 (th_nz rfl) (thE_7 _ _ _) rfl 0 (th_ltN rfl) (hts (.fieldLink RX7 37 "BayMoorings$Search" "bay" "LBayMoorings$Bay;") (List.mem_cons_of_mem _ (List.mem_append_left _ (List.mem_append_left _ (List.mem_append_left _ (List.mem_append_left _ (List.mem_append_left _ (List.mem_append_left _ (List.mem_append_left _ (List.mem_of_getElem? (i := 3) rfl)))))))))) (fun _ h9 => h9) (th_fR r2 rfl) dX7_settle_51 ?_
      obtain ⟨x3, e3⟩ : ∃ y : Int32, y = gi_48 q2 5 := ⟨_, rfl⟩
      refine th_get (ci := 0) (v := .int x3) (T := TX0) (C := RX0) (N := 9) hx hb hts (fun w h => List.mem_cons_of_mem _ (List.mem_append_left _ (List.mem_append_left _ (List.mem_append_left _ (List.mem_append_left _ (List.mem_append_right _ h)))))) hown hK hH t2 (th_nz rfl) (thE_1 _ _ _) rfl 5 (th_ltN rfl) (hts (.fieldLink RX7 68 "BayMoorings$Bay" "buoyCount" "I") (List.mem_cons_of_mem _ (List.mem_append_left _ (List.mem_append_left _ (List.mem_append_left _ (List.mem_append_left _ (List.mem_append_left _ (List.mem_append_left _ (List.mem_append_left _ (List.mem_of_getElem? (i := 4) rfl)))))))))) (fun _ h9 => h9) (th_fI e3 rfl) dX7_settle_54 ?_
      have f3 : rg 0 12 x3 := rg_e e3 ((thI_1 hH t2).2.2.2.2.2.1)
      refine lv_icmp_ge (tgt := 100) hx hb dX7_settle_57 (th_eqI rfl) (fun c4 => ?_) (fun c4 => ?_)
      · skip
        refine lv_aload_n hx hb dX7_settle_100 rfl (lv_at hl 0 rfl) ?_
        obtain ⟨q5, r5, t5⟩ : ∃ q, gr h0 5 = some q ∧ τ q = 33 := (thI_7 hH t_h0).2.2.2.2.2.1
        refine th_get (ci := 6) (v := .ref q5) (T := TX7) (C := RX7) (N := 8) hx hb hts (fun w h => List.mem_cons_of_mem _ (List.mem_append_left _ (List.mem_append_left _ (List.mem_append_left _ (List.mem_append_left _ (List.mem_append_left _ (List.mem_append_right _ h))))))) hown hK hH t_h0 (th_nz rfl) (thE_7 _ _ _) rfl 5 (th_ltN rfl) (hts (.fieldLink RX7 28 "BayMoorings$Search" "trial" "[I") (List.mem_cons_of_mem _ (List.mem_append_left _ (List.mem_append_left _ (List.mem_append_left _ (List.mem_append_left _ (List.mem_append_left _ (List.mem_append_left _ (List.mem_append_left _ (List.mem_of_getElem? (i := 5) rfl)))))))))) (fun _ h9 => h9) (th_fR r5 rfl) dX7_settle_101 ?_
        refine lv_iload_n hx hb dX7_settle_104 rfl (lv_at hl 1 rfl) ?_
        refine lv_iconst (v := (-1)) hx hb dX7_settle_105 ic_m1 ?_
        refine th_iast hx hb hK hH hS t5 (th_nz rfl) (Or.inl (th_nzE t5 rfl)) 0 (fun _ => thE_33 _ _ _) rfl (rg_in (n := 5) fy48_1 (th_leI rfl) (th_ltI rfl)) (trivial) dX7_settle_106 (fun gi6 H locs hu6 ho6 hH hS => ?_)
        have eg6 : gi6 = va_up gi_48 q5 (upd (gi_48 q5) p1.toNatClampNeg (-1)) := th_upE hu6 ho6
        have e7 : w48_0 = gi6 h0 2 := Eq.trans ew48_0 (Eq.symm (ho6 _ _ (Or.inl (th_ne t_h0 t5 (th_nz rfl)))))
        have e8 : x3 = gi6 q2 5 := Eq.trans e3 (Eq.symm (ho6 _ _ (Or.inl (th_ne t2 t5 (th_nz rfl)))))
        have hM := hM.i t5 (th_mem (a := 3300) rfl) ho6
        refine lv_aload_n hx hb dX7_settle_107 rfl (lv_at hl 0 rfl) ?_
        refine lv_iload_n hx hb dX7_settle_108 rfl (lv_at hl 1 rfl) ?_
        refine lv_iconst (v := (-1)) hx hb dX7_settle_109 ic_m1 ?_
        have hA9 := th_Asub (τ := τ) hS
        refine va_callv (va_runV (As := [.int p1, .int (-1)]) (rest := []) ⟨hx, hb, hml, hown, hts⟩ (k_X7_narrow l D cA Z τ gi6 gr _ h0 t_h0 p1 (rg_w fy48_1 (th_leI rfl) (th_leI rfl)) (-1) (rg_w rgc_m1 (th_leI rfl) (th_leI rfl))) (cwV 2 hts gX7_settle_X7_narrow rfl rfl rfl hd_X7_narrow__2 ⟨Nat.le_of_ble_eq_true rfl, Nat.le_of_ble_eq_true rfl⟩) ⟨th_blind, tr_7 hK hH t_h0, (th_pre hH hK hN hZ hS hA9)⟩ rfl rfl hl.1 rfl (lv_room (Nat.le_of_ble_eq_true rfl)) dX7_settle_110 ⟨Nat.le_of_ble_eq_true rfl, Nat.le_of_ble_eq_true rfl⟩) hS (fun q _ h => hA9 q h) hA9 (fun  u t H locs ht hvm hw10 hB hz1 hk1 hS => ?_)
        try dsimp only at hw10 hB
        rw [ht] at hB
        have hH := hB
        obtain ⟨gi10, gr10⟩ := u
        try dsimp only at hw10 hH
        obtain rfl : gr = gr10 := (hw10.2.1).symm
        have hM := hM.tr hw10.1 (fun _ h => h) (th_sub rfl)
        have e11 : w48_0 = gi10 h0 2 := Eq.trans e7 (Eq.symm (hw10.1 h0 2 (th_nzE t_h0 rfl) (th_nmE (key := 702) t_h0 rfl rfl)).1)
        have e12 : x3 = gi10 q2 5 := Eq.trans e8 (Eq.symm (hw10.1 q2 5 (th_nzE t2 rfl) (th_nmE (key := 105) t2 rfl rfl)).1)
        have e13 : (-1) = gi10 q5 (p1.toNatClampNeg) := Eq.trans hu6.symm (Eq.symm (hw10.1 q5 (p1.toNatClampNeg) (th_nzE t5 rfl) (th_nmE (key := 3300) t5 rfl rfl)).1)
        refine lv_aload_n hx hb dX7_settle_113 rfl (lv_at hl 0 rfl) ?_
        refine lv_iload_n hx hb dX7_settle_114 rfl (lv_at hl 1 rfl) ?_
        refine lv_iconst (v := 1) hx hb dX7_settle_115 ic_1 ?_
        refine lv_iadd hx hb dX7_settle_116 ?_
        refine lv_topi (fun x14 e14 => ?_)
        have f14 : rg 3 3 x14 := rg_e e14 (rg_w (rg_add fy48_1 rgc_1 (th_leI rfl) (th_leI rfl)) (th_leI rfl) (th_leI rfl))
        refine lv_iload_n hx hb dX7_settle_117 rfl (lv_at hl 2 rfl) ?_
        have hA15 := th_Asub (τ := τ) hS
        refine va_callv (va_runV (As := [.int x14, .int p2]) (rest := []) ⟨hx, hb, hml, hown, hts⟩ (k_X7_settle_3 l D cA Z τ gi10 gr _ h0 t_h0 x14 f14 p2) (cwV 2 hts gX7_settle_X7_settle rfl rfl rfl hd_X7_settle__2 ⟨Nat.le_of_ble_eq_true rfl, Nat.le_of_ble_eq_true rfl⟩) ⟨th_blind, tr_7 hK hH t_h0, (th_pre hH hK hN hZ hS hA15)⟩ rfl rfl hl.1 rfl (lv_room (Nat.le_of_ble_eq_true rfl)) dX7_settle_118 ⟨Nat.le_of_ble_eq_true rfl, Nat.le_of_ble_eq_true rfl⟩) hS (fun q _ h => hA15 q h) hA15 (fun  u t H locs ht hvm hw16 hB hz1 hk1 hS => ?_)
        try dsimp only at hw16 hB
        rw [ht] at hB
        have hH := hB
        obtain ⟨gi16, gr16⟩ := u
        try dsimp only at hw16 hH
        obtain rfl : gr = gr16 := (hw16.2.1).symm
        have hM := hM.tr hw16.1 (fun _ h => h) (th_sub rfl)
        have e17 : w48_0 = gi16 h0 2 := Eq.trans e11 (Eq.symm (hw16.1 h0 2 (th_nzE t_h0 rfl) (th_nmE (key := 702) t_h0 rfl rfl)).1)
        have e18 : x3 = gi16 q2 5 := Eq.trans e12 (Eq.symm (hw16.1 q2 5 (th_nzE t2 rfl) (th_nmE (key := 105) t2 rfl rfl)).1)
        exact W.vret hx hb hr (fun t ht hW => ⟨⟨(gi16, gr), rfl, ⟨hM, rfl, (hF.trans (by simp only [↓reduceIte, f_X7_settle_2_48, ← ew48_0, r2, Option.getD_some, ← e3, eq_true c4, r5, ← eg6, hw10.2.2, ← e14, hw16.2.2]))⟩, th_Ht ht hH⟩, hS.F ht⟩) hS.2.2 dX7_settle_121
      · skip
        have f19 : rg 1 12 x3 := rg_w (rg_nle f3 fy48_4 c4).1 (th_leI rfl) (th_leI rfl)
        have f20 : rg 0 11 y48_4 := rg_w (rg_nle f3 fy48_4 c4).2 (th_leI rfl) (th_leI rfl)
        refine lv_iload_n hx hb dX7_settle_60 rfl (lv_at hl 3 rfl) ?_
        refine lv_iload hx hb dX7_settle_61 (lv_at hl 4 rfl) ?_
        refine lv_ishr hx hb dX7_settle_63 ?_
        refine lv_topi (fun x21 e21 => ?_)
        refine lv_iconst (v := 1) hx hb dX7_settle_64 ic_1 ?_
        refine lv_iand hx hb dX7_settle_65 ?_
        refine lv_topi (fun x22 e22 => ?_)
        have f22 : rg 0 1 x22 := rg_e e22 (rg_and 1 (by decide) (th_leN rfl) (th_eqI rfl))
        refine lv_if_eq (tgt := 94) hx hb dX7_settle_66 (th_eqI rfl) (fun c23 => ?_) (fun c23 => ?_)
        · skip
          have f24 : rg 0 0 x22 := rg_w (rg_eq f22 rgc_0 c23).1 (th_leI rfl) (th_leI rfl)
          exact J94 gi_48 _ _ _ w48_0 hH hS hM (lv_sub hl [0, 1, 2, 3, 4] rfl) fy48_1 f20 ew48_0 fw48_0 (hF.trans (by simp only [↓reduceIte, f_X7_settle_2_48, ← ew48_0, r2, Option.getD_some, ← e3, eq_false c4, ← e21, ← e22, eq_true c23]))
        · skip
          have f25 : rg 1 1 x22 := rg_w (rg_neL f22 rgc_0 c23) (th_leI rfl) (th_leI rfl)
          refine lv_aload_n hx hb dX7_settle_69 rfl (lv_at hl 0 rfl) ?_
          obtain ⟨q26, r26, t26⟩ : ∃ q, gr h0 5 = some q ∧ τ q = 33 := (thI_7 hH t_h0).2.2.2.2.2.1
          refine th_get (ci := 6) (v := .ref q26) (T := TX7) (C := RX7) (N := 8) hx hb hts (fun w h => List.mem_cons_of_mem _ (List.mem_append_left _ (List.mem_append_left _ (List.mem_append_left _ (List.mem_append_left _ (List.mem_append_left _ (List.mem_append_right _ h))))))) hown hK hH t_h0 (th_nz rfl) (thE_7 _ _ _) rfl 5 (th_ltN rfl) (hts (.fieldLink RX7 28 "BayMoorings$Search" "trial" "[I") (List.mem_cons_of_mem _ (List.mem_append_left _ (List.mem_append_left _ (List.mem_append_left _ (List.mem_append_left _ (List.mem_append_left _ (List.mem_append_left _ (List.mem_append_left _ (List.mem_of_getElem? (i := 5) rfl)))))))))) (fun _ h9 => h9) (th_fR r26 rfl) dX7_settle_70 ?_
          refine lv_iload_n hx hb dX7_settle_73 rfl (lv_at hl 1 rfl) ?_
          refine lv_iload hx hb dX7_settle_74 (lv_at hl 4 rfl) ?_
          refine th_iast hx hb hK hH hS t26 (th_nz rfl) (Or.inl (th_nzE t26 rfl)) 0 (fun _ => thE_33 _ _ _) rfl (rg_in (n := 5) fy48_1 (th_leI rfl) (th_ltI rfl)) (trivial) dX7_settle_76 (fun gi27 H locs hu27 ho27 hH hS => ?_)
          have eg27 : gi27 = va_up gi_48 q26 (upd (gi_48 q26) p1.toNatClampNeg y48_4) := th_upE hu27 ho27
          have e28 : w48_0 = gi27 h0 2 := Eq.trans ew48_0 (Eq.symm (ho27 _ _ (Or.inl (th_ne t_h0 t26 (th_nz rfl)))))
          have e29 : x3 = gi27 q2 5 := Eq.trans e3 (Eq.symm (ho27 _ _ (Or.inl (th_ne t2 t26 (th_nz rfl)))))
          have hM := hM.i t26 (th_mem (a := 3300) rfl) ho27
          refine lv_aload_n hx hb dX7_settle_77 rfl (lv_at hl 0 rfl) ?_
          refine lv_iload_n hx hb dX7_settle_78 rfl (lv_at hl 1 rfl) ?_
          refine lv_iload hx hb dX7_settle_79 (lv_at hl 4 rfl) ?_
          have hA30 := th_Asub (τ := τ) hS
          refine va_callv (va_runV (As := [.int p1, .int y48_4]) (rest := []) ⟨hx, hb, hml, hown, hts⟩ (k_X7_narrow l D cA Z τ gi27 gr _ h0 t_h0 p1 (rg_w fy48_1 (th_leI rfl) (th_leI rfl)) y48_4 (rg_w f20 (th_leI rfl) (th_leI rfl))) (cwV 2 hts gX7_settle_X7_narrow rfl rfl rfl hd_X7_narrow__2 ⟨Nat.le_of_ble_eq_true rfl, Nat.le_of_ble_eq_true rfl⟩) ⟨th_blind, tr_7 hK hH t_h0, (th_pre hH hK hN hZ hS hA30)⟩ rfl rfl hl.1 rfl (lv_room (Nat.le_of_ble_eq_true rfl)) dX7_settle_81 ⟨Nat.le_of_ble_eq_true rfl, Nat.le_of_ble_eq_true rfl⟩) hS (fun q _ h => hA30 q h) hA30 (fun  u t H locs ht hvm hw31 hB hz1 hk1 hS => ?_)
          try dsimp only at hw31 hB
          rw [ht] at hB
          have hH := hB
          obtain ⟨gi31, gr31⟩ := u
          try dsimp only at hw31 hH
          obtain rfl : gr = gr31 := (hw31.2.1).symm
          have hM := hM.tr hw31.1 (fun _ h => h) (th_sub rfl)
          have e32 : w48_0 = gi31 h0 2 := Eq.trans e28 (Eq.symm (hw31.1 h0 2 (th_nzE t_h0 rfl) (th_nmE (key := 702) t_h0 rfl rfl)).1)
          have e33 : x3 = gi31 q2 5 := Eq.trans e29 (Eq.symm (hw31.1 q2 5 (th_nzE t2 rfl) (th_nmE (key := 105) t2 rfl rfl)).1)
          have e34 : y48_4 = gi31 q26 (p1.toNatClampNeg) := Eq.trans hu27.symm (Eq.symm (hw31.1 q26 (p1.toNatClampNeg) (th_nzE t26 rfl) (th_nmE (key := 3300) t26 rfl rfl)).1)
          refine lv_aload_n hx hb dX7_settle_84 rfl (lv_at hl 0 rfl) ?_
          refine lv_iload_n hx hb dX7_settle_85 rfl (lv_at hl 1 rfl) ?_
          refine lv_iconst (v := 1) hx hb dX7_settle_86 ic_1 ?_
          refine lv_iadd hx hb dX7_settle_87 ?_
          refine lv_topi (fun x35 e35 => ?_)
          have f35 : rg 3 3 x35 := rg_e e35 (rg_w (rg_add fy48_1 rgc_1 (th_leI rfl) (th_leI rfl)) (th_leI rfl) (th_leI rfl))
          refine lv_iload_n hx hb dX7_settle_88 rfl (lv_at hl 2 rfl) ?_
          refine lv_iconst (v := 1) hx hb dX7_settle_89 ic_1 ?_
          refine lv_iadd hx hb dX7_settle_90 ?_
          refine lv_topi (fun x36 e36 => ?_)
          have hA37 := th_Asub (τ := τ) hS
          refine va_callv (va_runV (As := [.int x35, .int x36]) (rest := []) ⟨hx, hb, hml, hown, hts⟩ (k_X7_settle_3 l D cA Z τ gi31 gr _ h0 t_h0 x35 f35 x36) (cwV 2 hts gX7_settle_X7_settle rfl rfl rfl hd_X7_settle__2 ⟨Nat.le_of_ble_eq_true rfl, Nat.le_of_ble_eq_true rfl⟩) ⟨th_blind, tr_7 hK hH t_h0, (th_pre hH hK hN hZ hS hA37)⟩ rfl rfl hl.1 rfl (lv_room (Nat.le_of_ble_eq_true rfl)) dX7_settle_91 ⟨Nat.le_of_ble_eq_true rfl, Nat.le_of_ble_eq_true rfl⟩) hS (fun q _ h => hA37 q h) hA37 (fun  u t H locs ht hvm hw38 hB hz1 hk1 hS => ?_)
          try dsimp only at hw38 hB
          rw [ht] at hB
          have hH := hB
          obtain ⟨gi38, gr38⟩ := u
          try dsimp only at hw38 hH
          obtain rfl : gr = gr38 := (hw38.2.1).symm
          have hM := hM.tr hw38.1 (fun _ h => h) (th_sub rfl)
          have e39 : w48_0 = gi38 h0 2 := Eq.trans e32 (Eq.symm (hw38.1 h0 2 (th_nzE t_h0 rfl) (th_nmE (key := 702) t_h0 rfl rfl)).1)
          have e40 : x3 = gi38 q2 5 := Eq.trans e33 (Eq.symm (hw38.1 q2 5 (th_nzE t2 rfl) (th_nmE (key := 105) t2 rfl rfl)).1)
          exact J94 gi38 _ _ _ w48_0 hH hS hM (lv_sub hl [0, 1, 2, 3, 4] rfl) fy48_1 f20 e39 fw48_0 (hF.trans (by simp only [↓reduceIte, f_X7_settle_2_48, ← ew48_0, r2, Option.getD_some, ← e3, eq_false c4, ← e21, ← e22, eq_false c23, r26, ← eg27, hw31.2.2, ← e35, ← e36, hw38.2.2]))
  have J13 : ∀ (gi_13 : th_i) (H : Heap) (locs : List Loc) (ls : Array Slot) (w13_0 : Int32), th_H D cA τ gi_13 gr H → va_S (th_A τ s.heap.size) s.heap H locs → th_Mod [707, 3100, 3200, 3300, 3400] τ gi gr gi_13 gr → lv_has ls 5 [(0, .ref h0), (2, .int p2)] → w13_0 = gi_13 h0 2 → rg 0 2 w13_0 → F_X7_settle_2 τ Z gi gr h0 p1 p2 = f_X7_settle_2_13 τ Z gi gr h0 p1 p2 gi_13 → W p l e (headSpec wsX7_settle ({ frames := 7, cells := 0, slots := 0, locals := 200 })).room s m [.ref h0, .int p1, .int p2].toArray below meth c H locs 0 0 (MQ below (va_Qv (fun (u : th_i × th_r) => th_Mod [707, 3100, 3200, 3300, 3400] τ gi gr u.1 u.2 ∧ u.2 = gr ∧ (F_X7_settle_2 τ Z gi gr h0 p1 p2 = u.1)) (fun (u : th_i × th_r) t => th_H D cA τ u.1 u.2 t.heap) (th_A τ s.heap.size)) [.ref h0, .int p1, .int p2].toArray s 0 0 (th_A τ s.heap.size)) (F0 m 13 ls []) := by
    intro gi_13 H locs ls w13_0 hH hS hM hl ew13_0 fw13_0 hF
    refine lv_aload_n hx hb dX7_settle_13 rfl (lv_at hl 0 rfl) ?_
    refine lv_iload_n hx hb dX7_settle_14 rfl (lv_at hl 1 rfl) ?_
    have hA41 := th_Asub (τ := τ) hS
    refine va_callv (va_runV (As := [.int p2]) (rest := []) ⟨hx, hb, hml, hown, hts⟩ (k_X7_keepIfBetter l D cA Z τ gi_13 gr _ h0 t_h0 p2) (cwV 1 hts gX7_settle_X7_keepIfBetter rfl rfl rfl hd_X7_keepIfBetter__1 ⟨Nat.le_of_ble_eq_true rfl, Nat.le_of_ble_eq_true rfl⟩) ⟨th_blind, tr_7 hK hH t_h0, (th_pre hH hK hN hZ hS hA41)⟩ rfl rfl hl.1 rfl (lv_room (Nat.le_of_ble_eq_true rfl)) dX7_settle_15 ⟨Nat.le_of_ble_eq_true rfl, Nat.le_of_ble_eq_true rfl⟩) hS (fun q _ h => hA41 q h) hA41 (fun  u t H locs ht hvm hw42 hB hz1 hk1 hS => ?_)
    try dsimp only at hw42 hB
    rw [ht] at hB
    have hH := hB
    obtain ⟨gi42, gr42⟩ := u
    try dsimp only at hw42 hH
    obtain rfl : gr = gr42 := (hw42.2.1).symm
    have hM := hM.tr hw42.1 (fun _ h => h) (th_sub rfl)
    have e43 : w13_0 = gi42 h0 2 := Eq.trans ew13_0 (Eq.symm (hw42.1 h0 2 (th_nzE t_h0 rfl) (th_nmE (key := 702) t_h0 rfl rfl)).1)
    exact W.vret hx hb hr (fun t ht hW => ⟨⟨(gi42, gr), rfl, ⟨hM, rfl, (hF.trans (by simp only [f_X7_settle_2_13, ← ew13_0, hw42.2.2]))⟩, th_Ht ht hH⟩, hS.F ht⟩) hS.2.2 dX7_settle_18
  have hS : va_S (th_A τ s.heap.size) s.heap s.heap [] := va_S.rf
  have hl := lv_entry ([.ref h0, .int p1, .int p2]) (n := 5) (Nat.le_of_ble_eq_true rfl)
  rw [lg_entry_eq]
  generalize (lg_sl ([.ref h0, .int p1, .int p2]) ++ List.replicate (5 - (lg_sl ([.ref h0, .int p1, .int p2])).length) Slot.unset).toArray = ls at hl ⊢
  have hl : lv_has ls 5 [(0, .ref h0), (1, .int p1), (2, .int p2)] := hl
  have hF : F_X7_settle_2 τ Z gi gr h0 p1 p2 = F_X7_settle_2 τ Z gi gr h0 p1 p2 := rfl
  refine lv_iload_n hx hb dX7_settle_0 rfl (lv_at hl 1 rfl) ?_
  refine lv_aload_n hx hb dX7_settle_1 rfl (lv_at hl 0 rfl) ?_
  obtain ⟨x44, e44⟩ : ∃ y : Int32, y = gi h0 2 := ⟨_, rfl⟩
  refine th_get (ci := 6) (v := .int x44) (T := TX7) (C := RX7) (N := 8) hx hb hts (fun w h => List.mem_cons_of_mem _ (List.mem_append_left _ (List.mem_append_left _ (List.mem_append_left _ (List.mem_append_left _ (List.mem_append_left _ (List.mem_append_right _ h))))))) hown hK hH t_h0 (th_nz rfl) (thE_7 _ _ _) rfl 2 (th_ltN rfl) (hts (.fieldLink RX7 17 "BayMoorings$Search" "size" "I") (List.mem_cons_of_mem _ (List.mem_append_left _ (List.mem_append_left _ (List.mem_append_left _ (List.mem_append_left _ (List.mem_append_left _ (List.mem_append_left _ (List.mem_append_left _ (List.mem_of_getElem? (i := 0) rfl)))))))))) (fun _ h9 => h9) (th_fI e44 rfl) dX7_settle_2 ?_
  have f44 : rg 0 5 x44 := rg_e e44 ((thI_7 hH t_h0).2.2.1)
  refine lv_icmp_ge (tgt := 13) hx hb dX7_settle_5 (th_eqI rfl) (fun c45 => ?_) (fun c45 => ?_)
  · skip
    have f46 : rg 0 2 x44 := rg_w (rg_le f44 f_p1 c45).1 (th_leI rfl) (th_leI rfl)
    exact J13 gi _ _ _ x44 hH hS hM (lv_sub hl [0, 2] rfl) e44 f46 (hF.trans (by simp only [↓reduceIte, F_X7_settle_2, ← e44, eq_true c45]))
  · skip
    have f47 : rg 3 5 x44 := rg_w (rg_nle f44 f_p1 c45).1 (th_leI rfl) (th_leI rfl)
    refine lv_iload_n hx hb dX7_settle_8 rfl (lv_at hl 1 rfl) ?_
    refine lv_iconst (v := 5) hx hb dX7_settle_9 ic_5 ?_
    refine lv_icmp_lt (tgt := 19) hx hb dX7_settle_10 (th_eqI rfl) (fun c48 => ?_) (fun c48 => ?_)
    · skip
      refine lv_iload_n hx hb dX7_settle_19 rfl (lv_at hl 2 rfl) ?_
      refine lv_aload_n hx hb dX7_settle_20 rfl (lv_at hl 0 rfl) ?_
      refine lv_iload_n hx hb dX7_settle_21 rfl (lv_at hl 1 rfl) ?_
      have hA49 := th_Asub (τ := τ) hS
      refine va_calli (va_runV (As := [.int p1]) (rest := [.int p2]) ⟨hx, hb, hml, hown, hts⟩ (k_X7_hopefulFrom l D cA Z τ gi gr _ h0 t_h0 p1 (rg_w f_p1 (th_leI rfl) (th_leI rfl))) (cwV 1 hts gX7_settle_X7_hopefulFrom rfl rfl rfl hd_X7_hopefulFrom__1 ⟨Nat.le_of_ble_eq_true rfl, Nat.le_of_ble_eq_true rfl⟩) ⟨th_blind, tr_7 hK hH t_h0, (th_pre hH hK hN hZ hS hA49)⟩ rfl rfl hl.1 rfl (lv_room (Nat.le_of_ble_eq_true rfl)) dX7_settle_22 ⟨Nat.le_of_ble_eq_true rfl, Nat.le_of_ble_eq_true rfl⟩) hS (fun q _ h => hA49 q h) hA49 (fun x50 u t H locs ht hvm hw50 hB hz1 hk1 hS => ?_)
      try dsimp only at hw50 hB
      rw [ht] at hB
      have hH := hB
      refine lv_iadd hx hb dX7_settle_25 ?_
      refine lv_topi (fun x51 e51 => ?_)
      refine lv_aload_n hx hb dX7_settle_26 rfl (lv_at hl 0 rfl) ?_
      obtain ⟨x52, e52⟩ : ∃ y : Int32, y = gi h0 7 := ⟨_, rfl⟩
      refine th_get (ci := 6) (v := .int x52) (T := TX7) (C := RX7) (N := 8) hx hb hts (fun w h => List.mem_cons_of_mem _ (List.mem_append_left _ (List.mem_append_left _ (List.mem_append_left _ (List.mem_append_left _ (List.mem_append_left _ (List.mem_append_right _ h))))))) hown hK hH t_h0 (th_nz rfl) (thE_7 _ _ _) rfl 7 (th_ltN rfl) (hts (.fieldLink RX7 34 "BayMoorings$Search" "bestCount" "I") (List.mem_cons_of_mem _ (List.mem_append_left _ (List.mem_append_left _ (List.mem_append_left _ (List.mem_append_left _ (List.mem_append_left _ (List.mem_append_left _ (List.mem_append_left _ (List.mem_of_getElem? (i := 1) rfl)))))))))) (fun _ h9 => h9) (th_fI e52 rfl) dX7_settle_27 ?_
      refine lv_icmp_gt (tgt := 34) hx hb dX7_settle_30 (th_eqI rfl) (fun c53 => ?_) (fun c53 => ?_)
      · skip
        refine lv_aload_n hx hb dX7_settle_34 rfl (lv_at hl 0 rfl) ?_
        obtain ⟨q54, r54, t54⟩ : ∃ q, gr h0 3 = some q ∧ τ q = 31 := (thI_7 hH t_h0).2.2.2.1
        refine th_get (ci := 6) (v := .ref q54) (T := TX7) (C := RX7) (N := 8) hx hb hts (fun w h => List.mem_cons_of_mem _ (List.mem_append_left _ (List.mem_append_left _ (List.mem_append_left _ (List.mem_append_left _ (List.mem_append_left _ (List.mem_append_right _ h))))))) hown hK hH t_h0 (th_nz rfl) (thE_7 _ _ _) rfl 3 (th_ltN rfl) (hts (.fieldLink RX7 21 "BayMoorings$Search" "open" "[I") (List.mem_cons_of_mem _ (List.mem_append_left _ (List.mem_append_left _ (List.mem_append_left _ (List.mem_append_left _ (List.mem_append_left _ (List.mem_append_left _ (List.mem_append_left _ (List.mem_of_getElem? (i := 2) rfl)))))))))) (fun _ h9 => h9) (th_fR r54 rfl) dX7_settle_35 ?_
        refine lv_iload_n hx hb dX7_settle_38 rfl (lv_at hl 1 rfl) ?_
        refine lv_iconst (v := 5) hx hb dX7_settle_39 ic_5 ?_
        refine lv_imul hx hb dX7_settle_40 ?_
        refine lv_topi (fun x55 e55 => ?_)
        have f55 : rg 10 10 x55 := rg_e e55 (rg_w (rg_mul f_p1 rgc_5 (th_leI rfl) (th_leI rfl) (th_leI rfl)) (th_leI rfl) (th_leI rfl))
        refine lv_iload_n hx hb dX7_settle_41 rfl (lv_at hl 1 rfl) ?_
        refine lv_iadd hx hb dX7_settle_42 ?_
        refine lv_topi (fun x56 e56 => ?_)
        have f56 : rg 12 12 x56 := rg_e e56 (rg_w (rg_add f55 f_p1 (th_leI rfl) (th_leI rfl)) (th_leI rfl) (th_leI rfl))
        refine th_iald hx hb hK hH t54 (th_nz rfl) 0 (thE_31 _ _ _) rfl (rg_in (n := 30) f56 (th_leI rfl) (th_ltI rfl)) dX7_settle_43 ?_
        refine lv_topi (fun x57 e57 => ?_)
        refine lv_istore_n (i := 3) (lv' := [(3, .int x57), (0, .ref h0), (1, .int p1), (2, .int p2)]) hx hb dX7_settle_44 rfl hl (th_ltN rfl) rfl (fun ls hl => ?_)
        refine lv_iconst (v := 0) hx hb dX7_settle_45 ic_0 ?_
        refine lv_istore (i := 4) (lv' := [(4, .int 0), (3, .int x57), (0, .ref h0), (1, .int p1), (2, .int p2)]) hx hb dX7_settle_46 hl (th_ltN rfl) rfl (fun ls hl => ?_)
        exact J48 _ gi _ _ _ x57 0 x44 (Nat.lt_add_one _) hH hS hM (lv_sub hl [2, 3, 4, 1, 0] rfl) f_p1 (rg_w rgc_0 (th_leI rfl) (th_leI rfl)) e44 f47 (hF.trans (by simp only [↓reduceIte, F_X7_settle_2, ← e44, eq_false c45, eq_true c48, hw50, ← e51, ← e52, eq_true c53, r54, Option.getD_some, ← e55, ← e56, ← e57]))
      · skip
        exact W.vret hx hb hr (fun t ht hW => ⟨⟨(gi, gr), rfl, ⟨hM, rfl, (hF.trans (by simp only [↓reduceIte, F_X7_settle_2, ← e44, eq_false c45, eq_true c48, hw50, ← e51, ← e52, eq_false c53]))⟩, th_Ht ht hH⟩, hS.F ht⟩) hS.2.2 dX7_settle_33
    · skip
      exact absurd (rg_nlt f_p1 rgc_5 c48).1 (rg_no (th_ltI rfl))

noncomputable def f_X7_settle_1_13 (τ : th_t) (Z : th_Zt) (gi : th_i) (gr : th_r) (h0 : Nat) (p1 : Int32) (p2 : Int32) (gi_13 : th_i) : th_i :=
  let w13_0 : Int32 := gi_13 h0 2
  let gi42 : th_i := F_X7_keepIfBetter τ Z gi_13 gr h0 p2
  (gi42)
noncomputable def f_X7_settle_1_94 (τ : th_t) (Z : th_Zt) (gi : th_i) (gr : th_r) (h0 : Nat) (p1 : Int32) (p2 : Int32) (gi_48 : th_i) (y48_3 : Int32) (y48_4 : Int32) (k_48 : th_i → Int32 → Int32 → th_i) (gi_94 : th_i) : th_i :=
  let w94_0 : Int32 := gi_94 h0 2
  let x1 : Int32 := y48_4 + 1
  k_48 gi_94 y48_3 x1
noncomputable def f_X7_settle_1_48 (τ : th_t) (Z : th_Zt) (gi : th_i) (gr : th_r) (h0 : Nat) (p1 : Int32) (p2 : Int32) : Nat → th_i → Int32 → Int32 → th_i
  | 0, gi_48, y48_3, y48_4 => (gi_48)
  | n48 + 1, gi_48, y48_3, y48_4 =>
    let w48_0 : Int32 := gi_48 h0 2
    let q2 : Nat := (gr h0 0).getD 0
    let x3 : Int32 := gi_48 q2 5
    if x3 ≤ y48_4 then (
      let q5 : Nat := (gr h0 5).getD 0
      let gi6 : th_i := va_up gi_48 q5 (upd (gi_48 q5) p1.toNatClampNeg (-1))
      let gi10 : th_i := F_X7_narrow τ Z gi6 gr h0 p1 (-1)
      let x14 : Int32 := p1 + 1
      let gi16 : th_i := F_X7_settle_2 τ Z gi10 gr h0 x14 p2
      (gi16)) else (
      let x21 : Int32 := y48_3 >>> (y48_4 &&& 31)
      let x22 : Int32 := x21 &&& 1
      if x22 = (0 : Int32) then (
        f_X7_settle_1_94 τ Z gi gr h0 p1 p2 gi_48 y48_3 y48_4 (f_X7_settle_1_48 τ Z gi gr h0 p1 p2 n48) gi_48) else (
        let q26 : Nat := (gr h0 5).getD 0
        let gi27 : th_i := va_up gi_48 q26 (upd (gi_48 q26) p1.toNatClampNeg y48_4)
        let gi31 : th_i := F_X7_narrow τ Z gi27 gr h0 p1 y48_4
        let x35 : Int32 := p1 + 1
        let x36 : Int32 := p2 + 1
        let gi38 : th_i := F_X7_settle_2 τ Z gi31 gr h0 x35 x36
        f_X7_settle_1_94 τ Z gi gr h0 p1 p2 gi_48 y48_3 y48_4 (f_X7_settle_1_48 τ Z gi gr h0 p1 p2 n48) gi38))
noncomputable def F_X7_settle_1 (τ : th_t) (Z : th_Zt) (gi : th_i) (gr : th_r) (h0 : Nat) (p1 : Int32) (p2 : Int32) : th_i :=
  let x44 : Int32 := gi h0 2
  if x44 ≤ p1 then (
    f_X7_settle_1_13 τ Z gi gr h0 p1 p2 gi) else (
    if p1 < (5 : Int32) then (
      let x50 : Int32 := F_X7_hopefulFrom τ Z gi gr h0 p1
      let x51 : Int32 := p2 + x50
      let x52 : Int32 := gi h0 7
      if x52 < x51 then (
        let q54 : Nat := (gr h0 3).getD 0
        let x55 : Int32 := p1 * 5
        let x56 : Int32 := x55 + p1
        let x57 : Int32 := gi q54 x56.toNatClampNeg
        f_X7_settle_1_48 τ Z gi gr h0 p1 p2 ((12 - (0 : Int32).toInt).toNat + 1) gi x57 0) else (
        (gi))) else (
      (gi)))
set_option maxHeartbeats 8000000 in
set_option maxRecDepth 100000 in
theorem k_X7_settle_1 (l : Launch) (D : va_G) (cA : Nat → ClassId) (Z : th_Zt) (τ : th_t) (gi : th_i) (gr : th_r) (sz : Nat) (h0 : Nat) (t_h0 : τ h0 = 7) (p1 : Int32) (f_p1 : rg 1 1 p1) (p2 : Int32) : Met l yX7_settle wsX7_settle ({ frames := 8, cells := 0, slots := 0, locals := 224 }) (va_Pc [.ref h0, .int p1, .int p2] (th_Pre D cA Z τ gi gr sz)) (va_Qv (fun (u : th_i × th_r) => th_Mod [707, 3100, 3200, 3300, 3400] τ gi gr u.1 u.2 ∧ u.2 = gr ∧ (F_X7_settle_1 τ Z gi gr h0 p1 p2 = u.1)) (fun (u : th_i × th_r) t => th_H D cA τ u.1 u.2 t.heap) (th_A τ sz)) 0 0 (th_A τ sz) := by
  refine Met.ofW (cc := cX7_settle) (maxL := 5) (ret := none) (by decide) rfl ?_
  intro p e s m args below meth c s₁ B hml hv
  obtain ⟨rfl, hsz, hH, hK, hN, hZ⟩ := hv
  have hx := B.exec
  have hb := B.bytes
  have hr := B.returns
  have hts := atoms_spec (ws := wsX7_settle) B.pre
  have hown : s.vm.findClass RX7 = some m.cls := findClass_of_methodNamed B.named
  have hlocks := B.notSynchronized
  subst hsz
  have hM : th_Mod [707, 3100, 3200, 3300, 3400] τ gi gr gi gr := th_Mod.rf
  have J48 : ∀ (n48 : Nat) (gi_48 : th_i) (H : Heap) (locs : List Loc) (ls : Array Slot) (y48_3 : Int32) (y48_4 : Int32) (w48_0 : Int32), (12 - y48_4.toInt).toNat < n48 → th_H D cA τ gi_48 gr H → va_S (th_A τ s.heap.size) s.heap H locs → th_Mod [707, 3100, 3200, 3300, 3400] τ gi gr gi_48 gr → lv_has ls 5 [(0, .ref h0), (1, .int p1), (2, .int p2), (3, .int y48_3), (4, .int y48_4)] → rg 1 1 p1 → rg 0 12 y48_4 → w48_0 = gi_48 h0 2 → rg 2 5 w48_0 → F_X7_settle_1 τ Z gi gr h0 p1 p2 = f_X7_settle_1_48 τ Z gi gr h0 p1 p2 n48 gi_48 y48_3 y48_4 → W p l e (headSpec wsX7_settle ({ frames := 8, cells := 0, slots := 0, locals := 224 })).room s m [.ref h0, .int p1, .int p2].toArray below meth c H locs 0 0 (MQ below (va_Qv (fun (u : th_i × th_r) => th_Mod [707, 3100, 3200, 3300, 3400] τ gi gr u.1 u.2 ∧ u.2 = gr ∧ (F_X7_settle_1 τ Z gi gr h0 p1 p2 = u.1)) (fun (u : th_i × th_r) t => th_H D cA τ u.1 u.2 t.heap) (th_A τ s.heap.size)) [.ref h0, .int p1, .int p2].toArray s 0 0 (th_A τ s.heap.size)) (F0 m 48 ls []) := by
    intro n48
    induction n48 with
    | zero =>
      intro gi_48 H locs ls y48_3 y48_4 w48_0 hn
      exact absurd hn (Nat.not_lt_zero _)
    | succ n48 ih48 =>
      intro gi_48 H locs ls y48_3 y48_4 w48_0 hn48 hH hS hM hl fy48_1 fy48_4 ew48_0 fw48_0 hF
      have J94 : ∀ (gi_94 : th_i) (H : Heap) (locs : List Loc) (ls : Array Slot) (w94_0 : Int32), th_H D cA τ gi_94 gr H → va_S (th_A τ s.heap.size) s.heap H locs → th_Mod [707, 3100, 3200, 3300, 3400] τ gi gr gi_94 gr → lv_has ls 5 [(0, .ref h0), (1, .int p1), (2, .int p2), (3, .int y48_3), (4, .int y48_4)] → rg 1 1 p1 → rg 0 11 y48_4 → w94_0 = gi_94 h0 2 → rg 2 5 w94_0 → F_X7_settle_1 τ Z gi gr h0 p1 p2 = f_X7_settle_1_94 τ Z gi gr h0 p1 p2 gi_48 y48_3 y48_4 (f_X7_settle_1_48 τ Z gi gr h0 p1 p2 n48) gi_94 → W p l e (headSpec wsX7_settle ({ frames := 8, cells := 0, slots := 0, locals := 224 })).room s m [.ref h0, .int p1, .int p2].toArray below meth c H locs 0 0 (MQ below (va_Qv (fun (u : th_i × th_r) => th_Mod [707, 3100, 3200, 3300, 3400] τ gi gr u.1 u.2 ∧ u.2 = gr ∧ (F_X7_settle_1 τ Z gi gr h0 p1 p2 = u.1)) (fun (u : th_i × th_r) t => th_H D cA τ u.1 u.2 t.heap) (th_A τ s.heap.size)) [.ref h0, .int p1, .int p2].toArray s 0 0 (th_A τ s.heap.size)) (F0 m 94 ls []) := by
        intro gi_94 H locs ls w94_0 hH hS hM hl fy94_1 fy94_4 ew94_0 fw94_0 hF
        obtain ⟨x1, e1⟩ : ∃ y : Int32, y = y48_4 + 1 := ⟨_, rfl⟩
        have f1 : rg 1 12 x1 := rg_e e1 (rg_w (rg_add fy94_4 rgc_1 (th_leI rfl) (th_leI rfl)) (th_leI rfl) (th_leI rfl))
        refine lv_iinc (v := x1) (lv' := [(4, .int x1), (0, .ref h0), (1, .int p1), (2, .int p2), (3, .int y48_3)]) hx hb dX7_settle_94 hl (k := 4) rfl (by rw [e1]; rfl) (th_ltN rfl) rfl (fun ls hl => ?_)
        refine lv_goto (tgt := 48) hx hb dX7_settle_97 (th_eqI rfl) ?_
        exact ih48 gi_94 _ _ _ y48_3 x1 w94_0 (th_up (rg_dA e1 fy94_4 rgc_1 (th_leI rfl) (th_leI rfl)) fy94_4 hn48 (th_ltI rfl)) hH hS hM (lv_sub hl [1, 2, 3, 4, 0] rfl) fy94_1 (rg_w f1 (th_leI rfl) (th_leI rfl)) ew94_0 fw94_0 (hF.trans (by simp only [f_X7_settle_1_94, ← ew94_0, ← e1]))
      refine lv_iload hx hb dX7_settle_48 (lv_at hl 4 rfl) ?_
      refine lv_aload_n hx hb dX7_settle_50 rfl (lv_at hl 0 rfl) ?_
      obtain ⟨q2, r2, t2⟩ : ∃ q, gr h0 0 = some q ∧ τ q = 1 := (thI_7 hH t_h0).1
      refine th_get (ci := 6) (v := .ref q2) (T := TX7) (C := RX7) (N := 8) hx hb hts (fun w h => List.mem_cons_of_mem _ (List.mem_append_left _ (List.mem_append_left _ (List.mem_append_left _ (List.mem_append_left _ (List.mem_append_left _ (List.mem_append_right _ h))))))) hown hK hH t_h0 (th_nz rfl) (thE_7 _ _ _) rfl 0 (th_ltN rfl) (hts (.fieldLink RX7 37 "BayMoorings$Search" "bay" "LBayMoorings$Bay;") (List.mem_cons_of_mem _ (List.mem_append_left _ (List.mem_append_left _ (List.mem_append_left _ (List.mem_append_left _ (List.mem_append_left _ (List.mem_append_left _ (List.mem_append_left _ (List.mem_of_getElem? (i := 3) rfl)))))))))) (fun _ h9 => h9) (th_fR r2 rfl) dX7_settle_51 ?_
      obtain ⟨x3, e3⟩ : ∃ y : Int32, y = gi_48 q2 5 := ⟨_, rfl⟩
      refine th_get (ci := 0) (v := .int x3) (T := TX0) (C := RX0) (N := 9) hx hb hts (fun w h => List.mem_cons_of_mem _ (List.mem_append_left _ (List.mem_append_left _ (List.mem_append_left _ (List.mem_append_left _ (List.mem_append_right _ h)))))) hown hK hH t2 (th_nz rfl) (thE_1 _ _ _) rfl 5 (th_ltN rfl) (hts (.fieldLink RX7 68 "BayMoorings$Bay" "buoyCount" "I") (List.mem_cons_of_mem _ (List.mem_append_left _ (List.mem_append_left _ (List.mem_append_left _ (List.mem_append_left _ (List.mem_append_left _ (List.mem_append_left _ (List.mem_append_left _ (List.mem_of_getElem? (i := 4) rfl)))))))))) (fun _ h9 => h9) (th_fI e3 rfl) dX7_settle_54 ?_
      have f3 : rg 0 12 x3 := rg_e e3 ((thI_1 hH t2).2.2.2.2.2.1)
      refine lv_icmp_ge (tgt := 100) hx hb dX7_settle_57 (th_eqI rfl) (fun c4 => ?_) (fun c4 => ?_)
      · skip
        refine lv_aload_n hx hb dX7_settle_100 rfl (lv_at hl 0 rfl) ?_
        obtain ⟨q5, r5, t5⟩ : ∃ q, gr h0 5 = some q ∧ τ q = 33 := (thI_7 hH t_h0).2.2.2.2.2.1
        refine th_get (ci := 6) (v := .ref q5) (T := TX7) (C := RX7) (N := 8) hx hb hts (fun w h => List.mem_cons_of_mem _ (List.mem_append_left _ (List.mem_append_left _ (List.mem_append_left _ (List.mem_append_left _ (List.mem_append_left _ (List.mem_append_right _ h))))))) hown hK hH t_h0 (th_nz rfl) (thE_7 _ _ _) rfl 5 (th_ltN rfl) (hts (.fieldLink RX7 28 "BayMoorings$Search" "trial" "[I") (List.mem_cons_of_mem _ (List.mem_append_left _ (List.mem_append_left _ (List.mem_append_left _ (List.mem_append_left _ (List.mem_append_left _ (List.mem_append_left _ (List.mem_append_left _ (List.mem_of_getElem? (i := 5) rfl)))))))))) (fun _ h9 => h9) (th_fR r5 rfl) dX7_settle_101 ?_
        refine lv_iload_n hx hb dX7_settle_104 rfl (lv_at hl 1 rfl) ?_
        refine lv_iconst (v := (-1)) hx hb dX7_settle_105 ic_m1 ?_
        refine th_iast hx hb hK hH hS t5 (th_nz rfl) (Or.inl (th_nzE t5 rfl)) 0 (fun _ => thE_33 _ _ _) rfl (rg_in (n := 5) fy48_1 (th_leI rfl) (th_ltI rfl)) (trivial) dX7_settle_106 (fun gi6 H locs hu6 ho6 hH hS => ?_)
        have eg6 : gi6 = va_up gi_48 q5 (upd (gi_48 q5) p1.toNatClampNeg (-1)) := th_upE hu6 ho6
        have e7 : w48_0 = gi6 h0 2 := Eq.trans ew48_0 (Eq.symm (ho6 _ _ (Or.inl (th_ne t_h0 t5 (th_nz rfl)))))
        have e8 : x3 = gi6 q2 5 := Eq.trans e3 (Eq.symm (ho6 _ _ (Or.inl (th_ne t2 t5 (th_nz rfl)))))
        have hM := hM.i t5 (th_mem (a := 3300) rfl) ho6
        refine lv_aload_n hx hb dX7_settle_107 rfl (lv_at hl 0 rfl) ?_
        refine lv_iload_n hx hb dX7_settle_108 rfl (lv_at hl 1 rfl) ?_
        refine lv_iconst (v := (-1)) hx hb dX7_settle_109 ic_m1 ?_
        have hA9 := th_Asub (τ := τ) hS
        refine va_callv (va_runV (As := [.int p1, .int (-1)]) (rest := []) ⟨hx, hb, hml, hown, hts⟩ (k_X7_narrow l D cA Z τ gi6 gr _ h0 t_h0 p1 (rg_w fy48_1 (th_leI rfl) (th_leI rfl)) (-1) (rg_w rgc_m1 (th_leI rfl) (th_leI rfl))) (cwV 2 hts gX7_settle_X7_narrow rfl rfl rfl hd_X7_narrow__2 ⟨Nat.le_of_ble_eq_true rfl, Nat.le_of_ble_eq_true rfl⟩) ⟨th_blind, tr_7 hK hH t_h0, (th_pre hH hK hN hZ hS hA9)⟩ rfl rfl hl.1 rfl (lv_room (Nat.le_of_ble_eq_true rfl)) dX7_settle_110 ⟨Nat.le_of_ble_eq_true rfl, Nat.le_of_ble_eq_true rfl⟩) hS (fun q _ h => hA9 q h) hA9 (fun  u t H locs ht hvm hw10 hB hz1 hk1 hS => ?_)
        try dsimp only at hw10 hB
        rw [ht] at hB
        have hH := hB
        obtain ⟨gi10, gr10⟩ := u
        try dsimp only at hw10 hH
        obtain rfl : gr = gr10 := (hw10.2.1).symm
        have hM := hM.tr hw10.1 (fun _ h => h) (th_sub rfl)
        have e11 : w48_0 = gi10 h0 2 := Eq.trans e7 (Eq.symm (hw10.1 h0 2 (th_nzE t_h0 rfl) (th_nmE (key := 702) t_h0 rfl rfl)).1)
        have e12 : x3 = gi10 q2 5 := Eq.trans e8 (Eq.symm (hw10.1 q2 5 (th_nzE t2 rfl) (th_nmE (key := 105) t2 rfl rfl)).1)
        have e13 : (-1) = gi10 q5 (p1.toNatClampNeg) := Eq.trans hu6.symm (Eq.symm (hw10.1 q5 (p1.toNatClampNeg) (th_nzE t5 rfl) (th_nmE (key := 3300) t5 rfl rfl)).1)
        refine lv_aload_n hx hb dX7_settle_113 rfl (lv_at hl 0 rfl) ?_
        refine lv_iload_n hx hb dX7_settle_114 rfl (lv_at hl 1 rfl) ?_
        refine lv_iconst (v := 1) hx hb dX7_settle_115 ic_1 ?_
        refine lv_iadd hx hb dX7_settle_116 ?_
        refine lv_topi (fun x14 e14 => ?_)
        have f14 : rg 2 2 x14 := rg_e e14 (rg_w (rg_add fy48_1 rgc_1 (th_leI rfl) (th_leI rfl)) (th_leI rfl) (th_leI rfl))
        refine lv_iload_n hx hb dX7_settle_117 rfl (lv_at hl 2 rfl) ?_
        have hA15 := th_Asub (τ := τ) hS
        refine va_callv (va_runV (As := [.int x14, .int p2]) (rest := []) ⟨hx, hb, hml, hown, hts⟩ (k_X7_settle_2 l D cA Z τ gi10 gr _ h0 t_h0 x14 f14 p2) (cwV 2 hts gX7_settle_X7_settle rfl rfl rfl hd_X7_settle__2 ⟨Nat.le_of_ble_eq_true rfl, Nat.le_of_ble_eq_true rfl⟩) ⟨th_blind, tr_7 hK hH t_h0, (th_pre hH hK hN hZ hS hA15)⟩ rfl rfl hl.1 rfl (lv_room (Nat.le_of_ble_eq_true rfl)) dX7_settle_118 ⟨Nat.le_of_ble_eq_true rfl, Nat.le_of_ble_eq_true rfl⟩) hS (fun q _ h => hA15 q h) hA15 (fun  u t H locs ht hvm hw16 hB hz1 hk1 hS => ?_)
        try dsimp only at hw16 hB
        rw [ht] at hB
        have hH := hB
        obtain ⟨gi16, gr16⟩ := u
        try dsimp only at hw16 hH
        obtain rfl : gr = gr16 := (hw16.2.1).symm
        have hM := hM.tr hw16.1 (fun _ h => h) (th_sub rfl)
        have e17 : w48_0 = gi16 h0 2 := Eq.trans e11 (Eq.symm (hw16.1 h0 2 (th_nzE t_h0 rfl) (th_nmE (key := 702) t_h0 rfl rfl)).1)
        have e18 : x3 = gi16 q2 5 := Eq.trans e12 (Eq.symm (hw16.1 q2 5 (th_nzE t2 rfl) (th_nmE (key := 105) t2 rfl rfl)).1)
        exact W.vret hx hb hr (fun t ht hW => ⟨⟨(gi16, gr), rfl, ⟨hM, rfl, (hF.trans (by simp only [↓reduceIte, f_X7_settle_1_48, ← ew48_0, r2, Option.getD_some, ← e3, eq_true c4, r5, ← eg6, hw10.2.2, ← e14, hw16.2.2]))⟩, th_Ht ht hH⟩, hS.F ht⟩) hS.2.2 dX7_settle_121
      · skip
        have f19 : rg 1 12 x3 := rg_w (rg_nle f3 fy48_4 c4).1 (th_leI rfl) (th_leI rfl)
        have f20 : rg 0 11 y48_4 := rg_w (rg_nle f3 fy48_4 c4).2 (th_leI rfl) (th_leI rfl)
        refine lv_iload_n hx hb dX7_settle_60 rfl (lv_at hl 3 rfl) ?_
        refine lv_iload hx hb dX7_settle_61 (lv_at hl 4 rfl) ?_
        refine lv_ishr hx hb dX7_settle_63 ?_
        refine lv_topi (fun x21 e21 => ?_)
        refine lv_iconst (v := 1) hx hb dX7_settle_64 ic_1 ?_
        refine lv_iand hx hb dX7_settle_65 ?_
        refine lv_topi (fun x22 e22 => ?_)
        have f22 : rg 0 1 x22 := rg_e e22 (rg_and 1 (by decide) (th_leN rfl) (th_eqI rfl))
        refine lv_if_eq (tgt := 94) hx hb dX7_settle_66 (th_eqI rfl) (fun c23 => ?_) (fun c23 => ?_)
        · skip
          have f24 : rg 0 0 x22 := rg_w (rg_eq f22 rgc_0 c23).1 (th_leI rfl) (th_leI rfl)
          exact J94 gi_48 _ _ _ w48_0 hH hS hM (lv_sub hl [0, 1, 2, 3, 4] rfl) fy48_1 f20 ew48_0 fw48_0 (hF.trans (by simp only [↓reduceIte, f_X7_settle_1_48, ← ew48_0, r2, Option.getD_some, ← e3, eq_false c4, ← e21, ← e22, eq_true c23]))
        · skip
          have f25 : rg 1 1 x22 := rg_w (rg_neL f22 rgc_0 c23) (th_leI rfl) (th_leI rfl)
          refine lv_aload_n hx hb dX7_settle_69 rfl (lv_at hl 0 rfl) ?_
          obtain ⟨q26, r26, t26⟩ : ∃ q, gr h0 5 = some q ∧ τ q = 33 := (thI_7 hH t_h0).2.2.2.2.2.1
          refine th_get (ci := 6) (v := .ref q26) (T := TX7) (C := RX7) (N := 8) hx hb hts (fun w h => List.mem_cons_of_mem _ (List.mem_append_left _ (List.mem_append_left _ (List.mem_append_left _ (List.mem_append_left _ (List.mem_append_left _ (List.mem_append_right _ h))))))) hown hK hH t_h0 (th_nz rfl) (thE_7 _ _ _) rfl 5 (th_ltN rfl) (hts (.fieldLink RX7 28 "BayMoorings$Search" "trial" "[I") (List.mem_cons_of_mem _ (List.mem_append_left _ (List.mem_append_left _ (List.mem_append_left _ (List.mem_append_left _ (List.mem_append_left _ (List.mem_append_left _ (List.mem_append_left _ (List.mem_of_getElem? (i := 5) rfl)))))))))) (fun _ h9 => h9) (th_fR r26 rfl) dX7_settle_70 ?_
          refine lv_iload_n hx hb dX7_settle_73 rfl (lv_at hl 1 rfl) ?_
          refine lv_iload hx hb dX7_settle_74 (lv_at hl 4 rfl) ?_
          refine th_iast hx hb hK hH hS t26 (th_nz rfl) (Or.inl (th_nzE t26 rfl)) 0 (fun _ => thE_33 _ _ _) rfl (rg_in (n := 5) fy48_1 (th_leI rfl) (th_ltI rfl)) (trivial) dX7_settle_76 (fun gi27 H locs hu27 ho27 hH hS => ?_)
          have eg27 : gi27 = va_up gi_48 q26 (upd (gi_48 q26) p1.toNatClampNeg y48_4) := th_upE hu27 ho27
          have e28 : w48_0 = gi27 h0 2 := Eq.trans ew48_0 (Eq.symm (ho27 _ _ (Or.inl (th_ne t_h0 t26 (th_nz rfl)))))
          have e29 : x3 = gi27 q2 5 := Eq.trans e3 (Eq.symm (ho27 _ _ (Or.inl (th_ne t2 t26 (th_nz rfl)))))
          have hM := hM.i t26 (th_mem (a := 3300) rfl) ho27
          refine lv_aload_n hx hb dX7_settle_77 rfl (lv_at hl 0 rfl) ?_
          refine lv_iload_n hx hb dX7_settle_78 rfl (lv_at hl 1 rfl) ?_
          refine lv_iload hx hb dX7_settle_79 (lv_at hl 4 rfl) ?_
          have hA30 := th_Asub (τ := τ) hS
          refine va_callv (va_runV (As := [.int p1, .int y48_4]) (rest := []) ⟨hx, hb, hml, hown, hts⟩ (k_X7_narrow l D cA Z τ gi27 gr _ h0 t_h0 p1 (rg_w fy48_1 (th_leI rfl) (th_leI rfl)) y48_4 (rg_w f20 (th_leI rfl) (th_leI rfl))) (cwV 2 hts gX7_settle_X7_narrow rfl rfl rfl hd_X7_narrow__2 ⟨Nat.le_of_ble_eq_true rfl, Nat.le_of_ble_eq_true rfl⟩) ⟨th_blind, tr_7 hK hH t_h0, (th_pre hH hK hN hZ hS hA30)⟩ rfl rfl hl.1 rfl (lv_room (Nat.le_of_ble_eq_true rfl)) dX7_settle_81 ⟨Nat.le_of_ble_eq_true rfl, Nat.le_of_ble_eq_true rfl⟩) hS (fun q _ h => hA30 q h) hA30 (fun  u t H locs ht hvm hw31 hB hz1 hk1 hS => ?_)
          try dsimp only at hw31 hB
          rw [ht] at hB
          have hH := hB
          obtain ⟨gi31, gr31⟩ := u
          try dsimp only at hw31 hH
          obtain rfl : gr = gr31 := (hw31.2.1).symm
          have hM := hM.tr hw31.1 (fun _ h => h) (th_sub rfl)
          have e32 : w48_0 = gi31 h0 2 := Eq.trans e28 (Eq.symm (hw31.1 h0 2 (th_nzE t_h0 rfl) (th_nmE (key := 702) t_h0 rfl rfl)).1)
          have e33 : x3 = gi31 q2 5 := Eq.trans e29 (Eq.symm (hw31.1 q2 5 (th_nzE t2 rfl) (th_nmE (key := 105) t2 rfl rfl)).1)
          have e34 : y48_4 = gi31 q26 (p1.toNatClampNeg) := Eq.trans hu27.symm (Eq.symm (hw31.1 q26 (p1.toNatClampNeg) (th_nzE t26 rfl) (th_nmE (key := 3300) t26 rfl rfl)).1)
          refine lv_aload_n hx hb dX7_settle_84 rfl (lv_at hl 0 rfl) ?_
          refine lv_iload_n hx hb dX7_settle_85 rfl (lv_at hl 1 rfl) ?_
          refine lv_iconst (v := 1) hx hb dX7_settle_86 ic_1 ?_
          refine lv_iadd hx hb dX7_settle_87 ?_
          refine lv_topi (fun x35 e35 => ?_)
          have f35 : rg 2 2 x35 := rg_e e35 (rg_w (rg_add fy48_1 rgc_1 (th_leI rfl) (th_leI rfl)) (th_leI rfl) (th_leI rfl))
          refine lv_iload_n hx hb dX7_settle_88 rfl (lv_at hl 2 rfl) ?_
          refine lv_iconst (v := 1) hx hb dX7_settle_89 ic_1 ?_
          refine lv_iadd hx hb dX7_settle_90 ?_
          refine lv_topi (fun x36 e36 => ?_)
          have hA37 := th_Asub (τ := τ) hS
          refine va_callv (va_runV (As := [.int x35, .int x36]) (rest := []) ⟨hx, hb, hml, hown, hts⟩ (k_X7_settle_2 l D cA Z τ gi31 gr _ h0 t_h0 x35 f35 x36) (cwV 2 hts gX7_settle_X7_settle rfl rfl rfl hd_X7_settle__2 ⟨Nat.le_of_ble_eq_true rfl, Nat.le_of_ble_eq_true rfl⟩) ⟨th_blind, tr_7 hK hH t_h0, (th_pre hH hK hN hZ hS hA37)⟩ rfl rfl hl.1 rfl (lv_room (Nat.le_of_ble_eq_true rfl)) dX7_settle_91 ⟨Nat.le_of_ble_eq_true rfl, Nat.le_of_ble_eq_true rfl⟩) hS (fun q _ h => hA37 q h) hA37 (fun  u t H locs ht hvm hw38 hB hz1 hk1 hS => ?_)
          try dsimp only at hw38 hB
          rw [ht] at hB
          have hH := hB
          obtain ⟨gi38, gr38⟩ := u
          try dsimp only at hw38 hH
          obtain rfl : gr = gr38 := (hw38.2.1).symm
          have hM := hM.tr hw38.1 (fun _ h => h) (th_sub rfl)
          have e39 : w48_0 = gi38 h0 2 := Eq.trans e32 (Eq.symm (hw38.1 h0 2 (th_nzE t_h0 rfl) (th_nmE (key := 702) t_h0 rfl rfl)).1)
          have e40 : x3 = gi38 q2 5 := Eq.trans e33 (Eq.symm (hw38.1 q2 5 (th_nzE t2 rfl) (th_nmE (key := 105) t2 rfl rfl)).1)
          exact J94 gi38 _ _ _ w48_0 hH hS hM (lv_sub hl [0, 1, 2, 3, 4] rfl) fy48_1 f20 e39 fw48_0 (hF.trans (by simp only [↓reduceIte, f_X7_settle_1_48, ← ew48_0, r2, Option.getD_some, ← e3, eq_false c4, ← e21, ← e22, eq_false c23, r26, ← eg27, hw31.2.2, ← e35, ← e36, hw38.2.2]))
  have J13 : ∀ (gi_13 : th_i) (H : Heap) (locs : List Loc) (ls : Array Slot) (w13_0 : Int32), th_H D cA τ gi_13 gr H → va_S (th_A τ s.heap.size) s.heap H locs → th_Mod [707, 3100, 3200, 3300, 3400] τ gi gr gi_13 gr → lv_has ls 5 [(0, .ref h0), (2, .int p2)] → w13_0 = gi_13 h0 2 → rg 0 1 w13_0 → F_X7_settle_1 τ Z gi gr h0 p1 p2 = f_X7_settle_1_13 τ Z gi gr h0 p1 p2 gi_13 → W p l e (headSpec wsX7_settle ({ frames := 8, cells := 0, slots := 0, locals := 224 })).room s m [.ref h0, .int p1, .int p2].toArray below meth c H locs 0 0 (MQ below (va_Qv (fun (u : th_i × th_r) => th_Mod [707, 3100, 3200, 3300, 3400] τ gi gr u.1 u.2 ∧ u.2 = gr ∧ (F_X7_settle_1 τ Z gi gr h0 p1 p2 = u.1)) (fun (u : th_i × th_r) t => th_H D cA τ u.1 u.2 t.heap) (th_A τ s.heap.size)) [.ref h0, .int p1, .int p2].toArray s 0 0 (th_A τ s.heap.size)) (F0 m 13 ls []) := by
    intro gi_13 H locs ls w13_0 hH hS hM hl ew13_0 fw13_0 hF
    refine lv_aload_n hx hb dX7_settle_13 rfl (lv_at hl 0 rfl) ?_
    refine lv_iload_n hx hb dX7_settle_14 rfl (lv_at hl 1 rfl) ?_
    have hA41 := th_Asub (τ := τ) hS
    refine va_callv (va_runV (As := [.int p2]) (rest := []) ⟨hx, hb, hml, hown, hts⟩ (k_X7_keepIfBetter l D cA Z τ gi_13 gr _ h0 t_h0 p2) (cwV 1 hts gX7_settle_X7_keepIfBetter rfl rfl rfl hd_X7_keepIfBetter__1 ⟨Nat.le_of_ble_eq_true rfl, Nat.le_of_ble_eq_true rfl⟩) ⟨th_blind, tr_7 hK hH t_h0, (th_pre hH hK hN hZ hS hA41)⟩ rfl rfl hl.1 rfl (lv_room (Nat.le_of_ble_eq_true rfl)) dX7_settle_15 ⟨Nat.le_of_ble_eq_true rfl, Nat.le_of_ble_eq_true rfl⟩) hS (fun q _ h => hA41 q h) hA41 (fun  u t H locs ht hvm hw42 hB hz1 hk1 hS => ?_)
    try dsimp only at hw42 hB
    rw [ht] at hB
    have hH := hB
    obtain ⟨gi42, gr42⟩ := u
    try dsimp only at hw42 hH
    obtain rfl : gr = gr42 := (hw42.2.1).symm
    have hM := hM.tr hw42.1 (fun _ h => h) (th_sub rfl)
    have e43 : w13_0 = gi42 h0 2 := Eq.trans ew13_0 (Eq.symm (hw42.1 h0 2 (th_nzE t_h0 rfl) (th_nmE (key := 702) t_h0 rfl rfl)).1)
    exact W.vret hx hb hr (fun t ht hW => ⟨⟨(gi42, gr), rfl, ⟨hM, rfl, (hF.trans (by simp only [f_X7_settle_1_13, ← ew13_0, hw42.2.2]))⟩, th_Ht ht hH⟩, hS.F ht⟩) hS.2.2 dX7_settle_18
  have hS : va_S (th_A τ s.heap.size) s.heap s.heap [] := va_S.rf
  have hl := lv_entry ([.ref h0, .int p1, .int p2]) (n := 5) (Nat.le_of_ble_eq_true rfl)
  rw [lg_entry_eq]
  generalize (lg_sl ([.ref h0, .int p1, .int p2]) ++ List.replicate (5 - (lg_sl ([.ref h0, .int p1, .int p2])).length) Slot.unset).toArray = ls at hl ⊢
  have hl : lv_has ls 5 [(0, .ref h0), (1, .int p1), (2, .int p2)] := hl
  have hF : F_X7_settle_1 τ Z gi gr h0 p1 p2 = F_X7_settle_1 τ Z gi gr h0 p1 p2 := rfl
  refine lv_iload_n hx hb dX7_settle_0 rfl (lv_at hl 1 rfl) ?_
  refine lv_aload_n hx hb dX7_settle_1 rfl (lv_at hl 0 rfl) ?_
  obtain ⟨x44, e44⟩ : ∃ y : Int32, y = gi h0 2 := ⟨_, rfl⟩
  refine th_get (ci := 6) (v := .int x44) (T := TX7) (C := RX7) (N := 8) hx hb hts (fun w h => List.mem_cons_of_mem _ (List.mem_append_left _ (List.mem_append_left _ (List.mem_append_left _ (List.mem_append_left _ (List.mem_append_left _ (List.mem_append_right _ h))))))) hown hK hH t_h0 (th_nz rfl) (thE_7 _ _ _) rfl 2 (th_ltN rfl) (hts (.fieldLink RX7 17 "BayMoorings$Search" "size" "I") (List.mem_cons_of_mem _ (List.mem_append_left _ (List.mem_append_left _ (List.mem_append_left _ (List.mem_append_left _ (List.mem_append_left _ (List.mem_append_left _ (List.mem_append_left _ (List.mem_of_getElem? (i := 0) rfl)))))))))) (fun _ h9 => h9) (th_fI e44 rfl) dX7_settle_2 ?_
  have f44 : rg 0 5 x44 := rg_e e44 ((thI_7 hH t_h0).2.2.1)
  refine lv_icmp_ge (tgt := 13) hx hb dX7_settle_5 (th_eqI rfl) (fun c45 => ?_) (fun c45 => ?_)
  · skip
    have f46 : rg 0 1 x44 := rg_w (rg_le f44 f_p1 c45).1 (th_leI rfl) (th_leI rfl)
    exact J13 gi _ _ _ x44 hH hS hM (lv_sub hl [0, 2] rfl) e44 f46 (hF.trans (by simp only [↓reduceIte, F_X7_settle_1, ← e44, eq_true c45]))
  · skip
    have f47 : rg 2 5 x44 := rg_w (rg_nle f44 f_p1 c45).1 (th_leI rfl) (th_leI rfl)
    refine lv_iload_n hx hb dX7_settle_8 rfl (lv_at hl 1 rfl) ?_
    refine lv_iconst (v := 5) hx hb dX7_settle_9 ic_5 ?_
    refine lv_icmp_lt (tgt := 19) hx hb dX7_settle_10 (th_eqI rfl) (fun c48 => ?_) (fun c48 => ?_)
    · skip
      refine lv_iload_n hx hb dX7_settle_19 rfl (lv_at hl 2 rfl) ?_
      refine lv_aload_n hx hb dX7_settle_20 rfl (lv_at hl 0 rfl) ?_
      refine lv_iload_n hx hb dX7_settle_21 rfl (lv_at hl 1 rfl) ?_
      have hA49 := th_Asub (τ := τ) hS
      refine va_calli (va_runV (As := [.int p1]) (rest := [.int p2]) ⟨hx, hb, hml, hown, hts⟩ (k_X7_hopefulFrom l D cA Z τ gi gr _ h0 t_h0 p1 (rg_w f_p1 (th_leI rfl) (th_leI rfl))) (cwV 1 hts gX7_settle_X7_hopefulFrom rfl rfl rfl hd_X7_hopefulFrom__1 ⟨Nat.le_of_ble_eq_true rfl, Nat.le_of_ble_eq_true rfl⟩) ⟨th_blind, tr_7 hK hH t_h0, (th_pre hH hK hN hZ hS hA49)⟩ rfl rfl hl.1 rfl (lv_room (Nat.le_of_ble_eq_true rfl)) dX7_settle_22 ⟨Nat.le_of_ble_eq_true rfl, Nat.le_of_ble_eq_true rfl⟩) hS (fun q _ h => hA49 q h) hA49 (fun x50 u t H locs ht hvm hw50 hB hz1 hk1 hS => ?_)
      try dsimp only at hw50 hB
      rw [ht] at hB
      have hH := hB
      refine lv_iadd hx hb dX7_settle_25 ?_
      refine lv_topi (fun x51 e51 => ?_)
      refine lv_aload_n hx hb dX7_settle_26 rfl (lv_at hl 0 rfl) ?_
      obtain ⟨x52, e52⟩ : ∃ y : Int32, y = gi h0 7 := ⟨_, rfl⟩
      refine th_get (ci := 6) (v := .int x52) (T := TX7) (C := RX7) (N := 8) hx hb hts (fun w h => List.mem_cons_of_mem _ (List.mem_append_left _ (List.mem_append_left _ (List.mem_append_left _ (List.mem_append_left _ (List.mem_append_left _ (List.mem_append_right _ h))))))) hown hK hH t_h0 (th_nz rfl) (thE_7 _ _ _) rfl 7 (th_ltN rfl) (hts (.fieldLink RX7 34 "BayMoorings$Search" "bestCount" "I") (List.mem_cons_of_mem _ (List.mem_append_left _ (List.mem_append_left _ (List.mem_append_left _ (List.mem_append_left _ (List.mem_append_left _ (List.mem_append_left _ (List.mem_append_left _ (List.mem_of_getElem? (i := 1) rfl)))))))))) (fun _ h9 => h9) (th_fI e52 rfl) dX7_settle_27 ?_
      refine lv_icmp_gt (tgt := 34) hx hb dX7_settle_30 (th_eqI rfl) (fun c53 => ?_) (fun c53 => ?_)
      · skip
        refine lv_aload_n hx hb dX7_settle_34 rfl (lv_at hl 0 rfl) ?_
        obtain ⟨q54, r54, t54⟩ : ∃ q, gr h0 3 = some q ∧ τ q = 31 := (thI_7 hH t_h0).2.2.2.1
        refine th_get (ci := 6) (v := .ref q54) (T := TX7) (C := RX7) (N := 8) hx hb hts (fun w h => List.mem_cons_of_mem _ (List.mem_append_left _ (List.mem_append_left _ (List.mem_append_left _ (List.mem_append_left _ (List.mem_append_left _ (List.mem_append_right _ h))))))) hown hK hH t_h0 (th_nz rfl) (thE_7 _ _ _) rfl 3 (th_ltN rfl) (hts (.fieldLink RX7 21 "BayMoorings$Search" "open" "[I") (List.mem_cons_of_mem _ (List.mem_append_left _ (List.mem_append_left _ (List.mem_append_left _ (List.mem_append_left _ (List.mem_append_left _ (List.mem_append_left _ (List.mem_append_left _ (List.mem_of_getElem? (i := 2) rfl)))))))))) (fun _ h9 => h9) (th_fR r54 rfl) dX7_settle_35 ?_
        refine lv_iload_n hx hb dX7_settle_38 rfl (lv_at hl 1 rfl) ?_
        refine lv_iconst (v := 5) hx hb dX7_settle_39 ic_5 ?_
        refine lv_imul hx hb dX7_settle_40 ?_
        refine lv_topi (fun x55 e55 => ?_)
        have f55 : rg 5 5 x55 := rg_e e55 (rg_w (rg_mul f_p1 rgc_5 (th_leI rfl) (th_leI rfl) (th_leI rfl)) (th_leI rfl) (th_leI rfl))
        refine lv_iload_n hx hb dX7_settle_41 rfl (lv_at hl 1 rfl) ?_
        refine lv_iadd hx hb dX7_settle_42 ?_
        refine lv_topi (fun x56 e56 => ?_)
        have f56 : rg 6 6 x56 := rg_e e56 (rg_w (rg_add f55 f_p1 (th_leI rfl) (th_leI rfl)) (th_leI rfl) (th_leI rfl))
        refine th_iald hx hb hK hH t54 (th_nz rfl) 0 (thE_31 _ _ _) rfl (rg_in (n := 30) f56 (th_leI rfl) (th_ltI rfl)) dX7_settle_43 ?_
        refine lv_topi (fun x57 e57 => ?_)
        refine lv_istore_n (i := 3) (lv' := [(3, .int x57), (0, .ref h0), (1, .int p1), (2, .int p2)]) hx hb dX7_settle_44 rfl hl (th_ltN rfl) rfl (fun ls hl => ?_)
        refine lv_iconst (v := 0) hx hb dX7_settle_45 ic_0 ?_
        refine lv_istore (i := 4) (lv' := [(4, .int 0), (3, .int x57), (0, .ref h0), (1, .int p1), (2, .int p2)]) hx hb dX7_settle_46 hl (th_ltN rfl) rfl (fun ls hl => ?_)
        exact J48 _ gi _ _ _ x57 0 x44 (Nat.lt_add_one _) hH hS hM (lv_sub hl [2, 3, 4, 1, 0] rfl) f_p1 (rg_w rgc_0 (th_leI rfl) (th_leI rfl)) e44 f47 (hF.trans (by simp only [↓reduceIte, F_X7_settle_1, ← e44, eq_false c45, eq_true c48, hw50, ← e51, ← e52, eq_true c53, r54, Option.getD_some, ← e55, ← e56, ← e57]))
      · skip
        exact W.vret hx hb hr (fun t ht hW => ⟨⟨(gi, gr), rfl, ⟨hM, rfl, (hF.trans (by simp only [↓reduceIte, F_X7_settle_1, ← e44, eq_false c45, eq_true c48, hw50, ← e51, ← e52, eq_false c53]))⟩, th_Ht ht hH⟩, hS.F ht⟩) hS.2.2 dX7_settle_33
    · skip
      exact absurd (rg_nlt f_p1 rgc_5 c48).1 (rg_no (th_ltI rfl))

noncomputable def f_X7_settle_0_13 (τ : th_t) (Z : th_Zt) (gi : th_i) (gr : th_r) (h0 : Nat) (p1 : Int32) (p2 : Int32) (gi_13 : th_i) : th_i :=
  let w13_0 : Int32 := gi_13 h0 2
  let gi42 : th_i := F_X7_keepIfBetter τ Z gi_13 gr h0 p2
  (gi42)
noncomputable def f_X7_settle_0_94 (τ : th_t) (Z : th_Zt) (gi : th_i) (gr : th_r) (h0 : Nat) (p1 : Int32) (p2 : Int32) (gi_48 : th_i) (y48_3 : Int32) (y48_4 : Int32) (k_48 : th_i → Int32 → Int32 → th_i) (gi_94 : th_i) : th_i :=
  let w94_0 : Int32 := gi_94 h0 2
  let x1 : Int32 := y48_4 + 1
  k_48 gi_94 y48_3 x1
noncomputable def f_X7_settle_0_48 (τ : th_t) (Z : th_Zt) (gi : th_i) (gr : th_r) (h0 : Nat) (p1 : Int32) (p2 : Int32) : Nat → th_i → Int32 → Int32 → th_i
  | 0, gi_48, y48_3, y48_4 => (gi_48)
  | n48 + 1, gi_48, y48_3, y48_4 =>
    let w48_0 : Int32 := gi_48 h0 2
    let q2 : Nat := (gr h0 0).getD 0
    let x3 : Int32 := gi_48 q2 5
    if x3 ≤ y48_4 then (
      let q5 : Nat := (gr h0 5).getD 0
      let gi6 : th_i := va_up gi_48 q5 (upd (gi_48 q5) p1.toNatClampNeg (-1))
      let gi10 : th_i := F_X7_narrow τ Z gi6 gr h0 p1 (-1)
      let x14 : Int32 := p1 + 1
      let gi16 : th_i := F_X7_settle_1 τ Z gi10 gr h0 x14 p2
      (gi16)) else (
      let x21 : Int32 := y48_3 >>> (y48_4 &&& 31)
      let x22 : Int32 := x21 &&& 1
      if x22 = (0 : Int32) then (
        f_X7_settle_0_94 τ Z gi gr h0 p1 p2 gi_48 y48_3 y48_4 (f_X7_settle_0_48 τ Z gi gr h0 p1 p2 n48) gi_48) else (
        let q26 : Nat := (gr h0 5).getD 0
        let gi27 : th_i := va_up gi_48 q26 (upd (gi_48 q26) p1.toNatClampNeg y48_4)
        let gi31 : th_i := F_X7_narrow τ Z gi27 gr h0 p1 y48_4
        let x35 : Int32 := p1 + 1
        let x36 : Int32 := p2 + 1
        let gi38 : th_i := F_X7_settle_1 τ Z gi31 gr h0 x35 x36
        f_X7_settle_0_94 τ Z gi gr h0 p1 p2 gi_48 y48_3 y48_4 (f_X7_settle_0_48 τ Z gi gr h0 p1 p2 n48) gi38))
noncomputable def F_X7_settle_0 (τ : th_t) (Z : th_Zt) (gi : th_i) (gr : th_r) (h0 : Nat) (p1 : Int32) (p2 : Int32) : th_i :=
  let x44 : Int32 := gi h0 2
  if x44 ≤ p1 then (
    f_X7_settle_0_13 τ Z gi gr h0 p1 p2 gi) else (
    if p1 < (5 : Int32) then (
      let x50 : Int32 := F_X7_hopefulFrom τ Z gi gr h0 p1
      let x51 : Int32 := p2 + x50
      let x52 : Int32 := gi h0 7
      if x52 < x51 then (
        let q54 : Nat := (gr h0 3).getD 0
        let x55 : Int32 := p1 * 5
        let x56 : Int32 := x55 + p1
        let x57 : Int32 := gi q54 x56.toNatClampNeg
        f_X7_settle_0_48 τ Z gi gr h0 p1 p2 ((12 - (0 : Int32).toInt).toNat + 1) gi x57 0) else (
        (gi))) else (
      (gi)))
set_option maxHeartbeats 8000000 in
set_option maxRecDepth 100000 in
theorem k_X7_settle_0 (l : Launch) (D : va_G) (cA : Nat → ClassId) (Z : th_Zt) (τ : th_t) (gi : th_i) (gr : th_r) (sz : Nat) (h0 : Nat) (t_h0 : τ h0 = 7) (p1 : Int32) (f_p1 : rg 0 0 p1) (p2 : Int32) : Met l yX7_settle wsX7_settle ({ frames := 9, cells := 0, slots := 0, locals := 248 }) (va_Pc [.ref h0, .int p1, .int p2] (th_Pre D cA Z τ gi gr sz)) (va_Qv (fun (u : th_i × th_r) => th_Mod [707, 3100, 3200, 3300, 3400] τ gi gr u.1 u.2 ∧ u.2 = gr ∧ (F_X7_settle_0 τ Z gi gr h0 p1 p2 = u.1)) (fun (u : th_i × th_r) t => th_H D cA τ u.1 u.2 t.heap) (th_A τ sz)) 0 0 (th_A τ sz) := by
  refine Met.ofW (cc := cX7_settle) (maxL := 5) (ret := none) (by decide) rfl ?_
  intro p e s m args below meth c s₁ B hml hv
  obtain ⟨rfl, hsz, hH, hK, hN, hZ⟩ := hv
  have hx := B.exec
  have hb := B.bytes
  have hr := B.returns
  have hts := atoms_spec (ws := wsX7_settle) B.pre
  have hown : s.vm.findClass RX7 = some m.cls := findClass_of_methodNamed B.named
  have hlocks := B.notSynchronized
  subst hsz
  have hM : th_Mod [707, 3100, 3200, 3300, 3400] τ gi gr gi gr := th_Mod.rf
  have J48 : ∀ (n48 : Nat) (gi_48 : th_i) (H : Heap) (locs : List Loc) (ls : Array Slot) (y48_3 : Int32) (y48_4 : Int32) (w48_0 : Int32), (12 - y48_4.toInt).toNat < n48 → th_H D cA τ gi_48 gr H → va_S (th_A τ s.heap.size) s.heap H locs → th_Mod [707, 3100, 3200, 3300, 3400] τ gi gr gi_48 gr → lv_has ls 5 [(0, .ref h0), (1, .int p1), (2, .int p2), (3, .int y48_3), (4, .int y48_4)] → rg 0 0 p1 → rg 0 12 y48_4 → w48_0 = gi_48 h0 2 → rg 1 5 w48_0 → F_X7_settle_0 τ Z gi gr h0 p1 p2 = f_X7_settle_0_48 τ Z gi gr h0 p1 p2 n48 gi_48 y48_3 y48_4 → W p l e (headSpec wsX7_settle ({ frames := 9, cells := 0, slots := 0, locals := 248 })).room s m [.ref h0, .int p1, .int p2].toArray below meth c H locs 0 0 (MQ below (va_Qv (fun (u : th_i × th_r) => th_Mod [707, 3100, 3200, 3300, 3400] τ gi gr u.1 u.2 ∧ u.2 = gr ∧ (F_X7_settle_0 τ Z gi gr h0 p1 p2 = u.1)) (fun (u : th_i × th_r) t => th_H D cA τ u.1 u.2 t.heap) (th_A τ s.heap.size)) [.ref h0, .int p1, .int p2].toArray s 0 0 (th_A τ s.heap.size)) (F0 m 48 ls []) := by
    intro n48
    induction n48 with
    | zero =>
      intro gi_48 H locs ls y48_3 y48_4 w48_0 hn
      exact absurd hn (Nat.not_lt_zero _)
    | succ n48 ih48 =>
      intro gi_48 H locs ls y48_3 y48_4 w48_0 hn48 hH hS hM hl fy48_1 fy48_4 ew48_0 fw48_0 hF
      have J94 : ∀ (gi_94 : th_i) (H : Heap) (locs : List Loc) (ls : Array Slot) (w94_0 : Int32), th_H D cA τ gi_94 gr H → va_S (th_A τ s.heap.size) s.heap H locs → th_Mod [707, 3100, 3200, 3300, 3400] τ gi gr gi_94 gr → lv_has ls 5 [(0, .ref h0), (1, .int p1), (2, .int p2), (3, .int y48_3), (4, .int y48_4)] → rg 0 0 p1 → rg 0 11 y48_4 → w94_0 = gi_94 h0 2 → rg 1 5 w94_0 → F_X7_settle_0 τ Z gi gr h0 p1 p2 = f_X7_settle_0_94 τ Z gi gr h0 p1 p2 gi_48 y48_3 y48_4 (f_X7_settle_0_48 τ Z gi gr h0 p1 p2 n48) gi_94 → W p l e (headSpec wsX7_settle ({ frames := 9, cells := 0, slots := 0, locals := 248 })).room s m [.ref h0, .int p1, .int p2].toArray below meth c H locs 0 0 (MQ below (va_Qv (fun (u : th_i × th_r) => th_Mod [707, 3100, 3200, 3300, 3400] τ gi gr u.1 u.2 ∧ u.2 = gr ∧ (F_X7_settle_0 τ Z gi gr h0 p1 p2 = u.1)) (fun (u : th_i × th_r) t => th_H D cA τ u.1 u.2 t.heap) (th_A τ s.heap.size)) [.ref h0, .int p1, .int p2].toArray s 0 0 (th_A τ s.heap.size)) (F0 m 94 ls []) := by
        intro gi_94 H locs ls w94_0 hH hS hM hl fy94_1 fy94_4 ew94_0 fw94_0 hF
        obtain ⟨x1, e1⟩ : ∃ y : Int32, y = y48_4 + 1 := ⟨_, rfl⟩
        have f1 : rg 1 12 x1 := rg_e e1 (rg_w (rg_add fy94_4 rgc_1 (th_leI rfl) (th_leI rfl)) (th_leI rfl) (th_leI rfl))
        refine lv_iinc (v := x1) (lv' := [(4, .int x1), (0, .ref h0), (1, .int p1), (2, .int p2), (3, .int y48_3)]) hx hb dX7_settle_94 hl (k := 4) rfl (by rw [e1]; rfl) (th_ltN rfl) rfl (fun ls hl => ?_)
        refine lv_goto (tgt := 48) hx hb dX7_settle_97 (th_eqI rfl) ?_
        exact ih48 gi_94 _ _ _ y48_3 x1 w94_0 (th_up (rg_dA e1 fy94_4 rgc_1 (th_leI rfl) (th_leI rfl)) fy94_4 hn48 (th_ltI rfl)) hH hS hM (lv_sub hl [1, 2, 3, 4, 0] rfl) fy94_1 (rg_w f1 (th_leI rfl) (th_leI rfl)) ew94_0 fw94_0 (hF.trans (by simp only [f_X7_settle_0_94, ← ew94_0, ← e1]))
      refine lv_iload hx hb dX7_settle_48 (lv_at hl 4 rfl) ?_
      refine lv_aload_n hx hb dX7_settle_50 rfl (lv_at hl 0 rfl) ?_
      obtain ⟨q2, r2, t2⟩ : ∃ q, gr h0 0 = some q ∧ τ q = 1 := (thI_7 hH t_h0).1
      refine th_get (ci := 6) (v := .ref q2) (T := TX7) (C := RX7) (N := 8) hx hb hts (fun w h => List.mem_cons_of_mem _ (List.mem_append_left _ (List.mem_append_left _ (List.mem_append_left _ (List.mem_append_left _ (List.mem_append_left _ (List.mem_append_right _ h))))))) hown hK hH t_h0 (th_nz rfl) (thE_7 _ _ _) rfl 0 (th_ltN rfl) (hts (.fieldLink RX7 37 "BayMoorings$Search" "bay" "LBayMoorings$Bay;") (List.mem_cons_of_mem _ (List.mem_append_left _ (List.mem_append_left _ (List.mem_append_left _ (List.mem_append_left _ (List.mem_append_left _ (List.mem_append_left _ (List.mem_append_left _ (List.mem_of_getElem? (i := 3) rfl)))))))))) (fun _ h9 => h9) (th_fR r2 rfl) dX7_settle_51 ?_
      obtain ⟨x3, e3⟩ : ∃ y : Int32, y = gi_48 q2 5 := ⟨_, rfl⟩
      refine th_get (ci := 0) (v := .int x3) (T := TX0) (C := RX0) (N := 9) hx hb hts (fun w h => List.mem_cons_of_mem _ (List.mem_append_left _ (List.mem_append_left _ (List.mem_append_left _ (List.mem_append_left _ (List.mem_append_right _ h)))))) hown hK hH t2 (th_nz rfl) (thE_1 _ _ _) rfl 5 (th_ltN rfl) (hts (.fieldLink RX7 68 "BayMoorings$Bay" "buoyCount" "I") (List.mem_cons_of_mem _ (List.mem_append_left _ (List.mem_append_left _ (List.mem_append_left _ (List.mem_append_left _ (List.mem_append_left _ (List.mem_append_left _ (List.mem_append_left _ (List.mem_of_getElem? (i := 4) rfl)))))))))) (fun _ h9 => h9) (th_fI e3 rfl) dX7_settle_54 ?_
      have f3 : rg 0 12 x3 := rg_e e3 ((thI_1 hH t2).2.2.2.2.2.1)
      refine lv_icmp_ge (tgt := 100) hx hb dX7_settle_57 (th_eqI rfl) (fun c4 => ?_) (fun c4 => ?_)
      · skip
        refine lv_aload_n hx hb dX7_settle_100 rfl (lv_at hl 0 rfl) ?_
        obtain ⟨q5, r5, t5⟩ : ∃ q, gr h0 5 = some q ∧ τ q = 33 := (thI_7 hH t_h0).2.2.2.2.2.1
        refine th_get (ci := 6) (v := .ref q5) (T := TX7) (C := RX7) (N := 8) hx hb hts (fun w h => List.mem_cons_of_mem _ (List.mem_append_left _ (List.mem_append_left _ (List.mem_append_left _ (List.mem_append_left _ (List.mem_append_left _ (List.mem_append_right _ h))))))) hown hK hH t_h0 (th_nz rfl) (thE_7 _ _ _) rfl 5 (th_ltN rfl) (hts (.fieldLink RX7 28 "BayMoorings$Search" "trial" "[I") (List.mem_cons_of_mem _ (List.mem_append_left _ (List.mem_append_left _ (List.mem_append_left _ (List.mem_append_left _ (List.mem_append_left _ (List.mem_append_left _ (List.mem_append_left _ (List.mem_of_getElem? (i := 5) rfl)))))))))) (fun _ h9 => h9) (th_fR r5 rfl) dX7_settle_101 ?_
        refine lv_iload_n hx hb dX7_settle_104 rfl (lv_at hl 1 rfl) ?_
        refine lv_iconst (v := (-1)) hx hb dX7_settle_105 ic_m1 ?_
        refine th_iast hx hb hK hH hS t5 (th_nz rfl) (Or.inl (th_nzE t5 rfl)) 0 (fun _ => thE_33 _ _ _) rfl (rg_in (n := 5) fy48_1 (th_leI rfl) (th_ltI rfl)) (trivial) dX7_settle_106 (fun gi6 H locs hu6 ho6 hH hS => ?_)
        have eg6 : gi6 = va_up gi_48 q5 (upd (gi_48 q5) p1.toNatClampNeg (-1)) := th_upE hu6 ho6
        have e7 : w48_0 = gi6 h0 2 := Eq.trans ew48_0 (Eq.symm (ho6 _ _ (Or.inl (th_ne t_h0 t5 (th_nz rfl)))))
        have e8 : x3 = gi6 q2 5 := Eq.trans e3 (Eq.symm (ho6 _ _ (Or.inl (th_ne t2 t5 (th_nz rfl)))))
        have hM := hM.i t5 (th_mem (a := 3300) rfl) ho6
        refine lv_aload_n hx hb dX7_settle_107 rfl (lv_at hl 0 rfl) ?_
        refine lv_iload_n hx hb dX7_settle_108 rfl (lv_at hl 1 rfl) ?_
        refine lv_iconst (v := (-1)) hx hb dX7_settle_109 ic_m1 ?_
        have hA9 := th_Asub (τ := τ) hS
        refine va_callv (va_runV (As := [.int p1, .int (-1)]) (rest := []) ⟨hx, hb, hml, hown, hts⟩ (k_X7_narrow l D cA Z τ gi6 gr _ h0 t_h0 p1 (rg_w fy48_1 (th_leI rfl) (th_leI rfl)) (-1) (rg_w rgc_m1 (th_leI rfl) (th_leI rfl))) (cwV 2 hts gX7_settle_X7_narrow rfl rfl rfl hd_X7_narrow__2 ⟨Nat.le_of_ble_eq_true rfl, Nat.le_of_ble_eq_true rfl⟩) ⟨th_blind, tr_7 hK hH t_h0, (th_pre hH hK hN hZ hS hA9)⟩ rfl rfl hl.1 rfl (lv_room (Nat.le_of_ble_eq_true rfl)) dX7_settle_110 ⟨Nat.le_of_ble_eq_true rfl, Nat.le_of_ble_eq_true rfl⟩) hS (fun q _ h => hA9 q h) hA9 (fun  u t H locs ht hvm hw10 hB hz1 hk1 hS => ?_)
        try dsimp only at hw10 hB
        rw [ht] at hB
        have hH := hB
        obtain ⟨gi10, gr10⟩ := u
        try dsimp only at hw10 hH
        obtain rfl : gr = gr10 := (hw10.2.1).symm
        have hM := hM.tr hw10.1 (fun _ h => h) (th_sub rfl)
        have e11 : w48_0 = gi10 h0 2 := Eq.trans e7 (Eq.symm (hw10.1 h0 2 (th_nzE t_h0 rfl) (th_nmE (key := 702) t_h0 rfl rfl)).1)
        have e12 : x3 = gi10 q2 5 := Eq.trans e8 (Eq.symm (hw10.1 q2 5 (th_nzE t2 rfl) (th_nmE (key := 105) t2 rfl rfl)).1)
        have e13 : (-1) = gi10 q5 (p1.toNatClampNeg) := Eq.trans hu6.symm (Eq.symm (hw10.1 q5 (p1.toNatClampNeg) (th_nzE t5 rfl) (th_nmE (key := 3300) t5 rfl rfl)).1)
        refine lv_aload_n hx hb dX7_settle_113 rfl (lv_at hl 0 rfl) ?_
        refine lv_iload_n hx hb dX7_settle_114 rfl (lv_at hl 1 rfl) ?_
        refine lv_iconst (v := 1) hx hb dX7_settle_115 ic_1 ?_
        refine lv_iadd hx hb dX7_settle_116 ?_
        refine lv_topi (fun x14 e14 => ?_)
        have f14 : rg 1 1 x14 := rg_e e14 (rg_w (rg_add fy48_1 rgc_1 (th_leI rfl) (th_leI rfl)) (th_leI rfl) (th_leI rfl))
        refine lv_iload_n hx hb dX7_settle_117 rfl (lv_at hl 2 rfl) ?_
        have hA15 := th_Asub (τ := τ) hS
        refine va_callv (va_runV (As := [.int x14, .int p2]) (rest := []) ⟨hx, hb, hml, hown, hts⟩ (k_X7_settle_1 l D cA Z τ gi10 gr _ h0 t_h0 x14 f14 p2) (cwV 2 hts gX7_settle_X7_settle rfl rfl rfl hd_X7_settle__2 ⟨Nat.le_of_ble_eq_true rfl, Nat.le_of_ble_eq_true rfl⟩) ⟨th_blind, tr_7 hK hH t_h0, (th_pre hH hK hN hZ hS hA15)⟩ rfl rfl hl.1 rfl (lv_room (Nat.le_of_ble_eq_true rfl)) dX7_settle_118 ⟨Nat.le_of_ble_eq_true rfl, Nat.le_of_ble_eq_true rfl⟩) hS (fun q _ h => hA15 q h) hA15 (fun  u t H locs ht hvm hw16 hB hz1 hk1 hS => ?_)
        try dsimp only at hw16 hB
        rw [ht] at hB
        have hH := hB
        obtain ⟨gi16, gr16⟩ := u
        try dsimp only at hw16 hH
        obtain rfl : gr = gr16 := (hw16.2.1).symm
        have hM := hM.tr hw16.1 (fun _ h => h) (th_sub rfl)
        have e17 : w48_0 = gi16 h0 2 := Eq.trans e11 (Eq.symm (hw16.1 h0 2 (th_nzE t_h0 rfl) (th_nmE (key := 702) t_h0 rfl rfl)).1)
        have e18 : x3 = gi16 q2 5 := Eq.trans e12 (Eq.symm (hw16.1 q2 5 (th_nzE t2 rfl) (th_nmE (key := 105) t2 rfl rfl)).1)
        exact W.vret hx hb hr (fun t ht hW => ⟨⟨(gi16, gr), rfl, ⟨hM, rfl, (hF.trans (by simp only [↓reduceIte, f_X7_settle_0_48, ← ew48_0, r2, Option.getD_some, ← e3, eq_true c4, r5, ← eg6, hw10.2.2, ← e14, hw16.2.2]))⟩, th_Ht ht hH⟩, hS.F ht⟩) hS.2.2 dX7_settle_121
      · skip
        have f19 : rg 1 12 x3 := rg_w (rg_nle f3 fy48_4 c4).1 (th_leI rfl) (th_leI rfl)
        have f20 : rg 0 11 y48_4 := rg_w (rg_nle f3 fy48_4 c4).2 (th_leI rfl) (th_leI rfl)
        refine lv_iload_n hx hb dX7_settle_60 rfl (lv_at hl 3 rfl) ?_
        refine lv_iload hx hb dX7_settle_61 (lv_at hl 4 rfl) ?_
        refine lv_ishr hx hb dX7_settle_63 ?_
        refine lv_topi (fun x21 e21 => ?_)
        refine lv_iconst (v := 1) hx hb dX7_settle_64 ic_1 ?_
        refine lv_iand hx hb dX7_settle_65 ?_
        refine lv_topi (fun x22 e22 => ?_)
        have f22 : rg 0 1 x22 := rg_e e22 (rg_and 1 (by decide) (th_leN rfl) (th_eqI rfl))
        refine lv_if_eq (tgt := 94) hx hb dX7_settle_66 (th_eqI rfl) (fun c23 => ?_) (fun c23 => ?_)
        · skip
          have f24 : rg 0 0 x22 := rg_w (rg_eq f22 rgc_0 c23).1 (th_leI rfl) (th_leI rfl)
          exact J94 gi_48 _ _ _ w48_0 hH hS hM (lv_sub hl [0, 1, 2, 3, 4] rfl) fy48_1 f20 ew48_0 fw48_0 (hF.trans (by simp only [↓reduceIte, f_X7_settle_0_48, ← ew48_0, r2, Option.getD_some, ← e3, eq_false c4, ← e21, ← e22, eq_true c23]))
        · skip
          have f25 : rg 1 1 x22 := rg_w (rg_neL f22 rgc_0 c23) (th_leI rfl) (th_leI rfl)
          refine lv_aload_n hx hb dX7_settle_69 rfl (lv_at hl 0 rfl) ?_
          obtain ⟨q26, r26, t26⟩ : ∃ q, gr h0 5 = some q ∧ τ q = 33 := (thI_7 hH t_h0).2.2.2.2.2.1
          refine th_get (ci := 6) (v := .ref q26) (T := TX7) (C := RX7) (N := 8) hx hb hts (fun w h => List.mem_cons_of_mem _ (List.mem_append_left _ (List.mem_append_left _ (List.mem_append_left _ (List.mem_append_left _ (List.mem_append_left _ (List.mem_append_right _ h))))))) hown hK hH t_h0 (th_nz rfl) (thE_7 _ _ _) rfl 5 (th_ltN rfl) (hts (.fieldLink RX7 28 "BayMoorings$Search" "trial" "[I") (List.mem_cons_of_mem _ (List.mem_append_left _ (List.mem_append_left _ (List.mem_append_left _ (List.mem_append_left _ (List.mem_append_left _ (List.mem_append_left _ (List.mem_append_left _ (List.mem_of_getElem? (i := 5) rfl)))))))))) (fun _ h9 => h9) (th_fR r26 rfl) dX7_settle_70 ?_
          refine lv_iload_n hx hb dX7_settle_73 rfl (lv_at hl 1 rfl) ?_
          refine lv_iload hx hb dX7_settle_74 (lv_at hl 4 rfl) ?_
          refine th_iast hx hb hK hH hS t26 (th_nz rfl) (Or.inl (th_nzE t26 rfl)) 0 (fun _ => thE_33 _ _ _) rfl (rg_in (n := 5) fy48_1 (th_leI rfl) (th_ltI rfl)) (trivial) dX7_settle_76 (fun gi27 H locs hu27 ho27 hH hS => ?_)
          have eg27 : gi27 = va_up gi_48 q26 (upd (gi_48 q26) p1.toNatClampNeg y48_4) := th_upE hu27 ho27
          have e28 : w48_0 = gi27 h0 2 := Eq.trans ew48_0 (Eq.symm (ho27 _ _ (Or.inl (th_ne t_h0 t26 (th_nz rfl)))))
          have e29 : x3 = gi27 q2 5 := Eq.trans e3 (Eq.symm (ho27 _ _ (Or.inl (th_ne t2 t26 (th_nz rfl)))))
          have hM := hM.i t26 (th_mem (a := 3300) rfl) ho27
          refine lv_aload_n hx hb dX7_settle_77 rfl (lv_at hl 0 rfl) ?_
          refine lv_iload_n hx hb dX7_settle_78 rfl (lv_at hl 1 rfl) ?_
          refine lv_iload hx hb dX7_settle_79 (lv_at hl 4 rfl) ?_
          have hA30 := th_Asub (τ := τ) hS
          refine va_callv (va_runV (As := [.int p1, .int y48_4]) (rest := []) ⟨hx, hb, hml, hown, hts⟩ (k_X7_narrow l D cA Z τ gi27 gr _ h0 t_h0 p1 (rg_w fy48_1 (th_leI rfl) (th_leI rfl)) y48_4 (rg_w f20 (th_leI rfl) (th_leI rfl))) (cwV 2 hts gX7_settle_X7_narrow rfl rfl rfl hd_X7_narrow__2 ⟨Nat.le_of_ble_eq_true rfl, Nat.le_of_ble_eq_true rfl⟩) ⟨th_blind, tr_7 hK hH t_h0, (th_pre hH hK hN hZ hS hA30)⟩ rfl rfl hl.1 rfl (lv_room (Nat.le_of_ble_eq_true rfl)) dX7_settle_81 ⟨Nat.le_of_ble_eq_true rfl, Nat.le_of_ble_eq_true rfl⟩) hS (fun q _ h => hA30 q h) hA30 (fun  u t H locs ht hvm hw31 hB hz1 hk1 hS => ?_)
          try dsimp only at hw31 hB
          rw [ht] at hB
          have hH := hB
          obtain ⟨gi31, gr31⟩ := u
          try dsimp only at hw31 hH
          obtain rfl : gr = gr31 := (hw31.2.1).symm
          have hM := hM.tr hw31.1 (fun _ h => h) (th_sub rfl)
          have e32 : w48_0 = gi31 h0 2 := Eq.trans e28 (Eq.symm (hw31.1 h0 2 (th_nzE t_h0 rfl) (th_nmE (key := 702) t_h0 rfl rfl)).1)
          have e33 : x3 = gi31 q2 5 := Eq.trans e29 (Eq.symm (hw31.1 q2 5 (th_nzE t2 rfl) (th_nmE (key := 105) t2 rfl rfl)).1)
          have e34 : y48_4 = gi31 q26 (p1.toNatClampNeg) := Eq.trans hu27.symm (Eq.symm (hw31.1 q26 (p1.toNatClampNeg) (th_nzE t26 rfl) (th_nmE (key := 3300) t26 rfl rfl)).1)
          refine lv_aload_n hx hb dX7_settle_84 rfl (lv_at hl 0 rfl) ?_
          refine lv_iload_n hx hb dX7_settle_85 rfl (lv_at hl 1 rfl) ?_
          refine lv_iconst (v := 1) hx hb dX7_settle_86 ic_1 ?_
          refine lv_iadd hx hb dX7_settle_87 ?_
          refine lv_topi (fun x35 e35 => ?_)
          have f35 : rg 1 1 x35 := rg_e e35 (rg_w (rg_add fy48_1 rgc_1 (th_leI rfl) (th_leI rfl)) (th_leI rfl) (th_leI rfl))
          refine lv_iload_n hx hb dX7_settle_88 rfl (lv_at hl 2 rfl) ?_
          refine lv_iconst (v := 1) hx hb dX7_settle_89 ic_1 ?_
          refine lv_iadd hx hb dX7_settle_90 ?_
          refine lv_topi (fun x36 e36 => ?_)
          have hA37 := th_Asub (τ := τ) hS
          refine va_callv (va_runV (As := [.int x35, .int x36]) (rest := []) ⟨hx, hb, hml, hown, hts⟩ (k_X7_settle_1 l D cA Z τ gi31 gr _ h0 t_h0 x35 f35 x36) (cwV 2 hts gX7_settle_X7_settle rfl rfl rfl hd_X7_settle__2 ⟨Nat.le_of_ble_eq_true rfl, Nat.le_of_ble_eq_true rfl⟩) ⟨th_blind, tr_7 hK hH t_h0, (th_pre hH hK hN hZ hS hA37)⟩ rfl rfl hl.1 rfl (lv_room (Nat.le_of_ble_eq_true rfl)) dX7_settle_91 ⟨Nat.le_of_ble_eq_true rfl, Nat.le_of_ble_eq_true rfl⟩) hS (fun q _ h => hA37 q h) hA37 (fun  u t H locs ht hvm hw38 hB hz1 hk1 hS => ?_)
          try dsimp only at hw38 hB
          rw [ht] at hB
          have hH := hB
          obtain ⟨gi38, gr38⟩ := u
          try dsimp only at hw38 hH
          obtain rfl : gr = gr38 := (hw38.2.1).symm
          have hM := hM.tr hw38.1 (fun _ h => h) (th_sub rfl)
          have e39 : w48_0 = gi38 h0 2 := Eq.trans e32 (Eq.symm (hw38.1 h0 2 (th_nzE t_h0 rfl) (th_nmE (key := 702) t_h0 rfl rfl)).1)
          have e40 : x3 = gi38 q2 5 := Eq.trans e33 (Eq.symm (hw38.1 q2 5 (th_nzE t2 rfl) (th_nmE (key := 105) t2 rfl rfl)).1)
          exact J94 gi38 _ _ _ w48_0 hH hS hM (lv_sub hl [0, 1, 2, 3, 4] rfl) fy48_1 f20 e39 fw48_0 (hF.trans (by simp only [↓reduceIte, f_X7_settle_0_48, ← ew48_0, r2, Option.getD_some, ← e3, eq_false c4, ← e21, ← e22, eq_false c23, r26, ← eg27, hw31.2.2, ← e35, ← e36, hw38.2.2]))
  have J13 : ∀ (gi_13 : th_i) (H : Heap) (locs : List Loc) (ls : Array Slot) (w13_0 : Int32), th_H D cA τ gi_13 gr H → va_S (th_A τ s.heap.size) s.heap H locs → th_Mod [707, 3100, 3200, 3300, 3400] τ gi gr gi_13 gr → lv_has ls 5 [(0, .ref h0), (2, .int p2)] → w13_0 = gi_13 h0 2 → rg 0 0 w13_0 → F_X7_settle_0 τ Z gi gr h0 p1 p2 = f_X7_settle_0_13 τ Z gi gr h0 p1 p2 gi_13 → W p l e (headSpec wsX7_settle ({ frames := 9, cells := 0, slots := 0, locals := 248 })).room s m [.ref h0, .int p1, .int p2].toArray below meth c H locs 0 0 (MQ below (va_Qv (fun (u : th_i × th_r) => th_Mod [707, 3100, 3200, 3300, 3400] τ gi gr u.1 u.2 ∧ u.2 = gr ∧ (F_X7_settle_0 τ Z gi gr h0 p1 p2 = u.1)) (fun (u : th_i × th_r) t => th_H D cA τ u.1 u.2 t.heap) (th_A τ s.heap.size)) [.ref h0, .int p1, .int p2].toArray s 0 0 (th_A τ s.heap.size)) (F0 m 13 ls []) := by
    intro gi_13 H locs ls w13_0 hH hS hM hl ew13_0 fw13_0 hF
    refine lv_aload_n hx hb dX7_settle_13 rfl (lv_at hl 0 rfl) ?_
    refine lv_iload_n hx hb dX7_settle_14 rfl (lv_at hl 1 rfl) ?_
    have hA41 := th_Asub (τ := τ) hS
    refine va_callv (va_runV (As := [.int p2]) (rest := []) ⟨hx, hb, hml, hown, hts⟩ (k_X7_keepIfBetter l D cA Z τ gi_13 gr _ h0 t_h0 p2) (cwV 1 hts gX7_settle_X7_keepIfBetter rfl rfl rfl hd_X7_keepIfBetter__1 ⟨Nat.le_of_ble_eq_true rfl, Nat.le_of_ble_eq_true rfl⟩) ⟨th_blind, tr_7 hK hH t_h0, (th_pre hH hK hN hZ hS hA41)⟩ rfl rfl hl.1 rfl (lv_room (Nat.le_of_ble_eq_true rfl)) dX7_settle_15 ⟨Nat.le_of_ble_eq_true rfl, Nat.le_of_ble_eq_true rfl⟩) hS (fun q _ h => hA41 q h) hA41 (fun  u t H locs ht hvm hw42 hB hz1 hk1 hS => ?_)
    try dsimp only at hw42 hB
    rw [ht] at hB
    have hH := hB
    obtain ⟨gi42, gr42⟩ := u
    try dsimp only at hw42 hH
    obtain rfl : gr = gr42 := (hw42.2.1).symm
    have hM := hM.tr hw42.1 (fun _ h => h) (th_sub rfl)
    have e43 : w13_0 = gi42 h0 2 := Eq.trans ew13_0 (Eq.symm (hw42.1 h0 2 (th_nzE t_h0 rfl) (th_nmE (key := 702) t_h0 rfl rfl)).1)
    exact W.vret hx hb hr (fun t ht hW => ⟨⟨(gi42, gr), rfl, ⟨hM, rfl, (hF.trans (by simp only [f_X7_settle_0_13, ← ew13_0, hw42.2.2]))⟩, th_Ht ht hH⟩, hS.F ht⟩) hS.2.2 dX7_settle_18
  have hS : va_S (th_A τ s.heap.size) s.heap s.heap [] := va_S.rf
  have hl := lv_entry ([.ref h0, .int p1, .int p2]) (n := 5) (Nat.le_of_ble_eq_true rfl)
  rw [lg_entry_eq]
  generalize (lg_sl ([.ref h0, .int p1, .int p2]) ++ List.replicate (5 - (lg_sl ([.ref h0, .int p1, .int p2])).length) Slot.unset).toArray = ls at hl ⊢
  have hl : lv_has ls 5 [(0, .ref h0), (1, .int p1), (2, .int p2)] := hl
  have hF : F_X7_settle_0 τ Z gi gr h0 p1 p2 = F_X7_settle_0 τ Z gi gr h0 p1 p2 := rfl
  refine lv_iload_n hx hb dX7_settle_0 rfl (lv_at hl 1 rfl) ?_
  refine lv_aload_n hx hb dX7_settle_1 rfl (lv_at hl 0 rfl) ?_
  obtain ⟨x44, e44⟩ : ∃ y : Int32, y = gi h0 2 := ⟨_, rfl⟩
  refine th_get (ci := 6) (v := .int x44) (T := TX7) (C := RX7) (N := 8) hx hb hts (fun w h => List.mem_cons_of_mem _ (List.mem_append_left _ (List.mem_append_left _ (List.mem_append_left _ (List.mem_append_left _ (List.mem_append_left _ (List.mem_append_right _ h))))))) hown hK hH t_h0 (th_nz rfl) (thE_7 _ _ _) rfl 2 (th_ltN rfl) (hts (.fieldLink RX7 17 "BayMoorings$Search" "size" "I") (List.mem_cons_of_mem _ (List.mem_append_left _ (List.mem_append_left _ (List.mem_append_left _ (List.mem_append_left _ (List.mem_append_left _ (List.mem_append_left _ (List.mem_append_left _ (List.mem_of_getElem? (i := 0) rfl)))))))))) (fun _ h9 => h9) (th_fI e44 rfl) dX7_settle_2 ?_
  have f44 : rg 0 5 x44 := rg_e e44 ((thI_7 hH t_h0).2.2.1)
  refine lv_icmp_ge (tgt := 13) hx hb dX7_settle_5 (th_eqI rfl) (fun c45 => ?_) (fun c45 => ?_)
  · skip
    have f46 : rg 0 0 x44 := rg_w (rg_le f44 f_p1 c45).1 (th_leI rfl) (th_leI rfl)
    exact J13 gi _ _ _ x44 hH hS hM (lv_sub hl [0, 2] rfl) e44 f46 (hF.trans (by simp only [↓reduceIte, F_X7_settle_0, ← e44, eq_true c45]))
  · skip
    have f47 : rg 1 5 x44 := rg_w (rg_nle f44 f_p1 c45).1 (th_leI rfl) (th_leI rfl)
    refine lv_iload_n hx hb dX7_settle_8 rfl (lv_at hl 1 rfl) ?_
    refine lv_iconst (v := 5) hx hb dX7_settle_9 ic_5 ?_
    refine lv_icmp_lt (tgt := 19) hx hb dX7_settle_10 (th_eqI rfl) (fun c48 => ?_) (fun c48 => ?_)
    · skip
      refine lv_iload_n hx hb dX7_settle_19 rfl (lv_at hl 2 rfl) ?_
      refine lv_aload_n hx hb dX7_settle_20 rfl (lv_at hl 0 rfl) ?_
      refine lv_iload_n hx hb dX7_settle_21 rfl (lv_at hl 1 rfl) ?_
      have hA49 := th_Asub (τ := τ) hS
      refine va_calli (va_runV (As := [.int p1]) (rest := [.int p2]) ⟨hx, hb, hml, hown, hts⟩ (k_X7_hopefulFrom l D cA Z τ gi gr _ h0 t_h0 p1 (rg_w f_p1 (th_leI rfl) (th_leI rfl))) (cwV 1 hts gX7_settle_X7_hopefulFrom rfl rfl rfl hd_X7_hopefulFrom__1 ⟨Nat.le_of_ble_eq_true rfl, Nat.le_of_ble_eq_true rfl⟩) ⟨th_blind, tr_7 hK hH t_h0, (th_pre hH hK hN hZ hS hA49)⟩ rfl rfl hl.1 rfl (lv_room (Nat.le_of_ble_eq_true rfl)) dX7_settle_22 ⟨Nat.le_of_ble_eq_true rfl, Nat.le_of_ble_eq_true rfl⟩) hS (fun q _ h => hA49 q h) hA49 (fun x50 u t H locs ht hvm hw50 hB hz1 hk1 hS => ?_)
      try dsimp only at hw50 hB
      rw [ht] at hB
      have hH := hB
      refine lv_iadd hx hb dX7_settle_25 ?_
      refine lv_topi (fun x51 e51 => ?_)
      refine lv_aload_n hx hb dX7_settle_26 rfl (lv_at hl 0 rfl) ?_
      obtain ⟨x52, e52⟩ : ∃ y : Int32, y = gi h0 7 := ⟨_, rfl⟩
      refine th_get (ci := 6) (v := .int x52) (T := TX7) (C := RX7) (N := 8) hx hb hts (fun w h => List.mem_cons_of_mem _ (List.mem_append_left _ (List.mem_append_left _ (List.mem_append_left _ (List.mem_append_left _ (List.mem_append_left _ (List.mem_append_right _ h))))))) hown hK hH t_h0 (th_nz rfl) (thE_7 _ _ _) rfl 7 (th_ltN rfl) (hts (.fieldLink RX7 34 "BayMoorings$Search" "bestCount" "I") (List.mem_cons_of_mem _ (List.mem_append_left _ (List.mem_append_left _ (List.mem_append_left _ (List.mem_append_left _ (List.mem_append_left _ (List.mem_append_left _ (List.mem_append_left _ (List.mem_of_getElem? (i := 1) rfl)))))))))) (fun _ h9 => h9) (th_fI e52 rfl) dX7_settle_27 ?_
      refine lv_icmp_gt (tgt := 34) hx hb dX7_settle_30 (th_eqI rfl) (fun c53 => ?_) (fun c53 => ?_)
      · skip
        refine lv_aload_n hx hb dX7_settle_34 rfl (lv_at hl 0 rfl) ?_
        obtain ⟨q54, r54, t54⟩ : ∃ q, gr h0 3 = some q ∧ τ q = 31 := (thI_7 hH t_h0).2.2.2.1
        refine th_get (ci := 6) (v := .ref q54) (T := TX7) (C := RX7) (N := 8) hx hb hts (fun w h => List.mem_cons_of_mem _ (List.mem_append_left _ (List.mem_append_left _ (List.mem_append_left _ (List.mem_append_left _ (List.mem_append_left _ (List.mem_append_right _ h))))))) hown hK hH t_h0 (th_nz rfl) (thE_7 _ _ _) rfl 3 (th_ltN rfl) (hts (.fieldLink RX7 21 "BayMoorings$Search" "open" "[I") (List.mem_cons_of_mem _ (List.mem_append_left _ (List.mem_append_left _ (List.mem_append_left _ (List.mem_append_left _ (List.mem_append_left _ (List.mem_append_left _ (List.mem_append_left _ (List.mem_of_getElem? (i := 2) rfl)))))))))) (fun _ h9 => h9) (th_fR r54 rfl) dX7_settle_35 ?_
        refine lv_iload_n hx hb dX7_settle_38 rfl (lv_at hl 1 rfl) ?_
        refine lv_iconst (v := 5) hx hb dX7_settle_39 ic_5 ?_
        refine lv_imul hx hb dX7_settle_40 ?_
        refine lv_topi (fun x55 e55 => ?_)
        have f55 : rg 0 0 x55 := rg_e e55 (rg_w (rg_mul f_p1 rgc_5 (th_leI rfl) (th_leI rfl) (th_leI rfl)) (th_leI rfl) (th_leI rfl))
        refine lv_iload_n hx hb dX7_settle_41 rfl (lv_at hl 1 rfl) ?_
        refine lv_iadd hx hb dX7_settle_42 ?_
        refine lv_topi (fun x56 e56 => ?_)
        have f56 : rg 0 0 x56 := rg_e e56 (rg_w (rg_add f55 f_p1 (th_leI rfl) (th_leI rfl)) (th_leI rfl) (th_leI rfl))
        refine th_iald hx hb hK hH t54 (th_nz rfl) 0 (thE_31 _ _ _) rfl (rg_in (n := 30) f56 (th_leI rfl) (th_ltI rfl)) dX7_settle_43 ?_
        refine lv_topi (fun x57 e57 => ?_)
        refine lv_istore_n (i := 3) (lv' := [(3, .int x57), (0, .ref h0), (1, .int p1), (2, .int p2)]) hx hb dX7_settle_44 rfl hl (th_ltN rfl) rfl (fun ls hl => ?_)
        refine lv_iconst (v := 0) hx hb dX7_settle_45 ic_0 ?_
        refine lv_istore (i := 4) (lv' := [(4, .int 0), (3, .int x57), (0, .ref h0), (1, .int p1), (2, .int p2)]) hx hb dX7_settle_46 hl (th_ltN rfl) rfl (fun ls hl => ?_)
        exact J48 _ gi _ _ _ x57 0 x44 (Nat.lt_add_one _) hH hS hM (lv_sub hl [2, 3, 4, 1, 0] rfl) f_p1 (rg_w rgc_0 (th_leI rfl) (th_leI rfl)) e44 f47 (hF.trans (by simp only [↓reduceIte, F_X7_settle_0, ← e44, eq_false c45, eq_true c48, hw50, ← e51, ← e52, eq_true c53, r54, Option.getD_some, ← e55, ← e56, ← e57]))
      · skip
        exact W.vret hx hb hr (fun t ht hW => ⟨⟨(gi, gr), rfl, ⟨hM, rfl, (hF.trans (by simp only [↓reduceIte, F_X7_settle_0, ← e44, eq_false c45, eq_true c48, hw50, ← e51, ← e52, eq_false c53]))⟩, th_Ht ht hH⟩, hS.F ht⟩) hS.2.2 dX7_settle_33
    · skip
      exact absurd (rg_nlt f_p1 rgc_5 c48).1 (rg_no (th_ltI rfl))

noncomputable def f_X7_run_85 (τ : th_t) (Z : th_Zt) (gi : th_i) (gr : th_r) (h0 : Nat) (p1 : Int32) (gi_7 : th_i) (gr_7 : th_r) (y7_2 : Int32) (k_7 : th_i → th_r → Int32 → th_i × th_r) (gi_85 : th_i) (gr_85 : th_r) : th_i × th_r :=
  let w85_0 : Int32 := gi_85 h0 2
  let x1 : Int32 := y7_2 + 1
  k_7 gi_85 gr_85 x1
noncomputable def f_X7_run_38 (τ : th_t) (Z : th_Zt) (gi : th_i) (gr : th_r) (h0 : Nat) (p1 : Int32) (gi_7 : th_i) (gr_7 : th_r) (y7_2 : Int32) (k_7 : th_i → th_r → Int32 → th_i × th_r) (gi_38 : th_i) (gr_38 : th_r) (z38_0 : Option Nat) : th_i × th_r :=
  let w38_0 : Int32 := gi_38 h0 2
  Option.elim z38_0 (
    f_X7_run_85 τ Z gi gr h0 p1 gi_7 gr_7 y7_2 k_7 gi_38 gr_38) (fun q2 =>
    if (5 : Int32) ≤ w38_0 then (
      f_X7_run_85 τ Z gi gr h0 p1 gi_7 gr_7 y7_2 k_7 gi_38 gr_38) else (
      let q7 : Nat := (gr_38 h0 1).getD 0
      let gr9 : th_r := va_up gr_38 q7 (va_up (gr_38 q7) w38_0.toNatClampNeg (some q2))
      let q10 : Nat := (gr9 h0 3).getD 0
      let x13 : Int32 := F_X7_openAtFirst τ Z gi_38 gr9 h0 q2
      let gi14 : th_i := va_up gi_38 q10 (upd (gi_38 q10) w38_0.toNatClampNeg x13)
      let x17 : Int32 := w38_0 + 1
      let gi18 : th_i := va_up gi14 h0 (upd (gi14 h0) 2 x17)
      f_X7_run_85 τ Z gi gr h0 p1 gi_7 gr_7 y7_2 k_7 gi18 gr9))
noncomputable def f_X7_run_7 (τ : th_t) (Z : th_Zt) (gi : th_i) (gr : th_r) (h0 : Nat) (p1 : Int32) : Nat → th_i → th_r → Int32 → th_i × th_r
  | 0, gi_7, gr_7, y7_2 => (gi_7, gr_7)
  | n7 + 1, gi_7, gr_7, y7_2 =>
    let w7_0 : Int32 := gi_7 h0 2
    let q21 : Nat := (gr_7 h0 0).getD 0
    let x22 : Int32 := gi_7 q21 6
    if x22 ≤ y7_2 then (
      let q24 : Nat := (gr_7 h0 4).getD 0
      let gi26 : th_i := F_J7_fill_53178_32 τ Z gi_7 gr_7 q24 (-1)
      let gi29 : th_i := va_up gi26 h0 (upd (gi26 h0) 7 (-1))
      let gi33 : th_i := F_X7_settle_0 τ Z gi29 gr_7 h0 0 0
      (gi33, gr_7)) else (
      let x38 : Int32 := p1 >>> (y7_2 &&& 31)
      let x39 : Int32 := x38 &&& 1
      if x39 = (0 : Int32) then (
        f_X7_run_38 τ Z gi gr h0 p1 gi_7 gr_7 y7_2 (f_X7_run_7 τ Z gi gr h0 p1 n7) gi_7 gr_7 none) else (
        let r45 : Option Nat := F_X0_boatAt τ Z gi_7 gr_7 q21 y7_2
        f_X7_run_38 τ Z gi gr h0 p1 gi_7 gr_7 y7_2 (f_X7_run_7 τ Z gi gr h0 p1 n7) gi_7 gr_7 r45))
noncomputable def F_X7_run (τ : th_t) (Z : th_Zt) (gi : th_i) (gr : th_r) (h0 : Nat) (p1 : Int32) : th_i × th_r :=
  let gi46 : th_i := va_up gi h0 (upd (gi h0) 2 0)
  f_X7_run_7 τ Z gi gr h0 p1 ((16 - (0 : Int32).toInt).toNat + 1) gi46 gr 0
set_option maxHeartbeats 8000000 in
set_option maxRecDepth 100000 in
theorem k_X7_run (l : Launch) (D : va_G) (cA : Nat → ClassId) (Z : th_Zt) (τ : th_t) (gi : th_i) (gr : th_r) (sz : Nat) (h0 : Nat) (t_h0 : τ h0 = 7) (p1 : Int32) : Met l yX7_run wsX7_run ({ frames := 10, cells := 0, slots := 0, locals := 272 }) (va_Pc [.ref h0, .int p1] (th_Pre D cA Z τ gi gr sz)) (va_Qv (fun (u : th_i × th_r) => th_Mod [702, 707, 3000, 3100, 3200, 3300, 3400] τ gi gr u.1 u.2 ∧ (F_X7_run τ Z gi gr h0 p1 = u)) (fun (u : th_i × th_r) t => th_H D cA τ u.1 u.2 t.heap) (th_A τ sz)) 0 0 (th_A τ sz) := by
  refine Met.ofW (cc := cX7_run) (maxL := 4) (ret := none) (by decide) rfl ?_
  intro p e s m args below meth c s₁ B hml hv
  obtain ⟨rfl, hsz, hH, hK, hN, hZ⟩ := hv
  have hx := B.exec
  have hb := B.bytes
  have hr := B.returns
  have hts := atoms_spec (ws := wsX7_run) B.pre
  have hown : s.vm.findClass RX7 = some m.cls := findClass_of_methodNamed B.named
  have hlocks := B.notSynchronized
  subst hsz
  have hM : th_Mod [702, 707, 3000, 3100, 3200, 3300, 3400] τ gi gr gi gr := th_Mod.rf
  have J7 : ∀ (n7 : Nat) (gi_7 : th_i) (gr_7 : th_r) (H : Heap) (locs : List Loc) (ls : Array Slot) (y7_2 : Int32) (w7_0 : Int32), (16 - y7_2.toInt).toNat < n7 → th_H D cA τ gi_7 gr_7 H → va_S (th_A τ s.heap.size) s.heap H locs → th_Mod [702, 707, 3000, 3100, 3200, 3300, 3400] τ gi gr gi_7 gr_7 → lv_has ls 4 [(0, .ref h0), (1, .int p1), (2, .int y7_2)] → rg 0 16 y7_2 → w7_0 = gi_7 h0 2 → rg 0 5 w7_0 → F_X7_run τ Z gi gr h0 p1 = f_X7_run_7 τ Z gi gr h0 p1 n7 gi_7 gr_7 y7_2 → W p l e (headSpec wsX7_run ({ frames := 10, cells := 0, slots := 0, locals := 272 })).room s m [.ref h0, .int p1].toArray below meth c H locs 0 0 (MQ below (va_Qv (fun (u : th_i × th_r) => th_Mod [702, 707, 3000, 3100, 3200, 3300, 3400] τ gi gr u.1 u.2 ∧ (F_X7_run τ Z gi gr h0 p1 = u)) (fun (u : th_i × th_r) t => th_H D cA τ u.1 u.2 t.heap) (th_A τ s.heap.size)) [.ref h0, .int p1].toArray s 0 0 (th_A τ s.heap.size)) (F0 m 7 ls []) := by
    intro n7
    induction n7 with
    | zero =>
      intro gi_7 gr_7 H locs ls y7_2 w7_0 hn
      exact absurd hn (Nat.not_lt_zero _)
    | succ n7 ih7 =>
      intro gi_7 gr_7 H locs ls y7_2 w7_0 hn7 hH hS hM hl fy7_2 ew7_0 fw7_0 hF
      have J85 : ∀ (gi_85 : th_i) (gr_85 : th_r) (H : Heap) (locs : List Loc) (ls : Array Slot) (w85_0 : Int32), th_H D cA τ gi_85 gr_85 H → va_S (th_A τ s.heap.size) s.heap H locs → th_Mod [702, 707, 3000, 3100, 3200, 3300, 3400] τ gi gr gi_85 gr_85 → lv_has ls 4 [(0, .ref h0), (1, .int p1), (2, .int y7_2)] → rg 0 15 y7_2 → w85_0 = gi_85 h0 2 → rg 0 5 w85_0 → F_X7_run τ Z gi gr h0 p1 = f_X7_run_85 τ Z gi gr h0 p1 gi_7 gr_7 y7_2 (f_X7_run_7 τ Z gi gr h0 p1 n7) gi_85 gr_85 → W p l e (headSpec wsX7_run ({ frames := 10, cells := 0, slots := 0, locals := 272 })).room s m [.ref h0, .int p1].toArray below meth c H locs 0 0 (MQ below (va_Qv (fun (u : th_i × th_r) => th_Mod [702, 707, 3000, 3100, 3200, 3300, 3400] τ gi gr u.1 u.2 ∧ (F_X7_run τ Z gi gr h0 p1 = u)) (fun (u : th_i × th_r) t => th_H D cA τ u.1 u.2 t.heap) (th_A τ s.heap.size)) [.ref h0, .int p1].toArray s 0 0 (th_A τ s.heap.size)) (F0 m 85 ls []) := by
        intro gi_85 gr_85 H locs ls w85_0 hH hS hM hl fy85_2 ew85_0 fw85_0 hF
        obtain ⟨x1, e1⟩ : ∃ y : Int32, y = y7_2 + 1 := ⟨_, rfl⟩
        have f1 : rg 1 16 x1 := rg_e e1 (rg_w (rg_add fy85_2 rgc_1 (th_leI rfl) (th_leI rfl)) (th_leI rfl) (th_leI rfl))
        refine lv_iinc (v := x1) (lv' := [(2, .int x1), (0, .ref h0), (1, .int p1)]) hx hb dX7_run_85 hl (k := 2) rfl (by rw [e1]; rfl) (th_ltN rfl) rfl (fun ls hl => ?_)
        refine lv_goto (tgt := 7) hx hb dX7_run_88 (th_eqI rfl) ?_
        exact ih7 gi_85 gr_85 _ _ _ x1 w85_0 (th_up (rg_dA e1 fy85_2 rgc_1 (th_leI rfl) (th_leI rfl)) fy85_2 hn7 (th_ltI rfl)) hH hS hM (lv_sub hl [1, 2, 0] rfl) (rg_w f1 (th_leI rfl) (th_leI rfl)) ew85_0 fw85_0 (hF.trans (by simp only [f_X7_run_85, ← ew85_0, ← e1]))
      have J38 : ∀ (gi_38 : th_i) (gr_38 : th_r) (H : Heap) (locs : List Loc) (ls : Array Slot) (z38_0 : Option Nat) (w38_0 : Int32), th_H D cA τ gi_38 gr_38 H → va_S (th_A τ s.heap.size) s.heap H locs → th_Mod [702, 707, 3000, 3100, 3200, 3300, 3400] τ gi gr gi_38 gr_38 → lv_has ls 4 [(0, .ref h0), (1, .int p1), (2, .int y7_2)] → rg 0 15 y7_2 → (∀ q, z38_0 = some q → τ q = 8 ∨ τ q = 9 ∨ τ q = 4) → w38_0 = gi_38 h0 2 → rg 0 5 w38_0 → F_X7_run τ Z gi gr h0 p1 = f_X7_run_38 τ Z gi gr h0 p1 gi_7 gr_7 y7_2 (f_X7_run_7 τ Z gi gr h0 p1 n7) gi_38 gr_38 z38_0 → W p l e (headSpec wsX7_run ({ frames := 10, cells := 0, slots := 0, locals := 272 })).room s m [.ref h0, .int p1].toArray below meth c H locs 0 0 (MQ below (va_Qv (fun (u : th_i × th_r) => th_Mod [702, 707, 3000, 3100, 3200, 3300, 3400] τ gi gr u.1 u.2 ∧ (F_X7_run τ Z gi gr h0 p1 = u)) (fun (u : th_i × th_r) t => th_H D cA τ u.1 u.2 t.heap) (th_A τ s.heap.size)) [.ref h0, .int p1].toArray s 0 0 (th_A τ s.heap.size)) (F0 m 38 ls [va_rf z38_0]) := by
        intro gi_38 gr_38 H locs ls z38_0 w38_0 hH hS hM hl fy38_2 tz38_0 ew38_0 fw38_0 hF
        refine th_astoreq_n (i := 3) (lv' := [(3, va_rf z38_0), (0, .ref h0), (1, .int p1), (2, .int y7_2)]) hx hb dX7_run_38 rfl hl (th_ltN rfl) rfl (fun ls hl => ?_)
        refine th_aloadq_n hx hb dX7_run_39 rfl (lv_at hl 0 rfl) ?_
        refine th_ifnull (tgt := 85) hx hb dX7_run_40 (th_eqI rfl) (fun z2 => ?_) (fun q2 z2 => ?_)
        · skip
          subst z2
          have hl : lv_has ls 4 [(3, .null), (0, .ref h0), (1, .int p1), (2, .int y7_2)] := hl
          exact J85 gi_38 gr_38 _ _ _ w38_0 hH hS hM (lv_sub hl [1, 2, 3] rfl) fy38_2 ew38_0 fw38_0 (hF.trans (by simp only [f_X7_run_38, ← ew38_0, Option.elim_none]))
        · skip
          subst z2
          have t2 := tz38_0 q2 rfl
          have hl : lv_has ls 4 [(3, .ref q2), (0, .ref h0), (1, .int p1), (2, .int y7_2)] := hl
          refine lv_aload_n hx hb dX7_run_43 rfl (lv_at hl 1 rfl) ?_
          refine th_get (ci := 6) (v := .int w38_0) (T := TX7) (C := RX7) (N := 8) hx hb hts (fun w h => List.mem_cons_of_mem _ (List.mem_append_left _ (List.mem_append_left _ (List.mem_append_left _ (List.mem_append_left _ (List.mem_append_left _ (List.mem_append_left _ (List.mem_append_right _ h)))))))) hown hK hH t_h0 (th_nz rfl) (thE_7 _ _ _) rfl 2 (th_ltN rfl) (hts (.fieldLink RX7 17 "BayMoorings$Search" "size" "I") (List.mem_cons_of_mem _ (List.mem_append_left _ (List.mem_append_left _ (List.mem_append_left _ (List.mem_append_left _ (List.mem_append_left _ (List.mem_append_left _ (List.mem_append_left _ (List.mem_append_left _ (List.mem_of_getElem? (i := 0) rfl))))))))))) (fun _ h9 => h9) (th_fI ew38_0 rfl) dX7_run_44 ?_
          refine lv_iconst (v := 5) hx hb dX7_run_47 ic_5 ?_
          refine lv_icmp_ge (tgt := 85) hx hb dX7_run_48 (th_eqI rfl) (fun c4 => ?_) (fun c4 => ?_)
          · skip
            have f5 : rg 5 5 w38_0 := rg_w (rg_le rgc_5 fw38_0 c4).2 (th_leI rfl) (th_leI rfl)
            exact J85 gi_38 gr_38 _ _ _ w38_0 hH hS hM (lv_sub hl [1, 2, 3] rfl) fy38_2 ew38_0 (rg_w f5 (th_leI rfl) (th_leI rfl)) (hF.trans (by simp only [↓reduceIte, f_X7_run_38, ← ew38_0, Option.elim_some, eq_true c4]))
          · skip
            have f6 : rg 0 4 w38_0 := rg_w (rg_nle rgc_5 fw38_0 c4).2 (th_leI rfl) (th_leI rfl)
            refine lv_aload_n hx hb dX7_run_51 rfl (lv_at hl 1 rfl) ?_
            obtain ⟨q7, r7, t7⟩ : ∃ q, gr_38 h0 1 = some q ∧ τ q = 30 := (thI_7 hH t_h0).2.1
            refine th_get (ci := 6) (v := .ref q7) (T := TX7) (C := RX7) (N := 8) hx hb hts (fun w h => List.mem_cons_of_mem _ (List.mem_append_left _ (List.mem_append_left _ (List.mem_append_left _ (List.mem_append_left _ (List.mem_append_left _ (List.mem_append_left _ (List.mem_append_right _ h)))))))) hown hK hH t_h0 (th_nz rfl) (thE_7 _ _ _) rfl 1 (th_ltN rfl) (hts (.fieldLink RX7 11 "BayMoorings$Search" "asked" "[LBayMoorings$Boat;") (List.mem_cons_of_mem _ (List.mem_append_left _ (List.mem_append_left _ (List.mem_append_left _ (List.mem_append_left _ (List.mem_append_left _ (List.mem_append_left _ (List.mem_append_left _ (List.mem_append_left _ (List.mem_of_getElem? (i := 3) rfl))))))))))) (fun _ h9 => h9) (th_fR r7 rfl) dX7_run_52 ?_
            refine lv_aload_n hx hb dX7_run_55 rfl (lv_at hl 1 rfl) ?_
            refine th_get (ci := 6) (v := .int w38_0) (T := TX7) (C := RX7) (N := 8) hx hb hts (fun w h => List.mem_cons_of_mem _ (List.mem_append_left _ (List.mem_append_left _ (List.mem_append_left _ (List.mem_append_left _ (List.mem_append_left _ (List.mem_append_left _ (List.mem_append_right _ h)))))))) hown hK hH t_h0 (th_nz rfl) (thE_7 _ _ _) rfl 2 (th_ltN rfl) (hts (.fieldLink RX7 17 "BayMoorings$Search" "size" "I") (List.mem_cons_of_mem _ (List.mem_append_left _ (List.mem_append_left _ (List.mem_append_left _ (List.mem_append_left _ (List.mem_append_left _ (List.mem_append_left _ (List.mem_append_left _ (List.mem_append_left _ (List.mem_of_getElem? (i := 0) rfl))))))))))) (fun _ h9 => h9) (th_fI ew38_0 rfl) dX7_run_56 ?_
            refine lv_aload_n hx hb dX7_run_59 rfl (lv_at hl 0 rfl) ?_
            refine th_any3 t2 (fun t9 k9 => th_aast hx hb hK hH hS t7 (th_nz rfl) (Or.inl (th_nzE t7 rfl)) 3 (fun _ => thE_30 _ _ _) rfl t9 (th_nz rfl) (thE_8 _ _ _) (ci := 7) rfl (Or.inr hN.2.2.2.2.2.2.2.2.2.2.2.2.2.2.2.1) (rg_in (n := 5) f6 (th_leI rfl) (th_ltI rfl)) (th_ar (P := fun q => τ q = 8 ∨ τ q = 9 ∨ τ q = 4) (thI_30 hH t7) (fun _ h9 => by cases h9; exact (Or.inl t9))) dX7_run_60 k9) (fun t9 k9 => th_aast hx hb hK hH hS t7 (th_nz rfl) (Or.inl (th_nzE t7 rfl)) 3 (fun _ => thE_30 _ _ _) rfl t9 (th_nz rfl) (thE_9 _ _ _) (ci := 8) rfl (Or.inr hN.2.2.2.2.2.2.2.2.2.2.2.2.2.2.2.2) (rg_in (n := 5) f6 (th_leI rfl) (th_ltI rfl)) (th_ar (P := fun q => τ q = 8 ∨ τ q = 9 ∨ τ q = 4) (thI_30 hH t7) (fun _ h9 => by cases h9; exact (Or.inr (Or.inl t9)))) dX7_run_60 k9) (fun t9 k9 => th_aast hx hb hK hH hS t7 (th_nz rfl) (Or.inl (th_nzE t7 rfl)) 3 (fun _ => thE_30 _ _ _) rfl t9 (th_nz rfl) (thE_4 _ _ _) (ci := 3) rfl (Or.inr hN.2.2.2.2.2.2.2.2.2.2.2.2.2.2.1) (rg_in (n := 5) f6 (th_leI rfl) (th_ltI rfl)) (th_ar (P := fun q => τ q = 8 ∨ τ q = 9 ∨ τ q = 4) (thI_30 hH t7) (fun _ h9 => by cases h9; exact (Or.inr (Or.inr t9)))) dX7_run_60 k9) (fun gr9 H locs hu9 ho9 hH hS => ?_)
            have eg9 : gr9 = va_up gr_38 q7 (va_up (gr_38 q7) w38_0.toNatClampNeg (some q2)) := th_upF hu9 ho9
            have hM := hM.r t7 (th_mem (a := 3000) rfl) ho9
            refine lv_aload_n hx hb dX7_run_61 rfl (lv_at hl 1 rfl) ?_
            obtain ⟨q10, r10, t10⟩ : ∃ q, gr9 h0 3 = some q ∧ τ q = 31 := (thI_7 hH t_h0).2.2.2.1
            refine th_get (ci := 6) (v := .ref q10) (T := TX7) (C := RX7) (N := 8) hx hb hts (fun w h => List.mem_cons_of_mem _ (List.mem_append_left _ (List.mem_append_left _ (List.mem_append_left _ (List.mem_append_left _ (List.mem_append_left _ (List.mem_append_left _ (List.mem_append_right _ h)))))))) hown hK hH t_h0 (th_nz rfl) (thE_7 _ _ _) rfl 3 (th_ltN rfl) (hts (.fieldLink RX7 21 "BayMoorings$Search" "open" "[I") (List.mem_cons_of_mem _ (List.mem_append_left _ (List.mem_append_left _ (List.mem_append_left _ (List.mem_append_left _ (List.mem_append_left _ (List.mem_append_left _ (List.mem_append_left _ (List.mem_append_left _ (List.mem_of_getElem? (i := 4) rfl))))))))))) (fun _ h9 => h9) (th_fR r10 rfl) dX7_run_62 ?_
            refine lv_aload_n hx hb dX7_run_65 rfl (lv_at hl 1 rfl) ?_
            refine th_get (ci := 6) (v := .int w38_0) (T := TX7) (C := RX7) (N := 8) hx hb hts (fun w h => List.mem_cons_of_mem _ (List.mem_append_left _ (List.mem_append_left _ (List.mem_append_left _ (List.mem_append_left _ (List.mem_append_left _ (List.mem_append_left _ (List.mem_append_right _ h)))))))) hown hK hH t_h0 (th_nz rfl) (thE_7 _ _ _) rfl 2 (th_ltN rfl) (hts (.fieldLink RX7 17 "BayMoorings$Search" "size" "I") (List.mem_cons_of_mem _ (List.mem_append_left _ (List.mem_append_left _ (List.mem_append_left _ (List.mem_append_left _ (List.mem_append_left _ (List.mem_append_left _ (List.mem_append_left _ (List.mem_append_left _ (List.mem_of_getElem? (i := 0) rfl))))))))))) (fun _ h9 => h9) (th_fI ew38_0 rfl) dX7_run_66 ?_
            refine lv_aload_n hx hb dX7_run_69 rfl (lv_at hl 1 rfl) ?_
            refine lv_aload_n hx hb dX7_run_70 rfl (lv_at hl 0 rfl) ?_
            have hA12 := th_Asub (τ := τ) hS
            refine va_calli (va_runV (As := [.ref q2]) (rest := [.int w38_0, .ref q10]) ⟨hx, hb, hml, hown, hts⟩ (k_X7_openAtFirst l D cA Z τ gi_38 gr9 _ h0 t_h0 q2 t2) (cwV 1 hts gX7_run_X7_openAtFirst rfl rfl rfl hd_X7_openAtFirst__1 ⟨Nat.le_of_ble_eq_true rfl, Nat.le_of_ble_eq_true rfl⟩) ⟨th_blind, tr_7 hK hH t_h0, (th_pre hH hK hN hZ hS hA12)⟩ rfl rfl hl.1 rfl (lv_room (Nat.le_of_ble_eq_true rfl)) dX7_run_71 ⟨Nat.le_of_ble_eq_true rfl, Nat.le_of_ble_eq_true rfl⟩) hS (fun q _ h => hA12 q h) hA12 (fun x13 u t H locs ht hvm hw13 hB hz1 hk1 hS => ?_)
            try dsimp only at hw13 hB
            rw [ht] at hB
            have hH := hB
            refine th_iast hx hb hK hH hS t10 (th_nz rfl) (Or.inl (th_nzE t10 rfl)) 0 (fun _ => thE_31 _ _ _) rfl (rg_in (n := 30) f6 (th_leI rfl) (th_ltI rfl)) (trivial) dX7_run_74 (fun gi14 H locs hu14 ho14 hH hS => ?_)
            have eg14 : gi14 = va_up gi_38 q10 (upd (gi_38 q10) w38_0.toNatClampNeg x13) := th_upE hu14 ho14
            have e15 : w38_0 = gi14 h0 2 := Eq.trans ew38_0 (Eq.symm (ho14 _ _ (Or.inl (th_ne t_h0 t10 (th_nz rfl)))))
            have hM := hM.i t10 (th_mem (a := 3100) rfl) ho14
            refine lv_aload_n hx hb dX7_run_75 rfl (lv_at hl 1 rfl) ?_
            refine lv_dup hx hb dX7_run_76 rfl ?_
            refine th_get (ci := 6) (v := .int w38_0) (T := TX7) (C := RX7) (N := 8) hx hb hts (fun w h => List.mem_cons_of_mem _ (List.mem_append_left _ (List.mem_append_left _ (List.mem_append_left _ (List.mem_append_left _ (List.mem_append_left _ (List.mem_append_left _ (List.mem_append_right _ h)))))))) hown hK hH t_h0 (th_nz rfl) (thE_7 _ _ _) rfl 2 (th_ltN rfl) (hts (.fieldLink RX7 17 "BayMoorings$Search" "size" "I") (List.mem_cons_of_mem _ (List.mem_append_left _ (List.mem_append_left _ (List.mem_append_left _ (List.mem_append_left _ (List.mem_append_left _ (List.mem_append_left _ (List.mem_append_left _ (List.mem_append_left _ (List.mem_of_getElem? (i := 0) rfl))))))))))) (fun _ h9 => h9) (th_fI e15 rfl) dX7_run_77 ?_
            refine lv_iconst (v := 1) hx hb dX7_run_80 ic_1 ?_
            refine lv_iadd hx hb dX7_run_81 ?_
            refine lv_topi (fun x17 e17 => ?_)
            have f17 : rg 1 5 x17 := rg_e e17 (rg_w (rg_add f6 rgc_1 (th_leI rfl) (th_leI rfl)) (th_leI rfl) (th_leI rfl))
            refine th_put (ci := 6) (v := .int x17) (T := TX7) (C := RX7) (N := 8) (ty := .int) (gi' := va_up gi14 h0 (upd (gi14 h0) 2 x17)) (gr' := gr9) hx hb hts (fun w h => List.mem_cons_of_mem _ (List.mem_append_left _ (List.mem_append_left _ (List.mem_append_left _ (List.mem_append_left _ (List.mem_append_left _ (List.mem_append_left _ (List.mem_append_right _ h)))))))) tyX7 tyX7_ok nmX7 hown hK hH hS t_h0 (th_nz rfl) (Or.inl (th_nzE t_h0 rfl)) rfl rfl 2 (th_ltN rfl) (hts (.fieldLink RX7 17 "BayMoorings$Search" "size" "I") (List.mem_cons_of_mem _ (List.mem_append_left _ (List.mem_append_left _ (List.mem_append_left _ (List.mem_append_left _ (List.mem_append_left _ (List.mem_append_left _ (List.mem_append_left _ (List.mem_append_left _ (List.mem_of_getElem? (i := 0) rfl))))))))))) (fun _ h9 => h9) rfl (by decide +kernel) rfl rfl (Nat.le_of_ble_eq_true rfl) (by rw [va_up_self]; rfl) (by rw [va_up_self]; show (∃ q, gr9 h0 0 = some q ∧ τ q = 1) ∧ (∃ q, gr9 h0 1 = some q ∧ τ q = 30) ∧ rg 0 5 x17 ∧ (∃ q, gr9 h0 3 = some q ∧ τ q = 31) ∧ (∃ q, gr9 h0 4 = some q ∧ τ q = 32) ∧ (∃ q, gr9 h0 5 = some q ∧ τ q = 33) ∧ (∃ q, gr9 h0 6 = some q ∧ τ q = 34); exact ⟨(thI_7 hH t_h0).1, (thI_7 hH t_h0).2.1, (rg_w f17 (th_leI rfl) (th_leI rfl)), (thI_7 hH t_h0).2.2.2.1, (thI_7 hH t_h0).2.2.2.2.1, (thI_7 hH t_h0).2.2.2.2.2.1, (thI_7 hH t_h0).2.2.2.2.2.2⟩) (fun b hb => ⟨va_up_ne _ _ hb, rfl⟩) dX7_run_82 (fun H locs hH hS => ?_)
            obtain ⟨gi18, eg18⟩ : ∃ g, g = va_up gi14 h0 (upd (gi14 h0) 2 x17) := ⟨_, rfl⟩
            rw [← eg18] at hH
            have hu18 : gi18 h0 2 = x17 := (th_uI eg18).1
            have ho18 : ∀ b j, b ≠ h0 ∨ j ≠ 2 → gi18 b j = gi14 b j := (th_uI eg18).2
            have e20 : x13 = gi18 q10 (w38_0.toNatClampNeg) := Eq.trans hu14.symm (Eq.symm (ho18 _ _ (Or.inl (th_ne t10 t_h0 (th_nz rfl)))))
            have hM := hM.i t_h0 (th_mem (a := 702) rfl) ho18
            exact J85 gi18 gr9 _ _ _ x17 hH hS hM (lv_sub hl [1, 2, 3] rfl) fy38_2 hu18.symm (rg_w f17 (th_leI rfl) (th_leI rfl)) (hF.trans (by simp only [↓reduceIte, f_X7_run_38, ← ew38_0, Option.elim_some, eq_false c4, r7, Option.getD_some, ← eg9, r10, hw13, ← eg14, ← e17, ← eg18]))
      refine lv_iload_n hx hb dX7_run_7 rfl (lv_at hl 2 rfl) ?_
      refine lv_aload_n hx hb dX7_run_8 rfl (lv_at hl 0 rfl) ?_
      obtain ⟨q21, r21, t21⟩ : ∃ q, gr_7 h0 0 = some q ∧ τ q = 1 := (thI_7 hH t_h0).1
      refine th_get (ci := 6) (v := .ref q21) (T := TX7) (C := RX7) (N := 8) hx hb hts (fun w h => List.mem_cons_of_mem _ (List.mem_append_left _ (List.mem_append_left _ (List.mem_append_left _ (List.mem_append_left _ (List.mem_append_left _ (List.mem_append_left _ (List.mem_append_right _ h)))))))) hown hK hH t_h0 (th_nz rfl) (thE_7 _ _ _) rfl 0 (th_ltN rfl) (hts (.fieldLink RX7 37 "BayMoorings$Search" "bay" "LBayMoorings$Bay;") (List.mem_cons_of_mem _ (List.mem_append_left _ (List.mem_append_left _ (List.mem_append_left _ (List.mem_append_left _ (List.mem_append_left _ (List.mem_append_left _ (List.mem_append_left _ (List.mem_append_left _ (List.mem_of_getElem? (i := 1) rfl))))))))))) (fun _ h9 => h9) (th_fR r21 rfl) dX7_run_9 ?_
      obtain ⟨x22, e22⟩ : ∃ y : Int32, y = gi_7 q21 6 := ⟨_, rfl⟩
      refine th_get (ci := 0) (v := .int x22) (T := TX0) (C := RX0) (N := 9) hx hb hts (fun w h => List.mem_cons_of_mem _ (List.mem_append_left _ (List.mem_append_left _ (List.mem_append_left _ (List.mem_append_left _ (List.mem_append_left _ (List.mem_append_right _ h))))))) hown hK hH t21 (th_nz rfl) (thE_1 _ _ _) rfl 6 (th_ltN rfl) (hts (.fieldLink RX7 41 "BayMoorings$Bay" "boatCount" "I") (List.mem_cons_of_mem _ (List.mem_append_left _ (List.mem_append_left _ (List.mem_append_left _ (List.mem_append_left _ (List.mem_append_left _ (List.mem_append_left _ (List.mem_append_left _ (List.mem_append_left _ (List.mem_of_getElem? (i := 2) rfl))))))))))) (fun _ h9 => h9) (th_fI e22 rfl) dX7_run_12 ?_
      have f22 : rg 0 16 x22 := rg_e e22 ((thI_1 hH t21).2.2.2.2.2.2)
      refine lv_icmp_ge (tgt := 91) hx hb dX7_run_15 (th_eqI rfl) (fun c23 => ?_) (fun c23 => ?_)
      · skip
        refine lv_aload_n hx hb dX7_run_91 rfl (lv_at hl 0 rfl) ?_
        obtain ⟨q24, r24, t24⟩ : ∃ q, gr_7 h0 4 = some q ∧ τ q = 32 := (thI_7 hH t_h0).2.2.2.2.1
        refine th_get (ci := 6) (v := .ref q24) (T := TX7) (C := RX7) (N := 8) hx hb hts (fun w h => List.mem_cons_of_mem _ (List.mem_append_left _ (List.mem_append_left _ (List.mem_append_left _ (List.mem_append_left _ (List.mem_append_left _ (List.mem_append_left _ (List.mem_append_right _ h)))))))) hown hK hH t_h0 (th_nz rfl) (thE_7 _ _ _) rfl 4 (th_ltN rfl) (hts (.fieldLink RX7 25 "BayMoorings$Search" "barred" "[I") (List.mem_cons_of_mem _ (List.mem_append_left _ (List.mem_append_left _ (List.mem_append_left _ (List.mem_append_left _ (List.mem_append_left _ (List.mem_append_left _ (List.mem_append_left _ (List.mem_append_left _ (List.mem_of_getElem? (i := 5) rfl))))))))))) (fun _ h9 => h9) (th_fR r24 rfl) dX7_run_92 ?_
        refine lv_iconst (v := (-1)) hx hb dX7_run_95 ic_m1 ?_
        have hA25 := th_Asub (τ := τ) hS
        refine va_callv (va_runS (As := [.ref q24, .int (-1)]) (rest := []) ⟨hx, hb, hml, hown, hts⟩ (k_J7_fill_53178_32 l D cA Z τ gi_7 gr_7 _ q24 t24 (-1)) (va_cwS 2 hts gX7_run_J7_fill_53178 rfl rfl rfl (by decide +kernel) ⟨Nat.le_of_ble_eq_true rfl, Nat.le_of_ble_eq_true rfl⟩) ⟨th_blind, (th_pre hH hK hN hZ hS hA25)⟩ rfl rfl hl.1 rfl (lv_room (Nat.le_of_ble_eq_true rfl)) dX7_run_96 ⟨Nat.le_of_ble_eq_true rfl, Nat.le_of_ble_eq_true rfl⟩) hS (fun q _ h => hA25 q h) hA25 (fun  u t H locs ht hvm hw26 hB hz1 hk1 hS => ?_)
        try dsimp only at hw26 hB
        rw [ht] at hB
        have hH := hB
        obtain ⟨gi26, gr26⟩ := u
        try dsimp only at hw26 hH
        obtain rfl : gr_7 = gr26 := (hw26.2.1).symm
        have hM := hM.tr hw26.1 (fun _ h => h) (th_sub rfl)
        have e27 : w7_0 = gi26 h0 2 := Eq.trans ew7_0 (Eq.symm (hw26.1 h0 2 (th_nzE t_h0 rfl) (th_nmE (key := 702) t_h0 rfl rfl)).1)
        have e28 : x22 = gi26 q21 6 := Eq.trans e22 (Eq.symm (hw26.1 q21 6 (th_nzE t21 rfl) (th_nmE (key := 106) t21 rfl rfl)).1)
        refine lv_aload_n hx hb dX7_run_99 rfl (lv_at hl 0 rfl) ?_
        refine lv_iconst (v := (-1)) hx hb dX7_run_100 ic_m1 ?_
        refine th_put (ci := 6) (v := .int (-1)) (T := TX7) (C := RX7) (N := 8) (ty := .int) (gi' := va_up gi26 h0 (upd (gi26 h0) 7 (-1))) (gr' := gr_7) hx hb hts (fun w h => List.mem_cons_of_mem _ (List.mem_append_left _ (List.mem_append_left _ (List.mem_append_left _ (List.mem_append_left _ (List.mem_append_left _ (List.mem_append_left _ (List.mem_append_right _ h)))))))) tyX7 tyX7_ok nmX7 hown hK hH hS t_h0 (th_nz rfl) (Or.inl (th_nzE t_h0 rfl)) rfl rfl 7 (th_ltN rfl) (hts (.fieldLink RX7 34 "BayMoorings$Search" "bestCount" "I") (List.mem_cons_of_mem _ (List.mem_append_left _ (List.mem_append_left _ (List.mem_append_left _ (List.mem_append_left _ (List.mem_append_left _ (List.mem_append_left _ (List.mem_append_left _ (List.mem_append_left _ (List.mem_of_getElem? (i := 6) rfl))))))))))) (fun _ h9 => h9) rfl (by decide +kernel) rfl rfl (Nat.le_of_ble_eq_true rfl) (by rw [va_up_self]; rfl) (by rw [va_up_self]; show (∃ q, gr_7 h0 0 = some q ∧ τ q = 1) ∧ (∃ q, gr_7 h0 1 = some q ∧ τ q = 30) ∧ rg 0 5 (gi26 h0 2) ∧ (∃ q, gr_7 h0 3 = some q ∧ τ q = 31) ∧ (∃ q, gr_7 h0 4 = some q ∧ τ q = 32) ∧ (∃ q, gr_7 h0 5 = some q ∧ τ q = 33) ∧ (∃ q, gr_7 h0 6 = some q ∧ τ q = 34); exact ⟨(thI_7 hH t_h0).1, (thI_7 hH t_h0).2.1, (thI_7 hH t_h0).2.2.1, (thI_7 hH t_h0).2.2.2.1, (thI_7 hH t_h0).2.2.2.2.1, (thI_7 hH t_h0).2.2.2.2.2.1, (thI_7 hH t_h0).2.2.2.2.2.2⟩) (fun b hb => ⟨va_up_ne _ _ hb, rfl⟩) dX7_run_101 (fun H locs hH hS => ?_)
        obtain ⟨gi29, eg29⟩ : ∃ g, g = va_up gi26 h0 (upd (gi26 h0) 7 (-1)) := ⟨_, rfl⟩
        rw [← eg29] at hH
        have hu29 : gi29 h0 7 = (-1) := (th_uI eg29).1
        have ho29 : ∀ b j, b ≠ h0 ∨ j ≠ 7 → gi29 b j = gi26 b j := (th_uI eg29).2
        have e30 : w7_0 = gi29 h0 2 := Eq.trans e27 (Eq.symm (ho29 _ _ (Or.inr (th_nz rfl))))
        have e31 : x22 = gi29 q21 6 := Eq.trans e28 (Eq.symm (ho29 _ _ (Or.inl (th_ne t21 t_h0 (th_nz rfl)))))
        have hM := hM.i t_h0 (th_mem (a := 707) rfl) ho29
        refine lv_aload_n hx hb dX7_run_104 rfl (lv_at hl 0 rfl) ?_
        refine lv_iconst (v := 0) hx hb dX7_run_105 ic_0 ?_
        refine lv_iconst (v := 0) hx hb dX7_run_106 ic_0 ?_
        have hA32 := th_Asub (τ := τ) hS
        refine va_callv (va_runV (As := [.int 0, .int 0]) (rest := []) ⟨hx, hb, hml, hown, hts⟩ (k_X7_settle_0 l D cA Z τ gi29 gr_7 _ h0 t_h0 0 rgc_0 0) (cwV 2 hts gX7_run_X7_settle rfl rfl rfl hd_X7_settle__2 ⟨Nat.le_of_ble_eq_true rfl, Nat.le_of_ble_eq_true rfl⟩) ⟨th_blind, tr_7 hK hH t_h0, (th_pre hH hK hN hZ hS hA32)⟩ rfl rfl hl.1 rfl (lv_room (Nat.le_of_ble_eq_true rfl)) dX7_run_107 ⟨Nat.le_of_ble_eq_true rfl, Nat.le_of_ble_eq_true rfl⟩) hS (fun q _ h => hA32 q h) hA32 (fun  u t H locs ht hvm hw33 hB hz1 hk1 hS => ?_)
        try dsimp only at hw33 hB
        rw [ht] at hB
        have hH := hB
        obtain ⟨gi33, gr33⟩ := u
        try dsimp only at hw33 hH
        obtain rfl : gr_7 = gr33 := (hw33.2.1).symm
        have hM := hM.tr hw33.1 (fun _ h => h) (th_sub rfl)
        have e34 : w7_0 = gi33 h0 2 := Eq.trans e30 (Eq.symm (hw33.1 h0 2 (th_nzE t_h0 rfl) (th_nmE (key := 702) t_h0 rfl rfl)).1)
        have e35 : x22 = gi33 q21 6 := Eq.trans e31 (Eq.symm (hw33.1 q21 6 (th_nzE t21 rfl) (th_nmE (key := 106) t21 rfl rfl)).1)
        exact W.vret hx hb hr (fun t ht hW => ⟨⟨(gi33, gr_7), rfl, ⟨hM, (hF.trans (by simp only [↓reduceIte, f_X7_run_7, ← ew7_0, r21, Option.getD_some, ← e22, eq_true c23, r24, hw26.2.2, ← eg29, hw33.2.2]))⟩, th_Ht ht hH⟩, hS.F ht⟩) hS.2.2 dX7_run_110
      · skip
        have f36 : rg 1 16 x22 := rg_w (rg_nle f22 fy7_2 c23).1 (th_leI rfl) (th_leI rfl)
        have f37 : rg 0 15 y7_2 := rg_w (rg_nle f22 fy7_2 c23).2 (th_leI rfl) (th_leI rfl)
        refine lv_iload_n hx hb dX7_run_18 rfl (lv_at hl 1 rfl) ?_
        refine lv_iload_n hx hb dX7_run_19 rfl (lv_at hl 2 rfl) ?_
        refine lv_ishr hx hb dX7_run_20 ?_
        refine lv_topi (fun x38 e38 => ?_)
        refine lv_iconst (v := 1) hx hb dX7_run_21 ic_1 ?_
        refine lv_iand hx hb dX7_run_22 ?_
        refine lv_topi (fun x39 e39 => ?_)
        have f39 : rg 0 1 x39 := rg_e e39 (rg_and 1 (by decide) (th_leN rfl) (th_eqI rfl))
        refine lv_if_eq (tgt := 37) hx hb dX7_run_23 (th_eqI rfl) (fun c40 => ?_) (fun c40 => ?_)
        · skip
          have f41 : rg 0 0 x39 := rg_w (rg_eq f39 rgc_0 c40).1 (th_leI rfl) (th_leI rfl)
          refine lv_null hx hb dX7_run_37 ?_
          exact J38 gi_7 gr_7 _ _ _ none w7_0 hH hS hM (lv_sub hl [0, 1, 2] rfl) f37 (fun _ h9 => by cases h9) ew7_0 fw7_0 (hF.trans (by simp only [↓reduceIte, f_X7_run_7, ← ew7_0, r21, Option.getD_some, ← e22, eq_false c23, ← e38, ← e39, eq_true c40]))
        · skip
          have f42 : rg 1 1 x39 := rg_w (rg_neL f39 rgc_0 c40) (th_leI rfl) (th_leI rfl)
          refine lv_aload_n hx hb dX7_run_26 rfl (lv_at hl 0 rfl) ?_
          refine th_get (ci := 6) (v := .ref q21) (T := TX7) (C := RX7) (N := 8) hx hb hts (fun w h => List.mem_cons_of_mem _ (List.mem_append_left _ (List.mem_append_left _ (List.mem_append_left _ (List.mem_append_left _ (List.mem_append_left _ (List.mem_append_left _ (List.mem_append_right _ h)))))))) hown hK hH t_h0 (th_nz rfl) (thE_7 _ _ _) rfl 0 (th_ltN rfl) (hts (.fieldLink RX7 37 "BayMoorings$Search" "bay" "LBayMoorings$Bay;") (List.mem_cons_of_mem _ (List.mem_append_left _ (List.mem_append_left _ (List.mem_append_left _ (List.mem_append_left _ (List.mem_append_left _ (List.mem_append_left _ (List.mem_append_left _ (List.mem_append_left _ (List.mem_of_getElem? (i := 1) rfl))))))))))) (fun _ h9 => h9) (th_fR r21 rfl) dX7_run_27 ?_
          refine lv_iload_n hx hb dX7_run_30 rfl (lv_at hl 2 rfl) ?_
          have hA44 := th_Asub (τ := τ) hS
          refine va_callq (va_runV (As := [.int y7_2]) (rest := []) ⟨hx, hb, hml, hown, hts⟩ (k_X0_boatAt l D cA Z τ gi_7 gr_7 _ q21 t21 y7_2) (cwV 1 hts gX7_run_X0_boatAt rfl rfl rfl hd_X0_boatAt__1 ⟨Nat.le_of_ble_eq_true rfl, Nat.le_of_ble_eq_true rfl⟩) ⟨th_blind, tr_1 hK hH t21, (th_pre hH hK hN hZ hS hA44)⟩ rfl rfl hl.1 rfl (lv_room (Nat.le_of_ble_eq_true rfl)) dX7_run_31 ⟨Nat.le_of_ble_eq_true rfl, Nat.le_of_ble_eq_true rfl⟩) hS (fun q _ h => hA44 q h) hA44 (fun r45 u t H locs ht hvm hw45 hB hz1 hk1 hS => ?_)
          try dsimp only at hw45 hB
          rw [ht] at hB
          have hH := hB
          refine lv_goto (tgt := 38) hx hb dX7_run_34 (th_eqI rfl) ?_
          exact J38 gi_7 gr_7 _ _ _ r45 w7_0 hH hS hM (lv_sub hl [0, 1, 2] rfl) f37 hw45.1 ew7_0 fw7_0 (hF.trans (by simp only [↓reduceIte, f_X7_run_7, ← ew7_0, r21, Option.getD_some, ← e22, eq_false c23, ← e38, ← e39, eq_false c40, hw45.2]))
  have hS : va_S (th_A τ s.heap.size) s.heap s.heap [] := va_S.rf
  have hl := lv_entry ([.ref h0, .int p1]) (n := 4) (Nat.le_of_ble_eq_true rfl)
  rw [lg_entry_eq]
  generalize (lg_sl ([.ref h0, .int p1]) ++ List.replicate (4 - (lg_sl ([.ref h0, .int p1])).length) Slot.unset).toArray = ls at hl ⊢
  have hl : lv_has ls 4 [(0, .ref h0), (1, .int p1)] := hl
  have hF : F_X7_run τ Z gi gr h0 p1 = F_X7_run τ Z gi gr h0 p1 := rfl
  refine lv_aload_n hx hb dX7_run_0 rfl (lv_at hl 0 rfl) ?_
  refine lv_iconst (v := 0) hx hb dX7_run_1 ic_0 ?_
  refine th_put (ci := 6) (v := .int 0) (T := TX7) (C := RX7) (N := 8) (ty := .int) (gi' := va_up gi h0 (upd (gi h0) 2 0)) (gr' := gr) hx hb hts (fun w h => List.mem_cons_of_mem _ (List.mem_append_left _ (List.mem_append_left _ (List.mem_append_left _ (List.mem_append_left _ (List.mem_append_left _ (List.mem_append_left _ (List.mem_append_right _ h)))))))) tyX7 tyX7_ok nmX7 hown hK hH hS t_h0 (th_nz rfl) (Or.inl (th_nzE t_h0 rfl)) rfl rfl 2 (th_ltN rfl) (hts (.fieldLink RX7 17 "BayMoorings$Search" "size" "I") (List.mem_cons_of_mem _ (List.mem_append_left _ (List.mem_append_left _ (List.mem_append_left _ (List.mem_append_left _ (List.mem_append_left _ (List.mem_append_left _ (List.mem_append_left _ (List.mem_append_left _ (List.mem_of_getElem? (i := 0) rfl))))))))))) (fun _ h9 => h9) rfl (by decide +kernel) rfl rfl (Nat.le_of_ble_eq_true rfl) (by rw [va_up_self]; rfl) (by rw [va_up_self]; show (∃ q, gr h0 0 = some q ∧ τ q = 1) ∧ (∃ q, gr h0 1 = some q ∧ τ q = 30) ∧ rg 0 5 0 ∧ (∃ q, gr h0 3 = some q ∧ τ q = 31) ∧ (∃ q, gr h0 4 = some q ∧ τ q = 32) ∧ (∃ q, gr h0 5 = some q ∧ τ q = 33) ∧ (∃ q, gr h0 6 = some q ∧ τ q = 34); exact ⟨(thI_7 hH t_h0).1, (thI_7 hH t_h0).2.1, (rg_w rgc_0 (th_leI rfl) (th_leI rfl)), (thI_7 hH t_h0).2.2.2.1, (thI_7 hH t_h0).2.2.2.2.1, (thI_7 hH t_h0).2.2.2.2.2.1, (thI_7 hH t_h0).2.2.2.2.2.2⟩) (fun b hb => ⟨va_up_ne _ _ hb, rfl⟩) dX7_run_2 (fun H locs hH hS => ?_)
  obtain ⟨gi46, eg46⟩ : ∃ g, g = va_up gi h0 (upd (gi h0) 2 0) := ⟨_, rfl⟩
  rw [← eg46] at hH
  have hu46 : gi46 h0 2 = 0 := (th_uI eg46).1
  have ho46 : ∀ b j, b ≠ h0 ∨ j ≠ 2 → gi46 b j = gi b j := (th_uI eg46).2
  have hM := hM.i t_h0 (th_mem (a := 702) rfl) ho46
  refine lv_iconst (v := 0) hx hb dX7_run_5 ic_0 ?_
  refine lv_istore_n (i := 2) (lv' := [(2, .int 0), (0, .ref h0), (1, .int p1)]) hx hb dX7_run_6 rfl hl (th_ltN rfl) rfl (fun ls hl => ?_)
  exact J7 _ gi46 gr _ _ _ 0 0 (Nat.lt_add_one _) hH hS hM (lv_sub hl [1, 2, 0] rfl) (rg_w rgc_0 (th_leI rfl) (th_leI rfl)) hu46.symm (rg_w rgc_0 (th_leI rfl) (th_leI rfl)) (hF.trans (by simp only [F_X7_run, ← eg46]))
