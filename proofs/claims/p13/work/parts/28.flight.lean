noncomputable def f_X5_refugeOf_57 (τ : th_t) (Z : th_Zt) (gi : th_i) (gr : th_r) (h0 : Nat) (h1 : Nat) (p2 : Int32) (y2_3 : Int32) (k_2 : Int32 → Int32) : Int32 :=
  let x1 : Int32 := y2_3 + 1
  k_2 x1
noncomputable def f_X5_refugeOf_2 (τ : th_t) (Z : th_Zt) (gi : th_i) (gr : th_r) (h0 : Nat) (h1 : Nat) (p2 : Int32) : Nat → Int32 → Int32
  | 0, y2_3 => 0
  | n2 + 1, y2_3 =>
    let q2 : Nat := (gr h0 0).getD 0
    let x3 : Int32 := gi q2 5
    if x3 ≤ y2_3 then (
      (-1)) else (
      let r9 : Option Nat := F_X0_buoyAt τ Z gi gr q2 y2_3
      Option.elim r9 (
        f_X5_refugeOf_57 τ Z gi gr h0 h1 p2 y2_3 (f_X5_refugeOf_2 τ Z gi gr h0 h1 p2 n2) ) (fun q10 =>
        let x12 : Int32 := F_X3_holds τ Z gi gr q10 h1 p2
        if x12 = (0 : Int32) then (
          f_X5_refugeOf_57 τ Z gi gr h0 h1 p2 y2_3 (f_X5_refugeOf_2 τ Z gi gr h0 h1 p2 n2) ) else (
          let q17 : Nat := (gr h0 1).getD 0
          let x19 : Int32 := F_X0_mayLie τ Z gi gr q2 h1 q10 q17
          if x19 = (0 : Int32) then (
            f_X5_refugeOf_57 τ Z gi gr h0 h1 p2 y2_3 (f_X5_refugeOf_2 τ Z gi gr h0 h1 p2 n2) ) else (
            y2_3))))
noncomputable def F_X5_refugeOf (τ : th_t) (Z : th_Zt) (gi : th_i) (gr : th_r) (h0 : Nat) (h1 : Nat) (p2 : Int32) : Int32 :=
  f_X5_refugeOf_2 τ Z gi gr h0 h1 p2 ((12 - (0 : Int32).toInt).toNat + 1) 0
set_option maxHeartbeats 8000000 in
set_option maxRecDepth 100000 in
theorem k_X5_refugeOf (l : Launch) (D : va_G) (cA : Nat → ClassId) (Z : th_Zt) (τ : th_t) (gi : th_i) (gr : th_r) (sz : Nat) (h0 : Nat) (t_h0 : τ h0 = 5) (h1 : Nat) (t_h1 : τ h1 = 8 ∨ τ h1 = 9 ∨ τ h1 = 4) (p2 : Int32) : Met l yX5_refugeOf wsX5_refugeOf ({ frames := 4, cells := 0, slots := 0, locals := 123 }) (va_Pc [.ref h0, .ref h1, .int p2] (th_Pre D cA Z τ gi gr sz)) (va_Qi (fun (r : Int32) (_ : Unit) => (F_X5_refugeOf τ Z gi gr h0 h1 p2 = r)) (fun (_ : Unit) t => th_H D cA τ gi gr t.heap) (th_A τ sz)) 0 0 (th_A τ sz) := by
  refine Met.ofW (cc := cX5_refugeOf) (maxL := 5) (ret := (some .int)) (by decide) rfl ?_
  intro p e s m args below meth c s₁ B hml hv
  obtain ⟨rfl, hsz, hH, hK, hN, hZ⟩ := hv
  have hx := B.exec
  have hb := B.bytes
  have hr := B.returns
  have hts := atoms_spec (ws := wsX5_refugeOf) B.pre
  have hown : s.vm.findClass RX5 = some m.cls := findClass_of_methodNamed B.named
  have hlocks := B.notSynchronized
  subst hsz
  have J2 : ∀ (n2 : Nat) (H : Heap) (locs : List Loc) (ls : Array Slot) (y2_3 : Int32), (12 - y2_3.toInt).toNat < n2 → th_H D cA τ gi gr H → va_S (th_A τ s.heap.size) s.heap H locs → lv_has ls 5 [(0, .ref h0), (1, .ref h1), (2, .int p2), (3, .int y2_3)] → rg 0 12 y2_3 → F_X5_refugeOf τ Z gi gr h0 h1 p2 = f_X5_refugeOf_2 τ Z gi gr h0 h1 p2 n2 y2_3 → W p l e (headSpec wsX5_refugeOf ({ frames := 4, cells := 0, slots := 0, locals := 123 })).room s m [.ref h0, .ref h1, .int p2].toArray below meth c H locs 0 0 (MQ below (va_Qi (fun (r : Int32) (_ : Unit) => (F_X5_refugeOf τ Z gi gr h0 h1 p2 = r)) (fun (_ : Unit) t => th_H D cA τ gi gr t.heap) (th_A τ s.heap.size)) [.ref h0, .ref h1, .int p2].toArray s 0 0 (th_A τ s.heap.size)) (F0 m 2 ls []) := by
    intro n2
    induction n2 with
    | zero =>
      intro H locs ls y2_3 hn
      exact absurd hn (Nat.not_lt_zero _)
    | succ n2 ih2 =>
      intro H locs ls y2_3 hn2 hH hS hl fy2_3 hF
      have J57 : ∀ (H : Heap) (locs : List Loc) (ls : Array Slot), th_H D cA τ gi gr H → va_S (th_A τ s.heap.size) s.heap H locs → lv_has ls 5 [(0, .ref h0), (1, .ref h1), (2, .int p2), (3, .int y2_3)] → rg 0 11 y2_3 → F_X5_refugeOf τ Z gi gr h0 h1 p2 = f_X5_refugeOf_57 τ Z gi gr h0 h1 p2 y2_3 (f_X5_refugeOf_2 τ Z gi gr h0 h1 p2 n2) → W p l e (headSpec wsX5_refugeOf ({ frames := 4, cells := 0, slots := 0, locals := 123 })).room s m [.ref h0, .ref h1, .int p2].toArray below meth c H locs 0 0 (MQ below (va_Qi (fun (r : Int32) (_ : Unit) => (F_X5_refugeOf τ Z gi gr h0 h1 p2 = r)) (fun (_ : Unit) t => th_H D cA τ gi gr t.heap) (th_A τ s.heap.size)) [.ref h0, .ref h1, .int p2].toArray s 0 0 (th_A τ s.heap.size)) (F0 m 57 ls []) := by
        intro H locs ls hH hS hl fy57_3 hF
        obtain ⟨x1, e1⟩ : ∃ y : Int32, y = y2_3 + 1 := ⟨_, rfl⟩
        have f1 : rg 1 12 x1 := rg_e e1 (rg_w (rg_add fy57_3 rgc_1 (th_leI rfl) (th_leI rfl)) (th_leI rfl) (th_leI rfl))
        refine lv_iinc (v := x1) (lv' := [(3, .int x1), (0, .ref h0), (1, .ref h1), (2, .int p2)]) hx hb dX5_refugeOf_57 hl (k := 3) rfl (by rw [e1]; rfl) (th_ltN rfl) rfl (fun ls hl => ?_)
        refine lv_goto (tgt := 2) hx hb dX5_refugeOf_60 (th_eqI rfl) ?_
        exact ih2 _ _ _ x1 (th_up (rg_dA e1 fy57_3 rgc_1 (th_leI rfl) (th_leI rfl)) fy57_3 hn2 (th_ltI rfl)) hH hS (lv_sub hl [1, 2, 3, 0] rfl) (rg_w f1 (th_leI rfl) (th_leI rfl)) (hF.trans (by simp only [f_X5_refugeOf_57, ← e1]))
      refine lv_iload_n hx hb dX5_refugeOf_2 rfl (lv_at hl 3 rfl) ?_
      refine lv_aload_n hx hb dX5_refugeOf_3 rfl (lv_at hl 0 rfl) ?_
      obtain ⟨q2, r2, t2⟩ : ∃ q, gr h0 0 = some q ∧ τ q = 1 := (hH.at t_h0 (th_nz rfl)).2.1
      refine th_get (ci := 4) (v := .ref q2) (T := TX5) (C := RX5) (N := 3) hx hb hts (fun w h => List.mem_cons_of_mem _ (List.mem_append_left _ (List.mem_append_left _ (List.mem_append_left _ (List.mem_append_left _ (List.mem_append_left _ (List.mem_append_left _ (List.mem_append_right _ h)))))))) hown hK hH t_h0 (th_nz rfl) rfl rfl 0 (th_ltN rfl) (hts (.fieldLink RX5 22 "BayMoorings$Flight" "bay" "LBayMoorings$Bay;") (List.mem_cons_of_mem _ (List.mem_append_left _ (List.mem_append_left _ (List.mem_append_left _ (List.mem_append_left _ (List.mem_append_left _ (List.mem_append_left _ (List.mem_append_left _ (List.mem_append_left _ (List.mem_of_getElem? (i := 0) rfl))))))))))) (fun _ h9 => h9) (th_fR r2 rfl) dX5_refugeOf_4 ?_
      obtain ⟨x3, e3⟩ : ∃ y : Int32, y = gi q2 5 := ⟨_, rfl⟩
      refine th_get (ci := 0) (v := .int x3) (T := TX0) (C := RX0) (N := 9) hx hb hts (fun w h => List.mem_cons_of_mem _ (List.mem_append_left _ (List.mem_append_left _ (List.mem_append_left _ (List.mem_append_left _ (List.mem_append_left _ (List.mem_append_right _ h))))))) hown hK hH t2 (th_nz rfl) rfl rfl 5 (th_ltN rfl) (hts (.fieldLink RX5 66 "BayMoorings$Bay" "buoyCount" "I") (List.mem_cons_of_mem _ (List.mem_append_left _ (List.mem_append_left _ (List.mem_append_left _ (List.mem_append_left _ (List.mem_append_left _ (List.mem_append_left _ (List.mem_append_left _ (List.mem_append_left _ (List.mem_of_getElem? (i := 1) rfl))))))))))) (fun _ h9 => h9) (th_fI e3 rfl) dX5_refugeOf_7 ?_
      have f3 : rg 0 12 x3 := rg_e e3 ((hH.at t2 (th_nz rfl)).2.2.2.2.2.2.1)
      refine lv_icmp_ge (tgt := 63) hx hb dX5_refugeOf_10 (th_eqI rfl) (fun c4 => ?_) (fun c4 => ?_)
      · skip
        refine lv_iconst (v := (-1)) hx hb dX5_refugeOf_63 ic_m1 ?_
        exact W.iret (v := (-1)) hx hb hr (fun t ht hW => ⟨⟨(-1), (), rfl, (hF.trans (by simp only [↓reduceIte, f_X5_refugeOf_2, r2, Option.getD_some, ← e3, eq_true c4])), th_Ht ht hH⟩, hS.F ht⟩) hS.2.2 dX5_refugeOf_64
      · skip
        have f5 : rg 1 12 x3 := rg_w (rg_nle f3 fy2_3 c4).1 (th_leI rfl) (th_leI rfl)
        have f6 : rg 0 11 y2_3 := rg_w (rg_nle f3 fy2_3 c4).2 (th_leI rfl) (th_leI rfl)
        refine lv_aload_n hx hb dX5_refugeOf_13 rfl (lv_at hl 0 rfl) ?_
        refine th_get (ci := 4) (v := .ref q2) (T := TX5) (C := RX5) (N := 3) hx hb hts (fun w h => List.mem_cons_of_mem _ (List.mem_append_left _ (List.mem_append_left _ (List.mem_append_left _ (List.mem_append_left _ (List.mem_append_left _ (List.mem_append_left _ (List.mem_append_right _ h)))))))) hown hK hH t_h0 (th_nz rfl) rfl rfl 0 (th_ltN rfl) (hts (.fieldLink RX5 22 "BayMoorings$Flight" "bay" "LBayMoorings$Bay;") (List.mem_cons_of_mem _ (List.mem_append_left _ (List.mem_append_left _ (List.mem_append_left _ (List.mem_append_left _ (List.mem_append_left _ (List.mem_append_left _ (List.mem_append_left _ (List.mem_append_left _ (List.mem_of_getElem? (i := 0) rfl))))))))))) (fun _ h9 => h9) (th_fR r2 rfl) dX5_refugeOf_14 ?_
        refine lv_iload_n hx hb dX5_refugeOf_17 rfl (lv_at hl 3 rfl) ?_
        have hA8 := th_Asub (τ := τ) hS
        refine va_callq (va_runV (As := [.int y2_3]) (rest := []) ⟨hx, hb, hml, hown, hts⟩ (k_X0_buoyAt l D cA Z τ gi gr _ q2 t2 y2_3) (cwV 1 hts gX5_refugeOf_X0_buoyAt rfl rfl rfl hd_X0_buoyAt__1 ⟨Nat.le_of_ble_eq_true rfl, Nat.le_of_ble_eq_true rfl⟩) ⟨th_blind, th_recv hK hH t2 (ci := 0) (th_nz rfl) rfl rfl, (th_pre hH hK hN hZ hS hA8)⟩ rfl rfl hl.1 rfl (lv_room (Nat.le_of_ble_eq_true rfl)) dX5_refugeOf_18 ⟨Nat.le_of_ble_eq_true rfl, Nat.le_of_ble_eq_true rfl⟩) hS (fun q _ h => hA8 q h) hA8 (fun r9 u t H locs ht hvm hw9 hB hz1 hk1 hS => ?_)
        try dsimp only at hw9 hB
        rw [ht] at hB
        have hH := hB
        refine th_astoreq (i := 4) (lv' := [(4, va_rf r9), (0, .ref h0), (1, .ref h1), (2, .int p2), (3, .int y2_3)]) hx hb dX5_refugeOf_21 hl (th_ltN rfl) rfl (fun ls hl => ?_)
        refine th_aloadq hx hb dX5_refugeOf_23 (lv_at hl 0 rfl) ?_
        refine th_ifnull (tgt := 57) hx hb dX5_refugeOf_25 (th_eqI rfl) (fun z10 => ?_) (fun q10 z10 => ?_)
        · skip
          subst z10
          have hl : lv_has ls 5 [(4, .null), (0, .ref h0), (1, .ref h1), (2, .int p2), (3, .int y2_3)] := hl
          exact J57 _ _ _ hH hS (lv_sub hl [1, 2, 3, 4] rfl) f6 (hF.trans (by simp only [↓reduceIte, f_X5_refugeOf_2, r2, Option.getD_some, ← e3, eq_false c4, hw9.2, Option.elim_none]))
        · skip
          subst z10
          have t10 := hw9.1 q10 rfl
          have hl : lv_has ls 5 [(4, .ref q10), (0, .ref h0), (1, .ref h1), (2, .int p2), (3, .int y2_3)] := hl
          refine lv_aload hx hb dX5_refugeOf_28 (lv_at hl 0 rfl) ?_
          refine lv_aload_n hx hb dX5_refugeOf_30 rfl (lv_at hl 2 rfl) ?_
          refine lv_iload_n hx hb dX5_refugeOf_31 rfl (lv_at hl 3 rfl) ?_
          have hA11 := th_Asub (τ := τ) hS
          refine va_calli (va_runV (As := [.ref h1, .int p2]) (rest := []) ⟨hx, hb, hml, hown, hts⟩ (k_X3_holds l D cA Z τ gi gr _ q10 t10 h1 t_h1 p2) (cwV 2 hts gX5_refugeOf_X3_holds rfl rfl rfl hd_X3_holds__2 ⟨Nat.le_of_ble_eq_true rfl, Nat.le_of_ble_eq_true rfl⟩) ⟨th_blind, th_recv hK hH t10 (ci := 2) (th_nz rfl) rfl rfl, (th_pre hH hK hN hZ hS hA11)⟩ rfl rfl hl.1 rfl (lv_room (Nat.le_of_ble_eq_true rfl)) dX5_refugeOf_32 ⟨Nat.le_of_ble_eq_true rfl, Nat.le_of_ble_eq_true rfl⟩) hS (fun q _ h => hA11 q h) hA11 (fun x12 u t H locs ht hvm hw12 hB hz1 hk1 hS => ?_)
          try dsimp only at hw12 hB
          rw [ht] at hB
          have hH := hB
          refine lv_if_eq (tgt := 57) hx hb dX5_refugeOf_35 (th_eqI rfl) (fun c13 => ?_) (fun c13 => ?_)
          · skip
            have f14 : rg 0 0 x12 := rg_w (rg_eq hw12.1 rgc_0 c13).1 (th_leI rfl) (th_leI rfl)
            exact J57 _ _ _ hH hS (lv_sub hl [1, 2, 3, 4] rfl) f6 (hF.trans (by simp only [↓reduceIte, f_X5_refugeOf_2, r2, Option.getD_some, ← e3, eq_false c4, hw9.2, Option.elim_some, hw12.2, eq_true c13]))
          · skip
            have f15 : rg 1 1 x12 := rg_w (rg_neL hw12.1 rgc_0 c13) (th_leI rfl) (th_leI rfl)
            refine lv_aload_n hx hb dX5_refugeOf_38 rfl (lv_at hl 1 rfl) ?_
            refine th_get (ci := 4) (v := .ref q2) (T := TX5) (C := RX5) (N := 3) hx hb hts (fun w h => List.mem_cons_of_mem _ (List.mem_append_left _ (List.mem_append_left _ (List.mem_append_left _ (List.mem_append_left _ (List.mem_append_left _ (List.mem_append_left _ (List.mem_append_right _ h)))))))) hown hK hH t_h0 (th_nz rfl) rfl rfl 0 (th_ltN rfl) (hts (.fieldLink RX5 22 "BayMoorings$Flight" "bay" "LBayMoorings$Bay;") (List.mem_cons_of_mem _ (List.mem_append_left _ (List.mem_append_left _ (List.mem_append_left _ (List.mem_append_left _ (List.mem_append_left _ (List.mem_append_left _ (List.mem_append_left _ (List.mem_append_left _ (List.mem_of_getElem? (i := 0) rfl))))))))))) (fun _ h9 => h9) (th_fR r2 rfl) dX5_refugeOf_39 ?_
            refine lv_aload_n hx hb dX5_refugeOf_42 rfl (lv_at hl 2 rfl) ?_
            refine lv_aload hx hb dX5_refugeOf_43 (lv_at hl 0 rfl) ?_
            refine lv_aload_n hx hb dX5_refugeOf_45 rfl (lv_at hl 1 rfl) ?_
            obtain ⟨q17, r17, t17⟩ : ∃ q, gr h0 1 = some q ∧ τ q = 2 := (hH.at t_h0 (th_nz rfl)).2.2
            refine th_get (ci := 4) (v := .ref q17) (T := TX5) (C := RX5) (N := 3) hx hb hts (fun w h => List.mem_cons_of_mem _ (List.mem_append_left _ (List.mem_append_left _ (List.mem_append_left _ (List.mem_append_left _ (List.mem_append_left _ (List.mem_append_left _ (List.mem_append_right _ h)))))))) hown hK hH t_h0 (th_nz rfl) rfl rfl 1 (th_ltN rfl) (hts (.fieldLink RX5 12 "BayMoorings$Flight" "berths" "LBayMoorings$Berths;") (List.mem_cons_of_mem _ (List.mem_append_left _ (List.mem_append_left _ (List.mem_append_left _ (List.mem_append_left _ (List.mem_append_left _ (List.mem_append_left _ (List.mem_append_left _ (List.mem_append_left _ (List.mem_of_getElem? (i := 2) rfl))))))))))) (fun _ h9 => h9) (th_fR r17 rfl) dX5_refugeOf_46 ?_
            have hA18 := th_Asub (τ := τ) hS
            refine va_calli (va_runV (As := [.ref h1, .ref q10, .ref q17]) (rest := []) ⟨hx, hb, hml, hown, hts⟩ (k_X0_mayLie l D cA Z τ gi gr _ q2 t2 h1 t_h1 q10 t10 q17 t17) (cwV 3 hts gX5_refugeOf_X0_mayLie rfl rfl rfl hd_X0_mayLie__3 ⟨Nat.le_of_ble_eq_true rfl, Nat.le_of_ble_eq_true rfl⟩) ⟨th_blind, th_recv hK hH t2 (ci := 0) (th_nz rfl) rfl rfl, (th_pre hH hK hN hZ hS hA18)⟩ rfl rfl hl.1 rfl (lv_room (Nat.le_of_ble_eq_true rfl)) dX5_refugeOf_49 ⟨Nat.le_of_ble_eq_true rfl, Nat.le_of_ble_eq_true rfl⟩) hS (fun q _ h => hA18 q h) hA18 (fun x19 u t H locs ht hvm hw19 hB hz1 hk1 hS => ?_)
            try dsimp only at hw19 hB
            rw [ht] at hB
            have hH := hB
            refine lv_if_eq (tgt := 57) hx hb dX5_refugeOf_52 (th_eqI rfl) (fun c20 => ?_) (fun c20 => ?_)
            · skip
              have f21 : rg 0 0 x19 := rg_w (rg_eq hw19.1 rgc_0 c20).1 (th_leI rfl) (th_leI rfl)
              exact J57 _ _ _ hH hS (lv_sub hl [1, 2, 3, 4] rfl) f6 (hF.trans (by simp only [↓reduceIte, f_X5_refugeOf_2, r2, Option.getD_some, ← e3, eq_false c4, hw9.2, Option.elim_some, hw12.2, eq_false c13, r17, hw19.2, eq_true c20]))
            · skip
              have f22 : rg 1 1 x19 := rg_w (rg_neL hw19.1 rgc_0 c20) (th_leI rfl) (th_leI rfl)
              refine lv_iload_n hx hb dX5_refugeOf_55 rfl (lv_at hl 4 rfl) ?_
              exact W.iret (v := y2_3) hx hb hr (fun t ht hW => ⟨⟨y2_3, (), rfl, (hF.trans (by simp only [↓reduceIte, f_X5_refugeOf_2, r2, Option.getD_some, ← e3, eq_false c4, hw9.2, Option.elim_some, hw12.2, eq_false c13, r17, hw19.2, eq_false c20])), th_Ht ht hH⟩, hS.F ht⟩) hS.2.2 dX5_refugeOf_56
  have hS : va_S (th_A τ s.heap.size) s.heap s.heap [] := va_S.rf
  have hl := lv_entry ([.ref h0, .ref h1, .int p2]) (n := 5) (Nat.le_of_ble_eq_true rfl)
  rw [lg_entry_eq]
  generalize (lg_sl ([.ref h0, .ref h1, .int p2]) ++ List.replicate (5 - (lg_sl ([.ref h0, .ref h1, .int p2])).length) Slot.unset).toArray = ls at hl ⊢
  have hl : lv_has ls 5 [(0, .ref h0), (1, .ref h1), (2, .int p2)] := hl
  have hF : F_X5_refugeOf τ Z gi gr h0 h1 p2 = F_X5_refugeOf τ Z gi gr h0 h1 p2 := rfl
  refine lv_iconst (v := 0) hx hb dX5_refugeOf_0 ic_0 ?_
  refine lv_istore_n (i := 3) (lv' := [(3, .int 0), (0, .ref h0), (1, .ref h1), (2, .int p2)]) hx hb dX5_refugeOf_1 rfl hl (th_ltN rfl) rfl (fun ls hl => ?_)
  exact J2 _ _ _ _ 0 (Nat.lt_add_one _) hH hS (lv_sub hl [1, 2, 3, 0] rfl) (rg_w rgc_0 (th_leI rfl) (th_leI rfl)) (hF.trans (by simp only [F_X5_refugeOf]))
