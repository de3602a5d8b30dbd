noncomputable def f_X12_pointed_62 (τ : th_t) (Z : th_Zt) (gi : th_i) (gr : th_r) (h0 : Nat) (p1 : Int32) (y2_2 : Int32) (k_2 : Int32 → Int32) : Int32 :=
  let x1 : Int32 := y2_2 + 1
  k_2 x1
noncomputable def f_X12_pointed_2 (τ : th_t) (Z : th_Zt) (gi : th_i) (gr : th_r) (h0 : Nat) (p1 : Int32) : Nat → Int32 → Int32
  | 0, y2_2 => 0
  | n2 + 1, y2_2 =>
    let q2 : Nat := (gr h0 21).getD 0
    let x3 : Int32 := gi q2 p1.toNatClampNeg
    if x3 ≤ y2_2 then (
      p1) else (
      let q7 : Nat := (gr h0 22).getD 0
      let x8 : Int32 := 4 * p1
      let x9 : Int32 := x8 + y2_2
      let x10 : Int32 := gi q7 x9.toNatClampNeg
      let q11 : Nat := (gr h0 7).getD 0
      let x12 : Int32 := gi q11 x10.toNatClampNeg
      if x12 < (0 : Int32) then (
        f_X12_pointed_62 τ Z gi gr h0 p1 y2_2 (f_X12_pointed_2 τ Z gi gr h0 p1 n2) ) else (
        let q16 : Nat := (gr h0 35).getD 0
        let x19 : Int32 := gi q16 x12.toNatClampNeg
        if x19 = (0 : Int32) then (
          let x24 : Int32 := F_X12_canFit τ Z gi gr h0 p1 x10
          if x24 = (0 : Int32) then (
            f_X12_pointed_62 τ Z gi gr h0 p1 y2_2 (f_X12_pointed_2 τ Z gi gr h0 p1 n2) ) else (
            x12)) else (
          f_X12_pointed_62 τ Z gi gr h0 p1 y2_2 (f_X12_pointed_2 τ Z gi gr h0 p1 n2) )))
noncomputable def F_X12_pointed (τ : th_t) (Z : th_Zt) (gi : th_i) (gr : th_r) (h0 : Nat) (p1 : Int32) : Int32 :=
  f_X12_pointed_2 τ Z gi gr h0 p1 ((4 - (0 : Int32).toInt).toNat + 1) 0
set_option maxHeartbeats 8000000 in
set_option maxRecDepth 100000 in
theorem k_X12_pointed (l : Launch) (D : va_G) (cA : Nat → ClassId) (Z : th_Zt) (τ : th_t) (gi : th_i) (gr : th_r) (sz : Nat) (h0 : Nat) (t_h0 : τ h0 = 12) (p1 : Int32) (f_p1 : rg 0 15 p1) : Met l yX12_pointed wsX12_pointed ({ frames := 1, cells := 0, slots := 0, locals := 25 }) (va_Pc [.ref h0, .int p1] (th_Pre D cA Z τ gi gr sz)) (va_Qi (fun (r : Int32) (_ : Unit) => rg 0 15 r ∧ (F_X12_pointed τ Z gi gr h0 p1 = r) ∧ (pt_post (fr_R τ gi gr h0) p1 r)) (fun (_ : Unit) t => th_H D cA τ gi gr t.heap) (th_A τ sz)) 0 0 (th_A τ sz) := by
  refine Met.ofW (cc := cX12_pointed) (maxL := 4) (ret := (some .int)) (by decide) rfl ?_
  intro p e s m args below meth c s₁ B hml hv
  obtain ⟨rfl, hsz, hH, hK, hN, hZ⟩ := hv
  have hx := B.exec
  have hb := B.bytes
  have hr := B.returns
  have hts := atoms_spec (ws := wsX12_pointed) B.pre
  have hown : s.vm.findClass RX12 = some m.cls := findClass_of_methodNamed B.named
  have hlocks := B.notSynchronized
  subst hsz
  have J2 : ∀ (n2 : Nat) (H : Heap) (locs : List Loc) (ls : Array Slot) (y2_2 : Int32), (4 - y2_2.toInt).toNat < n2 → th_H D cA τ gi gr H → va_S (th_A τ s.heap.size) s.heap H locs → lv_has ls 4 [(0, .ref h0), (1, .int p1), (2, .int y2_2)] → rg 0 15 p1 → rg 0 4 y2_2 → (pt_no (fr_R τ gi gr h0) p1 y2_2.toInt) → F_X12_pointed τ Z gi gr h0 p1 = f_X12_pointed_2 τ Z gi gr h0 p1 n2 y2_2 → W p l e (headSpec wsX12_pointed ({ frames := 1, cells := 0, slots := 0, locals := 25 })).room s m [.ref h0, .int p1].toArray below meth c H locs 0 0 (MQ below (va_Qi (fun (r : Int32) (_ : Unit) => rg 0 15 r ∧ (F_X12_pointed τ Z gi gr h0 p1 = r) ∧ (pt_post (fr_R τ gi gr h0) p1 r)) (fun (_ : Unit) t => th_H D cA τ gi gr t.heap) (th_A τ s.heap.size)) [.ref h0, .int p1].toArray s 0 0 (th_A τ s.heap.size)) (F0 m 2 ls []) := by
    intro n2
    induction n2 with
    | zero =>
      intro H locs ls y2_2 hn
      exact absurd hn (Nat.not_lt_zero _)
    | succ n2 ih2 =>
      intro H locs ls y2_2 hn2 hH hS hl fy2_1 fy2_2 ipn hF
      have J62 : ∀ (H : Heap) (locs : List Loc) (ls : Array Slot), th_H D cA τ gi gr H → va_S (th_A τ s.heap.size) s.heap H locs → lv_has ls 4 [(0, .ref h0), (1, .int p1), (2, .int y2_2)] → rg 0 15 p1 → rg 0 3 y2_2 → (¬ pt_hit (fr_R τ gi gr h0) p1 y2_2) → F_X12_pointed τ Z gi gr h0 p1 = f_X12_pointed_62 τ Z gi gr h0 p1 y2_2 (f_X12_pointed_2 τ Z gi gr h0 p1 n2) → W p l e (headSpec wsX12_pointed ({ frames := 1, cells := 0, slots := 0, locals := 25 })).room s m [.ref h0, .int p1].toArray below meth c H locs 0 0 (MQ below (va_Qi (fun (r : Int32) (_ : Unit) => rg 0 15 r ∧ (F_X12_pointed τ Z gi gr h0 p1 = r) ∧ (pt_post (fr_R τ gi gr h0) p1 r)) (fun (_ : Unit) t => th_H D cA τ gi gr t.heap) (th_A τ s.heap.size)) [.ref h0, .int p1].toArray s 0 0 (th_A τ s.heap.size)) (F0 m 62 ls []) := by
        intro H locs ls hH hS hl fy62_1 fy62_2 iph hF
        obtain ⟨x1, e1⟩ : ∃ y : Int32, y = y2_2 + 1 := ⟨_, rfl⟩
        have f1 : rg 1 4 x1 := rg_e e1 (rg_w (rg_add fy62_2 rgc_1 (th_leI rfl) (th_leI rfl)) (th_leI rfl) (th_leI rfl))
        refine lv_iinc (v := x1) (lv' := [(2, .int x1), (0, .ref h0), (1, .int p1)]) hx hb dX12_pointed_62 hl (k := 2) rfl (by rw [e1]; rfl) (th_ltN rfl) rfl (fun ls hl => ?_)
        refine lv_goto (tgt := 2) hx hb dX12_pointed_65 (th_eqI rfl) ?_
        exact ih2 _ _ _ x1 (th_up (rg_dA e1 fy62_2 rgc_1 (th_leI rfl) (th_leI rfl)) fy62_2 hn2 (th_ltI rfl)) hH hS (lv_sub hl [1, 2, 0] rfl) fy62_1 (rg_w f1 (th_leI rfl) (th_leI rfl)) (pt_s ipn iph (rg_dA e1 fy62_2 rgc_1 (th_leI rfl) (th_leI rfl))) (hF.trans (by simp only [f_X12_pointed_62, ← e1]))
      refine lv_iload_n hx hb dX12_pointed_2 rfl (lv_at hl 2 rfl) ?_
      refine lv_aload_n hx hb dX12_pointed_3 rfl (lv_at hl 0 rfl) ?_
      obtain ⟨q2, r2, t2⟩ : ∃ q, gr h0 21 = some q ∧ τ q = 56 := (thI_12 hH t_h0).2.2.2.2.2.2.2.2.2.2.2.2.2.2.2.2.2.2.2.1
      refine th_get (ci := 11) (v := .ref q2) (T := TX12) (C := RX12) (N := 38) hx hb hts (fun w h => List.mem_cons_of_mem _ (List.mem_append_right _ h)) hown hK hH t_h0 (th_nz rfl) (thE_12 _ _ _) rfl 21 (th_ltN rfl) (hts (.fieldLink RX12 65 "BayMooringsModel" "rathers" "[I") (List.mem_cons_of_mem _ (List.mem_append_left _ (List.mem_of_getElem? (i := 0) rfl)))) (fun _ h9 => h9) (th_fR r2 rfl) dX12_pointed_4 ?_
      refine lv_iload_n hx hb dX12_pointed_7 rfl (lv_at hl 1 rfl) ?_
      refine th_iald hx hb hK hH t2 (th_nz rfl) 0 (thE_56 _ _ _) rfl (rg_in (n := 16) fy2_1 (th_leI rfl) (th_ltI rfl)) dX12_pointed_8 ?_
      refine lv_topi (fun x3 e3 => ?_)
      have f3 : rg 0 4 x3 := rg_e e3 ((thI_56 hH t2) _ (rg_cl (n := 16) fy2_1 (th_leI rfl) (th_ltI rfl)))
      refine lv_icmp_ge (tgt := 68) hx hb dX12_pointed_9 (th_eqI rfl) (fun c4 => ?_) (fun c4 => ?_)
      · skip
        refine lv_iload_n hx hb dX12_pointed_68 rfl (lv_at hl 1 rfl) ?_
        exact W.iret (v := p1) hx hb hr (fun t ht hW => ⟨⟨p1, (), rfl, ⟨fy2_1, (hF.trans (by simp only [↓reduceIte, f_X12_pointed_2, r2, Option.getD_some, ← e3, eq_true c4])), (pt_r2 ipn (fr_at r2 t2 (by decide) e3) c4)⟩, th_Ht ht hH⟩, hS.F ht⟩) hS.2.2 dX12_pointed_69
      · skip
        have f5 : rg 1 4 x3 := rg_w (rg_nle f3 fy2_2 c4).1 (th_leI rfl) (th_leI rfl)
        have f6 : rg 0 3 y2_2 := rg_w (rg_nle f3 fy2_2 c4).2 (th_leI rfl) (th_leI rfl)
        refine lv_aload_n hx hb dX12_pointed_12 rfl (lv_at hl 0 rfl) ?_
        obtain ⟨q7, r7, t7⟩ : ∃ q, gr h0 22 = some q ∧ τ q = 57 := (thI_12 hH t_h0).2.2.2.2.2.2.2.2.2.2.2.2.2.2.2.2.2.2.2.2.1
        refine th_get (ci := 11) (v := .ref q7) (T := TX12) (C := RX12) (N := 38) hx hb hts (fun w h => List.mem_cons_of_mem _ (List.mem_append_right _ h)) hown hK hH t_h0 (th_nz rfl) (thE_12 _ _ _) rfl 22 (th_ltN rfl) (hts (.fieldLink RX12 68 "BayMooringsModel" "rather" "[I") (List.mem_cons_of_mem _ (List.mem_append_left _ (List.mem_of_getElem? (i := 1) rfl)))) (fun _ h9 => h9) (th_fR r7 rfl) dX12_pointed_13 ?_
        refine lv_iconst (v := 4) hx hb dX12_pointed_16 ic_4 ?_
        refine lv_iload_n hx hb dX12_pointed_17 rfl (lv_at hl 1 rfl) ?_
        refine lv_imul hx hb dX12_pointed_18 ?_
        refine lv_topi (fun x8 e8 => ?_)
        have f8 : rg 0 60 x8 := rg_e e8 (rg_w (rg_mul rgc_4 fy2_1 (th_leI rfl) (th_leI rfl) (th_leI rfl)) (th_leI rfl) (th_leI rfl))
        refine lv_iload_n hx hb dX12_pointed_19 rfl (lv_at hl 2 rfl) ?_
        refine lv_iadd hx hb dX12_pointed_20 ?_
        refine lv_topi (fun x9 e9 => ?_)
        have f9 : rg 0 63 x9 := rg_e e9 (rg_w (rg_add f8 f6 (th_leI rfl) (th_leI rfl)) (th_leI rfl) (th_leI rfl))
        refine th_iald hx hb hK hH t7 (th_nz rfl) 0 (thE_57 _ _ _) rfl (rg_in (n := 64) f9 (th_leI rfl) (th_ltI rfl)) dX12_pointed_21 ?_
        refine lv_topi (fun x10 e10 => ?_)
        have f10 : rg 0 11 x10 := rg_e e10 ((thI_57 hH t7) _ (rg_cl (n := 64) f9 (th_leI rfl) (th_ltI rfl)))
        refine lv_istore_n (i := 3) (lv' := [(3, .int x10), (0, .ref h0), (1, .int p1), (2, .int y2_2)]) hx hb dX12_pointed_22 rfl hl (th_ltN rfl) rfl (fun ls hl => ?_)
        refine lv_aload_n hx hb dX12_pointed_23 rfl (lv_at hl 1 rfl) ?_
        obtain ⟨q11, r11, t11⟩ : ∃ q, gr h0 7 = some q ∧ τ q = 46 := (thI_12 hH t_h0).2.2.2.2.2.2.2.1
        refine th_get (ci := 11) (v := .ref q11) (T := TX12) (C := RX12) (N := 38) hx hb hts (fun w h => List.mem_cons_of_mem _ (List.mem_append_right _ h)) hown hK hH t_h0 (th_nz rfl) (thE_12 _ _ _) rfl 7 (th_ltN rfl) (hts (.fieldLink RX12 28 "BayMooringsModel" "boatAt" "[I") (List.mem_cons_of_mem _ (List.mem_append_left _ (List.mem_of_getElem? (i := 2) rfl)))) (fun _ h9 => h9) (th_fR r11 rfl) dX12_pointed_24 ?_
        refine lv_iload_n hx hb dX12_pointed_27 rfl (lv_at hl 0 rfl) ?_
        refine th_iald hx hb hK hH t11 (th_nz rfl) 0 (thE_46 _ _ _) rfl (rg_in (n := 12) f10 (th_leI rfl) (th_ltI rfl)) dX12_pointed_28 ?_
        refine lv_topi (fun x12 e12 => ?_)
        have f12 : rg (-1) 15 x12 := rg_e e12 ((thI_46 hH t11) _ (rg_cl (n := 12) f10 (th_leI rfl) (th_ltI rfl)))
        refine lv_if_lt (tgt := 62) hx hb dX12_pointed_29 (th_eqI rfl) (fun c13 => ?_) (fun c13 => ?_)
        · skip
          have f14 : rg (-1) (-1) x12 := rg_w (rg_lt f12 rgc_0 c13).1 (th_leI rfl) (th_leI rfl)
          exact J62 _ _ _ hH hS (lv_sub hl [1, 2, 3] rfl) fy2_1 f6 (pt_n1 (pt_px e8 e9 (fr_at r7 t7 (by decide) e10)) (fr_at r11 t11 (by decide) e12) c13) (hF.trans (by simp only [↓reduceIte, f_X12_pointed_2, r2, Option.getD_some, ← e3, eq_false c4, r7, ← e8, ← e9, ← e10, r11, ← e12, eq_true c13]))
        · skip
          have f15 : rg 0 15 x12 := rg_w (rg_nlt f12 rgc_0 c13).1 (th_leI rfl) (th_leI rfl)
          refine lv_aload_n hx hb dX12_pointed_32 rfl (lv_at hl 1 rfl) ?_
          obtain ⟨q16, r16, t16⟩ : ∃ q, gr h0 35 = some q ∧ τ q = 66 := (thI_12 hH t_h0).2.2.2.2.2.2.2.2.2.2.2.2.2.2.2.2.2.2.2.2.2.2.2.2.2.2.2.2.2.2.2.1
          refine th_get (ci := 11) (v := .ref q16) (T := TX12) (C := RX12) (N := 38) hx hb hts (fun w h => List.mem_cons_of_mem _ (List.mem_append_right _ h)) hown hK hH t_h0 (th_nz rfl) (thE_12 _ _ _) rfl 35 (th_ltN rfl) (hts (.fieldLink RX12 98 "BayMooringsModel" "inRing" "[Z") (List.mem_cons_of_mem _ (List.mem_append_left _ (List.mem_of_getElem? (i := 3) rfl)))) (fun _ h9 => h9) (th_fR r16 rfl) dX12_pointed_33 ?_
          refine lv_aload_n hx hb dX12_pointed_36 rfl (lv_at hl 1 rfl) ?_
          refine th_get (ci := 11) (v := .ref q11) (T := TX12) (C := RX12) (N := 38) hx hb hts (fun w h => List.mem_cons_of_mem _ (List.mem_append_right _ h)) hown hK hH t_h0 (th_nz rfl) (thE_12 _ _ _) rfl 7 (th_ltN rfl) (hts (.fieldLink RX12 28 "BayMooringsModel" "boatAt" "[I") (List.mem_cons_of_mem _ (List.mem_append_left _ (List.mem_of_getElem? (i := 2) rfl)))) (fun _ h9 => h9) (th_fR r11 rfl) dX12_pointed_37 ?_
          refine lv_iload_n hx hb dX12_pointed_40 rfl (lv_at hl 0 rfl) ?_
          refine th_iald hx hb hK hH t11 (th_nz rfl) 0 (thE_46 _ _ _) rfl (rg_in (n := 12) f10 (th_leI rfl) (th_ltI rfl)) dX12_pointed_41 ?_
          rw [← e12]
          refine th_zald hx hb hK hH t16 (th_nz rfl) 1 (thE_66 _ _ _) rfl (rg_in (n := 16) f15 (th_leI rfl) (th_ltI rfl)) dX12_pointed_42 ?_
          refine lv_topi (fun x19 e19 => ?_)
          have f19 : rg 0 1 x19 := rg_e e19 ((thI_66 hH t16) _ (rg_cl (n := 16) f15 (th_leI rfl) (th_ltI rfl)))
          refine lv_if_ne (tgt := 62) hx hb dX12_pointed_43 (th_eqI rfl) (fun c20 => ?_) (fun c20 => ?_)
          · skip
            have f21 : rg 1 1 x19 := rg_w (rg_neL f19 rgc_0 c20) (th_leI rfl) (th_leI rfl)
            exact J62 _ _ _ hH hS (lv_sub hl [1, 2, 3] rfl) fy2_1 f6 (pt_n2 (pt_px e8 e9 (fr_at r7 t7 (by decide) e10)) (fr_at r11 t11 (by decide) e12) (fr_at r16 t16 (by decide) e19) c20) (hF.trans (by simp only [↓reduceIte, f_X12_pointed_2, r2, Option.getD_some, ← e3, eq_false c4, r7, ← e8, ← e9, ← e10, r11, ← e12, eq_false c13, r16, ← e19, eq_false c20]))
          · skip
            have f22 : rg 0 0 x19 := rg_w (rg_eq f19 rgc_0 c20).1 (th_leI rfl) (th_leI rfl)
            refine lv_aload_n hx hb dX12_pointed_46 rfl (lv_at hl 1 rfl) ?_
            refine lv_iload_n hx hb dX12_pointed_47 rfl (lv_at hl 2 rfl) ?_
            refine lv_iload_n hx hb dX12_pointed_48 rfl (lv_at hl 0 rfl) ?_
            have hA23 := th_Asub (τ := τ) hS
            refine va_calli (va_runV (As := [.int p1, .int x10]) (rest := []) ⟨hx, hb, hml, hown, hts⟩ (k_X12_canFit l D cA Z τ gi gr _ h0 t_h0 p1 fy2_1 x10 f10) (cwV 2 hts gX12_pointed_X12_canFit rfl rfl rfl hd_X12_canFit__2 ⟨Nat.le_of_ble_eq_true rfl, Nat.le_of_ble_eq_true rfl⟩) ⟨th_blind, tr_12 hK hH t_h0, (th_pre hH hK hN hZ hS hA23)⟩ rfl rfl hl.1 rfl (lv_room (Nat.le_of_ble_eq_true rfl)) dX12_pointed_49 ⟨Nat.le_of_ble_eq_true rfl, Nat.le_of_ble_eq_true rfl⟩) hS (fun q _ h => hA23 q h) hA23 (fun x24 u t H locs ht hvm hw24 hB hz1 hk1 hS => ?_)
            try dsimp only at hw24 hB
            rw [ht] at hB
            have hH := hB
            refine lv_if_eq (tgt := 62) hx hb dX12_pointed_52 (th_eqI rfl) (fun c25 => ?_) (fun c25 => ?_)
            · skip
              have f26 : rg 0 0 x24 := rg_w (rg_eq hw24.1 rgc_0 c25).1 (th_leI rfl) (th_leI rfl)
              exact J62 _ _ _ hH hS (lv_sub hl [1, 2, 3] rfl) fy2_1 f6 (pt_n3 (pt_px e8 e9 (fr_at r7 t7 (by decide) e10)) hw24.2.2 c25) (hF.trans (by simp only [↓reduceIte, f_X12_pointed_2, r2, Option.getD_some, ← e3, eq_false c4, r7, ← e8, ← e9, ← e10, r11, ← e12, eq_false c13, r16, ← e19, eq_true c20, hw24.2.1, eq_true c25]))
            · skip
              have f27 : rg 1 1 x24 := rg_w (rg_neL hw24.1 rgc_0 c25) (th_leI rfl) (th_leI rfl)
              refine lv_aload_n hx hb dX12_pointed_55 rfl (lv_at hl 1 rfl) ?_
              refine th_get (ci := 11) (v := .ref q11) (T := TX12) (C := RX12) (N := 38) hx hb hts (fun w h => List.mem_cons_of_mem _ (List.mem_append_right _ h)) hown hK hH t_h0 (th_nz rfl) (thE_12 _ _ _) rfl 7 (th_ltN rfl) (hts (.fieldLink RX12 28 "BayMooringsModel" "boatAt" "[I") (List.mem_cons_of_mem _ (List.mem_append_left _ (List.mem_of_getElem? (i := 2) rfl)))) (fun _ h9 => h9) (th_fR r11 rfl) dX12_pointed_56 ?_
              refine lv_iload_n hx hb dX12_pointed_59 rfl (lv_at hl 0 rfl) ?_
              refine th_iald hx hb hK hH t11 (th_nz rfl) 0 (thE_46 _ _ _) rfl (rg_in (n := 12) f10 (th_leI rfl) (th_ltI rfl)) dX12_pointed_60 ?_
              rw [← e12]
              exact W.iret (v := x12) hx hb hr (fun t ht hW => ⟨⟨x12, (), rfl, ⟨f15, (hF.trans (by simp only [↓reduceIte, f_X12_pointed_2, r2, Option.getD_some, ← e3, eq_false c4, r7, ← e8, ← e9, ← e10, r11, ← e12, eq_false c13, r16, ← e19, eq_true c20, hw24.2.1, eq_false c25])), (pt_r1 ipn f6 (by decide) (fr_at r2 t2 (by decide) e3) c4 (pt_px e8 e9 (fr_at r7 t7 (by decide) e10)) (fr_at r11 t11 (by decide) e12) c13 (fr_at r16 t16 (by decide) e19) c20 hw24.2.2 c25)⟩, th_Ht ht hH⟩, hS.F ht⟩) hS.2.2 dX12_pointed_61
  have hS : va_S (th_A τ s.heap.size) s.heap s.heap [] := va_S.rf
  have hl := lv_entry ([.ref h0, .int p1]) (n := 4) (Nat.le_of_ble_eq_true rfl)
  rw [lg_entry_eq]
  generalize (lg_sl ([.ref h0, .int p1]) ++ List.replicate (4 - (lg_sl ([.ref h0, .int p1])).length) Slot.unset).toArray = ls at hl ⊢
  have hl : lv_has ls 4 [(0, .ref h0), (1, .int p1)] := hl
  have hF : F_X12_pointed τ Z gi gr h0 p1 = F_X12_pointed τ Z gi gr h0 p1 := rfl
  refine lv_iconst (v := 0) hx hb dX12_pointed_0 ic_0 ?_
  refine lv_istore_n (i := 2) (lv' := [(2, .int 0), (0, .ref h0), (1, .int p1)]) hx hb dX12_pointed_1 rfl hl (th_ltN rfl) rfl (fun ls hl => ?_)
  exact J2 _ _ _ _ 0 (Nat.lt_add_one _) hH hS (lv_sub hl [1, 2, 0] rfl) f_p1 (rg_w rgc_0 (th_leI rfl) (th_leI rfl)) pt_0 (hF.trans (by simp only [F_X12_pointed]))

noncomputable def f_X12_isRound_33 (τ : th_t) (Z : th_Zt) (gi : th_i) (gr : th_r) (h0 : Nat) (p1 : Int32) (y33_2 : Int32) : Int32 :=
  let w33_0 : Int32 := gi h0 8
  if y33_2 = p1 then (
    1) else (
    0)
noncomputable def f_X12_isRound_8 (τ : th_t) (Z : th_Zt) (gi : th_i) (gr : th_r) (h0 : Nat) (p1 : Int32) : Nat → Int32 → Int32 → Int32
  | 0, y8_2, y8_3 => 0
  | n8 + 1, y8_2, y8_3 =>
    let x2 : Int32 := gi h0 8
    if x2 ≤ y8_3 then (
      f_X12_isRound_33 τ Z gi gr h0 p1 y8_2) else (
      if y8_2 = p1 then (
        f_X12_isRound_33 τ Z gi gr h0 p1 y8_2) else (
        let x8 : Int32 := F_X12_pointed τ Z gi gr h0 y8_2
        let x9 : Int32 := y8_3 + 1
        (f_X12_isRound_8 τ Z gi gr h0 p1 n8) x8 x9))
noncomputable def F_X12_isRound (τ : th_t) (Z : th_Zt) (gi : th_i) (gr : th_r) (h0 : Nat) (p1 : Int32) : Int32 :=
  let x11 : Int32 := F_X12_pointed τ Z gi gr h0 p1
  f_X12_isRound_8 τ Z gi gr h0 p1 ((16 - (0 : Int32).toInt).toNat + 1) x11 0
set_option maxHeartbeats 8000000 in
set_option maxRecDepth 100000 in
theorem k_X12_isRound (l : Launch) (D : va_G) (cA : Nat → ClassId) (Z : th_Zt) (τ : th_t) (gi : th_i) (gr : th_r) (sz : Nat) (h0 : Nat) (t_h0 : τ h0 = 12) (p1 : Int32) (f_p1 : rg 0 15 p1) : Met l yX12_isRound wsX12_isRound ({ frames := 2, cells := 0, slots := 0, locals := 48 }) (va_Pc [.ref h0, .int p1] (th_Pre D cA Z τ gi gr sz)) (va_Qi (fun (r : Int32) (_ : Unit) => rg 0 1 r ∧ (F_X12_isRound τ Z gi gr h0 p1 = r) ∧ (¬ r = 0 → fr_rnd (fr_R τ gi gr h0) p1)) (fun (_ : Unit) t => th_H D cA τ gi gr t.heap) (th_A τ sz)) 0 0 (th_A τ sz) := by
  refine Met.ofW (cc := cX12_isRound) (maxL := 4) (ret := (some .boolean)) (by decide) rfl ?_
  intro p e s m args below meth c s₁ B hml hv
  obtain ⟨rfl, hsz, hH, hK, hN, hZ⟩ := hv
  have hx := B.exec
  have hb := B.bytes
  have hr := B.returns
  have hts := atoms_spec (ws := wsX12_isRound) B.pre
  have hown : s.vm.findClass RX12 = some m.cls := findClass_of_methodNamed B.named
  have hlocks := B.notSynchronized
  subst hsz
  have J33 : ∀ (H : Heap) (locs : List Loc) (ls : Array Slot) (y33_2 : Int32) (w33_0 : Int32), th_H D cA τ gi gr H → va_S (th_A τ s.heap.size) s.heap H locs → lv_has ls 4 [(1, .int p1), (2, .int y33_2)] → rg 0 15 p1 → rg 0 15 y33_2 → w33_0 = gi h0 8 → rg 0 16 w33_0 → (fr_x (fr_R τ gi gr h0) p1 y33_2) → F_X12_isRound τ Z gi gr h0 p1 = f_X12_isRound_33 τ Z gi gr h0 p1 y33_2 → W p l e (headSpec wsX12_isRound ({ frames := 2, cells := 0, slots := 0, locals := 48 })).room s m [.ref h0, .int p1].toArray below meth c H locs 0 0 (MQ below (va_Qi (fun (r : Int32) (_ : Unit) => rg 0 1 r ∧ (F_X12_isRound τ Z gi gr h0 p1 = r) ∧ (¬ r = 0 → fr_rnd (fr_R τ gi gr h0) p1)) (fun (_ : Unit) t => th_H D cA τ gi gr t.heap) (th_A τ s.heap.size)) [.ref h0, .int p1].toArray s 0 0 (th_A τ s.heap.size)) (F0 m 33 ls []) := by
    intro H locs ls y33_2 w33_0 hH hS hl fy33_1 fy33_2 ew33_0 fw33_0 iw33 hF
    refine lv_iload_n hx hb dX12_isRound_33 rfl (lv_at hl 1 rfl) ?_
    refine lv_iload_n hx hb dX12_isRound_34 rfl (lv_at hl 0 rfl) ?_
    refine lv_icmp_ne (tgt := 42) hx hb dX12_isRound_35 (th_eqI rfl) (fun c1 => ?_) (fun c1 => ?_)
    · skip
      refine lv_iconst (v := 0) hx hb dX12_isRound_42 ic_0 ?_
      exact W.zret (v := 0) hx hb hr (rg_nb (rg_w rgc_0 (th_leI rfl) (th_leI rfl))) (fun t ht hW => ⟨⟨0, (), rfl, ⟨(rg_w rgc_0 (th_leI rfl) (th_leI rfl)), (hF.trans (by simp only [↓reduceIte, f_X12_isRound_33, ← ew33_0, eq_false c1])), (fun h9 => absurd rfl h9)⟩, th_Ht ht hH⟩, hS.F ht⟩) hS.2.2 dX12_isRound_43
    · skip
      refine lv_iconst (v := 1) hx hb dX12_isRound_38 ic_1 ?_
      refine lv_goto (tgt := 43) hx hb dX12_isRound_39 (th_eqI rfl) ?_
      exact W.zret (v := 1) hx hb hr (rg_nb (rg_w rgc_1 (th_leI rfl) (th_leI rfl))) (fun t ht hW => ⟨⟨1, (), rfl, ⟨(rg_w rgc_1 (th_leI rfl) (th_leI rfl)), (hF.trans (by simp only [↓reduceIte, f_X12_isRound_33, ← ew33_0, eq_true c1])), (fun _ => fr_wr iw33 c1)⟩, th_Ht ht hH⟩, hS.F ht⟩) hS.2.2 dX12_isRound_43
  have J8 : ∀ (n8 : Nat) (H : Heap) (locs : List Loc) (ls : Array Slot) (y8_2 : Int32) (y8_3 : Int32), (16 - y8_3.toInt).toNat < n8 → th_H D cA τ gi gr H → va_S (th_A τ s.heap.size) s.heap H locs → lv_has ls 4 [(0, .ref h0), (1, .int p1), (2, .int y8_2), (3, .int y8_3)] → rg 0 15 p1 → rg 0 15 y8_2 → rg 0 16 y8_3 → (fr_w (fr_R τ gi gr h0) p1 y8_2 y8_3.toInt.toNat) → F_X12_isRound τ Z gi gr h0 p1 = f_X12_isRound_8 τ Z gi gr h0 p1 n8 y8_2 y8_3 → W p l e (headSpec wsX12_isRound ({ frames := 2, cells := 0, slots := 0, locals := 48 })).room s m [.ref h0, .int p1].toArray below meth c H locs 0 0 (MQ below (va_Qi (fun (r : Int32) (_ : Unit) => rg 0 1 r ∧ (F_X12_isRound τ Z gi gr h0 p1 = r) ∧ (¬ r = 0 → fr_rnd (fr_R τ gi gr h0) p1)) (fun (_ : Unit) t => th_H D cA τ gi gr t.heap) (th_A τ s.heap.size)) [.ref h0, .int p1].toArray s 0 0 (th_A τ s.heap.size)) (F0 m 8 ls []) := by
    intro n8
    induction n8 with
    | zero =>
      intro H locs ls y8_2 y8_3 hn
      exact absurd hn (Nat.not_lt_zero _)
    | succ n8 ih8 =>
      intro H locs ls y8_2 y8_3 hn8 hH hS hl fy8_1 fy8_2 fy8_3 iw8 hF
      refine lv_iload_n hx hb dX12_isRound_8 rfl (lv_at hl 3 rfl) ?_
      refine lv_aload_n hx hb dX12_isRound_9 rfl (lv_at hl 0 rfl) ?_
      obtain ⟨x2, e2⟩ : ∃ y : Int32, y = gi h0 8 := ⟨_, rfl⟩
      refine th_get (ci := 11) (v := .int x2) (T := TX12) (C := RX12) (N := 38) hx hb hts (fun w h => List.mem_cons_of_mem _ (List.mem_append_right _ h)) hown hK hH t_h0 (th_nz rfl) (thE_12 _ _ _) rfl 8 (th_ltN rfl) (hts (.fieldLink RX12 116 "BayMooringsModel" "boats" "I") (List.mem_cons_of_mem _ (List.mem_append_left _ (List.mem_of_getElem? (i := 0) rfl)))) (fun _ h9 => h9) (th_fI e2 rfl) dX12_isRound_10 ?_
      have f2 : rg 0 16 x2 := rg_e e2 ((thI_12 hH t_h0).2.2.2.2.2.2.2.2.1)
      refine lv_icmp_ge (tgt := 33) hx hb dX12_isRound_13 (th_eqI rfl) (fun c3 => ?_) (fun c3 => ?_)
      · skip
        exact J33 _ _ _ y8_2 x2 hH hS (lv_sub hl [1, 2] rfl) fy8_1 fy8_2 e2 f2 (fr_we iw8 fy8_3 (by decide)) (hF.trans (by simp only [↓reduceIte, f_X12_isRound_8, ← e2, eq_true c3]))
      · skip
        have f4 : rg 1 16 x2 := rg_w (rg_nle f2 fy8_3 c3).1 (th_leI rfl) (th_leI rfl)
        have f5 : rg 0 15 y8_3 := rg_w (rg_nle f2 fy8_3 c3).2 (th_leI rfl) (th_leI rfl)
        refine lv_iload_n hx hb dX12_isRound_16 rfl (lv_at hl 2 rfl) ?_
        refine lv_iload_n hx hb dX12_isRound_17 rfl (lv_at hl 1 rfl) ?_
        refine lv_icmp_eq (tgt := 33) hx hb dX12_isRound_18 (th_eqI rfl) (fun c6 => ?_) (fun c6 => ?_)
        · skip
          exact J33 _ _ _ y8_2 x2 hH hS (lv_sub hl [1, 2] rfl) fy8_1 fy8_2 e2 (rg_w f4 (th_leI rfl) (th_leI rfl)) (fr_we iw8 f5 (by decide)) (hF.trans (by simp only [↓reduceIte, f_X12_isRound_8, ← e2, eq_false c3, eq_true c6]))
        · skip
          refine lv_aload_n hx hb dX12_isRound_21 rfl (lv_at hl 0 rfl) ?_
          refine lv_iload_n hx hb dX12_isRound_22 rfl (lv_at hl 2 rfl) ?_
          have hA7 := th_Asub (τ := τ) hS
          refine va_calli (va_runV (As := [.int y8_2]) (rest := []) ⟨hx, hb, hml, hown, hts⟩ (k_X12_pointed l D cA Z τ gi gr _ h0 t_h0 y8_2 fy8_2) (cwV 1 hts gX12_isRound_X12_pointed rfl rfl rfl hd_X12_pointed__1 ⟨Nat.le_of_ble_eq_true rfl, Nat.le_of_ble_eq_true rfl⟩) ⟨th_blind, tr_12 hK hH t_h0, (th_pre hH hK hN hZ hS hA7)⟩ rfl rfl hl.1 rfl (lv_room (Nat.le_of_ble_eq_true rfl)) dX12_isRound_23 ⟨Nat.le_of_ble_eq_true rfl, Nat.le_of_ble_eq_true rfl⟩) hS (fun q _ h => hA7 q h) hA7 (fun x8 u t H locs ht hvm hw8 hB hz1 hk1 hS => ?_)
          try dsimp only at hw8 hB
          rw [ht] at hB
          have hH := hB
          refine lv_istore_n (i := 2) (lv' := [(2, .int x8), (0, .ref h0), (1, .int p1), (3, .int y8_3)]) hx hb dX12_isRound_26 rfl hl (th_ltN rfl) rfl (fun ls hl => ?_)
          obtain ⟨x9, e9⟩ : ∃ y : Int32, y = y8_3 + 1 := ⟨_, rfl⟩
          have f9 : rg 1 16 x9 := rg_e e9 (rg_w (rg_add f5 rgc_1 (th_leI rfl) (th_leI rfl)) (th_leI rfl) (th_leI rfl))
          refine lv_iinc (v := x9) (lv' := [(3, .int x9), (2, .int x8), (0, .ref h0), (1, .int p1)]) hx hb dX12_isRound_27 hl (k := 3) rfl (by rw [e9]; rfl) (th_ltN rfl) rfl (fun ls hl => ?_)
          refine lv_goto (tgt := 8) hx hb dX12_isRound_30 (th_eqI rfl) ?_
          exact ih8 _ _ _ x8 x9 (th_up (rg_dA e9 f5 rgc_1 (th_leI rfl) (th_leI rfl)) f5 hn8 (th_ltI rfl)) hH hS (lv_sub hl [2, 3, 1, 0] rfl) fy8_1 hw8.1 (rg_w f9 (th_leI rfl) (th_leI rfl)) (fr_ws iw8 hw8.2.2 hw8.1 f5 (by decide) (rg_dA e9 f5 rgc_1 (th_leI rfl) (th_leI rfl))) (hF.trans (by simp only [↓reduceIte, f_X12_isRound_8, ← e2, eq_false c3, eq_false c6, hw8.2.1, ← e9]))
  have hS : va_S (th_A τ s.heap.size) s.heap s.heap [] := va_S.rf
  have hl := lv_entry ([.ref h0, .int p1]) (n := 4) (Nat.le_of_ble_eq_true rfl)
  rw [lg_entry_eq]
  generalize (lg_sl ([.ref h0, .int p1]) ++ List.replicate (4 - (lg_sl ([.ref h0, .int p1])).length) Slot.unset).toArray = ls at hl ⊢
  have hl : lv_has ls 4 [(0, .ref h0), (1, .int p1)] := hl
  have hF : F_X12_isRound τ Z gi gr h0 p1 = F_X12_isRound τ Z gi gr h0 p1 := rfl
  refine lv_aload_n hx hb dX12_isRound_0 rfl (lv_at hl 0 rfl) ?_
  refine lv_iload_n hx hb dX12_isRound_1 rfl (lv_at hl 1 rfl) ?_
  have hA10 := th_Asub (τ := τ) hS
  refine va_calli (va_runV (As := [.int p1]) (rest := []) ⟨hx, hb, hml, hown, hts⟩ (k_X12_pointed l D cA Z τ gi gr _ h0 t_h0 p1 f_p1) (cwV 1 hts gX12_isRound_X12_pointed rfl rfl rfl hd_X12_pointed__1 ⟨Nat.le_of_ble_eq_true rfl, Nat.le_of_ble_eq_true rfl⟩) ⟨th_blind, tr_12 hK hH t_h0, (th_pre hH hK hN hZ hS hA10)⟩ rfl rfl hl.1 rfl (lv_room (Nat.le_of_ble_eq_true rfl)) dX12_isRound_2 ⟨Nat.le_of_ble_eq_true rfl, Nat.le_of_ble_eq_true rfl⟩) hS (fun q _ h => hA10 q h) hA10 (fun x11 u t H locs ht hvm hw11 hB hz1 hk1 hS => ?_)
  try dsimp only at hw11 hB
  rw [ht] at hB
  have hH := hB
  refine lv_istore_n (i := 2) (lv' := [(2, .int x11), (0, .ref h0), (1, .int p1)]) hx hb dX12_isRound_5 rfl hl (th_ltN rfl) rfl (fun ls hl => ?_)
  refine lv_iconst (v := 0) hx hb dX12_isRound_6 ic_0 ?_
  refine lv_istore_n (i := 3) (lv' := [(3, .int 0), (2, .int x11), (0, .ref h0), (1, .int p1)]) hx hb dX12_isRound_7 rfl hl (th_ltN rfl) rfl (fun ls hl => ?_)
  exact J8 _ _ _ _ x11 0 (Nat.lt_add_one _) hH hS (lv_sub hl [2, 3, 1, 0] rfl) f_p1 hw11.1 (rg_w rgc_0 (th_leI rfl) (th_leI rfl)) (fr_w0 hw11.2.2 hw11.1) (hF.trans (by simp only [F_X12_isRound, hw11.2.1]))

noncomputable def f_X12_findRings_70 (τ : th_t) (Z : th_Zt) (gi : th_i) (gr : th_r) (h0 : Nat) (gi_45 : th_i) (y45_1 : Int32) (k_45 : th_i → Int32 → th_i) (gi_70 : th_i) : th_i :=
  let w70_0 : Int32 := gi_70 h0 8
  let x37 : Int32 := y45_1 + 1
  k_45 gi_70 x37
noncomputable def f_X12_findRings_147 (τ : th_t) (Z : th_Zt) (gi : th_i) (gr : th_r) (h0 : Nat) (gi_45 : th_i) (y45_1 : Int32) (k_45 : th_i → Int32 → th_i) : Nat → th_i → Int32 → Int32 → th_i
  | 0, gi_147, y147_3, y147_4 => (gi_147)
  | n147 + 1, gi_147, y147_3, y147_4 =>
    let w147_0 : Int32 := gi_147 h0 8
    if y147_3 ≤ y147_4 then (
      k_45 gi_147 0) else (
      let q4 : Nat := (gr h0 35).getD 0
      let q5 : Nat := (gr h0 36).getD 0
      let x6 : Int32 := gi_147 q5 y147_4.toNatClampNeg
      let gi7 : th_i := va_up gi_147 q4 (upd (gi_147 q4) x6.toNatClampNeg 1)
      let x10 : Int32 := y147_4 + 1
      (f_X12_findRings_147 τ Z gi gr h0 gi_45 y45_1 k_45 n147) gi7 y147_3 x10)
noncomputable def f_X12_findRings_104 (τ : th_t) (Z : th_Zt) (gi : th_i) (gr : th_r) (h0 : Nat) (gi_45 : th_i) (y45_1 : Int32) (k_45 : th_i → Int32 → th_i) : Nat → th_i → Int32 → Int32 → th_i
  | 0, gi_104, y104_3, y104_4 => (gi_104)
  | n104 + 1, gi_104, y104_3, y104_4 =>
    let w104_0 : Int32 := gi_104 h0 8
    if y104_3 ≤ y104_4 then (
      f_X12_findRings_147 τ Z gi gr h0 gi_45 y45_1 k_45 ((16 - (0 : Int32).toInt).toNat + 1) gi_104 y104_3 0) else (
      let q14 : Nat := (gr h0 34).getD 0
      let q15 : Nat := (gr h0 36).getD 0
      let x16 : Int32 := gi_104 q15 y104_4.toNatClampNeg
      let q17 : Nat := (gr h0 12).getD 0
      let x19 : Int32 := y104_4 + 1
      let x20 : Int32 := x19 - x19 / y104_3 * y104_3
      let x21 : Int32 := gi_104 q15 x20.toNatClampNeg
      let x22 : Int32 := gi_104 q17 x21.toNatClampNeg
      let gi23 : th_i := va_up gi_104 q14 (upd (gi_104 q14) x16.toNatClampNeg x22)
      (f_X12_findRings_104 τ Z gi gr h0 gi_45 y45_1 k_45 n104) gi23 y104_3 x19)
noncomputable def f_X12_findRings_80 (τ : th_t) (Z : th_Zt) (gi : th_i) (gr : th_r) (h0 : Nat) (gi_45 : th_i) (y45_1 : Int32) (k_45 : th_i → Int32 → th_i) : Nat → th_i → Int32 → Int32 → th_i
  | 0, gi_80, y80_2, y80_3 => (gi_80)
  | n80 + 1, gi_80, y80_2, y80_3 =>
    let w80_0 : Int32 := gi_80 h0 8
    let q30 : Nat := (gr h0 36).getD 0
    let gi31 : th_i := va_up gi_80 q30 (upd (gi_80 q30) y80_3.toNatClampNeg y80_2)
    let x33 : Int32 := y80_3 + 1
    let x35 : Int32 := F_X12_pointed τ Z gi31 gr h0 y80_2
    if x35 = y45_1 then (
      f_X12_findRings_104 τ Z gi gr h0 gi_45 y45_1 k_45 ((16 - (0 : Int32).toInt).toNat + 1) gi31 x33 0) else (
      (f_X12_findRings_80 τ Z gi gr h0 gi_45 y45_1 k_45 n80) gi31 x35 x33)
noncomputable def f_X12_findRings_45 (τ : th_t) (Z : th_Zt) (gi : th_i) (gr : th_r) (h0 : Nat) : Nat → th_i → Int32 → th_i
  | 0, gi_45, y45_1 => (gi_45)
  | n45 + 1, gi_45, y45_1 =>
    let w45_0 : Int32 := gi_45 h0 8
    if w45_0 ≤ y45_1 then (
      (gi_45)) else (
      let q42 : Nat := (gr h0 35).getD 0
      let x43 : Int32 := gi_45 q42 y45_1.toNatClampNeg
      if x43 = (0 : Int32) then (
        let x48 : Int32 := F_X12_isRound τ Z gi_45 gr h0 y45_1
        if x48 = (0 : Int32) then (
          f_X12_findRings_70 τ Z gi gr h0 gi_45 y45_1 (f_X12_findRings_45 τ Z gi gr h0 n45) gi_45) else (
          f_X12_findRings_80 τ Z gi gr h0 gi_45 y45_1 (f_X12_findRings_45 τ Z gi gr h0 n45) ((16 - (0 : Int32).toInt).toNat + 1) gi_45 y45_1 0)) else (
        f_X12_findRings_70 τ Z gi gr h0 gi_45 y45_1 (f_X12_findRings_45 τ Z gi gr h0 n45) gi_45))
noncomputable def f_X12_findRings_36 (τ : th_t) (Z : th_Zt) (gi : th_i) (gr : th_r) (h0 : Nat) (gi_2 : th_i) (y2_1 : Int32) (k_2 : th_i → Int32 → th_i) (gi_36 : th_i) (z36_0 : Nat) (z36_2 : Int32) : th_i :=
  let w36_0 : Int32 := gi_36 h0 8
  let gi52 : th_i := va_up gi_36 z36_0 (upd (gi_36 z36_0) y2_1.toNatClampNeg z36_2)
  let x54 : Int32 := y2_1 + 1
  k_2 gi52 x54
noncomputable def f_X12_findRings_2 (τ : th_t) (Z : th_Zt) (gi : th_i) (gr : th_r) (h0 : Nat) : Nat → th_i → Int32 → th_i
  | 0, gi_2, y2_1 => (gi_2)
  | n2 + 1, gi_2, y2_1 =>
    let x55 : Int32 := gi_2 h0 8
    if x55 ≤ y2_1 then (
      f_X12_findRings_45 τ Z gi gr h0 (fr_m (fr_R τ gi_2 gr h0) (0 : Int32) + 1) gi_2 0) else (
      let q59 : Nat := (gr h0 34).getD 0
      let gi60 : th_i := va_up gi_2 q59 (upd (gi_2 q59) y2_1.toNatClampNeg (-1))
      let q62 : Nat := (gr h0 35).getD 0
      let q63 : Nat := (gr h0 12).getD 0
      let x64 : Int32 := gi60 q63 y2_1.toNatClampNeg
      if (0 : Int32) ≤ x64 then (
        f_X12_findRings_36 τ Z gi gr h0 gi_2 y2_1 (f_X12_findRings_2 τ Z gi gr h0 n2) gi60 q62 0) else (
        f_X12_findRings_36 τ Z gi gr h0 gi_2 y2_1 (f_X12_findRings_2 τ Z gi gr h0 n2) gi60 q62 1))
noncomputable def F_X12_findRings (τ : th_t) (Z : th_Zt) (gi : th_i) (gr : th_r) (h0 : Nat) : th_i :=
  f_X12_findRings_2 τ Z gi gr h0 ((16 - (0 : Int32).toInt).toNat + 1) gi 0
set_option maxHeartbeats 8000000 in
set_option maxRecDepth 100000 in
theorem k_X12_findRings (l : Launch) (D : va_G) (cA : Nat → ClassId) (Z : th_Zt) (τ : th_t) (gi : th_i) (gr : th_r) (sz : Nat) (h0 : Nat) (t_h0 : τ h0 = 12) : Met l yX12_findRings wsX12_findRings ({ frames := 3, cells := 0, slots := 0, locals := 71 }) (va_Pc [.ref h0] (th_Pre D cA Z τ gi gr sz)) (va_Qv (fun (u : th_i × th_r) => th_Mod [6500, 6600, 6700] τ gi gr u.1 u.2 ∧ u.2 = gr ∧ (F_X12_findRings τ Z gi gr h0 = u.1)) (fun (u : th_i × th_r) t => th_H D cA τ u.1 u.2 t.heap) (th_A τ sz)) 0 0 (th_A τ sz) := by
  refine Met.ofW (cc := cX12_findRings) (maxL := 5) (ret := none) (by decide) rfl ?_
  intro p e s m args below meth c s₁ B hml hv
  obtain ⟨rfl, hsz, hH, hK, hN, hZ⟩ := hv
  have hx := B.exec
  have hb := B.bytes
  have hr := B.returns
  have hts := atoms_spec (ws := wsX12_findRings) B.pre
  have hown : s.vm.findClass RX12 = some m.cls := findClass_of_methodNamed B.named
  have hlocks := B.notSynchronized
  subst hsz
  have hM : th_Mod [6500, 6600, 6700] τ gi gr gi gr := th_Mod.rf
  have J45 : ∀ (n45 : Nat) (gi_45 : th_i) (H : Heap) (locs : List Loc) (ls : Array Slot) (y45_1 : Int32) (w45_0 : Int32), fr_m (fr_R τ gi_45 gr h0) y45_1 < n45 → th_H D cA τ gi_45 gr H → va_S (th_A τ s.heap.size) s.heap H locs → th_Mod [6500, 6600, 6700] τ gi gr gi_45 gr → lv_has ls 5 [(0, .ref h0), (1, .int y45_1)] → rg 0 16 y45_1 → w45_0 = gi_45 h0 8 → rg 0 16 w45_0 → F_X12_findRings τ Z gi gr h0 = f_X12_findRings_45 τ Z gi gr h0 n45 gi_45 y45_1 → W p l e (headSpec wsX12_findRings ({ frames := 3, cells := 0, slots := 0, locals := 71 })).room s m [.ref h0].toArray below meth c H locs 0 0 (MQ below (va_Qv (fun (u : th_i × th_r) => th_Mod [6500, 6600, 6700] τ gi gr u.1 u.2 ∧ u.2 = gr ∧ (F_X12_findRings τ Z gi gr h0 = u.1)) (fun (u : th_i × th_r) t => th_H D cA τ u.1 u.2 t.heap) (th_A τ s.heap.size)) [.ref h0].toArray s 0 0 (th_A τ s.heap.size)) (F0 m 45 ls []) := by
    intro n45
    induction n45 with
    | zero =>
      intro gi_45 H locs ls y45_1 w45_0 hn
      exact absurd hn (Nat.not_lt_zero _)
    | succ n45 ih45 =>
      intro gi_45 H locs ls y45_1 w45_0 hn45 hH hS hM hl fy45_1 ew45_0 fw45_0 hF
      have J147 : ∀ (n147 : Nat) (gi_147 : th_i) (H : Heap) (locs : List Loc) (ls : Array Slot) (y147_3 : Int32) (y147_4 : Int32) (w147_0 : Int32), (16 - y147_4.toInt).toNat < n147 → th_H D cA τ gi_147 gr H → va_S (th_A τ s.heap.size) s.heap H locs → th_Mod [6500, 6600, 6700] τ gi gr gi_147 gr → lv_has ls 5 [(0, .ref h0), (3, .int y147_3), (4, .int y147_4)] → rg 1 16 y147_3 → rg 0 16 y147_4 → w147_0 = gi_147 h0 8 → rg 1 16 w147_0 → (fr_147 (fr_R τ gi_45 gr h0) (fr_R τ gi_147 gr h0) y45_1 (fr_o gi_147 gr h0) y147_4) → (rg 0 15 y45_1) → F_X12_findRings τ Z gi gr h0 = f_X12_findRings_147 τ Z gi gr h0 gi_45 y45_1 (f_X12_findRings_45 τ Z gi gr h0 n45) n147 gi_147 y147_3 y147_4 → W p l e (headSpec wsX12_findRings ({ frames := 3, cells := 0, slots := 0, locals := 71 })).room s m [.ref h0].toArray below meth c H locs 0 0 (MQ below (va_Qv (fun (u : th_i × th_r) => th_Mod [6500, 6600, 6700] τ gi gr u.1 u.2 ∧ u.2 = gr ∧ (F_X12_findRings τ Z gi gr h0 = u.1)) (fun (u : th_i × th_r) t => th_H D cA τ u.1 u.2 t.heap) (th_A τ s.heap.size)) [.ref h0].toArray s 0 0 (th_A τ s.heap.size)) (F0 m 147 ls []) := by
        intro n147
        induction n147 with
        | zero =>
          intro gi_147 H locs ls y147_3 y147_4 w147_0 hn
          exact absurd hn (Nat.not_lt_zero _)
        | succ n147 ih147 =>
          intro gi_147 H locs ls y147_3 y147_4 w147_0 hn147 hH hS hM hl fy147_3 fy147_4 ew147_0 fw147_0 ir147 ib147 hF
          refine lv_iload hx hb dX12_findRings_147 (lv_at hl 2 rfl) ?_
          refine lv_iload_n hx hb dX12_findRings_149 rfl (lv_at hl 1 rfl) ?_
          refine lv_icmp_ge (tgt := 172) hx hb dX12_findRings_150 (th_eqI rfl) (fun c1 => ?_) (fun c1 => ?_)
          · skip
            have f2 : rg 1 16 y147_4 := rg_w (rg_le fy147_3 fy147_4 c1).2 (th_leI rfl) (th_leI rfl)
            refine lv_iconst (v := 0) hx hb dX12_findRings_172 ic_0 ?_
            refine lv_istore_n (i := 1) (lv' := [(1, .int 0), (0, .ref h0), (3, .int y147_3), (4, .int y147_4)]) hx hb dX12_findRings_173 rfl hl (th_ltN rfl) rfl (fun ls hl => ?_)
            refine lv_goto (tgt := 45) hx hb dX12_findRings_174 (th_eqI rfl) ?_
            exact ih45 gi_147 _ _ _ 0 w147_0 (fr_m2 hn45 ir147 ib147 (by decide) (by decide) fy147_3 (by decide) c1) hH hS hM (lv_sub hl [1, 0] rfl) (rg_w rgc_0 (th_leI rfl) (th_leI rfl)) ew147_0 (rg_w fw147_0 (th_leI rfl) (th_leI rfl)) (hF.trans (by simp only [↓reduceIte, f_X12_findRings_147, ← ew147_0, eq_true c1]))
          · skip
            have f3 : rg 0 15 y147_4 := rg_w (rg_nle fy147_3 fy147_4 c1).2 (th_leI rfl) (th_leI rfl)
            refine lv_aload_n hx hb dX12_findRings_153 rfl (lv_at hl 0 rfl) ?_
            obtain ⟨q4, r4, t4⟩ : ∃ q, gr h0 35 = some q ∧ τ q = 66 := (thI_12 hH t_h0).2.2.2.2.2.2.2.2.2.2.2.2.2.2.2.2.2.2.2.2.2.2.2.2.2.2.2.2.2.2.2.1
            refine th_get (ci := 11) (v := .ref q4) (T := TX12) (C := RX12) (N := 38) hx hb hts (fun w h => List.mem_cons_of_mem _ (List.mem_append_right _ h)) hown hK hH t_h0 (th_nz rfl) (thE_12 _ _ _) rfl 35 (th_ltN rfl) (hts (.fieldLink RX12 98 "BayMooringsModel" "inRing" "[Z") (List.mem_cons_of_mem _ (List.mem_append_left _ (List.mem_append_left _ (List.mem_of_getElem? (i := 2) rfl))))) (fun _ h9 => h9) (th_fR r4 rfl) dX12_findRings_154 ?_
            refine lv_aload_n hx hb dX12_findRings_157 rfl (lv_at hl 0 rfl) ?_
            obtain ⟨q5, r5, t5⟩ : ∃ q, gr h0 36 = some q ∧ τ q = 67 := (thI_12 hH t_h0).2.2.2.2.2.2.2.2.2.2.2.2.2.2.2.2.2.2.2.2.2.2.2.2.2.2.2.2.2.2.2.2.1
            refine th_get (ci := 11) (v := .ref q5) (T := TX12) (C := RX12) (N := 38) hx hb hts (fun w h => List.mem_cons_of_mem _ (List.mem_append_right _ h)) hown hK hH t_h0 (th_nz rfl) (thE_12 _ _ _) rfl 36 (th_ltN rfl) (hts (.fieldLink RX12 102 "BayMooringsModel" "ring" "[I") (List.mem_cons_of_mem _ (List.mem_append_left _ (List.mem_append_left _ (List.mem_of_getElem? (i := 4) rfl))))) (fun _ h9 => h9) (th_fR r5 rfl) dX12_findRings_158 ?_
            refine lv_iload hx hb dX12_findRings_161 (lv_at hl 2 rfl) ?_
            refine th_iald hx hb hK hH t5 (th_nz rfl) 0 (thE_67 _ _ _) rfl (rg_in (n := 16) f3 (th_leI rfl) (th_ltI rfl)) dX12_findRings_163 ?_
            refine lv_topi (fun x6 e6 => ?_)
            have f6 : rg 0 15 x6 := rg_e e6 ((thI_67 hH t5) _ (rg_cl (n := 16) f3 (th_leI rfl) (th_ltI rfl)))
            refine lv_iconst (v := 1) hx hb dX12_findRings_164 ic_1 ?_
            refine th_zast hx hb hK hH hS t4 (th_nz rfl) (Or.inl (th_nzE t4 rfl)) 1 (fun _ => thE_66 _ _ _) rfl (rg_w rgc_1 (th_leI rfl) (th_leI rfl)) (rg_in (n := 16) f6 (th_leI rfl) (th_ltI rfl)) (th_ai (P := rg 0 1) (thI_66 hH t4) (rg_w rgc_1 (th_leI rfl) (th_leI rfl))) dX12_findRings_165 (fun gi7 H locs hu7 ho7 hH hS => ?_)
            have eg7 : gi7 = va_up gi_147 q4 (upd (gi_147 q4) x6.toNatClampNeg 1) := th_upE hu7 ho7
            have e8 : w147_0 = gi7 h0 8 := Eq.trans ew147_0 (Eq.symm (ho7 _ _ (Or.inl (th_ne t_h0 t4 (th_nz rfl)))))
            have e9 : x6 = gi7 q5 (y147_4.toNatClampNeg) := Eq.trans e6 (Eq.symm (ho7 _ _ (Or.inl (th_ne t5 t4 (th_nz rfl)))))
            have hM := hM.i t4 (th_mem (a := 6600) rfl) ho7
            obtain ⟨x10, e10⟩ : ∃ y : Int32, y = y147_4 + 1 := ⟨_, rfl⟩
            have f10 : rg 1 16 x10 := rg_e e10 (rg_w (rg_add f3 rgc_1 (th_leI rfl) (th_leI rfl)) (th_leI rfl) (th_leI rfl))
            refine lv_iinc (v := x10) (lv' := [(4, .int x10), (0, .ref h0), (3, .int y147_3)]) hx hb dX12_findRings_166 hl (k := 2) rfl (by rw [e10]; rfl) (th_ltN rfl) rfl (fun ls hl => ?_)
            refine lv_goto (tgt := 147) hx hb dX12_findRings_169 (th_eqI rfl) ?_
            exact ih147 gi7 _ _ _ y147_3 x10 w147_0 (th_up (rg_dA e10 f3 rgc_1 (th_leI rfl) (th_leI rfl)) f3 hn147 (th_ltI rfl)) hH hS hM (lv_sub hl [1, 2, 0] rfl) fy147_3 (rg_w f10 (th_leI rfl) (th_leI rfl)) e8 fw147_0 (fr_147s ir147 f3 (by decide) r5 r4 t5 t4 e6 hu7 ho7 (rg_dA e10 f3 rgc_1 (th_leI rfl) (th_leI rfl))) ib147 (hF.trans (by simp only [↓reduceIte, f_X12_findRings_147, ← ew147_0, eq_false c1, r4, Option.getD_some, r5, ← e6, ← eg7, ← e10]))
      have J104 : ∀ (n104 : Nat) (gi_104 : th_i) (H : Heap) (locs : List Loc) (ls : Array Slot) (y104_3 : Int32) (y104_4 : Int32) (w104_0 : Int32), (16 - y104_4.toInt).toNat < n104 → th_H D cA τ gi_104 gr H → va_S (th_A τ s.heap.size) s.heap H locs → th_Mod [6500, 6600, 6700] τ gi gr gi_104 gr → lv_has ls 5 [(0, .ref h0), (3, .int y104_3), (4, .int y104_4)] → rg 1 16 y104_3 → rg 0 16 y104_4 → w104_0 = gi_104 h0 8 → rg 1 16 w104_0 → (fr_104 (fr_R τ gi_45 gr h0) (fr_R τ gi_104 gr h0) y45_1 (fr_o gi_104 gr h0)) → (rg 0 15 y45_1) → F_X12_findRings τ Z gi gr h0 = f_X12_findRings_104 τ Z gi gr h0 gi_45 y45_1 (f_X12_findRings_45 τ Z gi gr h0 n45) n104 gi_104 y104_3 y104_4 → W p l e (headSpec wsX12_findRings ({ frames := 3, cells := 0, slots := 0, locals := 71 })).room s m [.ref h0].toArray below meth c H locs 0 0 (MQ below (va_Qv (fun (u : th_i × th_r) => th_Mod [6500, 6600, 6700] τ gi gr u.1 u.2 ∧ u.2 = gr ∧ (F_X12_findRings τ Z gi gr h0 = u.1)) (fun (u : th_i × th_r) t => th_H D cA τ u.1 u.2 t.heap) (th_A τ s.heap.size)) [.ref h0].toArray s 0 0 (th_A τ s.heap.size)) (F0 m 104 ls []) := by
        intro n104
        induction n104 with
        | zero =>
          intro gi_104 H locs ls y104_3 y104_4 w104_0 hn
          exact absurd hn (Nat.not_lt_zero _)
        | succ n104 ih104 =>
          intro gi_104 H locs ls y104_3 y104_4 w104_0 hn104 hH hS hM hl fy104_3 fy104_4 ew104_0 fw104_0 ir104 ib104 hF
          refine lv_iload hx hb dX12_findRings_104 (lv_at hl 2 rfl) ?_
          refine lv_iload_n hx hb dX12_findRings_106 rfl (lv_at hl 1 rfl) ?_
          refine lv_icmp_ge (tgt := 144) hx hb dX12_findRings_107 (th_eqI rfl) (fun c11 => ?_) (fun c11 => ?_)
          · skip
            have f12 : rg 1 16 y104_4 := rg_w (rg_le fy104_3 fy104_4 c11).2 (th_leI rfl) (th_leI rfl)
            refine lv_iconst (v := 0) hx hb dX12_findRings_144 ic_0 ?_
            refine lv_istore (i := 4) (lv' := [(4, .int 0), (0, .ref h0), (3, .int y104_3)]) hx hb dX12_findRings_145 hl (th_ltN rfl) rfl (fun ls hl => ?_)
            exact J147 _ gi_104 _ _ _ y104_3 0 w104_0 (Nat.lt_add_one _) hH hS hM (lv_sub hl [1, 2, 0] rfl) fy104_3 (rg_w rgc_0 (th_leI rfl) (th_leI rfl)) ew104_0 fw104_0 (fr_147i ir104) ib104 (hF.trans (by simp only [↓reduceIte, f_X12_findRings_104, ← ew104_0, eq_true c11]))
          · skip
            have f13 : rg 0 15 y104_4 := rg_w (rg_nle fy104_3 fy104_4 c11).2 (th_leI rfl) (th_leI rfl)
            refine lv_aload_n hx hb dX12_findRings_110 rfl (lv_at hl 0 rfl) ?_
            obtain ⟨q14, r14, t14⟩ : ∃ q, gr h0 34 = some q ∧ τ q = 65 := (thI_12 hH t_h0).2.2.2.2.2.2.2.2.2.2.2.2.2.2.2.2.2.2.2.2.2.2.2.2.2.2.2.2.2.2.1
            refine th_get (ci := 11) (v := .ref q14) (T := TX12) (C := RX12) (N := 38) hx hb hts (fun w h => List.mem_cons_of_mem _ (List.mem_append_right _ h)) hown hK hH t_h0 (th_nz rfl) (thE_12 _ _ _) rfl 34 (th_ltN rfl) (hts (.fieldLink RX12 95 "BayMooringsModel" "gets" "[I") (List.mem_cons_of_mem _ (List.mem_append_left _ (List.mem_append_left _ (List.mem_of_getElem? (i := 1) rfl))))) (fun _ h9 => h9) (th_fR r14 rfl) dX12_findRings_111 ?_
            refine lv_aload_n hx hb dX12_findRings_114 rfl (lv_at hl 0 rfl) ?_
            obtain ⟨q15, r15, t15⟩ : ∃ q, gr h0 36 = some q ∧ τ q = 67 := (thI_12 hH t_h0).2.2.2.2.2.2.2.2.2.2.2.2.2.2.2.2.2.2.2.2.2.2.2.2.2.2.2.2.2.2.2.2.1
            refine th_get (ci := 11) (v := .ref q15) (T := TX12) (C := RX12) (N := 38) hx hb hts (fun w h => List.mem_cons_of_mem _ (List.mem_append_right _ h)) hown hK hH t_h0 (th_nz rfl) (thE_12 _ _ _) rfl 36 (th_ltN rfl) (hts (.fieldLink RX12 102 "BayMooringsModel" "ring" "[I") (List.mem_cons_of_mem _ (List.mem_append_left _ (List.mem_append_left _ (List.mem_of_getElem? (i := 4) rfl))))) (fun _ h9 => h9) (th_fR r15 rfl) dX12_findRings_115 ?_
            refine lv_iload hx hb dX12_findRings_118 (lv_at hl 2 rfl) ?_
            refine th_iald hx hb hK hH t15 (th_nz rfl) 0 (thE_67 _ _ _) rfl (rg_in (n := 16) f13 (th_leI rfl) (th_ltI rfl)) dX12_findRings_120 ?_
            refine lv_topi (fun x16 e16 => ?_)
            have f16 : rg 0 15 x16 := rg_e e16 ((thI_67 hH t15) _ (rg_cl (n := 16) f13 (th_leI rfl) (th_ltI rfl)))
            refine lv_aload_n hx hb dX12_findRings_121 rfl (lv_at hl 0 rfl) ?_
            obtain ⟨q17, r17, t17⟩ : ∃ q, gr h0 12 = some q ∧ τ q = 50 := (thI_12 hH t_h0).2.2.2.2.2.2.2.2.2.2.2.2.1
            refine th_get (ci := 11) (v := .ref q17) (T := TX12) (C := RX12) (N := 38) hx hb hts (fun w h => List.mem_cons_of_mem _ (List.mem_append_right _ h)) hown hK hH t_h0 (th_nz rfl) (thE_12 _ _ _) rfl 12 (th_ltN rfl) (hts (.fieldLink RX12 40 "BayMooringsModel" "buoyOf" "[I") (List.mem_cons_of_mem _ (List.mem_append_left _ (List.mem_append_left _ (List.mem_of_getElem? (i := 3) rfl))))) (fun _ h9 => h9) (th_fR r17 rfl) dX12_findRings_122 ?_
            refine lv_aload_n hx hb dX12_findRings_125 rfl (lv_at hl 0 rfl) ?_
            refine th_get (ci := 11) (v := .ref q15) (T := TX12) (C := RX12) (N := 38) hx hb hts (fun w h => List.mem_cons_of_mem _ (List.mem_append_right _ h)) hown hK hH t_h0 (th_nz rfl) (thE_12 _ _ _) rfl 36 (th_ltN rfl) (hts (.fieldLink RX12 102 "BayMooringsModel" "ring" "[I") (List.mem_cons_of_mem _ (List.mem_append_left _ (List.mem_append_left _ (List.mem_of_getElem? (i := 4) rfl))))) (fun _ h9 => h9) (th_fR r15 rfl) dX12_findRings_126 ?_
            refine lv_iload hx hb dX12_findRings_129 (lv_at hl 2 rfl) ?_
            refine lv_iconst (v := 1) hx hb dX12_findRings_131 ic_1 ?_
            refine lv_iadd hx hb dX12_findRings_132 ?_
            refine lv_topi (fun x19 e19 => ?_)
            have f19 : rg 1 16 x19 := rg_e e19 (rg_w (rg_add f13 rgc_1 (th_leI rfl) (th_leI rfl)) (th_leI rfl) (th_leI rfl))
            refine lv_iload_n hx hb dX12_findRings_133 rfl (lv_at hl 1 rfl) ?_
            refine lv_irem hx hb dX12_findRings_134 (rg_ne0 fy104_3 (Or.inl (th_ltI rfl))) ?_
            refine lv_topi (fun x20 e20 => ?_)
            have f20 : rg 0 15 x20 := rg_e e20 (rg_w (rg_rem f19 fy104_3 (th_leI rfl) (th_ltI rfl)) (th_leI rfl) (th_leI rfl))
            refine th_iald hx hb hK hH t15 (th_nz rfl) 0 (thE_67 _ _ _) rfl (rg_in (n := 16) f20 (th_leI rfl) (th_ltI rfl)) dX12_findRings_135 ?_
            refine lv_topi (fun x21 e21 => ?_)
            have f21 : rg 0 15 x21 := rg_e e21 ((thI_67 hH t15) _ (rg_cl (n := 16) f20 (th_leI rfl) (th_ltI rfl)))
            refine th_iald hx hb hK hH t17 (th_nz rfl) 0 (thE_50 _ _ _) rfl (rg_in (n := 16) f21 (th_leI rfl) (th_ltI rfl)) dX12_findRings_136 ?_
            refine lv_topi (fun x22 e22 => ?_)
            have f22 : rg (-1) 11 x22 := rg_e e22 ((thI_50 hH t17) _ (rg_cl (n := 16) f21 (th_leI rfl) (th_ltI rfl)))
            refine th_iast hx hb hK hH hS t14 (th_nz rfl) (Or.inl (th_nzE t14 rfl)) 0 (fun _ => thE_65 _ _ _) rfl (rg_in (n := 16) f16 (th_leI rfl) (th_ltI rfl)) (th_ai (P := rg (-1) 11) (thI_65 hH t14) f22) dX12_findRings_137 (fun gi23 H locs hu23 ho23 hH hS => ?_)
            have eg23 : gi23 = va_up gi_104 q14 (upd (gi_104 q14) x16.toNatClampNeg x22) := th_upE hu23 ho23
            have e24 : w104_0 = gi23 h0 8 := Eq.trans ew104_0 (Eq.symm (ho23 _ _ (Or.inl (th_ne t_h0 t14 (th_nz rfl)))))
            have e25 : x16 = gi23 q15 (y104_4.toNatClampNeg) := Eq.trans e16 (Eq.symm (ho23 _ _ (Or.inl (th_ne t15 t14 (th_nz rfl)))))
            have e26 : x21 = gi23 q15 (x20.toNatClampNeg) := Eq.trans e21 (Eq.symm (ho23 _ _ (Or.inl (th_ne t15 t14 (th_nz rfl)))))
            have e27 : x22 = gi23 q17 (x21.toNatClampNeg) := Eq.trans e22 (Eq.symm (ho23 _ _ (Or.inl (th_ne t17 t14 (th_nz rfl)))))
            have hM := hM.i t14 (th_mem (a := 6500) rfl) ho23
            refine lv_iinc (v := x19) (lv' := [(4, .int x19), (0, .ref h0), (3, .int y104_3)]) hx hb dX12_findRings_138 hl (k := 2) rfl (by rw [e19]; rfl) (th_ltN rfl) rfl (fun ls hl => ?_)
            refine lv_goto (tgt := 104) hx hb dX12_findRings_141 (th_eqI rfl) ?_
            exact ih104 gi23 _ _ _ y104_3 x19 w104_0 (th_up (rg_dA e19 f13 rgc_1 (th_leI rfl) (th_leI rfl)) f13 hn104 (th_ltI rfl)) hH hS hM (lv_sub hl [1, 2, 0] rfl) fy104_3 (rg_w f19 (th_leI rfl) (th_leI rfl)) e24 fw104_0 (fr_104s ir104 (fr_k t14 (by decide) ho23) (fr_ok r15 (th_ne t15 t14 (by decide)) ho23)) ib104 (hF.trans (by simp only [↓reduceIte, f_X12_findRings_104, ← ew104_0, eq_false c11, r14, Option.getD_some, r15, ← e16, r17, ← e19, ← e20, ← e21, ← e22, ← eg23]))
      have J80 : ∀ (n80 : Nat) (gi_80 : th_i) (H : Heap) (locs : List Loc) (ls : Array Slot) (y80_2 : Int32) (y80_3 : Int32) (w80_0 : Int32), (16 - y80_3.toInt).toNat < n80 → th_H D cA τ gi_80 gr H → va_S (th_A τ s.heap.size) s.heap H locs → th_Mod [6500, 6600, 6700] τ gi gr gi_80 gr → lv_has ls 5 [(0, .ref h0), (1, .int y45_1), (2, .int y80_2), (3, .int y80_3)] → rg 0 15 y45_1 → rg 0 15 y80_2 → rg 0 16 y80_3 → w80_0 = gi_80 h0 8 → rg 1 16 w80_0 → (fr_80 (fr_R τ gi_45 gr h0) (fr_R τ gi_80 gr h0) y45_1 y80_2 y80_3 (fr_o gi_80 gr h0)) → F_X12_findRings τ Z gi gr h0 = f_X12_findRings_80 τ Z gi gr h0 gi_45 y45_1 (f_X12_findRings_45 τ Z gi gr h0 n45) n80 gi_80 y80_2 y80_3 → W p l e (headSpec wsX12_findRings ({ frames := 3, cells := 0, slots := 0, locals := 71 })).room s m [.ref h0].toArray below meth c H locs 0 0 (MQ below (va_Qv (fun (u : th_i × th_r) => th_Mod [6500, 6600, 6700] τ gi gr u.1 u.2 ∧ u.2 = gr ∧ (F_X12_findRings τ Z gi gr h0 = u.1)) (fun (u : th_i × th_r) t => th_H D cA τ u.1 u.2 t.heap) (th_A τ s.heap.size)) [.ref h0].toArray s 0 0 (th_A τ s.heap.size)) (F0 m 80 ls []) := by
        intro n80
        induction n80 with
        | zero =>
          intro gi_80 H locs ls y80_2 y80_3 w80_0 hn
          exact absurd hn (Nat.not_lt_zero _)
        | succ n80 ih80 =>
          intro gi_80 H locs ls y80_2 y80_3 w80_0 hn80 hH hS hM hl fy80_1 fy80_2 fy80_3 ew80_0 fw80_0 ir80 hF
          have f29 : rg 0 15 y80_3 := rg_w (fr_80l ir80 fy80_1 fy80_3) (th_leI rfl) (th_leI rfl)
          refine lv_aload_n hx hb dX12_findRings_80 rfl (lv_at hl 0 rfl) ?_
          obtain ⟨q30, r30, t30⟩ : ∃ q, gr h0 36 = some q ∧ τ q = 67 := (thI_12 hH t_h0).2.2.2.2.2.2.2.2.2.2.2.2.2.2.2.2.2.2.2.2.2.2.2.2.2.2.2.2.2.2.2.2.1
          refine th_get (ci := 11) (v := .ref q30) (T := TX12) (C := RX12) (N := 38) hx hb hts (fun w h => List.mem_cons_of_mem _ (List.mem_append_right _ h)) hown hK hH t_h0 (th_nz rfl) (thE_12 _ _ _) rfl 36 (th_ltN rfl) (hts (.fieldLink RX12 102 "BayMooringsModel" "ring" "[I") (List.mem_cons_of_mem _ (List.mem_append_left _ (List.mem_append_left _ (List.mem_of_getElem? (i := 4) rfl))))) (fun _ h9 => h9) (th_fR r30 rfl) dX12_findRings_81 ?_
          refine lv_iload_n hx hb dX12_findRings_84 rfl (lv_at hl 3 rfl) ?_
          refine lv_iload_n hx hb dX12_findRings_85 rfl (lv_at hl 2 rfl) ?_
          refine th_iast hx hb hK hH hS t30 (th_nz rfl) (Or.inl (th_nzE t30 rfl)) 0 (fun _ => thE_67 _ _ _) rfl (rg_in (n := 16) f29 (th_leI rfl) (th_ltI rfl)) (th_ai (P := rg 0 15) (thI_67 hH t30) fy80_2) dX12_findRings_86 (fun gi31 H locs hu31 ho31 hH hS => ?_)
          have eg31 : gi31 = va_up gi_80 q30 (upd (gi_80 q30) y80_3.toNatClampNeg y80_2) := th_upE hu31 ho31
          have e32 : w80_0 = gi31 h0 8 := Eq.trans ew80_0 (Eq.symm (ho31 _ _ (Or.inl (th_ne t_h0 t30 (th_nz rfl)))))
          have hM := hM.i t30 (th_mem (a := 6700) rfl) ho31
          obtain ⟨x33, e33⟩ : ∃ y : Int32, y = y80_3 + 1 := ⟨_, rfl⟩
          have f33 : rg 1 16 x33 := rg_e e33 (rg_w (rg_add f29 rgc_1 (th_leI rfl) (th_leI rfl)) (th_leI rfl) (th_leI rfl))
          refine lv_iinc (v := x33) (lv' := [(3, .int x33), (0, .ref h0), (1, .int y45_1), (2, .int y80_2)]) hx hb dX12_findRings_87 hl (k := 3) rfl (by rw [e33]; rfl) (th_ltN rfl) rfl (fun ls hl => ?_)
          refine lv_aload_n hx hb dX12_findRings_90 rfl (lv_at hl 1 rfl) ?_
          refine lv_iload_n hx hb dX12_findRings_91 rfl (lv_at hl 3 rfl) ?_
          have hA34 := th_Asub (τ := τ) hS
          refine va_calli (va_runV (As := [.int y80_2]) (rest := []) ⟨hx, hb, hml, hown, hts⟩ (k_X12_pointed l D cA Z τ gi31 gr _ h0 t_h0 y80_2 fy80_2) (cwV 1 hts gX12_findRings_X12_pointed rfl rfl rfl hd_X12_pointed__1 ⟨Nat.le_of_ble_eq_true rfl, Nat.le_of_ble_eq_true rfl⟩) ⟨th_blind, tr_12 hK hH t_h0, (th_pre hH hK hN hZ hS hA34)⟩ rfl rfl hl.1 rfl (lv_room (Nat.le_of_ble_eq_true rfl)) dX12_findRings_92 ⟨Nat.le_of_ble_eq_true rfl, Nat.le_of_ble_eq_true rfl⟩) hS (fun q _ h => hA34 q h) hA34 (fun x35 u t H locs ht hvm hw35 hB hz1 hk1 hS => ?_)
          try dsimp only at hw35 hB
          rw [ht] at hB
          have hH := hB
          refine lv_istore_n (i := 2) (lv' := [(2, .int x35), (3, .int x33), (0, .ref h0), (1, .int y45_1)]) hx hb dX12_findRings_95 rfl hl (th_ltN rfl) rfl (fun ls hl => ?_)
          refine lv_iload_n hx hb dX12_findRings_96 rfl (lv_at hl 0 rfl) ?_
          refine lv_iload_n hx hb dX12_findRings_97 rfl (lv_at hl 3 rfl) ?_
          refine lv_icmp_ne (tgt := 80) hx hb dX12_findRings_98 (th_eqI rfl) (fun c36 => ?_) (fun c36 => ?_)
          · skip
            exact ih80 gi31 _ _ _ x35 x33 w80_0 (th_up (rg_dA e33 f29 rgc_1 (th_leI rfl) (th_leI rfl)) f29 hn80 (th_ltI rfl)) hH hS hM (lv_sub hl [2, 3, 0, 1] rfl) fy80_1 hw35.1 (rg_w f33 (th_leI rfl) (th_leI rfl)) e32 fw80_0 (fr_80s ir80 f29 (by decide) r30 hu31 ho31 (fr_k t30 (by decide) ho31) hw35.2.2 (rg_dA e33 f29 rgc_1 (th_leI rfl) (th_leI rfl)) c36) (hF.trans (by simp only [↓reduceIte, f_X12_findRings_80, ← ew80_0, r30, Option.getD_some, ← eg31, ← e33, hw35.2.1, eq_false c36]))
          · skip
            refine lv_iconst (v := 0) hx hb dX12_findRings_101 ic_0 ?_
            refine lv_istore (i := 4) (lv' := [(4, .int 0), (2, .int x35), (3, .int x33), (0, .ref h0), (1, .int y45_1)]) hx hb dX12_findRings_102 hl (th_ltN rfl) rfl (fun ls hl => ?_)
            exact J104 _ gi31 _ _ _ x33 0 w80_0 (Nat.lt_add_one _) hH hS hM (lv_sub hl [3, 2, 0] rfl) f33 (rg_w rgc_0 (th_leI rfl) (th_leI rfl)) e32 fw80_0 (fr_104i ir80 f29 (by decide) r30 hu31 ho31 (fr_k t30 (by decide) ho31)) fy80_1 (hF.trans (by simp only [↓reduceIte, f_X12_findRings_80, ← ew80_0, r30, Option.getD_some, ← eg31, ← e33, hw35.2.1, eq_true c36]))
      have J70 : ∀ (gi_70 : th_i) (H : Heap) (locs : List Loc) (ls : Array Slot) (w70_0 : Int32), th_H D cA τ gi_70 gr H → va_S (th_A τ s.heap.size) s.heap H locs → th_Mod [6500, 6600, 6700] τ gi gr gi_70 gr → lv_has ls 5 [(0, .ref h0), (1, .int y45_1)] → rg 0 15 y45_1 → w70_0 = gi_70 h0 8 → rg 1 16 w70_0 → ((fr_R τ gi_70 gr h0) = (fr_R τ gi_45 gr h0)) → F_X12_findRings τ Z gi gr h0 = f_X12_findRings_70 τ Z gi gr h0 gi_45 y45_1 (f_X12_findRings_45 τ Z gi gr h0 n45) gi_70 → W p l e (headSpec wsX12_findRings ({ frames := 3, cells := 0, slots := 0, locals := 71 })).room s m [.ref h0].toArray below meth c H locs 0 0 (MQ below (va_Qv (fun (u : th_i × th_r) => th_Mod [6500, 6600, 6700] τ gi gr u.1 u.2 ∧ u.2 = gr ∧ (F_X12_findRings τ Z gi gr h0 = u.1)) (fun (u : th_i × th_r) t => th_H D cA τ u.1 u.2 t.heap) (th_A τ s.heap.size)) [.ref h0].toArray s 0 0 (th_A τ s.heap.size)) (F0 m 70 ls []) := by
        intro gi_70 H locs ls w70_0 hH hS hM hl fy70_1 ew70_0 fw70_0 ir70 hF
        obtain ⟨x37, e37⟩ : ∃ y : Int32, y = y45_1 + 1 := ⟨_, rfl⟩
        have f37 : rg 1 16 x37 := rg_e e37 (rg_w (rg_add fy70_1 rgc_1 (th_leI rfl) (th_leI rfl)) (th_leI rfl) (th_leI rfl))
        refine lv_iinc (v := x37) (lv' := [(1, .int x37), (0, .ref h0)]) hx hb dX12_findRings_70 hl (k := 1) rfl (by rw [e37]; rfl) (th_ltN rfl) rfl (fun ls hl => ?_)
        refine lv_goto (tgt := 45) hx hb dX12_findRings_73 (th_eqI rfl) ?_
        exact ih45 gi_70 _ _ _ x37 w70_0 (fr_m1 hn45 ir70 fy70_1 (by decide) (rg_dA e37 fy70_1 rgc_1 (th_leI rfl) (th_leI rfl))) hH hS hM (lv_sub hl [1, 0] rfl) (rg_w f37 (th_leI rfl) (th_leI rfl)) ew70_0 (rg_w fw70_0 (th_leI rfl) (th_leI rfl)) (hF.trans (by simp only [f_X12_findRings_70, ← ew70_0, ← e37]))
      refine lv_iload_n hx hb dX12_findRings_45 rfl (lv_at hl 1 rfl) ?_
      refine lv_aload_n hx hb dX12_findRings_46 rfl (lv_at hl 0 rfl) ?_
      refine th_get (ci := 11) (v := .int w45_0) (T := TX12) (C := RX12) (N := 38) hx hb hts (fun w h => List.mem_cons_of_mem _ (List.mem_append_right _ h)) hown hK hH t_h0 (th_nz rfl) (thE_12 _ _ _) rfl 8 (th_ltN rfl) (hts (.fieldLink RX12 116 "BayMooringsModel" "boats" "I") (List.mem_cons_of_mem _ (List.mem_append_left _ (List.mem_append_left _ (List.mem_of_getElem? (i := 0) rfl))))) (fun _ h9 => h9) (th_fI ew45_0 rfl) dX12_findRings_47 ?_
      refine lv_icmp_ge (tgt := 177) hx hb dX12_findRings_50 (th_eqI rfl) (fun c39 => ?_) (fun c39 => ?_)
      · skip
        exact W.vret hx hb hr (fun t ht hW => ⟨⟨(gi_45, gr), rfl, ⟨hM, rfl, (hF.trans (by simp only [↓reduceIte, f_X12_findRings_45, ← ew45_0, eq_true c39]))⟩, th_Ht ht hH⟩, hS.F ht⟩) hS.2.2 dX12_findRings_177
      · skip
        have f40 : rg 1 16 w45_0 := rg_w (rg_nle fw45_0 fy45_1 c39).1 (th_leI rfl) (th_leI rfl)
        have f41 : rg 0 15 y45_1 := rg_w (rg_nle fw45_0 fy45_1 c39).2 (th_leI rfl) (th_leI rfl)
        refine lv_aload_n hx hb dX12_findRings_53 rfl (lv_at hl 0 rfl) ?_
        obtain ⟨q42, r42, t42⟩ : ∃ q, gr h0 35 = some q ∧ τ q = 66 := (thI_12 hH t_h0).2.2.2.2.2.2.2.2.2.2.2.2.2.2.2.2.2.2.2.2.2.2.2.2.2.2.2.2.2.2.2.1
        refine th_get (ci := 11) (v := .ref q42) (T := TX12) (C := RX12) (N := 38) hx hb hts (fun w h => List.mem_cons_of_mem _ (List.mem_append_right _ h)) hown hK hH t_h0 (th_nz rfl) (thE_12 _ _ _) rfl 35 (th_ltN rfl) (hts (.fieldLink RX12 98 "BayMooringsModel" "inRing" "[Z") (List.mem_cons_of_mem _ (List.mem_append_left _ (List.mem_append_left _ (List.mem_of_getElem? (i := 2) rfl))))) (fun _ h9 => h9) (th_fR r42 rfl) dX12_findRings_54 ?_
        refine lv_iload_n hx hb dX12_findRings_57 rfl (lv_at hl 1 rfl) ?_
        refine th_zald hx hb hK hH t42 (th_nz rfl) 1 (thE_66 _ _ _) rfl (rg_in (n := 16) f41 (th_leI rfl) (th_ltI rfl)) dX12_findRings_58 ?_
        refine lv_topi (fun x43 e43 => ?_)
        have f43 : rg 0 1 x43 := rg_e e43 ((thI_66 hH t42) _ (rg_cl (n := 16) f41 (th_leI rfl) (th_ltI rfl)))
        refine lv_if_ne (tgt := 70) hx hb dX12_findRings_59 (th_eqI rfl) (fun c44 => ?_) (fun c44 => ?_)
        · skip
          have f45 : rg 1 1 x43 := rg_w (rg_neL f43 rgc_0 c44) (th_leI rfl) (th_leI rfl)
          exact J70 gi_45 _ _ _ w45_0 hH hS hM (lv_sub hl [0, 1] rfl) f41 ew45_0 f40 rfl (hF.trans (by simp only [↓reduceIte, f_X12_findRings_45, ← ew45_0, eq_false c39, r42, Option.getD_some, ← e43, eq_false c44]))
        · skip
          have f46 : rg 0 0 x43 := rg_w (rg_eq f43 rgc_0 c44).1 (th_leI rfl) (th_leI rfl)
          refine lv_aload_n hx hb dX12_findRings_62 rfl (lv_at hl 0 rfl) ?_
          refine lv_iload_n hx hb dX12_findRings_63 rfl (lv_at hl 1 rfl) ?_
          have hA47 := th_Asub (τ := τ) hS
          refine va_calli (va_runV (As := [.int y45_1]) (rest := []) ⟨hx, hb, hml, hown, hts⟩ (k_X12_isRound l D cA Z τ gi_45 gr _ h0 t_h0 y45_1 f41) (cwV 1 hts gX12_findRings_X12_isRound rfl rfl rfl hd_X12_isRound__1 ⟨Nat.le_of_ble_eq_true rfl, Nat.le_of_ble_eq_true rfl⟩) ⟨th_blind, tr_12 hK hH t_h0, (th_pre hH hK hN hZ hS hA47)⟩ rfl rfl hl.1 rfl (lv_room (Nat.le_of_ble_eq_true rfl)) dX12_findRings_64 ⟨Nat.le_of_ble_eq_true rfl, Nat.le_of_ble_eq_true rfl⟩) hS (fun q _ h => hA47 q h) hA47 (fun x48 u t H locs ht hvm hw48 hB hz1 hk1 hS => ?_)
          try dsimp only at hw48 hB
          rw [ht] at hB
          have hH := hB
          refine lv_if_ne (tgt := 76) hx hb dX12_findRings_67 (th_eqI rfl) (fun c49 => ?_) (fun c49 => ?_)
          · skip
            have f50 : rg 1 1 x48 := rg_w (rg_neL hw48.1 rgc_0 c49) (th_leI rfl) (th_leI rfl)
            refine lv_iload_n hx hb dX12_findRings_76 rfl (lv_at hl 1 rfl) ?_
            refine lv_istore_n (i := 2) (lv' := [(2, .int y45_1), (0, .ref h0), (1, .int y45_1)]) hx hb dX12_findRings_77 rfl hl (th_ltN rfl) rfl (fun ls hl => ?_)
            refine lv_iconst (v := 0) hx hb dX12_findRings_78 ic_0 ?_
            refine lv_istore_n (i := 3) (lv' := [(3, .int 0), (2, .int y45_1), (0, .ref h0), (1, .int y45_1)]) hx hb dX12_findRings_79 rfl hl (th_ltN rfl) rfl (fun ls hl => ?_)
            exact J80 _ gi_45 _ _ _ y45_1 0 w45_0 (Nat.lt_add_one _) hH hS hM (lv_sub hl [2, 3, 1, 0] rfl) f41 f41 (rg_w rgc_0 (th_leI rfl) (th_leI rfl)) ew45_0 f40 (fr_80i (fr_at r42 t42 (by decide) e43) c44 (hw48.2.2 c49)) (hF.trans (by simp only [↓reduceIte, f_X12_findRings_45, ← ew45_0, eq_false c39, r42, Option.getD_some, ← e43, eq_true c44, hw48.2.1, eq_false c49]))
          · skip
            have f51 : rg 0 0 x48 := rg_w (rg_eq hw48.1 rgc_0 c49).1 (th_leI rfl) (th_leI rfl)
            exact J70 gi_45 _ _ _ w45_0 hH hS hM (lv_sub hl [0, 1] rfl) f41 ew45_0 f40 rfl (hF.trans (by simp only [↓reduceIte, f_X12_findRings_45, ← ew45_0, eq_false c39, r42, Option.getD_some, ← e43, eq_true c44, hw48.2.1, eq_true c49]))
  have J2 : ∀ (n2 : Nat) (gi_2 : th_i) (H : Heap) (locs : List Loc) (ls : Array Slot) (y2_1 : Int32), (16 - y2_1.toInt).toNat < n2 → th_H D cA τ gi_2 gr H → va_S (th_A τ s.heap.size) s.heap H locs → th_Mod [6500, 6600, 6700] τ gi gr gi_2 gr → lv_has ls 5 [(0, .ref h0), (1, .int y2_1)] → rg 0 16 y2_1 → F_X12_findRings τ Z gi gr h0 = f_X12_findRings_2 τ Z gi gr h0 n2 gi_2 y2_1 → W p l e (headSpec wsX12_findRings ({ frames := 3, cells := 0, slots := 0, locals := 71 })).room s m [.ref h0].toArray below meth c H locs 0 0 (MQ below (va_Qv (fun (u : th_i × th_r) => th_Mod [6500, 6600, 6700] τ gi gr u.1 u.2 ∧ u.2 = gr ∧ (F_X12_findRings τ Z gi gr h0 = u.1)) (fun (u : th_i × th_r) t => th_H D cA τ u.1 u.2 t.heap) (th_A τ s.heap.size)) [.ref h0].toArray s 0 0 (th_A τ s.heap.size)) (F0 m 2 ls []) := by
    intro n2
    induction n2 with
    | zero =>
      intro gi_2 H locs ls y2_1 hn
      exact absurd hn (Nat.not_lt_zero _)
    | succ n2 ih2 =>
      intro gi_2 H locs ls y2_1 hn2 hH hS hM hl fy2_1 hF
      have J36 : ∀ (gi_36 : th_i) (H : Heap) (locs : List Loc) (ls : Array Slot) (z36_0 : Nat) (z36_2 : Int32) (w36_0 : Int32), th_H D cA τ gi_36 gr H → va_S (th_A τ s.heap.size) s.heap H locs → th_Mod [6500, 6600, 6700] τ gi gr gi_36 gr → lv_has ls 5 [(0, .ref h0), (1, .int y2_1)] → rg 0 15 y2_1 → (τ z36_0 = 66) → rg 0 15 y2_1 → rg 0 1 z36_2 → w36_0 = gi_36 h0 8 → rg 1 16 w36_0 → F_X12_findRings τ Z gi gr h0 = f_X12_findRings_36 τ Z gi gr h0 gi_2 y2_1 (f_X12_findRings_2 τ Z gi gr h0 n2) gi_36 z36_0 z36_2 → W p l e (headSpec wsX12_findRings ({ frames := 3, cells := 0, slots := 0, locals := 71 })).room s m [.ref h0].toArray below meth c H locs 0 0 (MQ below (va_Qv (fun (u : th_i × th_r) => th_Mod [6500, 6600, 6700] τ gi gr u.1 u.2 ∧ u.2 = gr ∧ (F_X12_findRings τ Z gi gr h0 = u.1)) (fun (u : th_i × th_r) t => th_H D cA τ u.1 u.2 t.heap) (th_A τ s.heap.size)) [.ref h0].toArray s 0 0 (th_A τ s.heap.size)) (F0 m 36 ls [.int z36_2, .int y2_1, .ref z36_0]) := by
        intro gi_36 H locs ls z36_0 z36_2 w36_0 hH hS hM hl fy36_1 tz36_0 fz36_1 fz36_2 ew36_0 fw36_0 hF
        refine th_zast hx hb hK hH hS tz36_0 (th_nz rfl) (Or.inl (th_nzE tz36_0 rfl)) 1 (fun _ => thE_66 _ _ _) rfl fz36_2 (rg_in (n := 16) fz36_1 (th_leI rfl) (th_ltI rfl)) (th_ai (P := rg 0 1) (thI_66 hH tz36_0) fz36_2) dX12_findRings_36 (fun gi52 H locs hu52 ho52 hH hS => ?_)
        have eg52 : gi52 = va_up gi_36 z36_0 (upd (gi_36 z36_0) y2_1.toNatClampNeg z36_2) := th_upE hu52 ho52
        have e53 : w36_0 = gi52 h0 8 := Eq.trans ew36_0 (Eq.symm (ho52 _ _ (Or.inl (th_ne t_h0 tz36_0 (th_nz rfl)))))
        have hM := hM.i tz36_0 (th_mem (a := 6600) rfl) ho52
        obtain ⟨x54, e54⟩ : ∃ y : Int32, y = y2_1 + 1 := ⟨_, rfl⟩
        have f54 : rg 1 16 x54 := rg_e e54 (rg_w (rg_add fz36_1 rgc_1 (th_leI rfl) (th_leI rfl)) (th_leI rfl) (th_leI rfl))
        refine lv_iinc (v := x54) (lv' := [(1, .int x54), (0, .ref h0)]) hx hb dX12_findRings_37 hl (k := 1) rfl (by rw [e54]; rfl) (th_ltN rfl) rfl (fun ls hl => ?_)
        refine lv_goto (tgt := 2) hx hb dX12_findRings_40 (th_eqI rfl) ?_
        exact ih2 gi52 _ _ _ x54 (th_up (rg_dA e54 fz36_1 rgc_1 (th_leI rfl) (th_leI rfl)) fz36_1 hn2 (th_ltI rfl)) hH hS hM (lv_sub hl [1, 0] rfl) (rg_w f54 (th_leI rfl) (th_leI rfl)) (hF.trans (by simp only [f_X12_findRings_36, ← ew36_0, ← eg52, ← e54]))
      refine lv_iload_n hx hb dX12_findRings_2 rfl (lv_at hl 1 rfl) ?_
      refine lv_aload_n hx hb dX12_findRings_3 rfl (lv_at hl 0 rfl) ?_
      obtain ⟨x55, e55⟩ : ∃ y : Int32, y = gi_2 h0 8 := ⟨_, rfl⟩
      refine th_get (ci := 11) (v := .int x55) (T := TX12) (C := RX12) (N := 38) hx hb hts (fun w h => List.mem_cons_of_mem _ (List.mem_append_right _ h)) hown hK hH t_h0 (th_nz rfl) (thE_12 _ _ _) rfl 8 (th_ltN rfl) (hts (.fieldLink RX12 116 "BayMooringsModel" "boats" "I") (List.mem_cons_of_mem _ (List.mem_append_left _ (List.mem_append_left _ (List.mem_of_getElem? (i := 0) rfl))))) (fun _ h9 => h9) (th_fI e55 rfl) dX12_findRings_4 ?_
      have f55 : rg 0 16 x55 := rg_e e55 ((thI_12 hH t_h0).2.2.2.2.2.2.2.2.1)
      refine lv_icmp_ge (tgt := 43) hx hb dX12_findRings_7 (th_eqI rfl) (fun c56 => ?_) (fun c56 => ?_)
      · skip
        refine lv_iconst (v := 0) hx hb dX12_findRings_43 ic_0 ?_
        refine lv_istore_n (i := 1) (lv' := [(1, .int 0), (0, .ref h0)]) hx hb dX12_findRings_44 rfl hl (th_ltN rfl) rfl (fun ls hl => ?_)
        exact J45 _ gi_2 _ _ _ 0 x55 (Nat.lt_add_one _) hH hS hM (lv_sub hl [1, 0] rfl) (rg_w rgc_0 (th_leI rfl) (th_leI rfl)) e55 f55 (hF.trans (by simp only [↓reduceIte, f_X12_findRings_2, ← e55, eq_true c56]))
      · skip
        have f57 : rg 1 16 x55 := rg_w (rg_nle f55 fy2_1 c56).1 (th_leI rfl) (th_leI rfl)
        have f58 : rg 0 15 y2_1 := rg_w (rg_nle f55 fy2_1 c56).2 (th_leI rfl) (th_leI rfl)
        refine lv_aload_n hx hb dX12_findRings_10 rfl (lv_at hl 0 rfl) ?_
        obtain ⟨q59, r59, t59⟩ : ∃ q, gr h0 34 = some q ∧ τ q = 65 := (thI_12 hH t_h0).2.2.2.2.2.2.2.2.2.2.2.2.2.2.2.2.2.2.2.2.2.2.2.2.2.2.2.2.2.2.1
        refine th_get (ci := 11) (v := .ref q59) (T := TX12) (C := RX12) (N := 38) hx hb hts (fun w h => List.mem_cons_of_mem _ (List.mem_append_right _ h)) hown hK hH t_h0 (th_nz rfl) (thE_12 _ _ _) rfl 34 (th_ltN rfl) (hts (.fieldLink RX12 95 "BayMooringsModel" "gets" "[I") (List.mem_cons_of_mem _ (List.mem_append_left _ (List.mem_append_left _ (List.mem_of_getElem? (i := 1) rfl))))) (fun _ h9 => h9) (th_fR r59 rfl) dX12_findRings_11 ?_
        refine lv_iload_n hx hb dX12_findRings_14 rfl (lv_at hl 1 rfl) ?_
        refine lv_iconst (v := (-1)) hx hb dX12_findRings_15 ic_m1 ?_
        refine th_iast hx hb hK hH hS t59 (th_nz rfl) (Or.inl (th_nzE t59 rfl)) 0 (fun _ => thE_65 _ _ _) rfl (rg_in (n := 16) f58 (th_leI rfl) (th_ltI rfl)) (th_ai (P := rg (-1) 11) (thI_65 hH t59) (rg_w rgc_m1 (th_leI rfl) (th_leI rfl))) dX12_findRings_16 (fun gi60 H locs hu60 ho60 hH hS => ?_)
        have eg60 : gi60 = va_up gi_2 q59 (upd (gi_2 q59) y2_1.toNatClampNeg (-1)) := th_upE hu60 ho60
        have e61 : x55 = gi60 h0 8 := Eq.trans e55 (Eq.symm (ho60 _ _ (Or.inl (th_ne t_h0 t59 (th_nz rfl)))))
        have hM := hM.i t59 (th_mem (a := 6500) rfl) ho60
        refine lv_aload_n hx hb dX12_findRings_17 rfl (lv_at hl 0 rfl) ?_
        obtain ⟨q62, r62, t62⟩ : ∃ q, gr h0 35 = some q ∧ τ q = 66 := (thI_12 hH t_h0).2.2.2.2.2.2.2.2.2.2.2.2.2.2.2.2.2.2.2.2.2.2.2.2.2.2.2.2.2.2.2.1
        refine th_get (ci := 11) (v := .ref q62) (T := TX12) (C := RX12) (N := 38) hx hb hts (fun w h => List.mem_cons_of_mem _ (List.mem_append_right _ h)) hown hK hH t_h0 (th_nz rfl) (thE_12 _ _ _) rfl 35 (th_ltN rfl) (hts (.fieldLink RX12 98 "BayMooringsModel" "inRing" "[Z") (List.mem_cons_of_mem _ (List.mem_append_left _ (List.mem_append_left _ (List.mem_of_getElem? (i := 2) rfl))))) (fun _ h9 => h9) (th_fR r62 rfl) dX12_findRings_18 ?_
        refine lv_iload_n hx hb dX12_findRings_21 rfl (lv_at hl 1 rfl) ?_
        refine lv_aload_n hx hb dX12_findRings_22 rfl (lv_at hl 0 rfl) ?_
        obtain ⟨q63, r63, t63⟩ : ∃ q, gr h0 12 = some q ∧ τ q = 50 := (thI_12 hH t_h0).2.2.2.2.2.2.2.2.2.2.2.2.1
        refine th_get (ci := 11) (v := .ref q63) (T := TX12) (C := RX12) (N := 38) hx hb hts (fun w h => List.mem_cons_of_mem _ (List.mem_append_right _ h)) hown hK hH t_h0 (th_nz rfl) (thE_12 _ _ _) rfl 12 (th_ltN rfl) (hts (.fieldLink RX12 40 "BayMooringsModel" "buoyOf" "[I") (List.mem_cons_of_mem _ (List.mem_append_left _ (List.mem_append_left _ (List.mem_of_getElem? (i := 3) rfl))))) (fun _ h9 => h9) (th_fR r63 rfl) dX12_findRings_23 ?_
        refine lv_iload_n hx hb dX12_findRings_26 rfl (lv_at hl 1 rfl) ?_
        refine th_iald hx hb hK hH t63 (th_nz rfl) 0 (thE_50 _ _ _) rfl (rg_in (n := 16) f58 (th_leI rfl) (th_ltI rfl)) dX12_findRings_27 ?_
        refine lv_topi (fun x64 e64 => ?_)
        have f64 : rg (-1) 11 x64 := rg_e e64 ((thI_50 hH t63) _ (rg_cl (n := 16) f58 (th_leI rfl) (th_ltI rfl)))
        refine lv_if_ge (tgt := 35) hx hb dX12_findRings_28 (th_eqI rfl) (fun c65 => ?_) (fun c65 => ?_)
        · skip
          have f66 : rg 0 11 x64 := rg_w (rg_le rgc_0 f64 c65).2 (th_leI rfl) (th_leI rfl)
          refine lv_iconst (v := 0) hx hb dX12_findRings_35 ic_0 ?_
          exact J36 gi60 _ _ _ q62 0 x55 hH hS hM (lv_sub hl [0, 1] rfl) f58 t62 f58 (rg_w rgc_0 (th_leI rfl) (th_leI rfl)) e61 f57 (hF.trans (by simp only [↓reduceIte, f_X12_findRings_2, ← e55, eq_false c56, r59, Option.getD_some, ← eg60, r62, r63, ← e64, eq_true c65]))
        · skip
          have f67 : rg (-1) (-1) x64 := rg_w (rg_nle rgc_0 f64 c65).2 (th_leI rfl) (th_leI rfl)
          refine lv_iconst (v := 1) hx hb dX12_findRings_31 ic_1 ?_
          refine lv_goto (tgt := 36) hx hb dX12_findRings_32 (th_eqI rfl) ?_
          exact J36 gi60 _ _ _ q62 1 x55 hH hS hM (lv_sub hl [0, 1] rfl) f58 t62 f58 (rg_w rgc_1 (th_leI rfl) (th_leI rfl)) e61 f57 (hF.trans (by simp only [↓reduceIte, f_X12_findRings_2, ← e55, eq_false c56, r59, Option.getD_some, ← eg60, r62, r63, ← e64, eq_false c65]))
  have hS : va_S (th_A τ s.heap.size) s.heap s.heap [] := va_S.rf
  have hl := lv_entry ([.ref h0]) (n := 5) (Nat.le_of_ble_eq_true rfl)
  rw [lg_entry_eq]
  generalize (lg_sl ([.ref h0]) ++ List.replicate (5 - (lg_sl ([.ref h0])).length) Slot.unset).toArray = ls at hl ⊢
  have hl : lv_has ls 5 [(0, .ref h0)] := hl
  have hF : F_X12_findRings τ Z gi gr h0 = F_X12_findRings τ Z gi gr h0 := rfl
  refine lv_iconst (v := 0) hx hb dX12_findRings_0 ic_0 ?_
  refine lv_istore_n (i := 1) (lv' := [(1, .int 0), (0, .ref h0)]) hx hb dX12_findRings_1 rfl hl (th_ltN rfl) rfl (fun ls hl => ?_)
  exact J2 _ gi _ _ _ 0 (Nat.lt_add_one _) hH hS hM (lv_sub hl [1, 0] rfl) (rg_w rgc_0 (th_leI rfl) (th_leI rfl)) (hF.trans (by simp only [F_X12_findRings]))

noncomputable def F_X12_ring (τ : th_t) (Z : th_Zt) (gi : th_i) (gr : th_r) (h0 : Nat) (p1 : Int32) : Int32 × th_i :=
  let x2 : Int32 := F_X12_isBoat τ Z gi gr h0 p1
  if x2 = (0 : Int32) then (
    let u21 : Int32 × th_i := F_X12_finding τ Z gi gr h0 (-1000001)
    let x21 : Int32 := u21.1
    let gi21 : th_i := u21.2
    (x21, gi21)) else (
    let q6 : Nat := (gr h0 12).getD 0
    let x7 : Int32 := gi q6 p1.toNatClampNeg
    if (0 : Int32) ≤ x7 then (
      let gi11 : th_i := F_X12_findRings τ Z gi gr h0
      let q13 : Nat := (gr h0 34).getD 0
      let x14 : Int32 := gi11 q13 p1.toNatClampNeg
      (x14, gi11)) else (
      let u17 : Int32 × th_i := F_X12_finding τ Z gi gr h0 (-1000003)
      let x17 : Int32 := u17.1
      let gi17 : th_i := u17.2
      (x17, gi17)))
set_option maxHeartbeats 8000000 in
set_option maxRecDepth 100000 in
theorem k_X12_ring (l : Launch) (D : va_G) (cA : Nat → ClassId) (Z : th_Zt) (τ : th_t) (gi : th_i) (gr : th_r) (sz : Nat) (h0 : Nat) (t_h0 : τ h0 = 12) (p1 : Int32) : Met l yX12_ring wsX12_ring ({ frames := 4, cells := 0, slots := 0, locals := 95 }) (va_Pc [.ref h0, .int p1] (th_Pre D cA Z τ gi gr sz)) (va_Qi (fun (r : Int32) (u : th_i × th_r) => th_Mod [5900, 6500, 6600, 6700] τ gi gr u.1 u.2 ∧ u.2 = gr ∧ (F_X12_ring τ Z gi gr h0 p1 = (r, u.1))) (fun (u : th_i × th_r) t => th_H D cA τ u.1 u.2 t.heap) (th_A τ sz)) 0 0 (th_A τ sz) := by
  refine Met.ofW (cc := cX12_ring) (maxL := 2) (ret := (some .int)) (by decide) rfl ?_
  intro p e s m args below meth c s₁ B hml hv
  obtain ⟨rfl, hsz, hH, hK, hN, hZ⟩ := hv
  have hx := B.exec
  have hb := B.bytes
  have hr := B.returns
  have hts := atoms_spec (ws := wsX12_ring) B.pre
  have hown : s.vm.findClass RX12 = some m.cls := findClass_of_methodNamed B.named
  have hlocks := B.notSynchronized
  subst hsz
  have hM : th_Mod [5900, 6500, 6600, 6700] τ gi gr gi gr := th_Mod.rf
  have hS : va_S (th_A τ s.heap.size) s.heap s.heap [] := va_S.rf
  have hl := lv_entry ([.ref h0, .int p1]) (n := 2) (Nat.le_of_ble_eq_true rfl)
  rw [lg_entry_eq]
  generalize (lg_sl ([.ref h0, .int p1]) ++ List.replicate (2 - (lg_sl ([.ref h0, .int p1])).length) Slot.unset).toArray = ls at hl ⊢
  have hl : lv_has ls 2 [(0, .ref h0), (1, .int p1)] := hl
  have hF : F_X12_ring τ Z gi gr h0 p1 = F_X12_ring τ Z gi gr h0 p1 := rfl
  refine lv_aload_n hx hb dX12_ring_0 rfl (lv_at hl 0 rfl) ?_
  refine lv_iload_n hx hb dX12_ring_1 rfl (lv_at hl 1 rfl) ?_
  have hA1 := th_Asub (τ := τ) hS
  refine va_calli (va_runV (As := [.int p1]) (rest := []) ⟨hx, hb, hml, hown, hts⟩ (k_X12_isBoat l D cA Z τ gi gr _ h0 t_h0 p1) (cwV 1 hts gX12_ring_X12_isBoat rfl rfl rfl hd_X12_isBoat__1 ⟨Nat.le_of_ble_eq_true rfl, Nat.le_of_ble_eq_true rfl⟩) ⟨th_blind, tr_12 hK hH t_h0, (th_pre hH hK hN hZ hS hA1)⟩ rfl rfl hl.1 rfl (lv_room (Nat.le_of_ble_eq_true rfl)) dX12_ring_2 ⟨Nat.le_of_ble_eq_true rfl, Nat.le_of_ble_eq_true rfl⟩) hS (fun q _ h => hA1 q h) hA1 (fun x2 u t H locs ht hvm hw2 hB hz1 hk1 hS => ?_)
  try dsimp only at hw2 hB
  rw [ht] at hB
  have hH := hB
  refine lv_if_ne (tgt := 15) hx hb dX12_ring_5 (th_eqI rfl) (fun c3 => ?_) (fun c3 => ?_)
  · skip
    have f4 : rg 1 1 x2 := rg_w (rg_neL hw2.1 rgc_0 c3) (th_leI rfl) (th_leI rfl)
    have f5 : rg 0 15 p1 := rg_w (hw2.2.1 c3) (th_leI rfl) (th_leI rfl)
    refine lv_aload_n hx hb dX12_ring_15 rfl (lv_at hl 0 rfl) ?_
    obtain ⟨q6, r6, t6⟩ : ∃ q, gr h0 12 = some q ∧ τ q = 50 := (thI_12 hH t_h0).2.2.2.2.2.2.2.2.2.2.2.2.1
    refine th_get (ci := 11) (v := .ref q6) (T := TX12) (C := RX12) (N := 38) hx hb hts (fun w h => List.mem_cons_of_mem _ (List.mem_append_right _ h)) hown hK hH t_h0 (th_nz rfl) (thE_12 _ _ _) rfl 12 (th_ltN rfl) (hts (.fieldLink RX12 40 "BayMooringsModel" "buoyOf" "[I") (List.mem_cons_of_mem _ (List.mem_append_left _ (List.mem_append_left _ (List.mem_of_getElem? (i := 1) rfl))))) (fun _ h9 => h9) (th_fR r6 rfl) dX12_ring_16 ?_
    refine lv_iload_n hx hb dX12_ring_19 rfl (lv_at hl 1 rfl) ?_
    refine th_iald hx hb hK hH t6 (th_nz rfl) 0 (thE_50 _ _ _) rfl (rg_in (n := 16) f5 (th_leI rfl) (th_ltI rfl)) dX12_ring_20 ?_
    refine lv_topi (fun x7 e7 => ?_)
    have f7 : rg (-1) 11 x7 := rg_e e7 ((thI_50 hH t6) _ (rg_cl (n := 16) f5 (th_leI rfl) (th_ltI rfl)))
    refine lv_if_ge (tgt := 31) hx hb dX12_ring_21 (th_eqI rfl) (fun c8 => ?_) (fun c8 => ?_)
    · skip
      have f9 : rg 0 11 x7 := rg_w (rg_le rgc_0 f7 c8).2 (th_leI rfl) (th_leI rfl)
      refine lv_aload_n hx hb dX12_ring_31 rfl (lv_at hl 0 rfl) ?_
      have hA10 := th_Asub (τ := τ) hS
      refine va_callv (va_runV (As := []) (rest := []) ⟨hx, hb, hml, hown, hts⟩ (k_X12_findRings l D cA Z τ gi gr _ h0 t_h0) (cwV 0 hts gX12_ring_X12_findRings rfl rfl rfl hd_X12_findRings__0 ⟨Nat.le_of_ble_eq_true rfl, Nat.le_of_ble_eq_true rfl⟩) ⟨th_blind, tr_12 hK hH t_h0, (th_pre hH hK hN hZ hS hA10)⟩ rfl rfl hl.1 rfl (lv_room (Nat.le_of_ble_eq_true rfl)) dX12_ring_32 ⟨Nat.le_of_ble_eq_true rfl, Nat.le_of_ble_eq_true rfl⟩) hS (fun q _ h => hA10 q h) hA10 (fun  u t H locs ht hvm hw11 hB hz1 hk1 hS => ?_)
      try dsimp only at hw11 hB
      rw [ht] at hB
      have hH := hB
      obtain ⟨gi11, gr11⟩ := u
      try dsimp only at hw11 hH
      obtain rfl : gr = gr11 := (hw11.2.1).symm
      have hM := hM.tr hw11.1 (fun _ h => h) (th_sub rfl)
      have e12 : x7 = gi11 q6 (p1.toNatClampNeg) := Eq.trans e7 (Eq.symm (hw11.1 q6 (p1.toNatClampNeg) (th_nzE t6 rfl) (th_nmE (key := 5000) t6 rfl rfl)).1)
      refine lv_aload_n hx hb dX12_ring_35 rfl (lv_at hl 0 rfl) ?_
      obtain ⟨q13, r13, t13⟩ : ∃ q, gr h0 34 = some q ∧ τ q = 65 := (thI_12 hH t_h0).2.2.2.2.2.2.2.2.2.2.2.2.2.2.2.2.2.2.2.2.2.2.2.2.2.2.2.2.2.2.1
      refine th_get (ci := 11) (v := .ref q13) (T := TX12) (C := RX12) (N := 38) hx hb hts (fun w h => List.mem_cons_of_mem _ (List.mem_append_right _ h)) hown hK hH t_h0 (th_nz rfl) (thE_12 _ _ _) rfl 34 (th_ltN rfl) (hts (.fieldLink RX12 95 "BayMooringsModel" "gets" "[I") (List.mem_cons_of_mem _ (List.mem_append_left _ (List.mem_append_left _ (List.mem_of_getElem? (i := 3) rfl))))) (fun _ h9 => h9) (th_fR r13 rfl) dX12_ring_36 ?_
      refine lv_iload_n hx hb dX12_ring_39 rfl (lv_at hl 1 rfl) ?_
      refine th_iald hx hb hK hH t13 (th_nz rfl) 0 (thE_65 _ _ _) rfl (rg_in (n := 16) f5 (th_leI rfl) (th_ltI rfl)) dX12_ring_40 ?_
      refine lv_topi (fun x14 e14 => ?_)
      have f14 : rg (-1) 11 x14 := rg_e e14 ((thI_65 hH t13) _ (rg_cl (n := 16) f5 (th_leI rfl) (th_ltI rfl)))
      exact W.iret (v := x14) hx hb hr (fun t ht hW => ⟨⟨x14, (gi11, gr), rfl, ⟨hM, rfl, (hF.trans (by simp only [↓reduceIte, F_X12_ring, hw2.2.2, eq_false c3, r6, Option.getD_some, ← e7, eq_true c8, hw11.2.2, r13, ← e14]))⟩, th_Ht ht hH⟩, hS.F ht⟩) hS.2.2 dX12_ring_41
    · skip
      have f15 : rg (-1) (-1) x7 := rg_w (rg_nle rgc_0 f7 c8).2 (th_leI rfl) (th_leI rfl)
      refine lv_aload_n hx hb dX12_ring_24 rfl (lv_at hl 0 rfl) ?_
      refine lv_ldc (v := (-1000003)) hx hb hown (hts (.constant RX12 186 (-1000003)) (List.mem_cons_of_mem _ (List.mem_append_left _ (List.mem_append_left _ (List.mem_of_getElem? (i := 2) rfl))))) dX12_ring_25 ?_
      have hA16 := th_Asub (τ := τ) hS
      refine va_calli (va_runV (As := [.int (-1000003)]) (rest := []) ⟨hx, hb, hml, hown, hts⟩ (k_X12_finding l D cA Z τ gi gr _ h0 t_h0 (-1000003) (rg_w rgc_m1000003 (th_leI rfl) (th_leI rfl))) (cwV 1 hts gX12_ring_X12_finding rfl rfl rfl hd_X12_finding__1 ⟨Nat.le_of_ble_eq_true rfl, Nat.le_of_ble_eq_true rfl⟩) ⟨th_blind, tr_12 hK hH t_h0, (th_pre hH hK hN hZ hS hA16)⟩ rfl rfl hl.1 rfl (lv_room (Nat.le_of_ble_eq_true rfl)) dX12_ring_27 ⟨Nat.le_of_ble_eq_true rfl, Nat.le_of_ble_eq_true rfl⟩) hS (fun q _ h => hA16 q h) hA16 (fun x17 u t H locs ht hvm hw17 hB hz1 hk1 hS => ?_)
      try dsimp only at hw17 hB
      rw [ht] at hB
      have hH := hB
      obtain ⟨gi17, gr17⟩ := u
      try dsimp only at hw17 hH
      obtain rfl : gr = gr17 := (hw17.2.1).symm
      have hM := hM.tr hw17.1 (fun _ h => h) (th_sub rfl)
      have e18 : x7 = gi17 q6 (p1.toNatClampNeg) := Eq.trans e7 (Eq.symm (hw17.1 q6 (p1.toNatClampNeg) (th_nzE t6 rfl) (th_nmE (key := 5000) t6 rfl rfl)).1)
      exact W.iret (v := x17) hx hb hr (fun t ht hW => ⟨⟨x17, (gi17, gr), rfl, ⟨hM, rfl, (hF.trans (by simp only [↓reduceIte, F_X12_ring, hw2.2.2, eq_false c3, r6, Option.getD_some, ← e7, eq_false c8, hw17.2.2.1]))⟩, th_Ht ht hH⟩, hS.F ht⟩) hS.2.2 dX12_ring_30
  · skip
    have f19 : rg 0 0 x2 := rg_w (rg_eq hw2.1 rgc_0 c3).1 (th_leI rfl) (th_leI rfl)
    refine lv_aload_n hx hb dX12_ring_8 rfl (lv_at hl 0 rfl) ?_
    refine lv_ldc (v := (-1000001)) hx hb hown (hts (.constant RX12 119 (-1000001)) (List.mem_cons_of_mem _ (List.mem_append_left _ (List.mem_append_left _ (List.mem_of_getElem? (i := 0) rfl))))) dX12_ring_9 ?_
    have hA20 := th_Asub (τ := τ) hS
    refine va_calli (va_runV (As := [.int (-1000001)]) (rest := []) ⟨hx, hb, hml, hown, hts⟩ (k_X12_finding l D cA Z τ gi gr _ h0 t_h0 (-1000001) (rg_w rgc_m1000001 (th_leI rfl) (th_leI rfl))) (cwV 1 hts gX12_ring_X12_finding rfl rfl rfl hd_X12_finding__1 ⟨Nat.le_of_ble_eq_true rfl, Nat.le_of_ble_eq_true rfl⟩) ⟨th_blind, tr_12 hK hH t_h0, (th_pre hH hK hN hZ hS hA20)⟩ rfl rfl hl.1 rfl (lv_room (Nat.le_of_ble_eq_true rfl)) dX12_ring_11 ⟨Nat.le_of_ble_eq_true rfl, Nat.le_of_ble_eq_true rfl⟩) hS (fun q _ h => hA20 q h) hA20 (fun x21 u t H locs ht hvm hw21 hB hz1 hk1 hS => ?_)
    try dsimp only at hw21 hB
    rw [ht] at hB
    have hH := hB
    obtain ⟨gi21, gr21⟩ := u
    try dsimp only at hw21 hH
    obtain rfl : gr = gr21 := (hw21.2.1).symm
    have hM := hM.tr hw21.1 (fun _ h => h) (th_sub rfl)
    exact W.iret (v := x21) hx hb hr (fun t ht hW => ⟨⟨x21, (gi21, gr), rfl, ⟨hM, rfl, (hF.trans (by simp only [↓reduceIte, F_X12_ring, hw2.2.2, eq_true c3, hw21.2.2.1]))⟩, th_Ht ht hH⟩, hS.F ht⟩) hS.2.2 dX12_ring_14

noncomputable def f_X12_swap_66 (τ : th_t) (Z : th_Zt) (gi : th_i) (gr : th_r) (h0 : Nat) (gi_8 : th_i) (y8_1 : Int32) (y8_2 : Int32) (k_8 : th_i → Int32 → Int32 → Int32 × th_i) (gi_66 : th_i) (y66_1 : Int32) : Int32 × th_i :=
  let w66_0 : Int32 := gi_66 h0 8
  let x1 : Int32 := y8_2 + 1
  k_8 gi_66 y66_1 x1
noncomputable def f_X12_swap_37 (τ : th_t) (Z : th_Zt) (gi : th_i) (gr : th_r) (h0 : Nat) (gi_8 : th_i) (y8_1 : Int32) (y8_2 : Int32) (k_8 : th_i → Int32 → Int32 → Int32 × th_i) (gi_37 : th_i) (z37_1 : Int32) : Int32 × th_i :=
  let w37_0 : Int32 := gi_37 h0 8
  let x2 : Int32 := y8_1 + z37_1
  let q3 : Nat := (gr h0 21).getD 0
  let gi4 : th_i := va_up gi_37 q3 (upd (gi_37 q3) y8_2.toNatClampNeg 0)
  let q6 : Nat := (gr h0 34).getD 0
  let x7 : Int32 := gi4 q6 y8_2.toNatClampNeg
  if x7 < (0 : Int32) then (
    f_X12_swap_66 τ Z gi gr h0 gi_8 y8_1 y8_2 k_8 gi4 x2) else (
    let gi14 : th_i := F_X12_lies τ Z gi4 gr h0 y8_2 x7
    f_X12_swap_66 τ Z gi gr h0 gi_8 y8_1 y8_2 k_8 gi14 x2)
noncomputable def f_X12_swap_8 (τ : th_t) (Z : th_Zt) (gi : th_i) (gr : th_r) (h0 : Nat) : Nat → th_i → Int32 → Int32 → Int32 × th_i
  | 0, gi_8, y8_1, y8_2 => (0, gi_8)
  | n8 + 1, gi_8, y8_1, y8_2 =>
    let x18 : Int32 := gi_8 h0 8
    if x18 ≤ y8_2 then (
      (y8_1, gi_8)) else (
      let q22 : Nat := (gr h0 34).getD 0
      let x23 : Int32 := gi_8 q22 y8_2.toNatClampNeg
      let q24 : Nat := (gr h0 12).getD 0
      let x25 : Int32 := gi_8 q24 y8_2.toNatClampNeg
      if x23 = x25 then (
        f_X12_swap_37 τ Z gi gr h0 gi_8 y8_1 y8_2 (f_X12_swap_8 τ Z gi gr h0 n8) gi_8 0) else (
        f_X12_swap_37 τ Z gi gr h0 gi_8 y8_1 y8_2 (f_X12_swap_8 τ Z gi gr h0 n8) gi_8 1))
noncomputable def F_X12_swap (τ : th_t) (Z : th_Zt) (gi : th_i) (gr : th_r) (h0 : Nat) : Int32 × th_i :=
  let gi28 : th_i := F_X12_findRings τ Z gi gr h0
  f_X12_swap_8 τ Z gi gr h0 ((16 - (0 : Int32).toInt).toNat + 1) gi28 0 0
set_option maxHeartbeats 8000000 in
set_option maxRecDepth 100000 in
theorem k_X12_swap (l : Launch) (D : va_G) (cA : Nat → ClassId) (Z : th_Zt) (τ : th_t) (gi : th_i) (gr : th_r) (sz : Nat) (h0 : Nat) (t_h0 : τ h0 = 12) : Met l yX12_swap wsX12_swap ({ frames := 4, cells := 0, slots := 0, locals := 95 }) (va_Pc [.ref h0] (th_Pre D cA Z τ gi gr sz)) (va_Qi (fun (r : Int32) (u : th_i × th_r) => th_Mod [4600, 5000, 5600, 6500, 6600, 6700] τ gi gr u.1 u.2 ∧ u.2 = gr ∧ (F_X12_swap τ Z gi gr h0 = (r, u.1))) (fun (u : th_i × th_r) t => th_H D cA τ u.1 u.2 t.heap) (th_A τ sz)) 0 0 (th_A τ sz) := by
  refine Met.ofW (cc := cX12_swap) (maxL := 3) (ret := (some .int)) (by decide) rfl ?_
  intro p e s m args below meth c s₁ B hml hv
  obtain ⟨rfl, hsz, hH, hK, hN, hZ⟩ := hv
  have hx := B.exec
  have hb := B.bytes
  have hr := B.returns
  have hts := atoms_spec (ws := wsX12_swap) B.pre
  have hown : s.vm.findClass RX12 = some m.cls := findClass_of_methodNamed B.named
  have hlocks := B.notSynchronized
  subst hsz
  have hM : th_Mod [4600, 5000, 5600, 6500, 6600, 6700] τ gi gr gi gr := th_Mod.rf
  have J8 : ∀ (n8 : Nat) (gi_8 : th_i) (H : Heap) (locs : List Loc) (ls : Array Slot) (y8_1 : Int32) (y8_2 : Int32), (16 - y8_2.toInt).toNat < n8 → th_H D cA τ gi_8 gr H → va_S (th_A τ s.heap.size) s.heap H locs → th_Mod [4600, 5000, 5600, 6500, 6600, 6700] τ gi gr gi_8 gr → lv_has ls 3 [(0, .ref h0), (1, .int y8_1), (2, .int y8_2)] → rg 0 16 y8_2 → F_X12_swap τ Z gi gr h0 = f_X12_swap_8 τ Z gi gr h0 n8 gi_8 y8_1 y8_2 → W p l e (headSpec wsX12_swap ({ frames := 4, cells := 0, slots := 0, locals := 95 })).room s m [.ref h0].toArray below meth c H locs 0 0 (MQ below (va_Qi (fun (r : Int32) (u : th_i × th_r) => th_Mod [4600, 5000, 5600, 6500, 6600, 6700] τ gi gr u.1 u.2 ∧ u.2 = gr ∧ (F_X12_swap τ Z gi gr h0 = (r, u.1))) (fun (u : th_i × th_r) t => th_H D cA τ u.1 u.2 t.heap) (th_A τ s.heap.size)) [.ref h0].toArray s 0 0 (th_A τ s.heap.size)) (F0 m 8 ls []) := by
    intro n8
    induction n8 with
    | zero =>
      intro gi_8 H locs ls y8_1 y8_2 hn
      exact absurd hn (Nat.not_lt_zero _)
    | succ n8 ih8 =>
      intro gi_8 H locs ls y8_1 y8_2 hn8 hH hS hM hl fy8_2 hF
      have J66 : ∀ (gi_66 : th_i) (H : Heap) (locs : List Loc) (ls : Array Slot) (y66_1 : Int32) (w66_0 : Int32), th_H D cA τ gi_66 gr H → va_S (th_A τ s.heap.size) s.heap H locs → th_Mod [4600, 5000, 5600, 6500, 6600, 6700] τ gi gr gi_66 gr → lv_has ls 3 [(0, .ref h0), (1, .int y66_1), (2, .int y8_2)] → rg 0 15 y8_2 → w66_0 = gi_66 h0 8 → rg 1 16 w66_0 → F_X12_swap τ Z gi gr h0 = f_X12_swap_66 τ Z gi gr h0 gi_8 y8_1 y8_2 (f_X12_swap_8 τ Z gi gr h0 n8) gi_66 y66_1 → W p l e (headSpec wsX12_swap ({ frames := 4, cells := 0, slots := 0, locals := 95 })).room s m [.ref h0].toArray below meth c H locs 0 0 (MQ below (va_Qi (fun (r : Int32) (u : th_i × th_r) => th_Mod [4600, 5000, 5600, 6500, 6600, 6700] τ gi gr u.1 u.2 ∧ u.2 = gr ∧ (F_X12_swap τ Z gi gr h0 = (r, u.1))) (fun (u : th_i × th_r) t => th_H D cA τ u.1 u.2 t.heap) (th_A τ s.heap.size)) [.ref h0].toArray s 0 0 (th_A τ s.heap.size)) (F0 m 66 ls []) := by
        intro gi_66 H locs ls y66_1 w66_0 hH hS hM hl fy66_2 ew66_0 fw66_0 hF
        obtain ⟨x1, e1⟩ : ∃ y : Int32, y = y8_2 + 1 := ⟨_, rfl⟩
        have f1 : rg 1 16 x1 := rg_e e1 (rg_w (rg_add fy66_2 rgc_1 (th_leI rfl) (th_leI rfl)) (th_leI rfl) (th_leI rfl))
        refine lv_iinc (v := x1) (lv' := [(2, .int x1), (0, .ref h0), (1, .int y66_1)]) hx hb dX12_swap_66 hl (k := 2) rfl (by rw [e1]; rfl) (th_ltN rfl) rfl (fun ls hl => ?_)
        refine lv_goto (tgt := 8) hx hb dX12_swap_69 (th_eqI rfl) ?_
        exact ih8 gi_66 _ _ _ y66_1 x1 (th_up (rg_dA e1 fy66_2 rgc_1 (th_leI rfl) (th_leI rfl)) fy66_2 hn8 (th_ltI rfl)) hH hS hM (lv_sub hl [1, 2, 0] rfl) (rg_w f1 (th_leI rfl) (th_leI rfl)) (hF.trans (by simp only [f_X12_swap_66, ← ew66_0, ← e1]))
      have J37 : ∀ (gi_37 : th_i) (H : Heap) (locs : List Loc) (ls : Array Slot) (z37_1 : Int32) (w37_0 : Int32), th_H D cA τ gi_37 gr H → va_S (th_A τ s.heap.size) s.heap H locs → th_Mod [4600, 5000, 5600, 6500, 6600, 6700] τ gi gr gi_37 gr → lv_has ls 3 [(0, .ref h0), (2, .int y8_2)] → rg 0 15 y8_2 → rg 0 1 z37_1 → w37_0 = gi_37 h0 8 → rg 1 16 w37_0 → F_X12_swap τ Z gi gr h0 = f_X12_swap_37 τ Z gi gr h0 gi_8 y8_1 y8_2 (f_X12_swap_8 τ Z gi gr h0 n8) gi_37 z37_1 → W p l e (headSpec wsX12_swap ({ frames := 4, cells := 0, slots := 0, locals := 95 })).room s m [.ref h0].toArray below meth c H locs 0 0 (MQ below (va_Qi (fun (r : Int32) (u : th_i × th_r) => th_Mod [4600, 5000, 5600, 6500, 6600, 6700] τ gi gr u.1 u.2 ∧ u.2 = gr ∧ (F_X12_swap τ Z gi gr h0 = (r, u.1))) (fun (u : th_i × th_r) t => th_H D cA τ u.1 u.2 t.heap) (th_A τ s.heap.size)) [.ref h0].toArray s 0 0 (th_A τ s.heap.size)) (F0 m 37 ls [.int z37_1, .int y8_1]) := by
        intro gi_37 H locs ls z37_1 w37_0 hH hS hM hl fy37_2 fz37_1 ew37_0 fw37_0 hF
        refine lv_iadd hx hb dX12_swap_37 ?_
        refine lv_topi (fun x2 e2 => ?_)
        refine lv_istore_n (i := 1) (lv' := [(1, .int x2), (0, .ref h0), (2, .int y8_2)]) hx hb dX12_swap_38 rfl hl (th_ltN rfl) rfl (fun ls hl => ?_)
        refine lv_aload_n hx hb dX12_swap_39 rfl (lv_at hl 1 rfl) ?_
        obtain ⟨q3, r3, t3⟩ : ∃ q, gr h0 21 = some q ∧ τ q = 56 := (thI_12 hH t_h0).2.2.2.2.2.2.2.2.2.2.2.2.2.2.2.2.2.2.2.1
        refine th_get (ci := 11) (v := .ref q3) (T := TX12) (C := RX12) (N := 38) hx hb hts (fun w h => List.mem_cons_of_mem _ (List.mem_append_right _ h)) hown hK hH t_h0 (th_nz rfl) (thE_12 _ _ _) rfl 21 (th_ltN rfl) (hts (.fieldLink RX12 65 "BayMooringsModel" "rathers" "[I") (List.mem_cons_of_mem _ (List.mem_append_left _ (List.mem_append_left _ (List.mem_of_getElem? (i := 3) rfl))))) (fun _ h9 => h9) (th_fR r3 rfl) dX12_swap_40 ?_
        refine lv_iload_n hx hb dX12_swap_43 rfl (lv_at hl 2 rfl) ?_
        refine lv_iconst (v := 0) hx hb dX12_swap_44 ic_0 ?_
        refine th_iast hx hb hK hH hS t3 (th_nz rfl) (Or.inl (th_nzE t3 rfl)) 0 (fun _ => thE_56 _ _ _) rfl (rg_in (n := 16) fy37_2 (th_leI rfl) (th_ltI rfl)) (th_ai (P := rg 0 4) (thI_56 hH t3) (rg_w rgc_0 (th_leI rfl) (th_leI rfl))) dX12_swap_45 (fun gi4 H locs hu4 ho4 hH hS => ?_)
        have eg4 : gi4 = va_up gi_37 q3 (upd (gi_37 q3) y8_2.toNatClampNeg 0) := th_upE hu4 ho4
        have e5 : w37_0 = gi4 h0 8 := Eq.trans ew37_0 (Eq.symm (ho4 _ _ (Or.inl (th_ne t_h0 t3 (th_nz rfl)))))
        have hM := hM.i t3 (th_mem (a := 5600) rfl) ho4
        refine lv_aload_n hx hb dX12_swap_46 rfl (lv_at hl 1 rfl) ?_
        obtain ⟨q6, r6, t6⟩ : ∃ q, gr h0 34 = some q ∧ τ q = 65 := (thI_12 hH t_h0).2.2.2.2.2.2.2.2.2.2.2.2.2.2.2.2.2.2.2.2.2.2.2.2.2.2.2.2.2.2.1
        refine th_get (ci := 11) (v := .ref q6) (T := TX12) (C := RX12) (N := 38) hx hb hts (fun w h => List.mem_cons_of_mem _ (List.mem_append_right _ h)) hown hK hH t_h0 (th_nz rfl) (thE_12 _ _ _) rfl 34 (th_ltN rfl) (hts (.fieldLink RX12 95 "BayMooringsModel" "gets" "[I") (List.mem_cons_of_mem _ (List.mem_append_left _ (List.mem_append_left _ (List.mem_of_getElem? (i := 1) rfl))))) (fun _ h9 => h9) (th_fR r6 rfl) dX12_swap_47 ?_
        refine lv_iload_n hx hb dX12_swap_50 rfl (lv_at hl 2 rfl) ?_
        refine th_iald hx hb hK hH t6 (th_nz rfl) 0 (thE_65 _ _ _) rfl (rg_in (n := 16) fy37_2 (th_leI rfl) (th_ltI rfl)) dX12_swap_51 ?_
        refine lv_topi (fun x7 e7 => ?_)
        have f7 : rg (-1) 11 x7 := rg_e e7 ((thI_65 hH t6) _ (rg_cl (n := 16) fy37_2 (th_leI rfl) (th_ltI rfl)))
        refine lv_if_lt (tgt := 66) hx hb dX12_swap_52 (th_eqI rfl) (fun c8 => ?_) (fun c8 => ?_)
        · skip
          have f9 : rg (-1) (-1) x7 := rg_w (rg_lt f7 rgc_0 c8).1 (th_leI rfl) (th_leI rfl)
          exact J66 gi4 _ _ _ x2 w37_0 hH hS hM (lv_sub hl [1, 0, 2] rfl) fy37_2 e5 fw37_0 (hF.trans (by simp only [↓reduceIte, f_X12_swap_37, ← ew37_0, ← e2, r3, Option.getD_some, ← eg4, r6, ← e7, eq_true c8]))
        · skip
          have f10 : rg 0 11 x7 := rg_w (rg_nlt f7 rgc_0 c8).1 (th_leI rfl) (th_leI rfl)
          refine lv_aload_n hx hb dX12_swap_55 rfl (lv_at hl 1 rfl) ?_
          refine lv_iload_n hx hb dX12_swap_56 rfl (lv_at hl 2 rfl) ?_
          refine lv_aload_n hx hb dX12_swap_57 rfl (lv_at hl 1 rfl) ?_
          refine th_get (ci := 11) (v := .ref q6) (T := TX12) (C := RX12) (N := 38) hx hb hts (fun w h => List.mem_cons_of_mem _ (List.mem_append_right _ h)) hown hK hH t_h0 (th_nz rfl) (thE_12 _ _ _) rfl 34 (th_ltN rfl) (hts (.fieldLink RX12 95 "BayMooringsModel" "gets" "[I") (List.mem_cons_of_mem _ (List.mem_append_left _ (List.mem_append_left _ (List.mem_of_getElem? (i := 1) rfl))))) (fun _ h9 => h9) (th_fR r6 rfl) dX12_swap_58 ?_
          refine lv_iload_n hx hb dX12_swap_61 rfl (lv_at hl 2 rfl) ?_
          refine th_iald hx hb hK hH t6 (th_nz rfl) 0 (thE_65 _ _ _) rfl (rg_in (n := 16) fy37_2 (th_leI rfl) (th_ltI rfl)) dX12_swap_62 ?_
          rw [← e7]
          have hA13 := th_Asub (τ := τ) hS
          refine va_callv (va_runV (As := [.int y8_2, .int x7]) (rest := []) ⟨hx, hb, hml, hown, hts⟩ (k_X12_lies l D cA Z τ gi4 gr _ h0 t_h0 y8_2 fy37_2 x7 f10) (cwV 2 hts gX12_swap_X12_lies rfl rfl rfl hd_X12_lies__2 ⟨Nat.le_of_ble_eq_true rfl, Nat.le_of_ble_eq_true rfl⟩) ⟨th_blind, tr_12 hK hH t_h0, (th_pre hH hK hN hZ hS hA13)⟩ rfl rfl hl.1 rfl (lv_room (Nat.le_of_ble_eq_true rfl)) dX12_swap_63 ⟨Nat.le_of_ble_eq_true rfl, Nat.le_of_ble_eq_true rfl⟩) hS (fun q _ h => hA13 q h) hA13 (fun  u t H locs ht hvm hw14 hB hz1 hk1 hS => ?_)
          try dsimp only at hw14 hB
          rw [ht] at hB
          have hH := hB
          obtain ⟨gi14, gr14⟩ := u
          try dsimp only at hw14 hH
          obtain rfl : gr = gr14 := (hw14.2.1).symm
          have hM := hM.tr hw14.1 (fun _ h => h) (th_sub rfl)
          have e15 : w37_0 = gi14 h0 8 := Eq.trans e5 (Eq.symm (hw14.1 h0 8 (th_nzE t_h0 rfl) (th_nmE (key := 1208) t_h0 rfl rfl)).1)
          have e16 : 0 = gi14 q3 (y8_2.toNatClampNeg) := Eq.trans hu4.symm (Eq.symm (hw14.1 q3 (y8_2.toNatClampNeg) (th_nzE t3 rfl) (th_nmE (key := 5600) t3 rfl rfl)).1)
          have e17 : x7 = gi14 q6 (y8_2.toNatClampNeg) := Eq.trans e7 (Eq.symm (hw14.1 q6 (y8_2.toNatClampNeg) (th_nzE t6 rfl) (th_nmE (key := 6500) t6 rfl rfl)).1)
          exact J66 gi14 _ _ _ x2 w37_0 hH hS hM (lv_sub hl [1, 0, 2] rfl) fy37_2 e15 fw37_0 (hF.trans (by simp only [↓reduceIte, f_X12_swap_37, ← ew37_0, ← e2, r3, Option.getD_some, ← eg4, r6, ← e7, eq_false c8, hw14.2.2]))
      refine lv_iload_n hx hb dX12_swap_8 rfl (lv_at hl 2 rfl) ?_
      refine lv_aload_n hx hb dX12_swap_9 rfl (lv_at hl 0 rfl) ?_
      obtain ⟨x18, e18⟩ : ∃ y : Int32, y = gi_8 h0 8 := ⟨_, rfl⟩
      refine th_get (ci := 11) (v := .int x18) (T := TX12) (C := RX12) (N := 38) hx hb hts (fun w h => List.mem_cons_of_mem _ (List.mem_append_right _ h)) hown hK hH t_h0 (th_nz rfl) (thE_12 _ _ _) rfl 8 (th_ltN rfl) (hts (.fieldLink RX12 116 "BayMooringsModel" "boats" "I") (List.mem_cons_of_mem _ (List.mem_append_left _ (List.mem_append_left _ (List.mem_of_getElem? (i := 0) rfl))))) (fun _ h9 => h9) (th_fI e18 rfl) dX12_swap_10 ?_
      have f18 : rg 0 16 x18 := rg_e e18 ((thI_12 hH t_h0).2.2.2.2.2.2.2.2.1)
      refine lv_icmp_ge (tgt := 72) hx hb dX12_swap_13 (th_eqI rfl) (fun c19 => ?_) (fun c19 => ?_)
      · skip
        refine lv_iload_n hx hb dX12_swap_72 rfl (lv_at hl 1 rfl) ?_
        exact W.iret (v := y8_1) hx hb hr (fun t ht hW => ⟨⟨y8_1, (gi_8, gr), rfl, ⟨hM, rfl, (hF.trans (by simp only [↓reduceIte, f_X12_swap_8, ← e18, eq_true c19]))⟩, th_Ht ht hH⟩, hS.F ht⟩) hS.2.2 dX12_swap_73
      · skip
        have f20 : rg 1 16 x18 := rg_w (rg_nle f18 fy8_2 c19).1 (th_leI rfl) (th_leI rfl)
        have f21 : rg 0 15 y8_2 := rg_w (rg_nle f18 fy8_2 c19).2 (th_leI rfl) (th_leI rfl)
        refine lv_iload_n hx hb dX12_swap_16 rfl (lv_at hl 1 rfl) ?_
        refine lv_aload_n hx hb dX12_swap_17 rfl (lv_at hl 0 rfl) ?_
        obtain ⟨q22, r22, t22⟩ : ∃ q, gr h0 34 = some q ∧ τ q = 65 := (thI_12 hH t_h0).2.2.2.2.2.2.2.2.2.2.2.2.2.2.2.2.2.2.2.2.2.2.2.2.2.2.2.2.2.2.1
        refine th_get (ci := 11) (v := .ref q22) (T := TX12) (C := RX12) (N := 38) hx hb hts (fun w h => List.mem_cons_of_mem _ (List.mem_append_right _ h)) hown hK hH t_h0 (th_nz rfl) (thE_12 _ _ _) rfl 34 (th_ltN rfl) (hts (.fieldLink RX12 95 "BayMooringsModel" "gets" "[I") (List.mem_cons_of_mem _ (List.mem_append_left _ (List.mem_append_left _ (List.mem_of_getElem? (i := 1) rfl))))) (fun _ h9 => h9) (th_fR r22 rfl) dX12_swap_18 ?_
        refine lv_iload_n hx hb dX12_swap_21 rfl (lv_at hl 2 rfl) ?_
        refine th_iald hx hb hK hH t22 (th_nz rfl) 0 (thE_65 _ _ _) rfl (rg_in (n := 16) f21 (th_leI rfl) (th_ltI rfl)) dX12_swap_22 ?_
        refine lv_topi (fun x23 e23 => ?_)
        have f23 : rg (-1) 11 x23 := rg_e e23 ((thI_65 hH t22) _ (rg_cl (n := 16) f21 (th_leI rfl) (th_ltI rfl)))
        refine lv_aload_n hx hb dX12_swap_23 rfl (lv_at hl 0 rfl) ?_
        obtain ⟨q24, r24, t24⟩ : ∃ q, gr h0 12 = some q ∧ τ q = 50 := (thI_12 hH t_h0).2.2.2.2.2.2.2.2.2.2.2.2.1
        refine th_get (ci := 11) (v := .ref q24) (T := TX12) (C := RX12) (N := 38) hx hb hts (fun w h => List.mem_cons_of_mem _ (List.mem_append_right _ h)) hown hK hH t_h0 (th_nz rfl) (thE_12 _ _ _) rfl 12 (th_ltN rfl) (hts (.fieldLink RX12 40 "BayMooringsModel" "buoyOf" "[I") (List.mem_cons_of_mem _ (List.mem_append_left _ (List.mem_append_left _ (List.mem_of_getElem? (i := 2) rfl))))) (fun _ h9 => h9) (th_fR r24 rfl) dX12_swap_24 ?_
        refine lv_iload_n hx hb dX12_swap_27 rfl (lv_at hl 2 rfl) ?_
        refine th_iald hx hb hK hH t24 (th_nz rfl) 0 (thE_50 _ _ _) rfl (rg_in (n := 16) f21 (th_leI rfl) (th_ltI rfl)) dX12_swap_28 ?_
        refine lv_topi (fun x25 e25 => ?_)
        have f25 : rg (-1) 11 x25 := rg_e e25 ((thI_50 hH t24) _ (rg_cl (n := 16) f21 (th_leI rfl) (th_ltI rfl)))
        refine lv_icmp_eq (tgt := 36) hx hb dX12_swap_29 (th_eqI rfl) (fun c26 => ?_) (fun c26 => ?_)
        · skip
          refine lv_iconst (v := 0) hx hb dX12_swap_36 ic_0 ?_
          exact J37 gi_8 _ _ _ 0 x18 hH hS hM (lv_sub hl [0, 2] rfl) f21 (rg_w rgc_0 (th_leI rfl) (th_leI rfl)) e18 f20 (hF.trans (by simp only [↓reduceIte, f_X12_swap_8, ← e18, eq_false c19, r22, Option.getD_some, ← e23, r24, ← e25, eq_true c26]))
        · skip
          refine lv_iconst (v := 1) hx hb dX12_swap_32 ic_1 ?_
          refine lv_goto (tgt := 37) hx hb dX12_swap_33 (th_eqI rfl) ?_
          exact J37 gi_8 _ _ _ 1 x18 hH hS hM (lv_sub hl [0, 2] rfl) f21 (rg_w rgc_1 (th_leI rfl) (th_leI rfl)) e18 f20 (hF.trans (by simp only [↓reduceIte, f_X12_swap_8, ← e18, eq_false c19, r22, Option.getD_some, ← e23, r24, ← e25, eq_false c26]))
  have hS : va_S (th_A τ s.heap.size) s.heap s.heap [] := va_S.rf
  have hl := lv_entry ([.ref h0]) (n := 3) (Nat.le_of_ble_eq_true rfl)
  rw [lg_entry_eq]
  generalize (lg_sl ([.ref h0]) ++ List.replicate (3 - (lg_sl ([.ref h0])).length) Slot.unset).toArray = ls at hl ⊢
  have hl : lv_has ls 3 [(0, .ref h0)] := hl
  have hF : F_X12_swap τ Z gi gr h0 = F_X12_swap τ Z gi gr h0 := rfl
  refine lv_aload_n hx hb dX12_swap_0 rfl (lv_at hl 0 rfl) ?_
  have hA27 := th_Asub (τ := τ) hS
  refine va_callv (va_runV (As := []) (rest := []) ⟨hx, hb, hml, hown, hts⟩ (k_X12_findRings l D cA Z τ gi gr _ h0 t_h0) (cwV 0 hts gX12_swap_X12_findRings rfl rfl rfl hd_X12_findRings__0 ⟨Nat.le_of_ble_eq_true rfl, Nat.le_of_ble_eq_true rfl⟩) ⟨th_blind, tr_12 hK hH t_h0, (th_pre hH hK hN hZ hS hA27)⟩ rfl rfl hl.1 rfl (lv_room (Nat.le_of_ble_eq_true rfl)) dX12_swap_1 ⟨Nat.le_of_ble_eq_true rfl, Nat.le_of_ble_eq_true rfl⟩) hS (fun q _ h => hA27 q h) hA27 (fun  u t H locs ht hvm hw28 hB hz1 hk1 hS => ?_)
  try dsimp only at hw28 hB
  rw [ht] at hB
  have hH := hB
  obtain ⟨gi28, gr28⟩ := u
  try dsimp only at hw28 hH
  obtain rfl : gr = gr28 := (hw28.2.1).symm
  have hM := hM.tr hw28.1 (fun _ h => h) (th_sub rfl)
  refine lv_iconst (v := 0) hx hb dX12_swap_4 ic_0 ?_
  refine lv_istore_n (i := 1) (lv' := [(1, .int 0), (0, .ref h0)]) hx hb dX12_swap_5 rfl hl (th_ltN rfl) rfl (fun ls hl => ?_)
  refine lv_iconst (v := 0) hx hb dX12_swap_6 ic_0 ?_
  refine lv_istore_n (i := 2) (lv' := [(2, .int 0), (1, .int 0), (0, .ref h0)]) hx hb dX12_swap_7 rfl hl (th_ltN rfl) rfl (fun ls hl => ?_)
  exact J8 _ gi28 _ _ _ 0 0 (Nat.lt_add_one _) hH hS hM (lv_sub hl [2, 1, 0] rfl) (rg_w rgc_0 (th_leI rfl) (th_leI rfl)) (hF.trans (by simp only [F_X12_swap, hw28.2.2]))

noncomputable def f_X12_partedMany_26 (τ : th_t) (Z : th_Zt) (gi : th_i) (gr : th_r) (h0 : Nat) (y4_1 : Int32) (y4_2 : Int32) (k_4 : Int32 → Int32 → Int32) (z26_1 : Int32) : Int32 :=
  let w26_0 : Int32 := gi h0 0
  let x1 : Int32 := y4_1 + z26_1
  let x2 : Int32 := y4_2 + 1
  k_4 x1 x2
noncomputable def f_X12_partedMany_4 (τ : th_t) (Z : th_Zt) (gi : th_i) (gr : th_r) (h0 : Nat) : Nat → Int32 → Int32 → Int32
  | 0, y4_1, y4_2 => 0
  | n4 + 1, y4_1, y4_2 =>
    let x3 : Int32 := gi h0 0
    if x3 ≤ y4_2 then (
      y4_1) else (
      let x8 : Int32 := F_X12_isParted τ Z gi gr h0 y4_2
      if x8 = (0 : Int32) then (
        f_X12_partedMany_26 τ Z gi gr h0 y4_1 y4_2 (f_X12_partedMany_4 τ Z gi gr h0 n4) 0) else (
        f_X12_partedMany_26 τ Z gi gr h0 y4_1 y4_2 (f_X12_partedMany_4 τ Z gi gr h0 n4) 1))
noncomputable def F_X12_partedMany (τ : th_t) (Z : th_Zt) (gi : th_i) (gr : th_r) (h0 : Nat) : Int32 :=
  f_X12_partedMany_4 τ Z gi gr h0 ((12 - (0 : Int32).toInt).toNat + 1) 0 0
set_option maxHeartbeats 8000000 in
set_option maxRecDepth 100000 in
theorem k_X12_partedMany (l : Launch) (D : va_G) (cA : Nat → ClassId) (Z : th_Zt) (τ : th_t) (gi : th_i) (gr : th_r) (sz : Nat) (h0 : Nat) (t_h0 : τ h0 = 12) : Met l yX12_partedMany wsX12_partedMany ({ frames := 1, cells := 0, slots := 0, locals := 21 }) (va_Pc [.ref h0] (th_Pre D cA Z τ gi gr sz)) (va_Qi (fun (r : Int32) (_ : Unit) => (F_X12_partedMany τ Z gi gr h0 = r)) (fun (_ : Unit) t => th_H D cA τ gi gr t.heap) (th_A τ sz)) 0 0 (th_A τ sz) := by
  refine Met.ofW (cc := cX12_partedMany) (maxL := 3) (ret := (some .int)) (by decide) rfl ?_
  intro p e s m args below meth c s₁ B hml hv
  obtain ⟨rfl, hsz, hH, hK, hN, hZ⟩ := hv
  have hx := B.exec
  have hb := B.bytes
  have hr := B.returns
  have hts := atoms_spec (ws := wsX12_partedMany) B.pre
  have hown : s.vm.findClass RX12 = some m.cls := findClass_of_methodNamed B.named
  have hlocks := B.notSynchronized
  subst hsz
  have J4 : ∀ (n4 : Nat) (H : Heap) (locs : List Loc) (ls : Array Slot) (y4_1 : Int32) (y4_2 : Int32), (12 - y4_2.toInt).toNat < n4 → th_H D cA τ gi gr H → va_S (th_A τ s.heap.size) s.heap H locs → lv_has ls 3 [(0, .ref h0), (1, .int y4_1), (2, .int y4_2)] → rg 0 12 y4_2 → F_X12_partedMany τ Z gi gr h0 = f_X12_partedMany_4 τ Z gi gr h0 n4 y4_1 y4_2 → W p l e (headSpec wsX12_partedMany ({ frames := 1, cells := 0, slots := 0, locals := 21 })).room s m [.ref h0].toArray below meth c H locs 0 0 (MQ below (va_Qi (fun (r : Int32) (_ : Unit) => (F_X12_partedMany τ Z gi gr h0 = r)) (fun (_ : Unit) t => th_H D cA τ gi gr t.heap) (th_A τ s.heap.size)) [.ref h0].toArray s 0 0 (th_A τ s.heap.size)) (F0 m 4 ls []) := by
    intro n4
    induction n4 with
    | zero =>
      intro H locs ls y4_1 y4_2 hn
      exact absurd hn (Nat.not_lt_zero _)
    | succ n4 ih4 =>
      intro H locs ls y4_1 y4_2 hn4 hH hS hl fy4_2 hF
      have J26 : ∀ (H : Heap) (locs : List Loc) (ls : Array Slot) (z26_1 : Int32) (w26_0 : Int32), th_H D cA τ gi gr H → va_S (th_A τ s.heap.size) s.heap H locs → lv_has ls 3 [(0, .ref h0), (2, .int y4_2)] → rg 0 11 y4_2 → rg 0 1 z26_1 → w26_0 = gi h0 0 → rg 1 12 w26_0 → F_X12_partedMany τ Z gi gr h0 = f_X12_partedMany_26 τ Z gi gr h0 y4_1 y4_2 (f_X12_partedMany_4 τ Z gi gr h0 n4) z26_1 → W p l e (headSpec wsX12_partedMany ({ frames := 1, cells := 0, slots := 0, locals := 21 })).room s m [.ref h0].toArray below meth c H locs 0 0 (MQ below (va_Qi (fun (r : Int32) (_ : Unit) => (F_X12_partedMany τ Z gi gr h0 = r)) (fun (_ : Unit) t => th_H D cA τ gi gr t.heap) (th_A τ s.heap.size)) [.ref h0].toArray s 0 0 (th_A τ s.heap.size)) (F0 m 26 ls [.int z26_1, .int y4_1]) := by
        intro H locs ls z26_1 w26_0 hH hS hl fy26_2 fz26_1 ew26_0 fw26_0 hF
        refine lv_iadd hx hb dX12_partedMany_26 ?_
        refine lv_topi (fun x1 e1 => ?_)
        refine lv_istore_n (i := 1) (lv' := [(1, .int x1), (0, .ref h0), (2, .int y4_2)]) hx hb dX12_partedMany_27 rfl hl (th_ltN rfl) rfl (fun ls hl => ?_)
        obtain ⟨x2, e2⟩ : ∃ y : Int32, y = y4_2 + 1 := ⟨_, rfl⟩
        have f2 : rg 1 12 x2 := rg_e e2 (rg_w (rg_add fy26_2 rgc_1 (th_leI rfl) (th_leI rfl)) (th_leI rfl) (th_leI rfl))
        refine lv_iinc (v := x2) (lv' := [(2, .int x2), (1, .int x1), (0, .ref h0)]) hx hb dX12_partedMany_28 hl (k := 2) rfl (by rw [e2]; rfl) (th_ltN rfl) rfl (fun ls hl => ?_)
        refine lv_goto (tgt := 4) hx hb dX12_partedMany_31 (th_eqI rfl) ?_
        exact ih4 _ _ _ x1 x2 (th_up (rg_dA e2 fy26_2 rgc_1 (th_leI rfl) (th_leI rfl)) fy26_2 hn4 (th_ltI rfl)) hH hS (lv_sub hl [2, 1, 0] rfl) (rg_w f2 (th_leI rfl) (th_leI rfl)) (hF.trans (by simp only [f_X12_partedMany_26, ← ew26_0, ← e1, ← e2]))
      refine lv_iload_n hx hb dX12_partedMany_4 rfl (lv_at hl 2 rfl) ?_
      refine lv_aload_n hx hb dX12_partedMany_5 rfl (lv_at hl 0 rfl) ?_
      obtain ⟨x3, e3⟩ : ∃ y : Int32, y = gi h0 0 := ⟨_, rfl⟩
      refine th_get (ci := 11) (v := .int x3) (T := TX12) (C := RX12) (N := 38) hx hb hts (fun w h => List.mem_cons_of_mem _ (List.mem_append_right _ h)) hown hK hH t_h0 (th_nz rfl) (thE_12 _ _ _) rfl 0 (th_ltN rfl) (hts (.fieldLink RX12 109 "BayMooringsModel" "buoys" "I") (List.mem_cons_of_mem _ (List.mem_append_left _ (List.mem_of_getElem? (i := 0) rfl)))) (fun _ h9 => h9) (th_fI e3 rfl) dX12_partedMany_6 ?_
      have f3 : rg 0 12 x3 := rg_e e3 ((thI_12 hH t_h0).1)
      refine lv_icmp_ge (tgt := 34) hx hb dX12_partedMany_9 (th_eqI rfl) (fun c4 => ?_) (fun c4 => ?_)
      · skip
        refine lv_iload_n hx hb dX12_partedMany_34 rfl (lv_at hl 1 rfl) ?_
        exact W.iret (v := y4_1) hx hb hr (fun t ht hW => ⟨⟨y4_1, (), rfl, (hF.trans (by simp only [↓reduceIte, f_X12_partedMany_4, ← e3, eq_true c4])), th_Ht ht hH⟩, hS.F ht⟩) hS.2.2 dX12_partedMany_35
      · skip
        have f5 : rg 1 12 x3 := rg_w (rg_nle f3 fy4_2 c4).1 (th_leI rfl) (th_leI rfl)
        have f6 : rg 0 11 y4_2 := rg_w (rg_nle f3 fy4_2 c4).2 (th_leI rfl) (th_leI rfl)
        refine lv_iload_n hx hb dX12_partedMany_12 rfl (lv_at hl 1 rfl) ?_
        refine lv_aload_n hx hb dX12_partedMany_13 rfl (lv_at hl 0 rfl) ?_
        refine lv_iload_n hx hb dX12_partedMany_14 rfl (lv_at hl 2 rfl) ?_
        have hA7 := th_Asub (τ := τ) hS
        refine va_calli (va_runV (As := [.int y4_2]) (rest := [.int y4_1]) ⟨hx, hb, hml, hown, hts⟩ (k_X12_isParted l D cA Z τ gi gr _ h0 t_h0 y4_2 f6) (cwV 1 hts gX12_partedMany_X12_isParted rfl rfl rfl hd_X12_isParted__1 ⟨Nat.le_of_ble_eq_true rfl, Nat.le_of_ble_eq_true rfl⟩) ⟨th_blind, tr_12 hK hH t_h0, (th_pre hH hK hN hZ hS hA7)⟩ rfl rfl hl.1 rfl (lv_room (Nat.le_of_ble_eq_true rfl)) dX12_partedMany_15 ⟨Nat.le_of_ble_eq_true rfl, Nat.le_of_ble_eq_true rfl⟩) hS (fun q _ h => hA7 q h) hA7 (fun x8 u t H locs ht hvm hw8 hB hz1 hk1 hS => ?_)
        try dsimp only at hw8 hB
        rw [ht] at hB
        have hH := hB
        refine lv_if_eq (tgt := 25) hx hb dX12_partedMany_18 (th_eqI rfl) (fun c9 => ?_) (fun c9 => ?_)
        · skip
          have f10 : rg 0 0 x8 := rg_w (rg_eq hw8.1 rgc_0 c9).1 (th_leI rfl) (th_leI rfl)
          refine lv_iconst (v := 0) hx hb dX12_partedMany_25 ic_0 ?_
          exact J26 _ _ _ 0 x3 hH hS (lv_sub hl [0, 2] rfl) f6 (rg_w rgc_0 (th_leI rfl) (th_leI rfl)) e3 f5 (hF.trans (by simp only [↓reduceIte, f_X12_partedMany_4, ← e3, eq_false c4, hw8.2, eq_true c9]))
        · skip
          have f11 : rg 1 1 x8 := rg_w (rg_neL hw8.1 rgc_0 c9) (th_leI rfl) (th_leI rfl)
          refine lv_iconst (v := 1) hx hb dX12_partedMany_21 ic_1 ?_
          refine lv_goto (tgt := 26) hx hb dX12_partedMany_22 (th_eqI rfl) ?_
          exact J26 _ _ _ 1 x3 hH hS (lv_sub hl [0, 2] rfl) f6 (rg_w rgc_1 (th_leI rfl) (th_leI rfl)) e3 f5 (hF.trans (by simp only [↓reduceIte, f_X12_partedMany_4, ← e3, eq_false c4, hw8.2, eq_false c9]))
  have hS : va_S (th_A τ s.heap.size) s.heap s.heap [] := va_S.rf
  have hl := lv_entry ([.ref h0]) (n := 3) (Nat.le_of_ble_eq_true rfl)
  rw [lg_entry_eq]
  generalize (lg_sl ([.ref h0]) ++ List.replicate (3 - (lg_sl ([.ref h0])).length) Slot.unset).toArray = ls at hl ⊢
  have hl : lv_has ls 3 [(0, .ref h0)] := hl
  have hF : F_X12_partedMany τ Z gi gr h0 = F_X12_partedMany τ Z gi gr h0 := rfl
  refine lv_iconst (v := 0) hx hb dX12_partedMany_0 ic_0 ?_
  refine lv_istore_n (i := 1) (lv' := [(1, .int 0), (0, .ref h0)]) hx hb dX12_partedMany_1 rfl hl (th_ltN rfl) rfl (fun ls hl => ?_)
  refine lv_iconst (v := 0) hx hb dX12_partedMany_2 ic_0 ?_
  refine lv_istore_n (i := 2) (lv' := [(2, .int 0), (1, .int 0), (0, .ref h0)]) hx hb dX12_partedMany_3 rfl hl (th_ltN rfl) rfl (fun ls hl => ?_)
  exact J4 _ _ _ _ 0 0 (Nat.lt_add_one _) hH hS (lv_sub hl [2, 1, 0] rfl) (rg_w rgc_0 (th_leI rfl) (th_leI rfl)) (hF.trans (by simp only [F_X12_partedMany]))

noncomputable def f_X12_years_84 (τ : th_t) (Z : th_Zt) (gi : th_i) (gr : th_r) (h0 : Nat) (p1 : Int32) (gi_19 : th_i) (y19_2 : Int32) (k_19 : th_i → Int32 → Int32 × th_i) (gi_84 : th_i) (z84_0 : Nat) (z84_2 : Int32) (z84_3 : Int32) (z84_5 : Int32) : Int32 × th_i :=
  let w84_0 : Int32 := gi_84 h0 0
  let x1 : Int32 := p1 * z84_5
  let x2 : Int32 := z84_3 + x1
  let x3 : Int32 := th_mn z84_2 x2
  let gi4 : th_i := va_up gi_84 z84_0 (upd (gi_84 z84_0) y19_2.toNatClampNeg x3)
  let q6 : Nat := (gr h0 5).getD 0
  let x8 : Int32 := gi4 q6 y19_2.toNatClampNeg
  let x9 : Int32 := 3 * p1
  let x10 : Int32 := x8 + x9
  let x11 : Int32 := th_mn 100 x10
  let gi12 : th_i := va_up gi4 q6 (upd (gi4 q6) y19_2.toNatClampNeg x11)
  let x16 : Int32 := y19_2 + 1
  k_19 gi12 x16
noncomputable def f_X12_years_58 (τ : th_t) (Z : th_Zt) (gi : th_i) (gr : th_r) (h0 : Nat) (p1 : Int32) (gi_19 : th_i) (y19_2 : Int32) (k_19 : th_i → Int32 → Int32 × th_i) (gi_58 : th_i) (z58_0 : Int32) : Int32 × th_i :=
  let w58_0 : Int32 := gi_58 h0 0
  let q17 : Nat := (gr h0 6).getD 0
  let x19 : Int32 := gi_58 q17 y19_2.toNatClampNeg
  if z58_0 = (0 : Int32) then (
    f_X12_years_84 τ Z gi gr h0 p1 gi_19 y19_2 k_19 gi_58 q17 100 x19 12) else (
    f_X12_years_84 τ Z gi gr h0 p1 gi_19 y19_2 k_19 gi_58 q17 100 x19 20)
noncomputable def f_X12_years_57 (τ : th_t) (Z : th_Zt) (gi : th_i) (gr : th_r) (h0 : Nat) (p1 : Int32) (gi_19 : th_i) (y19_2 : Int32) (k_19 : th_i → Int32 → Int32 × th_i) (gi_57 : th_i) : Int32 × th_i :=
  let w57_0 : Int32 := gi_57 h0 0
  f_X12_years_58 τ Z gi gr h0 p1 gi_19 y19_2 k_19 gi_57 0
noncomputable def f_X12_years_19 (τ : th_t) (Z : th_Zt) (gi : th_i) (gr : th_r) (h0 : Nat) (p1 : Int32) : Nat → th_i → Int32 → Int32 × th_i
  | 0, gi_19, y19_2 => (0, gi_19)
  | n19 + 1, gi_19, y19_2 =>
    let x23 : Int32 := gi_19 h0 0
    if x23 ≤ y19_2 then (
      let x26 : Int32 := F_X12_partedMany τ Z gi_19 gr h0
      (x26, gi_19)) else (
      let q29 : Nat := (gr h0 7).getD 0
      let x30 : Int32 := gi_19 q29 y19_2.toNatClampNeg
      if x30 < (0 : Int32) then (
        f_X12_years_57 τ Z gi gr h0 p1 gi_19 y19_2 (f_X12_years_19 τ Z gi gr h0 p1 n19) gi_19) else (
        let q34 : Nat := (gr h0 10).getD 0
        let x37 : Int32 := gi_19 q34 x30.toNatClampNeg
        if x37 < (150 : Int32) then (
          f_X12_years_57 τ Z gi gr h0 p1 gi_19 y19_2 (f_X12_years_19 τ Z gi gr h0 p1 n19) gi_19) else (
          f_X12_years_58 τ Z gi gr h0 p1 gi_19 y19_2 (f_X12_years_19 τ Z gi gr h0 p1 n19) gi_19 1)))
noncomputable def F_X12_years (τ : th_t) (Z : th_Zt) (gi : th_i) (gr : th_r) (h0 : Nat) (p1 : Int32) : Int32 × th_i :=
  let x42 : Int32 := F_X12_within τ Z gi gr p1 1 30
  if x42 = (0 : Int32) then (
    let u50 : Int32 × th_i := F_X12_finding τ Z gi gr h0 (-1000001)
    let x50 : Int32 := u50.1
    let gi50 : th_i := u50.2
    (x50, gi50)) else (
    f_X12_years_19 τ Z gi gr h0 p1 ((12 - (0 : Int32).toInt).toNat + 1) gi 0)
set_option maxHeartbeats 8000000 in
set_option maxRecDepth 100000 in
theorem k_X12_years (l : Launch) (D : va_G) (cA : Nat → ClassId) (Z : th_Zt) (τ : th_t) (gi : th_i) (gr : th_r) (sz : Nat) (h0 : Nat) (t_h0 : τ h0 = 12) (p1 : Int32) : Met l yX12_years wsX12_years ({ frames := 2, cells := 0, slots := 0, locals := 43 }) (va_Pc [.ref h0, .int p1] (th_Pre D cA Z τ gi gr sz)) (va_Qi (fun (r : Int32) (u : th_i × th_r) => th_Mod [4400, 4500, 5900] τ gi gr u.1 u.2 ∧ u.2 = gr ∧ (F_X12_years τ Z gi gr h0 p1 = (r, u.1))) (fun (u : th_i × th_r) t => th_H D cA τ u.1 u.2 t.heap) (th_A τ sz)) 0 0 (th_A τ sz) := by
  refine Met.ofW (cc := cX12_years) (maxL := 4) (ret := (some .int)) (by decide) rfl ?_
  intro p e s m args below meth c s₁ B hml hv
  obtain ⟨rfl, hsz, hH, hK, hN, hZ⟩ := hv
  have hx := B.exec
  have hb := B.bytes
  have hr := B.returns
  have hts := atoms_spec (ws := wsX12_years) B.pre
  have hown : s.vm.findClass RX12 = some m.cls := findClass_of_methodNamed B.named
  have hlocks := B.notSynchronized
  subst hsz
  have hM : th_Mod [4400, 4500, 5900] τ gi gr gi gr := th_Mod.rf
  have J19 : ∀ (n19 : Nat) (gi_19 : th_i) (H : Heap) (locs : List Loc) (ls : Array Slot) (y19_2 : Int32), (12 - y19_2.toInt).toNat < n19 → th_H D cA τ gi_19 gr H → va_S (th_A τ s.heap.size) s.heap H locs → th_Mod [4400, 4500, 5900] τ gi gr gi_19 gr → lv_has ls 4 [(0, .ref h0), (1, .int p1), (2, .int y19_2)] → rg 1 30 p1 → rg 0 12 y19_2 → F_X12_years τ Z gi gr h0 p1 = f_X12_years_19 τ Z gi gr h0 p1 n19 gi_19 y19_2 → W p l e (headSpec wsX12_years ({ frames := 2, cells := 0, slots := 0, locals := 43 })).room s m [.ref h0, .int p1].toArray below meth c H locs 0 0 (MQ below (va_Qi (fun (r : Int32) (u : th_i × th_r) => th_Mod [4400, 4500, 5900] τ gi gr u.1 u.2 ∧ u.2 = gr ∧ (F_X12_years τ Z gi gr h0 p1 = (r, u.1))) (fun (u : th_i × th_r) t => th_H D cA τ u.1 u.2 t.heap) (th_A τ s.heap.size)) [.ref h0, .int p1].toArray s 0 0 (th_A τ s.heap.size)) (F0 m 19 ls []) := by
    intro n19
    induction n19 with
    | zero =>
      intro gi_19 H locs ls y19_2 hn
      exact absurd hn (Nat.not_lt_zero _)
    | succ n19 ih19 =>
      intro gi_19 H locs ls y19_2 hn19 hH hS hM hl fy19_1 fy19_2 hF
      have J84 : ∀ (gi_84 : th_i) (H : Heap) (locs : List Loc) (ls : Array Slot) (z84_0 : Nat) (z84_2 : Int32) (z84_3 : Int32) (z84_5 : Int32) (w84_0 : Int32), th_H D cA τ gi_84 gr H → va_S (th_A τ s.heap.size) s.heap H locs → th_Mod [4400, 4500, 5900] τ gi gr gi_84 gr → lv_has ls 4 [(0, .ref h0), (1, .int p1), (2, .int y19_2)] → rg 1 30 p1 → rg 0 11 y19_2 → (τ z84_0 = 45) → rg 0 11 y19_2 → rg 100 100 z84_2 → rg 1 30 p1 → rg 12 23 z84_5 → w84_0 = gi_84 h0 0 → rg 1 12 w84_0 → F_X12_years τ Z gi gr h0 p1 = f_X12_years_84 τ Z gi gr h0 p1 gi_19 y19_2 (f_X12_years_19 τ Z gi gr h0 p1 n19) gi_84 z84_0 z84_2 z84_3 z84_5 → W p l e (headSpec wsX12_years ({ frames := 2, cells := 0, slots := 0, locals := 43 })).room s m [.ref h0, .int p1].toArray below meth c H locs 0 0 (MQ below (va_Qi (fun (r : Int32) (u : th_i × th_r) => th_Mod [4400, 4500, 5900] τ gi gr u.1 u.2 ∧ u.2 = gr ∧ (F_X12_years τ Z gi gr h0 p1 = (r, u.1))) (fun (u : th_i × th_r) t => th_H D cA τ u.1 u.2 t.heap) (th_A τ s.heap.size)) [.ref h0, .int p1].toArray s 0 0 (th_A τ s.heap.size)) (F0 m 84 ls [.int z84_5, .int p1, .int z84_3, .int z84_2, .int y19_2, .ref z84_0]) := by
        intro gi_84 H locs ls z84_0 z84_2 z84_3 z84_5 w84_0 hH hS hM hl fy84_1 fy84_2 tz84_0 fz84_1 fz84_2 fz84_4 fz84_5 ew84_0 fw84_0 hF
        refine lv_imul hx hb dX12_years_84 ?_
        refine lv_topi (fun x1 e1 => ?_)
        have f1 : rg 12 690 x1 := rg_e e1 (rg_w (rg_mul fz84_4 fz84_5 (th_leI rfl) (th_leI rfl) (th_leI rfl)) (th_leI rfl) (th_leI rfl))
        refine lv_iadd hx hb dX12_years_85 ?_
        refine lv_topi (fun x2 e2 => ?_)
        refine va_mmin hx hb (by rw [hml]; exact hl.1.symm) hown (hts (.methodLink RX12 168 Lib.Math.min.name) (List.mem_cons_of_mem _ (List.mem_append_left _ (List.mem_append_left _ (List.mem_of_getElem? (i := 5) rfl))))) (hts (.static Lib.Math.min.name) (List.mem_cons_of_mem _ (List.mem_append_left _ (List.mem_append_left _ (List.mem_of_getElem? (i := 6) rfl))))) (hts (.initialized "java/lang/Math") (List.mem_cons_of_mem _ (List.mem_append_left _ (List.mem_append_left _ (List.mem_of_getElem? (i := 7) rfl))))) (hts (.code Lib.Math.min.name Lib.Math.min.code 2 (some .int)) (List.mem_cons_of_mem _ (List.mem_append_left _ (List.mem_append_left _ (List.mem_of_getElem? (i := 8) rfl))))) (Nat.le_of_ble_eq_true rfl) (Nat.le_of_ble_eq_true rfl) (Nat.zero_le _) (Nat.zero_le _) dX12_years_86 ?_
        refine lv_topi (fun x3 e3 => ?_)
        have em3 : x3 = th_mn z84_2 x2 := e3
        refine th_iast hx hb hK hH hS tz84_0 (th_nz rfl) (Or.inl (th_nzE tz84_0 rfl)) 0 (fun _ => thE_45 _ _ _) rfl (rg_in (n := 12) fz84_1 (th_leI rfl) (th_ltI rfl)) (trivial) dX12_years_89 (fun gi4 H locs hu4 ho4 hH hS => ?_)
        have eg4 : gi4 = va_up gi_84 z84_0 (upd (gi_84 z84_0) y19_2.toNatClampNeg x3) := th_upE hu4 ho4
        have e5 : w84_0 = gi4 h0 0 := Eq.trans ew84_0 (Eq.symm (ho4 _ _ (Or.inl (th_ne t_h0 tz84_0 (th_nz rfl)))))
        have hM := hM.i tz84_0 (th_mem (a := 4500) rfl) ho4
        refine lv_aload_n hx hb dX12_years_90 rfl (lv_at hl 0 rfl) ?_
        obtain ⟨q6, r6, t6⟩ : ∃ q, gr h0 5 = some q ∧ τ q = 44 := (thI_12 hH t_h0).2.2.2.2.2.1
        refine th_get (ci := 11) (v := .ref q6) (T := TX12) (C := RX12) (N := 38) hx hb hts (fun w h => List.mem_cons_of_mem _ (List.mem_append_right _ h)) hown hK hH t_h0 (th_nz rfl) (thE_12 _ _ _) rfl 5 (th_ltN rfl) (hts (.fieldLink RX12 22 "BayMooringsModel" "low" "[I") (List.mem_cons_of_mem _ (List.mem_append_left _ (List.mem_append_left _ (List.mem_of_getElem? (i := 9) rfl))))) (fun _ h9 => h9) (th_fR r6 rfl) dX12_years_91 ?_
        refine lv_iload_n hx hb dX12_years_94 rfl (lv_at hl 2 rfl) ?_
        refine lv_bipush (v := 100) hx hb dX12_years_95 bp_100 ?_
        refine lv_aload_n hx hb dX12_years_97 rfl (lv_at hl 0 rfl) ?_
        refine th_get (ci := 11) (v := .ref q6) (T := TX12) (C := RX12) (N := 38) hx hb hts (fun w h => List.mem_cons_of_mem _ (List.mem_append_right _ h)) hown hK hH t_h0 (th_nz rfl) (thE_12 _ _ _) rfl 5 (th_ltN rfl) (hts (.fieldLink RX12 22 "BayMooringsModel" "low" "[I") (List.mem_cons_of_mem _ (List.mem_append_left _ (List.mem_append_left _ (List.mem_of_getElem? (i := 9) rfl))))) (fun _ h9 => h9) (th_fR r6 rfl) dX12_years_98 ?_
        refine lv_iload_n hx hb dX12_years_101 rfl (lv_at hl 2 rfl) ?_
        refine th_iald hx hb hK hH t6 (th_nz rfl) 0 (thE_44 _ _ _) rfl (rg_in (n := 12) fz84_1 (th_leI rfl) (th_ltI rfl)) dX12_years_102 ?_
        refine lv_topi (fun x8 e8 => ?_)
        refine lv_iconst (v := 3) hx hb dX12_years_103 ic_3 ?_
        refine lv_iload_n hx hb dX12_years_104 rfl (lv_at hl 1 rfl) ?_
        refine lv_imul hx hb dX12_years_105 ?_
        refine lv_topi (fun x9 e9 => ?_)
        have f9 : rg 3 90 x9 := rg_e e9 (rg_w (rg_mul rgc_3 fz84_4 (th_leI rfl) (th_leI rfl) (th_leI rfl)) (th_leI rfl) (th_leI rfl))
        refine lv_iadd hx hb dX12_years_106 ?_
        refine lv_topi (fun x10 e10 => ?_)
        refine va_mmin hx hb (by rw [hml]; exact hl.1.symm) hown (hts (.methodLink RX12 168 Lib.Math.min.name) (List.mem_cons_of_mem _ (List.mem_append_left _ (List.mem_append_left _ (List.mem_of_getElem? (i := 5) rfl))))) (hts (.static Lib.Math.min.name) (List.mem_cons_of_mem _ (List.mem_append_left _ (List.mem_append_left _ (List.mem_of_getElem? (i := 6) rfl))))) (hts (.initialized "java/lang/Math") (List.mem_cons_of_mem _ (List.mem_append_left _ (List.mem_append_left _ (List.mem_of_getElem? (i := 7) rfl))))) (hts (.code Lib.Math.min.name Lib.Math.min.code 2 (some .int)) (List.mem_cons_of_mem _ (List.mem_append_left _ (List.mem_append_left _ (List.mem_of_getElem? (i := 8) rfl))))) (Nat.le_of_ble_eq_true rfl) (Nat.le_of_ble_eq_true rfl) (Nat.zero_le _) (Nat.zero_le _) dX12_years_107 ?_
        refine lv_topi (fun x11 e11 => ?_)
        have em11 : x11 = th_mn 100 x10 := e11
        refine th_iast hx hb hK hH hS t6 (th_nz rfl) (Or.inl (th_nzE t6 rfl)) 0 (fun _ => thE_44 _ _ _) rfl (rg_in (n := 12) fz84_1 (th_leI rfl) (th_ltI rfl)) (trivial) dX12_years_110 (fun gi12 H locs hu12 ho12 hH hS => ?_)
        have eg12 : gi12 = va_up gi4 q6 (upd (gi4 q6) y19_2.toNatClampNeg x11) := th_upE hu12 ho12
        have e13 : w84_0 = gi12 h0 0 := Eq.trans e5 (Eq.symm (ho12 _ _ (Or.inl (th_ne t_h0 t6 (th_nz rfl)))))
        have e14 : x3 = gi12 z84_0 (y19_2.toNatClampNeg) := Eq.trans hu4.symm (Eq.symm (ho12 _ _ (Or.inl (th_ne tz84_0 t6 (th_nz rfl)))))
        have hM := hM.i t6 (th_mem (a := 4400) rfl) ho12
        obtain ⟨x16, e16⟩ : ∃ y : Int32, y = y19_2 + 1 := ⟨_, rfl⟩
        have f16 : rg 1 12 x16 := rg_e e16 (rg_w (rg_add fz84_1 rgc_1 (th_leI rfl) (th_leI rfl)) (th_leI rfl) (th_leI rfl))
        refine lv_iinc (v := x16) (lv' := [(2, .int x16), (0, .ref h0), (1, .int p1)]) hx hb dX12_years_111 hl (k := 2) rfl (by rw [e16]; rfl) (th_ltN rfl) rfl (fun ls hl => ?_)
        refine lv_goto (tgt := 19) hx hb dX12_years_114 (th_eqI rfl) ?_
        exact ih19 gi12 _ _ _ x16 (th_up (rg_dA e16 fz84_1 rgc_1 (th_leI rfl) (th_leI rfl)) fz84_1 hn19 (th_ltI rfl)) hH hS hM (lv_sub hl [1, 2, 0] rfl) fz84_4 (rg_w f16 (th_leI rfl) (th_leI rfl)) (hF.trans (by simp only [f_X12_years_84, ← ew84_0, ← e1, ← e2, ← em3, ← eg4, r6, Option.getD_some, ← e8, ← e9, ← e10, ← em11, ← eg12, ← e16]))
      have J58 : ∀ (gi_58 : th_i) (H : Heap) (locs : List Loc) (ls : Array Slot) (z58_0 : Int32) (w58_0 : Int32), th_H D cA τ gi_58 gr H → va_S (th_A τ s.heap.size) s.heap H locs → th_Mod [4400, 4500, 5900] τ gi gr gi_58 gr → lv_has ls 4 [(0, .ref h0), (1, .int p1), (2, .int y19_2)] → rg 1 30 p1 → rg 0 11 y19_2 → rg 0 1 z58_0 → w58_0 = gi_58 h0 0 → rg 1 12 w58_0 → F_X12_years τ Z gi gr h0 p1 = f_X12_years_58 τ Z gi gr h0 p1 gi_19 y19_2 (f_X12_years_19 τ Z gi gr h0 p1 n19) gi_58 z58_0 → W p l e (headSpec wsX12_years ({ frames := 2, cells := 0, slots := 0, locals := 43 })).room s m [.ref h0, .int p1].toArray below meth c H locs 0 0 (MQ below (va_Qi (fun (r : Int32) (u : th_i × th_r) => th_Mod [4400, 4500, 5900] τ gi gr u.1 u.2 ∧ u.2 = gr ∧ (F_X12_years τ Z gi gr h0 p1 = (r, u.1))) (fun (u : th_i × th_r) t => th_H D cA τ u.1 u.2 t.heap) (th_A τ s.heap.size)) [.ref h0, .int p1].toArray s 0 0 (th_A τ s.heap.size)) (F0 m 58 ls [.int z58_0]) := by
        intro gi_58 H locs ls z58_0 w58_0 hH hS hM hl fy58_1 fy58_2 fz58_0 ew58_0 fw58_0 hF
        refine lv_istore_n (i := 3) (lv' := [(3, .int z58_0), (0, .ref h0), (1, .int p1), (2, .int y19_2)]) hx hb dX12_years_58 rfl hl (th_ltN rfl) rfl (fun ls hl => ?_)
        refine lv_aload_n hx hb dX12_years_59 rfl (lv_at hl 1 rfl) ?_
        obtain ⟨q17, r17, t17⟩ : ∃ q, gr h0 6 = some q ∧ τ q = 45 := (thI_12 hH t_h0).2.2.2.2.2.2.1
        refine th_get (ci := 11) (v := .ref q17) (T := TX12) (C := RX12) (N := 38) hx hb hts (fun w h => List.mem_cons_of_mem _ (List.mem_append_right _ h)) hown hK hH t_h0 (th_nz rfl) (thE_12 _ _ _) rfl 6 (th_ltN rfl) (hts (.fieldLink RX12 25 "BayMooringsModel" "high" "[I") (List.mem_cons_of_mem _ (List.mem_append_left _ (List.mem_append_left _ (List.mem_of_getElem? (i := 4) rfl))))) (fun _ h9 => h9) (th_fR r17 rfl) dX12_years_60 ?_
        refine lv_iload_n hx hb dX12_years_63 rfl (lv_at hl 3 rfl) ?_
        refine lv_bipush (v := 100) hx hb dX12_years_64 bp_100 ?_
        refine lv_aload_n hx hb dX12_years_66 rfl (lv_at hl 1 rfl) ?_
        refine th_get (ci := 11) (v := .ref q17) (T := TX12) (C := RX12) (N := 38) hx hb hts (fun w h => List.mem_cons_of_mem _ (List.mem_append_right _ h)) hown hK hH t_h0 (th_nz rfl) (thE_12 _ _ _) rfl 6 (th_ltN rfl) (hts (.fieldLink RX12 25 "BayMooringsModel" "high" "[I") (List.mem_cons_of_mem _ (List.mem_append_left _ (List.mem_append_left _ (List.mem_of_getElem? (i := 4) rfl))))) (fun _ h9 => h9) (th_fR r17 rfl) dX12_years_67 ?_
        refine lv_iload_n hx hb dX12_years_70 rfl (lv_at hl 3 rfl) ?_
        refine th_iald hx hb hK hH t17 (th_nz rfl) 0 (thE_45 _ _ _) rfl (rg_in (n := 12) fy58_2 (th_leI rfl) (th_ltI rfl)) dX12_years_71 ?_
        refine lv_topi (fun x19 e19 => ?_)
        refine lv_iload_n hx hb dX12_years_72 rfl (lv_at hl 2 rfl) ?_
        refine lv_iload_n hx hb dX12_years_73 rfl (lv_at hl 0 rfl) ?_
        refine lv_if_eq (tgt := 82) hx hb dX12_years_74 (th_eqI rfl) (fun c20 => ?_) (fun c20 => ?_)
        · skip
          have f21 : rg 0 0 z58_0 := rg_w (rg_eq fz58_0 rgc_0 c20).1 (th_leI rfl) (th_leI rfl)
          refine lv_bipush (v := 12) hx hb dX12_years_82 bp_12 ?_
          exact J84 gi_58 _ _ _ q17 100 x19 12 w58_0 hH hS hM (lv_sub hl [1, 2, 3] rfl) fy58_1 fy58_2 t17 fy58_2 rgc_100 fy58_1 (rg_w rgc_12 (th_leI rfl) (th_leI rfl)) ew58_0 fw58_0 (hF.trans (by simp only [↓reduceIte, f_X12_years_58, ← ew58_0, r17, Option.getD_some, ← e19, eq_true c20]))
        · skip
          have f22 : rg 1 1 z58_0 := rg_w (rg_neL fz58_0 rgc_0 c20) (th_leI rfl) (th_leI rfl)
          refine lv_bipush (v := 20) hx hb dX12_years_77 bp_20 ?_
          refine lv_goto (tgt := 84) hx hb dX12_years_79 (th_eqI rfl) ?_
          exact J84 gi_58 _ _ _ q17 100 x19 20 w58_0 hH hS hM (lv_sub hl [1, 2, 3] rfl) fy58_1 fy58_2 t17 fy58_2 rgc_100 fy58_1 (rg_w rgc_20 (th_leI rfl) (th_leI rfl)) ew58_0 fw58_0 (hF.trans (by simp only [↓reduceIte, f_X12_years_58, ← ew58_0, r17, Option.getD_some, ← e19, eq_false c20]))
      have J57 : ∀ (gi_57 : th_i) (H : Heap) (locs : List Loc) (ls : Array Slot) (w57_0 : Int32), th_H D cA τ gi_57 gr H → va_S (th_A τ s.heap.size) s.heap H locs → th_Mod [4400, 4500, 5900] τ gi gr gi_57 gr → lv_has ls 4 [(0, .ref h0), (1, .int p1), (2, .int y19_2)] → rg 1 30 p1 → rg 0 11 y19_2 → w57_0 = gi_57 h0 0 → rg 1 12 w57_0 → F_X12_years τ Z gi gr h0 p1 = f_X12_years_57 τ Z gi gr h0 p1 gi_19 y19_2 (f_X12_years_19 τ Z gi gr h0 p1 n19) gi_57 → W p l e (headSpec wsX12_years ({ frames := 2, cells := 0, slots := 0, locals := 43 })).room s m [.ref h0, .int p1].toArray below meth c H locs 0 0 (MQ below (va_Qi (fun (r : Int32) (u : th_i × th_r) => th_Mod [4400, 4500, 5900] τ gi gr u.1 u.2 ∧ u.2 = gr ∧ (F_X12_years τ Z gi gr h0 p1 = (r, u.1))) (fun (u : th_i × th_r) t => th_H D cA τ u.1 u.2 t.heap) (th_A τ s.heap.size)) [.ref h0, .int p1].toArray s 0 0 (th_A τ s.heap.size)) (F0 m 57 ls []) := by
        intro gi_57 H locs ls w57_0 hH hS hM hl fy57_1 fy57_2 ew57_0 fw57_0 hF
        refine lv_iconst (v := 0) hx hb dX12_years_57 ic_0 ?_
        exact J58 gi_57 _ _ _ 0 w57_0 hH hS hM (lv_sub hl [0, 1, 2] rfl) fy57_1 fy57_2 (rg_w rgc_0 (th_leI rfl) (th_leI rfl)) ew57_0 fw57_0 (hF.trans (by simp only [f_X12_years_57, ← ew57_0]))
      refine lv_iload_n hx hb dX12_years_19 rfl (lv_at hl 2 rfl) ?_
      refine lv_aload_n hx hb dX12_years_20 rfl (lv_at hl 0 rfl) ?_
      obtain ⟨x23, e23⟩ : ∃ y : Int32, y = gi_19 h0 0 := ⟨_, rfl⟩
      refine th_get (ci := 11) (v := .int x23) (T := TX12) (C := RX12) (N := 38) hx hb hts (fun w h => List.mem_cons_of_mem _ (List.mem_append_right _ h)) hown hK hH t_h0 (th_nz rfl) (thE_12 _ _ _) rfl 0 (th_ltN rfl) (hts (.fieldLink RX12 109 "BayMooringsModel" "buoys" "I") (List.mem_cons_of_mem _ (List.mem_append_left _ (List.mem_append_left _ (List.mem_of_getElem? (i := 1) rfl))))) (fun _ h9 => h9) (th_fI e23 rfl) dX12_years_21 ?_
      have f23 : rg 0 12 x23 := rg_e e23 ((thI_12 hH t_h0).1)
      refine lv_icmp_ge (tgt := 117) hx hb dX12_years_24 (th_eqI rfl) (fun c24 => ?_) (fun c24 => ?_)
      · skip
        refine lv_aload_n hx hb dX12_years_117 rfl (lv_at hl 0 rfl) ?_
        have hA25 := th_Asub (τ := τ) hS
        refine va_calli (va_runV (As := []) (rest := []) ⟨hx, hb, hml, hown, hts⟩ (k_X12_partedMany l D cA Z τ gi_19 gr _ h0 t_h0) (cwV 0 hts gX12_years_X12_partedMany rfl rfl rfl hd_X12_partedMany__0 ⟨Nat.le_of_ble_eq_true rfl, Nat.le_of_ble_eq_true rfl⟩) ⟨th_blind, tr_12 hK hH t_h0, (th_pre hH hK hN hZ hS hA25)⟩ rfl rfl hl.1 rfl (lv_room (Nat.le_of_ble_eq_true rfl)) dX12_years_118 ⟨Nat.le_of_ble_eq_true rfl, Nat.le_of_ble_eq_true rfl⟩) hS (fun q _ h => hA25 q h) hA25 (fun x26 u t H locs ht hvm hw26 hB hz1 hk1 hS => ?_)
        try dsimp only at hw26 hB
        rw [ht] at hB
        have hH := hB
        exact W.iret (v := x26) hx hb hr (fun t ht hW => ⟨⟨x26, (gi_19, gr), rfl, ⟨hM, rfl, (hF.trans (by simp only [↓reduceIte, f_X12_years_19, ← e23, eq_true c24, hw26]))⟩, th_Ht ht hH⟩, hS.F ht⟩) hS.2.2 dX12_years_121
      · skip
        have f27 : rg 1 12 x23 := rg_w (rg_nle f23 fy19_2 c24).1 (th_leI rfl) (th_leI rfl)
        have f28 : rg 0 11 y19_2 := rg_w (rg_nle f23 fy19_2 c24).2 (th_leI rfl) (th_leI rfl)
        refine lv_aload_n hx hb dX12_years_27 rfl (lv_at hl 0 rfl) ?_
        obtain ⟨q29, r29, t29⟩ : ∃ q, gr h0 7 = some q ∧ τ q = 46 := (thI_12 hH t_h0).2.2.2.2.2.2.2.1
        refine th_get (ci := 11) (v := .ref q29) (T := TX12) (C := RX12) (N := 38) hx hb hts (fun w h => List.mem_cons_of_mem _ (List.mem_append_right _ h)) hown hK hH t_h0 (th_nz rfl) (thE_12 _ _ _) rfl 7 (th_ltN rfl) (hts (.fieldLink RX12 28 "BayMooringsModel" "boatAt" "[I") (List.mem_cons_of_mem _ (List.mem_append_left _ (List.mem_append_left _ (List.mem_of_getElem? (i := 2) rfl))))) (fun _ h9 => h9) (th_fR r29 rfl) dX12_years_28 ?_
        refine lv_iload_n hx hb dX12_years_31 rfl (lv_at hl 2 rfl) ?_
        refine th_iald hx hb hK hH t29 (th_nz rfl) 0 (thE_46 _ _ _) rfl (rg_in (n := 12) f28 (th_leI rfl) (th_ltI rfl)) dX12_years_32 ?_
        refine lv_topi (fun x30 e30 => ?_)
        have f30 : rg (-1) 15 x30 := rg_e e30 ((thI_46 hH t29) _ (rg_cl (n := 12) f28 (th_leI rfl) (th_ltI rfl)))
        refine lv_if_lt (tgt := 57) hx hb dX12_years_33 (th_eqI rfl) (fun c31 => ?_) (fun c31 => ?_)
        · skip
          have f32 : rg (-1) (-1) x30 := rg_w (rg_lt f30 rgc_0 c31).1 (th_leI rfl) (th_leI rfl)
          exact J57 gi_19 _ _ _ x23 hH hS hM (lv_sub hl [0, 1, 2] rfl) fy19_1 f28 e23 f27 (hF.trans (by simp only [↓reduceIte, f_X12_years_19, ← e23, eq_false c24, r29, Option.getD_some, ← e30, eq_true c31]))
        · skip
          have f33 : rg 0 15 x30 := rg_w (rg_nlt f30 rgc_0 c31).1 (th_leI rfl) (th_leI rfl)
          refine lv_aload_n hx hb dX12_years_36 rfl (lv_at hl 0 rfl) ?_
          obtain ⟨q34, r34, t34⟩ : ∃ q, gr h0 10 = some q ∧ τ q = 48 := (thI_12 hH t_h0).2.2.2.2.2.2.2.2.2.2.1
          refine th_get (ci := 11) (v := .ref q34) (T := TX12) (C := RX12) (N := 38) hx hb hts (fun w h => List.mem_cons_of_mem _ (List.mem_append_right _ h)) hown hK hH t_h0 (th_nz rfl) (thE_12 _ _ _) rfl 10 (th_ltN rfl) (hts (.fieldLink RX12 34 "BayMooringsModel" "lengthOf" "[I") (List.mem_cons_of_mem _ (List.mem_append_left _ (List.mem_append_left _ (List.mem_of_getElem? (i := 3) rfl))))) (fun _ h9 => h9) (th_fR r34 rfl) dX12_years_37 ?_
          refine lv_aload_n hx hb dX12_years_40 rfl (lv_at hl 0 rfl) ?_
          refine th_get (ci := 11) (v := .ref q29) (T := TX12) (C := RX12) (N := 38) hx hb hts (fun w h => List.mem_cons_of_mem _ (List.mem_append_right _ h)) hown hK hH t_h0 (th_nz rfl) (thE_12 _ _ _) rfl 7 (th_ltN rfl) (hts (.fieldLink RX12 28 "BayMooringsModel" "boatAt" "[I") (List.mem_cons_of_mem _ (List.mem_append_left _ (List.mem_append_left _ (List.mem_of_getElem? (i := 2) rfl))))) (fun _ h9 => h9) (th_fR r29 rfl) dX12_years_41 ?_
          refine lv_iload_n hx hb dX12_years_44 rfl (lv_at hl 2 rfl) ?_
          refine th_iald hx hb hK hH t29 (th_nz rfl) 0 (thE_46 _ _ _) rfl (rg_in (n := 12) f28 (th_leI rfl) (th_ltI rfl)) dX12_years_45 ?_
          rw [← e30]
          refine th_iald hx hb hK hH t34 (th_nz rfl) 0 (thE_48 _ _ _) rfl (rg_in (n := 16) f33 (th_leI rfl) (th_ltI rfl)) dX12_years_46 ?_
          refine lv_topi (fun x37 e37 => ?_)
          refine lv_sipush (v := 150) hx hb dX12_years_47 sp_150 ?_
          refine lv_icmp_lt (tgt := 57) hx hb dX12_years_50 (th_eqI rfl) (fun c38 => ?_) (fun c38 => ?_)
          · skip
            have f39 : rg (-2147483648) 149 x37 := rg_w (rg_lt (rg_any x37) rgc_150 c38).1 (th_leI rfl) (th_leI rfl)
            exact J57 gi_19 _ _ _ x23 hH hS hM (lv_sub hl [0, 1, 2] rfl) fy19_1 f28 e23 f27 (hF.trans (by simp only [↓reduceIte, f_X12_years_19, ← e23, eq_false c24, r29, Option.getD_some, ← e30, eq_false c31, r34, ← e37, eq_true c38]))
          · skip
            have f40 : rg 150 2147483647 x37 := rg_w (rg_nlt (rg_any x37) rgc_150 c38).1 (th_leI rfl) (th_leI rfl)
            refine lv_iconst (v := 1) hx hb dX12_years_53 ic_1 ?_
            refine lv_goto (tgt := 58) hx hb dX12_years_54 (th_eqI rfl) ?_
            exact J58 gi_19 _ _ _ 1 x23 hH hS hM (lv_sub hl [0, 1, 2] rfl) fy19_1 f28 (rg_w rgc_1 (th_leI rfl) (th_leI rfl)) e23 f27 (hF.trans (by simp only [↓reduceIte, f_X12_years_19, ← e23, eq_false c24, r29, Option.getD_some, ← e30, eq_false c31, r34, ← e37, eq_false c38]))
  have hS : va_S (th_A τ s.heap.size) s.heap s.heap [] := va_S.rf
  have hl := lv_entry ([.ref h0, .int p1]) (n := 4) (Nat.le_of_ble_eq_true rfl)
  rw [lg_entry_eq]
  generalize (lg_sl ([.ref h0, .int p1]) ++ List.replicate (4 - (lg_sl ([.ref h0, .int p1])).length) Slot.unset).toArray = ls at hl ⊢
  have hl : lv_has ls 4 [(0, .ref h0), (1, .int p1)] := hl
  have hF : F_X12_years τ Z gi gr h0 p1 = F_X12_years τ Z gi gr h0 p1 := rfl
  refine lv_iload_n hx hb dX12_years_0 rfl (lv_at hl 1 rfl) ?_
  refine lv_iconst (v := 1) hx hb dX12_years_1 ic_1 ?_
  refine lv_bipush (v := 30) hx hb dX12_years_2 bp_30 ?_
  have hA41 := th_Asub (τ := τ) hS
  refine va_calli (va_runS (As := [.int p1, .int 1, .int 30]) (rest := []) ⟨hx, hb, hml, hown, hts⟩ (k_X12_within l D cA Z τ gi gr _ p1 1 30) (va_cwS 3 hts gX12_years_X12_within rfl rfl rfl (by decide +kernel) ⟨Nat.le_of_ble_eq_true rfl, Nat.le_of_ble_eq_true rfl⟩) ⟨th_blind, (th_pre hH hK hN hZ hS hA41)⟩ rfl rfl hl.1 rfl (lv_room (Nat.le_of_ble_eq_true rfl)) dX12_years_4 ⟨Nat.le_of_ble_eq_true rfl, Nat.le_of_ble_eq_true rfl⟩) hS (fun q _ h => hA41 q h) hA41 (fun x42 u t H locs ht hvm hw42 hB hz1 hk1 hS => ?_)
  try dsimp only at hw42 hB
  rw [ht] at hB
  have hH := hB
  refine lv_if_ne (tgt := 17) hx hb dX12_years_7 (th_eqI rfl) (fun c43 => ?_) (fun c43 => ?_)
  · skip
    have f44 : rg 1 1 x42 := rg_w (rg_neL hw42.1 rgc_0 c43) (th_leI rfl) (th_leI rfl)
    have g45 := hw42.2.1 c43
    have f46 : rg 1 2147483647 p1 := rg_w (rg_le rgc_1 (rg_any p1) g45.1).2 (th_leI rfl) (th_leI rfl)
    have f47 : rg 1 30 p1 := rg_w (rg_le f46 rgc_30 g45.2).1 (th_leI rfl) (th_leI rfl)
    refine lv_iconst (v := 0) hx hb dX12_years_17 ic_0 ?_
    refine lv_istore_n (i := 2) (lv' := [(2, .int 0), (0, .ref h0), (1, .int p1)]) hx hb dX12_years_18 rfl hl (th_ltN rfl) rfl (fun ls hl => ?_)
    exact J19 _ gi _ _ _ 0 (Nat.lt_add_one _) hH hS hM (lv_sub hl [1, 2, 0] rfl) f47 (rg_w rgc_0 (th_leI rfl) (th_leI rfl)) (hF.trans (by simp only [↓reduceIte, F_X12_years, hw42.2.2.1, eq_false c43]))
  · skip
    have f48 : rg 0 0 x42 := rg_w (rg_eq hw42.1 rgc_0 c43).1 (th_leI rfl) (th_leI rfl)
    refine lv_aload_n hx hb dX12_years_10 rfl (lv_at hl 0 rfl) ?_
    refine lv_ldc (v := (-1000001)) hx hb hown (hts (.constant RX12 119 (-1000001)) (List.mem_cons_of_mem _ (List.mem_append_left _ (List.mem_append_left _ (List.mem_of_getElem? (i := 0) rfl))))) dX12_years_11 ?_
    have hA49 := th_Asub (τ := τ) hS
    refine va_calli (va_runV (As := [.int (-1000001)]) (rest := []) ⟨hx, hb, hml, hown, hts⟩ (k_X12_finding l D cA Z τ gi gr _ h0 t_h0 (-1000001) (rg_w rgc_m1000001 (th_leI rfl) (th_leI rfl))) (cwV 1 hts gX12_years_X12_finding rfl rfl rfl hd_X12_finding__1 ⟨Nat.le_of_ble_eq_true rfl, Nat.le_of_ble_eq_true rfl⟩) ⟨th_blind, tr_12 hK hH t_h0, (th_pre hH hK hN hZ hS hA49)⟩ rfl rfl hl.1 rfl (lv_room (Nat.le_of_ble_eq_true rfl)) dX12_years_13 ⟨Nat.le_of_ble_eq_true rfl, Nat.le_of_ble_eq_true rfl⟩) hS (fun q _ h => hA49 q h) hA49 (fun x50 u t H locs ht hvm hw50 hB hz1 hk1 hS => ?_)
    try dsimp only at hw50 hB
    rw [ht] at hB
    have hH := hB
    obtain ⟨gi50, gr50⟩ := u
    try dsimp only at hw50 hH
    obtain rfl : gr = gr50 := (hw50.2.1).symm
    have hM := hM.tr hw50.1 (fun _ h => h) (th_sub rfl)
    exact W.iret (v := x50) hx hb hr (fun t ht hW => ⟨⟨x50, (gi50, gr), rfl, ⟨hM, rfl, (hF.trans (by simp only [↓reduceIte, F_X12_years, hw42.2.2.1, eq_true c43, hw50.2.2.1]))⟩, th_Ht ht hH⟩, hS.F ht⟩) hS.2.2 dX12_years_16

noncomputable def f_X12_look_27 (τ : th_t) (Z : th_Zt) (gi : th_i) (gr : th_r) (h0 : Nat) (p1 : Int32) (p2 : Int32) (p3 : Int32) (gi_27 : th_i) : Int32 × th_i :=
  let u25 : Int32 × th_i := F_X12_finding τ Z gi_27 gr h0 (-1000001)
  let x25 : Int32 := u25.1
  let gi25 : th_i := u25.2
  (x25, gi25)
noncomputable def f_X12_look_111 (τ : th_t) (Z : th_Zt) (gi : th_i) (gr : th_r) (h0 : Nat) (p1 : Int32) (p2 : Int32) (p3 : Int32) (gi_111 : th_i) : Int32 × th_i :=
  let q1 : Nat := (gr h0 6).getD 0
  let x2 : Int32 := gi_111 q1 p1.toNatClampNeg
  let q3 : Nat := (gr h0 5).getD 0
  let x4 : Int32 := gi_111 q3 p1.toNatClampNeg
  let x5 : Int32 := x2 - x4
  (x5, gi_111)
noncomputable def f_X12_look_69 (τ : th_t) (Z : th_Zt) (gi : th_i) (gr : th_r) (h0 : Nat) (p1 : Int32) (p2 : Int32) (p3 : Int32) (gi_69 : th_i) : Int32 × th_i :=
  if p3 = (1 : Int32) then (
    let q16 : Nat := (gr h0 5).getD 0
    let x18 : Int32 := gi_69 q16 p1.toNatClampNeg
    let x19 : Int32 := th_mx x18 p2
    let gi20 : th_i := va_up gi_69 q16 (upd (gi_69 q16) p1.toNatClampNeg x19)
    f_X12_look_111 τ Z gi gr h0 p1 p2 p3 gi20) else (
    let q8 : Nat := (gr h0 6).getD 0
    let x10 : Int32 := gi_69 q8 p1.toNatClampNeg
    let x11 : Int32 := p2 - 1
    let x12 : Int32 := th_mn x10 x11
    let gi13 : th_i := va_up gi_69 q8 (upd (gi_69 q8) p1.toNatClampNeg x12)
    f_X12_look_111 τ Z gi gr h0 p1 p2 p3 gi13)
noncomputable def f_X12_look_62 (τ : th_t) (Z : th_Zt) (gi : th_i) (gr : th_r) (h0 : Nat) (p1 : Int32) (p2 : Int32) (p3 : Int32) (gi_62 : th_i) : Int32 × th_i :=
  let u23 : Int32 × th_i := F_X12_finding τ Z gi_62 gr h0 (-1000002)
  let x23 : Int32 := u23.1
  let gi23 : th_i := u23.2
  (x23, gi23)
noncomputable def F_X12_look (τ : th_t) (Z : th_Zt) (gi : th_i) (gr : th_r) (h0 : Nat) (p1 : Int32) (p2 : Int32) (p3 : Int32) : Int32 × th_i :=
  let x27 : Int32 := F_X12_isBuoy τ Z gi gr h0 p1
  if x27 = (0 : Int32) then (
    f_X12_look_27 τ Z gi gr h0 p1 p2 p3 gi) else (
    let x33 : Int32 := F_X12_within τ Z gi gr p2 0 100
    if x33 = (0 : Int32) then (
      f_X12_look_27 τ Z gi gr h0 p1 p2 p3 gi) else (
      let x41 : Int32 := F_X12_within τ Z gi gr p3 0 1
      if x41 = (0 : Int32) then (
        f_X12_look_27 τ Z gi gr h0 p1 p2 p3 gi) else (
        if p3 = (1 : Int32) then (
          let q55 : Nat := (gr h0 6).getD 0
          let x56 : Int32 := gi q55 p1.toNatClampNeg
          if p2 ≤ x56 then (
            f_X12_look_69 τ Z gi gr h0 p1 p2 p3 gi) else (
            f_X12_look_62 τ Z gi gr h0 p1 p2 p3 gi)) else (
          let q49 : Nat := (gr h0 5).getD 0
          let x50 : Int32 := gi q49 p1.toNatClampNeg
          if x50 < p2 then (
            f_X12_look_69 τ Z gi gr h0 p1 p2 p3 gi) else (
            f_X12_look_62 τ Z gi gr h0 p1 p2 p3 gi)))))
set_option maxHeartbeats 8000000 in
set_option maxRecDepth 100000 in
theorem k_X12_look (l : Launch) (D : va_G) (cA : Nat → ClassId) (Z : th_Zt) (τ : th_t) (gi : th_i) (gr : th_r) (sz : Nat) (h0 : Nat) (t_h0 : τ h0 = 12) (p1 : Int32) (p2 : Int32) (p3 : Int32) : Met l yX12_look wsX12_look ({ frames := 2, cells := 0, slots := 0, locals := 43 }) (va_Pc [.ref h0, .int p1, .int p2, .int p3] (th_Pre D cA Z τ gi gr sz)) (va_Qi (fun (r : Int32) (u : th_i × th_r) => th_Mod [4400, 4500, 5900] τ gi gr u.1 u.2 ∧ u.2 = gr ∧ (F_X12_look τ Z gi gr h0 p1 p2 p3 = (r, u.1))) (fun (u : th_i × th_r) t => th_H D cA τ u.1 u.2 t.heap) (th_A τ sz)) 0 0 (th_A τ sz) := by
  refine Met.ofW (cc := cX12_look) (maxL := 4) (ret := (some .int)) (by decide) rfl ?_
  intro p e s m args below meth c s₁ B hml hv
  obtain ⟨rfl, hsz, hH, hK, hN, hZ⟩ := hv
  have hx := B.exec
  have hb := B.bytes
  have hr := B.returns
  have hts := atoms_spec (ws := wsX12_look) B.pre
  have hown : s.vm.findClass RX12 = some m.cls := findClass_of_methodNamed B.named
  have hlocks := B.notSynchronized
  subst hsz
  have hM : th_Mod [4400, 4500, 5900] τ gi gr gi gr := th_Mod.rf
  have J111 : ∀ (gi_111 : th_i) (H : Heap) (locs : List Loc) (ls : Array Slot), th_H D cA τ gi_111 gr H → va_S (th_A τ s.heap.size) s.heap H locs → th_Mod [4400, 4500, 5900] τ gi gr gi_111 gr → lv_has ls 4 [(0, .ref h0), (1, .int p1)] → rg 0 11 p1 → F_X12_look τ Z gi gr h0 p1 p2 p3 = f_X12_look_111 τ Z gi gr h0 p1 p2 p3 gi_111 → W p l e (headSpec wsX12_look ({ frames := 2, cells := 0, slots := 0, locals := 43 })).room s m [.ref h0, .int p1, .int p2, .int p3].toArray below meth c H locs 0 0 (MQ below (va_Qi (fun (r : Int32) (u : th_i × th_r) => th_Mod [4400, 4500, 5900] τ gi gr u.1 u.2 ∧ u.2 = gr ∧ (F_X12_look τ Z gi gr h0 p1 p2 p3 = (r, u.1))) (fun (u : th_i × th_r) t => th_H D cA τ u.1 u.2 t.heap) (th_A τ s.heap.size)) [.ref h0, .int p1, .int p2, .int p3].toArray s 0 0 (th_A τ s.heap.size)) (F0 m 111 ls []) := by
    intro gi_111 H locs ls hH hS hM hl fy111_1 hF
    refine lv_aload_n hx hb dX12_look_111 rfl (lv_at hl 0 rfl) ?_
    obtain ⟨q1, r1, t1⟩ : ∃ q, gr h0 6 = some q ∧ τ q = 45 := (thI_12 hH t_h0).2.2.2.2.2.2.1
    refine th_get (ci := 11) (v := .ref q1) (T := TX12) (C := RX12) (N := 38) hx hb hts (fun w h => List.mem_cons_of_mem _ (List.mem_append_right _ h)) hown hK hH t_h0 (th_nz rfl) (thE_12 _ _ _) rfl 6 (th_ltN rfl) (hts (.fieldLink RX12 25 "BayMooringsModel" "high" "[I") (List.mem_cons_of_mem _ (List.mem_append_left _ (List.mem_append_left _ (List.mem_of_getElem? (i := 1) rfl))))) (fun _ h9 => h9) (th_fR r1 rfl) dX12_look_112 ?_
    refine lv_iload_n hx hb dX12_look_115 rfl (lv_at hl 1 rfl) ?_
    refine th_iald hx hb hK hH t1 (th_nz rfl) 0 (thE_45 _ _ _) rfl (rg_in (n := 12) fy111_1 (th_leI rfl) (th_ltI rfl)) dX12_look_116 ?_
    refine lv_topi (fun x2 e2 => ?_)
    refine lv_aload_n hx hb dX12_look_117 rfl (lv_at hl 0 rfl) ?_
    obtain ⟨q3, r3, t3⟩ : ∃ q, gr h0 5 = some q ∧ τ q = 44 := (thI_12 hH t_h0).2.2.2.2.2.1
    refine th_get (ci := 11) (v := .ref q3) (T := TX12) (C := RX12) (N := 38) hx hb hts (fun w h => List.mem_cons_of_mem _ (List.mem_append_right _ h)) hown hK hH t_h0 (th_nz rfl) (thE_12 _ _ _) rfl 5 (th_ltN rfl) (hts (.fieldLink RX12 22 "BayMooringsModel" "low" "[I") (List.mem_cons_of_mem _ (List.mem_append_left _ (List.mem_append_left _ (List.mem_of_getElem? (i := 2) rfl))))) (fun _ h9 => h9) (th_fR r3 rfl) dX12_look_118 ?_
    refine lv_iload_n hx hb dX12_look_121 rfl (lv_at hl 1 rfl) ?_
    refine th_iald hx hb hK hH t3 (th_nz rfl) 0 (thE_44 _ _ _) rfl (rg_in (n := 12) fy111_1 (th_leI rfl) (th_ltI rfl)) dX12_look_122 ?_
    refine lv_topi (fun x4 e4 => ?_)
    refine lv_isub hx hb dX12_look_123 ?_
    refine lv_topi (fun x5 e5 => ?_)
    exact W.iret (v := x5) hx hb hr (fun t ht hW => ⟨⟨x5, (gi_111, gr), rfl, ⟨hM, rfl, (hF.trans (by simp only [f_X12_look_111, r1, Option.getD_some, ← e2, r3, ← e4, ← e5]))⟩, th_Ht ht hH⟩, hS.F ht⟩) hS.2.2 dX12_look_124
  have J69 : ∀ (gi_69 : th_i) (H : Heap) (locs : List Loc) (ls : Array Slot), th_H D cA τ gi_69 gr H → va_S (th_A τ s.heap.size) s.heap H locs → th_Mod [4400, 4500, 5900] τ gi gr gi_69 gr → lv_has ls 4 [(0, .ref h0), (1, .int p1), (2, .int p2), (3, .int p3)] → rg 0 11 p1 → rg 0 100 p2 → rg 0 1 p3 → F_X12_look τ Z gi gr h0 p1 p2 p3 = f_X12_look_69 τ Z gi gr h0 p1 p2 p3 gi_69 → W p l e (headSpec wsX12_look ({ frames := 2, cells := 0, slots := 0, locals := 43 })).room s m [.ref h0, .int p1, .int p2, .int p3].toArray below meth c H locs 0 0 (MQ below (va_Qi (fun (r : Int32) (u : th_i × th_r) => th_Mod [4400, 4500, 5900] τ gi gr u.1 u.2 ∧ u.2 = gr ∧ (F_X12_look τ Z gi gr h0 p1 p2 p3 = (r, u.1))) (fun (u : th_i × th_r) t => th_H D cA τ u.1 u.2 t.heap) (th_A τ s.heap.size)) [.ref h0, .int p1, .int p2, .int p3].toArray s 0 0 (th_A τ s.heap.size)) (F0 m 69 ls []) := by
    intro gi_69 H locs ls hH hS hM hl fy69_1 fy69_2 fy69_3 hF
    refine lv_iload_n hx hb dX12_look_69 rfl (lv_at hl 3 rfl) ?_
    refine lv_iconst (v := 1) hx hb dX12_look_70 ic_1 ?_
    refine lv_icmp_ne (tgt := 93) hx hb dX12_look_71 (th_eqI rfl) (fun c6 => ?_) (fun c6 => ?_)
    · skip
      have f7 : rg 0 0 p3 := rg_w (rg_neR fy69_3 rgc_1 c6) (th_leI rfl) (th_leI rfl)
      refine lv_aload_n hx hb dX12_look_93 rfl (lv_at hl 0 rfl) ?_
      obtain ⟨q8, r8, t8⟩ : ∃ q, gr h0 6 = some q ∧ τ q = 45 := (thI_12 hH t_h0).2.2.2.2.2.2.1
      refine th_get (ci := 11) (v := .ref q8) (T := TX12) (C := RX12) (N := 38) hx hb hts (fun w h => List.mem_cons_of_mem _ (List.mem_append_right _ h)) hown hK hH t_h0 (th_nz rfl) (thE_12 _ _ _) rfl 6 (th_ltN rfl) (hts (.fieldLink RX12 25 "BayMooringsModel" "high" "[I") (List.mem_cons_of_mem _ (List.mem_append_left _ (List.mem_append_left _ (List.mem_of_getElem? (i := 1) rfl))))) (fun _ h9 => h9) (th_fR r8 rfl) dX12_look_94 ?_
      refine lv_iload_n hx hb dX12_look_97 rfl (lv_at hl 1 rfl) ?_
      refine lv_aload_n hx hb dX12_look_98 rfl (lv_at hl 0 rfl) ?_
      refine th_get (ci := 11) (v := .ref q8) (T := TX12) (C := RX12) (N := 38) hx hb hts (fun w h => List.mem_cons_of_mem _ (List.mem_append_right _ h)) hown hK hH t_h0 (th_nz rfl) (thE_12 _ _ _) rfl 6 (th_ltN rfl) (hts (.fieldLink RX12 25 "BayMooringsModel" "high" "[I") (List.mem_cons_of_mem _ (List.mem_append_left _ (List.mem_append_left _ (List.mem_of_getElem? (i := 1) rfl))))) (fun _ h9 => h9) (th_fR r8 rfl) dX12_look_99 ?_
      refine lv_iload_n hx hb dX12_look_102 rfl (lv_at hl 1 rfl) ?_
      refine th_iald hx hb hK hH t8 (th_nz rfl) 0 (thE_45 _ _ _) rfl (rg_in (n := 12) fy69_1 (th_leI rfl) (th_ltI rfl)) dX12_look_103 ?_
      refine lv_topi (fun x10 e10 => ?_)
      refine lv_iload_n hx hb dX12_look_104 rfl (lv_at hl 2 rfl) ?_
      refine lv_iconst (v := 1) hx hb dX12_look_105 ic_1 ?_
      refine lv_isub hx hb dX12_look_106 ?_
      refine lv_topi (fun x11 e11 => ?_)
      have f11 : rg (-1) 99 x11 := rg_e e11 (rg_w (rg_sub fy69_2 rgc_1 (th_leI rfl) (th_leI rfl)) (th_leI rfl) (th_leI rfl))
      refine va_mmin hx hb (by rw [hml]; exact hl.1.symm) hown (hts (.methodLink RX12 168 Lib.Math.min.name) (List.mem_cons_of_mem _ (List.mem_append_left _ (List.mem_append_left _ (List.mem_of_getElem? (i := 8) rfl))))) (hts (.static Lib.Math.min.name) (List.mem_cons_of_mem _ (List.mem_append_left _ (List.mem_append_left _ (List.mem_of_getElem? (i := 9) rfl))))) (hts (.initialized "java/lang/Math") (List.mem_cons_of_mem _ (List.mem_append_left _ (List.mem_append_left _ (List.mem_of_getElem? (i := 6) rfl))))) (hts (.code Lib.Math.min.name Lib.Math.min.code 2 (some .int)) (List.mem_cons_of_mem _ (List.mem_append_left _ (List.mem_append_left _ (List.mem_of_getElem? (i := 10) rfl))))) (Nat.le_of_ble_eq_true rfl) (Nat.le_of_ble_eq_true rfl) (Nat.zero_le _) (Nat.zero_le _) dX12_look_107 ?_
      refine lv_topi (fun x12 e12 => ?_)
      have em12 : x12 = th_mn x10 x11 := e12
      refine th_iast hx hb hK hH hS t8 (th_nz rfl) (Or.inl (th_nzE t8 rfl)) 0 (fun _ => thE_45 _ _ _) rfl (rg_in (n := 12) fy69_1 (th_leI rfl) (th_ltI rfl)) (trivial) dX12_look_110 (fun gi13 H locs hu13 ho13 hH hS => ?_)
      have eg13 : gi13 = va_up gi_69 q8 (upd (gi_69 q8) p1.toNatClampNeg x12) := th_upE hu13 ho13
      have hM := hM.i t8 (th_mem (a := 4500) rfl) ho13
      exact J111 gi13 _ _ _ hH hS hM (lv_sub hl [0, 1] rfl) fy69_1 (hF.trans (by simp only [↓reduceIte, f_X12_look_69, eq_false c6, r8, Option.getD_some, ← e10, ← e11, ← em12, ← eg13]))
    · skip
      have f15 : rg 1 1 p3 := rg_w (rg_eq fy69_3 rgc_1 c6).1 (th_leI rfl) (th_leI rfl)
      refine lv_aload_n hx hb dX12_look_74 rfl (lv_at hl 0 rfl) ?_
      obtain ⟨q16, r16, t16⟩ : ∃ q, gr h0 5 = some q ∧ τ q = 44 := (thI_12 hH t_h0).2.2.2.2.2.1
      refine th_get (ci := 11) (v := .ref q16) (T := TX12) (C := RX12) (N := 38) hx hb hts (fun w h => List.mem_cons_of_mem _ (List.mem_append_right _ h)) hown hK hH t_h0 (th_nz rfl) (thE_12 _ _ _) rfl 5 (th_ltN rfl) (hts (.fieldLink RX12 22 "BayMooringsModel" "low" "[I") (List.mem_cons_of_mem _ (List.mem_append_left _ (List.mem_append_left _ (List.mem_of_getElem? (i := 2) rfl))))) (fun _ h9 => h9) (th_fR r16 rfl) dX12_look_75 ?_
      refine lv_iload_n hx hb dX12_look_78 rfl (lv_at hl 1 rfl) ?_
      refine lv_aload_n hx hb dX12_look_79 rfl (lv_at hl 0 rfl) ?_
      refine th_get (ci := 11) (v := .ref q16) (T := TX12) (C := RX12) (N := 38) hx hb hts (fun w h => List.mem_cons_of_mem _ (List.mem_append_right _ h)) hown hK hH t_h0 (th_nz rfl) (thE_12 _ _ _) rfl 5 (th_ltN rfl) (hts (.fieldLink RX12 22 "BayMooringsModel" "low" "[I") (List.mem_cons_of_mem _ (List.mem_append_left _ (List.mem_append_left _ (List.mem_of_getElem? (i := 2) rfl))))) (fun _ h9 => h9) (th_fR r16 rfl) dX12_look_80 ?_
      refine lv_iload_n hx hb dX12_look_83 rfl (lv_at hl 1 rfl) ?_
      refine th_iald hx hb hK hH t16 (th_nz rfl) 0 (thE_44 _ _ _) rfl (rg_in (n := 12) fy69_1 (th_leI rfl) (th_ltI rfl)) dX12_look_84 ?_
      refine lv_topi (fun x18 e18 => ?_)
      refine lv_iload_n hx hb dX12_look_85 rfl (lv_at hl 2 rfl) ?_
      refine va_mmax hx hb (by rw [hml]; exact hl.1.symm) hown (hts (.methodLink RX12 234 Lib.Math.max.name) (List.mem_cons_of_mem _ (List.mem_append_left _ (List.mem_append_left _ (List.mem_of_getElem? (i := 4) rfl))))) (hts (.static Lib.Math.max.name) (List.mem_cons_of_mem _ (List.mem_append_left _ (List.mem_append_left _ (List.mem_of_getElem? (i := 5) rfl))))) (hts (.initialized "java/lang/Math") (List.mem_cons_of_mem _ (List.mem_append_left _ (List.mem_append_left _ (List.mem_of_getElem? (i := 6) rfl))))) (hts (.code Lib.Math.max.name Lib.Math.max.code 2 (some .int)) (List.mem_cons_of_mem _ (List.mem_append_left _ (List.mem_append_left _ (List.mem_of_getElem? (i := 7) rfl))))) (Nat.le_of_ble_eq_true rfl) (Nat.le_of_ble_eq_true rfl) (Nat.zero_le _) (Nat.zero_le _) dX12_look_86 ?_
      refine lv_topi (fun x19 e19 => ?_)
      have em19 : x19 = th_mx x18 p2 := e19
      refine th_iast hx hb hK hH hS t16 (th_nz rfl) (Or.inl (th_nzE t16 rfl)) 0 (fun _ => thE_44 _ _ _) rfl (rg_in (n := 12) fy69_1 (th_leI rfl) (th_ltI rfl)) (trivial) dX12_look_89 (fun gi20 H locs hu20 ho20 hH hS => ?_)
      have eg20 : gi20 = va_up gi_69 q16 (upd (gi_69 q16) p1.toNatClampNeg x19) := th_upE hu20 ho20
      have hM := hM.i t16 (th_mem (a := 4400) rfl) ho20
      refine lv_goto (tgt := 111) hx hb dX12_look_90 (th_eqI rfl) ?_
      exact J111 gi20 _ _ _ hH hS hM (lv_sub hl [0, 1] rfl) fy69_1 (hF.trans (by simp only [↓reduceIte, f_X12_look_69, eq_true c6, r16, Option.getD_some, ← e18, ← em19, ← eg20]))
  have J62 : ∀ (gi_62 : th_i) (H : Heap) (locs : List Loc) (ls : Array Slot), th_H D cA τ gi_62 gr H → va_S (th_A τ s.heap.size) s.heap H locs → th_Mod [4400, 4500, 5900] τ gi gr gi_62 gr → lv_has ls 4 [(0, .ref h0)] → F_X12_look τ Z gi gr h0 p1 p2 p3 = f_X12_look_62 τ Z gi gr h0 p1 p2 p3 gi_62 → W p l e (headSpec wsX12_look ({ frames := 2, cells := 0, slots := 0, locals := 43 })).room s m [.ref h0, .int p1, .int p2, .int p3].toArray below meth c H locs 0 0 (MQ below (va_Qi (fun (r : Int32) (u : th_i × th_r) => th_Mod [4400, 4500, 5900] τ gi gr u.1 u.2 ∧ u.2 = gr ∧ (F_X12_look τ Z gi gr h0 p1 p2 p3 = (r, u.1))) (fun (u : th_i × th_r) t => th_H D cA τ u.1 u.2 t.heap) (th_A τ s.heap.size)) [.ref h0, .int p1, .int p2, .int p3].toArray s 0 0 (th_A τ s.heap.size)) (F0 m 62 ls []) := by
    intro gi_62 H locs ls hH hS hM hl hF
    refine lv_aload_n hx hb dX12_look_62 rfl (lv_at hl 0 rfl) ?_
    refine lv_ldc (v := (-1000002)) hx hb hown (hts (.constant RX12 191 (-1000002)) (List.mem_cons_of_mem _ (List.mem_append_left _ (List.mem_append_left _ (List.mem_of_getElem? (i := 3) rfl))))) dX12_look_63 ?_
    have hA22 := th_Asub (τ := τ) hS
    refine va_calli (va_runV (As := [.int (-1000002)]) (rest := []) ⟨hx, hb, hml, hown, hts⟩ (k_X12_finding l D cA Z τ gi_62 gr _ h0 t_h0 (-1000002) (rg_w rgc_m1000002 (th_leI rfl) (th_leI rfl))) (cwV 1 hts gX12_look_X12_finding rfl rfl rfl hd_X12_finding__1 ⟨Nat.le_of_ble_eq_true rfl, Nat.le_of_ble_eq_true rfl⟩) ⟨th_blind, tr_12 hK hH t_h0, (th_pre hH hK hN hZ hS hA22)⟩ rfl rfl hl.1 rfl (lv_room (Nat.le_of_ble_eq_true rfl)) dX12_look_65 ⟨Nat.le_of_ble_eq_true rfl, Nat.le_of_ble_eq_true rfl⟩) hS (fun q _ h => hA22 q h) hA22 (fun x23 u t H locs ht hvm hw23 hB hz1 hk1 hS => ?_)
    try dsimp only at hw23 hB
    rw [ht] at hB
    have hH := hB
    obtain ⟨gi23, gr23⟩ := u
    try dsimp only at hw23 hH
    obtain rfl : gr = gr23 := (hw23.2.1).symm
    have hM := hM.tr hw23.1 (fun _ h => h) (th_sub rfl)
    exact W.iret (v := x23) hx hb hr (fun t ht hW => ⟨⟨x23, (gi23, gr), rfl, ⟨hM, rfl, (hF.trans (by simp only [f_X12_look_62, hw23.2.2.1]))⟩, th_Ht ht hH⟩, hS.F ht⟩) hS.2.2 dX12_look_68
  have J27 : ∀ (gi_27 : th_i) (H : Heap) (locs : List Loc) (ls : Array Slot), th_H D cA τ gi_27 gr H → va_S (th_A τ s.heap.size) s.heap H locs → th_Mod [4400, 4500, 5900] τ gi gr gi_27 gr → lv_has ls 4 [(0, .ref h0)] → F_X12_look τ Z gi gr h0 p1 p2 p3 = f_X12_look_27 τ Z gi gr h0 p1 p2 p3 gi_27 → W p l e (headSpec wsX12_look ({ frames := 2, cells := 0, slots := 0, locals := 43 })).room s m [.ref h0, .int p1, .int p2, .int p3].toArray below meth c H locs 0 0 (MQ below (va_Qi (fun (r : Int32) (u : th_i × th_r) => th_Mod [4400, 4500, 5900] τ gi gr u.1 u.2 ∧ u.2 = gr ∧ (F_X12_look τ Z gi gr h0 p1 p2 p3 = (r, u.1))) (fun (u : th_i × th_r) t => th_H D cA τ u.1 u.2 t.heap) (th_A τ s.heap.size)) [.ref h0, .int p1, .int p2, .int p3].toArray s 0 0 (th_A τ s.heap.size)) (F0 m 27 ls []) := by
    intro gi_27 H locs ls hH hS hM hl hF
    refine lv_aload_n hx hb dX12_look_27 rfl (lv_at hl 0 rfl) ?_
    refine lv_ldc (v := (-1000001)) hx hb hown (hts (.constant RX12 119 (-1000001)) (List.mem_cons_of_mem _ (List.mem_append_left _ (List.mem_append_left _ (List.mem_of_getElem? (i := 0) rfl))))) dX12_look_28 ?_
    have hA24 := th_Asub (τ := τ) hS
    refine va_calli (va_runV (As := [.int (-1000001)]) (rest := []) ⟨hx, hb, hml, hown, hts⟩ (k_X12_finding l D cA Z τ gi_27 gr _ h0 t_h0 (-1000001) (rg_w rgc_m1000001 (th_leI rfl) (th_leI rfl))) (cwV 1 hts gX12_look_X12_finding rfl rfl rfl hd_X12_finding__1 ⟨Nat.le_of_ble_eq_true rfl, Nat.le_of_ble_eq_true rfl⟩) ⟨th_blind, tr_12 hK hH t_h0, (th_pre hH hK hN hZ hS hA24)⟩ rfl rfl hl.1 rfl (lv_room (Nat.le_of_ble_eq_true rfl)) dX12_look_30 ⟨Nat.le_of_ble_eq_true rfl, Nat.le_of_ble_eq_true rfl⟩) hS (fun q _ h => hA24 q h) hA24 (fun x25 u t H locs ht hvm hw25 hB hz1 hk1 hS => ?_)
    try dsimp only at hw25 hB
    rw [ht] at hB
    have hH := hB
    obtain ⟨gi25, gr25⟩ := u
    try dsimp only at hw25 hH
    obtain rfl : gr = gr25 := (hw25.2.1).symm
    have hM := hM.tr hw25.1 (fun _ h => h) (th_sub rfl)
    exact W.iret (v := x25) hx hb hr (fun t ht hW => ⟨⟨x25, (gi25, gr), rfl, ⟨hM, rfl, (hF.trans (by simp only [f_X12_look_27, hw25.2.2.1]))⟩, th_Ht ht hH⟩, hS.F ht⟩) hS.2.2 dX12_look_33
  have hS : va_S (th_A τ s.heap.size) s.heap s.heap [] := va_S.rf
  have hl := lv_entry ([.ref h0, .int p1, .int p2, .int p3]) (n := 4) (Nat.le_of_ble_eq_true rfl)
  rw [lg_entry_eq]
  generalize (lg_sl ([.ref h0, .int p1, .int p2, .int p3]) ++ List.replicate (4 - (lg_sl ([.ref h0, .int p1, .int p2, .int p3])).length) Slot.unset).toArray = ls at hl ⊢
  have hl : lv_has ls 4 [(0, .ref h0), (1, .int p1), (2, .int p2), (3, .int p3)] := hl
  have hF : F_X12_look τ Z gi gr h0 p1 p2 p3 = F_X12_look τ Z gi gr h0 p1 p2 p3 := rfl
  refine lv_aload_n hx hb dX12_look_0 rfl (lv_at hl 0 rfl) ?_
  refine lv_iload_n hx hb dX12_look_1 rfl (lv_at hl 1 rfl) ?_
  have hA26 := th_Asub (τ := τ) hS
  refine va_calli (va_runV (As := [.int p1]) (rest := []) ⟨hx, hb, hml, hown, hts⟩ (k_X12_isBuoy l D cA Z τ gi gr _ h0 t_h0 p1) (cwV 1 hts gX12_look_X12_isBuoy rfl rfl rfl hd_X12_isBuoy__1 ⟨Nat.le_of_ble_eq_true rfl, Nat.le_of_ble_eq_true rfl⟩) ⟨th_blind, tr_12 hK hH t_h0, (th_pre hH hK hN hZ hS hA26)⟩ rfl rfl hl.1 rfl (lv_room (Nat.le_of_ble_eq_true rfl)) dX12_look_2 ⟨Nat.le_of_ble_eq_true rfl, Nat.le_of_ble_eq_true rfl⟩) hS (fun q _ h => hA26 q h) hA26 (fun x27 u t H locs ht hvm hw27 hB hz1 hk1 hS => ?_)
  try dsimp only at hw27 hB
  rw [ht] at hB
  have hH := hB
  refine lv_if_eq (tgt := 27) hx hb dX12_look_5 (th_eqI rfl) (fun c28 => ?_) (fun c28 => ?_)
  · skip
    have f29 : rg 0 0 x27 := rg_w (rg_eq hw27.1 rgc_0 c28).1 (th_leI rfl) (th_leI rfl)
    exact J27 gi _ _ _ hH hS hM (lv_sub hl [0] rfl) (hF.trans (by simp only [↓reduceIte, F_X12_look, hw27.2.2, eq_true c28]))
  · skip
    have f30 : rg 1 1 x27 := rg_w (rg_neL hw27.1 rgc_0 c28) (th_leI rfl) (th_leI rfl)
    have f31 : rg 0 11 p1 := rg_w (hw27.2.1 c28) (th_leI rfl) (th_leI rfl)
    refine lv_iload_n hx hb dX12_look_8 rfl (lv_at hl 2 rfl) ?_
    refine lv_iconst (v := 0) hx hb dX12_look_9 ic_0 ?_
    refine lv_bipush (v := 100) hx hb dX12_look_10 bp_100 ?_
    have hA32 := th_Asub (τ := τ) hS
    refine va_calli (va_runS (As := [.int p2, .int 0, .int 100]) (rest := []) ⟨hx, hb, hml, hown, hts⟩ (k_X12_within l D cA Z τ gi gr _ p2 0 100) (va_cwS 3 hts gX12_look_X12_within rfl rfl rfl (by decide +kernel) ⟨Nat.le_of_ble_eq_true rfl, Nat.le_of_ble_eq_true rfl⟩) ⟨th_blind, (th_pre hH hK hN hZ hS hA32)⟩ rfl rfl hl.1 rfl (lv_room (Nat.le_of_ble_eq_true rfl)) dX12_look_12 ⟨Nat.le_of_ble_eq_true rfl, Nat.le_of_ble_eq_true rfl⟩) hS (fun q _ h => hA32 q h) hA32 (fun x33 u t H locs ht hvm hw33 hB hz1 hk1 hS => ?_)
    try dsimp only at hw33 hB
    rw [ht] at hB
    have hH := hB
    refine lv_if_eq (tgt := 27) hx hb dX12_look_15 (th_eqI rfl) (fun c34 => ?_) (fun c34 => ?_)
    · skip
      have f35 : rg 0 0 x33 := rg_w (rg_eq hw33.1 rgc_0 c34).1 (th_leI rfl) (th_leI rfl)
      exact J27 gi _ _ _ hH hS hM (lv_sub hl [0] rfl) (hF.trans (by simp only [↓reduceIte, F_X12_look, hw27.2.2, eq_false c28, hw33.2.2.1, eq_true c34]))
    · skip
      have f36 : rg 1 1 x33 := rg_w (rg_neL hw33.1 rgc_0 c34) (th_leI rfl) (th_leI rfl)
      have g37 := hw33.2.1 c34
      have f38 : rg 0 2147483647 p2 := rg_w (rg_le rgc_0 (rg_any p2) g37.1).2 (th_leI rfl) (th_leI rfl)
      have f39 : rg 0 100 p2 := rg_w (rg_le f38 rgc_100 g37.2).1 (th_leI rfl) (th_leI rfl)
      refine lv_iload_n hx hb dX12_look_18 rfl (lv_at hl 3 rfl) ?_
      refine lv_iconst (v := 0) hx hb dX12_look_19 ic_0 ?_
      refine lv_iconst (v := 1) hx hb dX12_look_20 ic_1 ?_
      have hA40 := th_Asub (τ := τ) hS
      refine va_calli (va_runS (As := [.int p3, .int 0, .int 1]) (rest := []) ⟨hx, hb, hml, hown, hts⟩ (k_X12_within l D cA Z τ gi gr _ p3 0 1) (va_cwS 3 hts gX12_look_X12_within rfl rfl rfl (by decide +kernel) ⟨Nat.le_of_ble_eq_true rfl, Nat.le_of_ble_eq_true rfl⟩) ⟨th_blind, (th_pre hH hK hN hZ hS hA40)⟩ rfl rfl hl.1 rfl (lv_room (Nat.le_of_ble_eq_true rfl)) dX12_look_21 ⟨Nat.le_of_ble_eq_true rfl, Nat.le_of_ble_eq_true rfl⟩) hS (fun q _ h => hA40 q h) hA40 (fun x41 u t H locs ht hvm hw41 hB hz1 hk1 hS => ?_)
      try dsimp only at hw41 hB
      rw [ht] at hB
      have hH := hB
      refine lv_if_ne (tgt := 34) hx hb dX12_look_24 (th_eqI rfl) (fun c42 => ?_) (fun c42 => ?_)
      · skip
        have f43 : rg 1 1 x41 := rg_w (rg_neL hw41.1 rgc_0 c42) (th_leI rfl) (th_leI rfl)
        have g44 := hw41.2.1 c42
        have f45 : rg 0 2147483647 p3 := rg_w (rg_le rgc_0 (rg_any p3) g44.1).2 (th_leI rfl) (th_leI rfl)
        have f46 : rg 0 1 p3 := rg_w (rg_le f45 rgc_1 g44.2).1 (th_leI rfl) (th_leI rfl)
        refine lv_iload_n hx hb dX12_look_34 rfl (lv_at hl 3 rfl) ?_
        refine lv_iconst (v := 1) hx hb dX12_look_35 ic_1 ?_
        refine lv_icmp_ne (tgt := 52) hx hb dX12_look_36 (th_eqI rfl) (fun c47 => ?_) (fun c47 => ?_)
        · skip
          have f48 : rg 0 0 p3 := rg_w (rg_neR f46 rgc_1 c47) (th_leI rfl) (th_leI rfl)
          refine lv_iload_n hx hb dX12_look_52 rfl (lv_at hl 2 rfl) ?_
          refine lv_aload_n hx hb dX12_look_53 rfl (lv_at hl 0 rfl) ?_
          obtain ⟨q49, r49, t49⟩ : ∃ q, gr h0 5 = some q ∧ τ q = 44 := (thI_12 hH t_h0).2.2.2.2.2.1
          refine th_get (ci := 11) (v := .ref q49) (T := TX12) (C := RX12) (N := 38) hx hb hts (fun w h => List.mem_cons_of_mem _ (List.mem_append_right _ h)) hown hK hH t_h0 (th_nz rfl) (thE_12 _ _ _) rfl 5 (th_ltN rfl) (hts (.fieldLink RX12 22 "BayMooringsModel" "low" "[I") (List.mem_cons_of_mem _ (List.mem_append_left _ (List.mem_append_left _ (List.mem_of_getElem? (i := 2) rfl))))) (fun _ h9 => h9) (th_fR r49 rfl) dX12_look_54 ?_
          refine lv_iload_n hx hb dX12_look_57 rfl (lv_at hl 1 rfl) ?_
          refine th_iald hx hb hK hH t49 (th_nz rfl) 0 (thE_44 _ _ _) rfl (rg_in (n := 12) f31 (th_leI rfl) (th_ltI rfl)) dX12_look_58 ?_
          refine lv_topi (fun x50 e50 => ?_)
          refine lv_icmp_gt (tgt := 69) hx hb dX12_look_59 (th_eqI rfl) (fun c51 => ?_) (fun c51 => ?_)
          · skip
            have f52 : rg (-2147483648) 99 x50 := rg_w (rg_lt (rg_any x50) f39 c51).1 (th_leI rfl) (th_leI rfl)
            exact J69 gi _ _ _ hH hS hM (lv_sub hl [0, 1, 2, 3] rfl) f31 f39 (rg_w f48 (th_leI rfl) (th_leI rfl)) (hF.trans (by simp only [↓reduceIte, F_X12_look, hw27.2.2, eq_false c28, hw33.2.2.1, eq_false c34, hw41.2.2.1, eq_false c42, eq_false c47, r49, Option.getD_some, ← e50, eq_true c51]))
          · skip
            have f53 : rg 0 2147483647 x50 := rg_w (rg_nlt (rg_any x50) f39 c51).1 (th_leI rfl) (th_leI rfl)
            exact J62 gi _ _ _ hH hS hM (lv_sub hl [0] rfl) (hF.trans (by simp only [↓reduceIte, F_X12_look, hw27.2.2, eq_false c28, hw33.2.2.1, eq_false c34, hw41.2.2.1, eq_false c42, eq_false c47, r49, Option.getD_some, ← e50, eq_false c51]))
        · skip
          have f54 : rg 1 1 p3 := rg_w (rg_eq f46 rgc_1 c47).1 (th_leI rfl) (th_leI rfl)
          refine lv_iload_n hx hb dX12_look_39 rfl (lv_at hl 2 rfl) ?_
          refine lv_aload_n hx hb dX12_look_40 rfl (lv_at hl 0 rfl) ?_
          obtain ⟨q55, r55, t55⟩ : ∃ q, gr h0 6 = some q ∧ τ q = 45 := (thI_12 hH t_h0).2.2.2.2.2.2.1
          refine th_get (ci := 11) (v := .ref q55) (T := TX12) (C := RX12) (N := 38) hx hb hts (fun w h => List.mem_cons_of_mem _ (List.mem_append_right _ h)) hown hK hH t_h0 (th_nz rfl) (thE_12 _ _ _) rfl 6 (th_ltN rfl) (hts (.fieldLink RX12 25 "BayMooringsModel" "high" "[I") (List.mem_cons_of_mem _ (List.mem_append_left _ (List.mem_append_left _ (List.mem_of_getElem? (i := 1) rfl))))) (fun _ h9 => h9) (th_fR r55 rfl) dX12_look_41 ?_
          refine lv_iload_n hx hb dX12_look_44 rfl (lv_at hl 1 rfl) ?_
          refine th_iald hx hb hK hH t55 (th_nz rfl) 0 (thE_45 _ _ _) rfl (rg_in (n := 12) f31 (th_leI rfl) (th_ltI rfl)) dX12_look_45 ?_
          refine lv_topi (fun x56 e56 => ?_)
          refine lv_icmp_le (tgt := 69) hx hb dX12_look_46 (th_eqI rfl) (fun c57 => ?_) (fun c57 => ?_)
          · skip
            have f58 : rg 0 2147483647 x56 := rg_w (rg_le f39 (rg_any x56) c57).2 (th_leI rfl) (th_leI rfl)
            exact J69 gi _ _ _ hH hS hM (lv_sub hl [0, 1, 2, 3] rfl) f31 f39 (rg_w f54 (th_leI rfl) (th_leI rfl)) (hF.trans (by simp only [↓reduceIte, F_X12_look, hw27.2.2, eq_false c28, hw33.2.2.1, eq_false c34, hw41.2.2.1, eq_false c42, eq_true c47, r55, Option.getD_some, ← e56, eq_true c57]))
          · skip
            have f59 : rg (-2147483648) 99 x56 := rg_w (rg_nle f39 (rg_any x56) c57).2 (th_leI rfl) (th_leI rfl)
            refine lv_goto (tgt := 62) hx hb dX12_look_49 (th_eqI rfl) ?_
            exact J62 gi _ _ _ hH hS hM (lv_sub hl [0] rfl) (hF.trans (by simp only [↓reduceIte, F_X12_look, hw27.2.2, eq_false c28, hw33.2.2.1, eq_false c34, hw41.2.2.1, eq_false c42, eq_true c47, r55, Option.getD_some, ← e56, eq_false c57]))
      · skip
        have f60 : rg 0 0 x41 := rg_w (rg_eq hw41.1 rgc_0 c42).1 (th_leI rfl) (th_leI rfl)
        exact J27 gi _ _ _ hH hS hM (lv_sub hl [0] rfl) (hF.trans (by simp only [↓reduceIte, F_X12_look, hw27.2.2, eq_false c28, hw33.2.2.1, eq_false c34, hw41.2.2.1, eq_true c42]))

noncomputable def f_X12_next_82 (τ : th_t) (Z : th_Zt) (gi : th_i) (gr : th_r) (h0 : Nat) (gi_18 : th_i) (y18_1 : Int32) (y18_2 : Int32) (k_18 : th_i → Int32 → Int32 → Int32 × th_i) (gi_82 : th_i) (z82_0 : Int32) : Int32 × th_i :=
  let w82_0 : Int32 := gi_82 h0 0
  let x1 : Int32 := y18_2 + 1
  k_18 gi_82 z82_0 x1
noncomputable def f_X12_next_77 (τ : th_t) (Z : th_Zt) (gi : th_i) (gr : th_r) (h0 : Nat) (gi_18 : th_i) (y18_1 : Int32) (y18_2 : Int32) (k_18 : th_i → Int32 → Int32 → Int32 × th_i) (gi_77 : th_i) : Int32 × th_i :=
  let w77_0 : Int32 := gi_77 h0 0
  f_X12_next_82 τ Z gi gr h0 gi_18 y18_1 y18_2 k_18 gi_77 y18_2
noncomputable def f_X12_next_81 (τ : th_t) (Z : th_Zt) (gi : th_i) (gr : th_r) (h0 : Nat) (gi_18 : th_i) (y18_1 : Int32) (y18_2 : Int32) (k_18 : th_i → Int32 → Int32 → Int32 × th_i) (gi_81 : th_i) : Int32 × th_i :=
  let w81_0 : Int32 := gi_81 h0 0
  f_X12_next_82 τ Z gi gr h0 gi_18 y18_1 y18_2 k_18 gi_81 y18_1
noncomputable def f_X12_next_18 (τ : th_t) (Z : th_Zt) (gi : th_i) (gr : th_r) (h0 : Nat) : Nat → th_i → Int32 → Int32 → Int32 × th_i
  | 0, gi_18, y18_1, y18_2 => (0, gi_18)
  | n18 + 1, gi_18, y18_1, y18_2 =>
    let w18_0 : Int32 := gi_18 h0 0
    if w18_0 ≤ y18_2 then (
      (y18_1, gi_18)) else (
      let q6 : Nat := (gr h0 6).getD 0
      let x7 : Int32 := gi_18 q6 y18_2.toNatClampNeg
      let q8 : Nat := (gr h0 5).getD 0
      let x9 : Int32 := gi_18 q8 y18_2.toNatClampNeg
      let x10 : Int32 := x7 - x9
      let x12 : Int32 := gi_18 q6 y18_1.toNatClampNeg
      let x13 : Int32 := x10 - x12
      let x15 : Int32 := gi_18 q8 y18_1.toNatClampNeg
      let x16 : Int32 := x13 + x15
      if (0 : Int32) < x16 then (
        f_X12_next_77 τ Z gi gr h0 gi_18 y18_1 y18_2 (f_X12_next_18 τ Z gi gr h0 n18) gi_18) else (
        if x16 = (0 : Int32) then (
          if x7 ≤ x12 then (
            f_X12_next_81 τ Z gi gr h0 gi_18 y18_1 y18_2 (f_X12_next_18 τ Z gi gr h0 n18) gi_18) else (
            f_X12_next_77 τ Z gi gr h0 gi_18 y18_1 y18_2 (f_X12_next_18 τ Z gi gr h0 n18) gi_18)) else (
          f_X12_next_81 τ Z gi gr h0 gi_18 y18_1 y18_2 (f_X12_next_18 τ Z gi gr h0 n18) gi_18)))
noncomputable def F_X12_next (τ : th_t) (Z : th_Zt) (gi : th_i) (gr : th_r) (h0 : Nat) : Int32 × th_i :=
  let x28 : Int32 := gi h0 0
  if x28 = (0 : Int32) then (
    let u33 : Int32 × th_i := F_X12_finding τ Z gi gr h0 (-1000002)
    let x33 : Int32 := u33.1
    let gi33 : th_i := u33.2
    (x33, gi33)) else (
    f_X12_next_18 τ Z gi gr h0 ((12 - (1 : Int32).toInt).toNat + 1) gi 0 1)
set_option maxHeartbeats 8000000 in
set_option maxRecDepth 100000 in
theorem k_X12_next (l : Launch) (D : va_G) (cA : Nat → ClassId) (Z : th_Zt) (τ : th_t) (gi : th_i) (gr : th_r) (sz : Nat) (h0 : Nat) (t_h0 : τ h0 = 12) : Met l yX12_next wsX12_next ({ frames := 1, cells := 0, slots := 0, locals := 21 }) (va_Pc [.ref h0] (th_Pre D cA Z τ gi gr sz)) (va_Qi (fun (r : Int32) (u : th_i × th_r) => th_Mod [5900] τ gi gr u.1 u.2 ∧ u.2 = gr ∧ (F_X12_next τ Z gi gr h0 = (r, u.1))) (fun (u : th_i × th_r) t => th_H D cA τ u.1 u.2 t.heap) (th_A τ sz)) 0 0 (th_A τ sz) := by
  refine Met.ofW (cc := cX12_next) (maxL := 4) (ret := (some .int)) (by decide) rfl ?_
  intro p e s m args below meth c s₁ B hml hv
  obtain ⟨rfl, hsz, hH, hK, hN, hZ⟩ := hv
  have hx := B.exec
  have hb := B.bytes
  have hr := B.returns
  have hts := atoms_spec (ws := wsX12_next) B.pre
  have hown : s.vm.findClass RX12 = some m.cls := findClass_of_methodNamed B.named
  have hlocks := B.notSynchronized
  subst hsz
  have hM : th_Mod [5900] τ gi gr gi gr := th_Mod.rf
  have J18 : ∀ (n18 : Nat) (gi_18 : th_i) (H : Heap) (locs : List Loc) (ls : Array Slot) (y18_1 : Int32) (y18_2 : Int32) (w18_0 : Int32), (12 - y18_2.toInt).toNat < n18 → th_H D cA τ gi_18 gr H → va_S (th_A τ s.heap.size) s.heap H locs → th_Mod [5900] τ gi gr gi_18 gr → lv_has ls 4 [(0, .ref h0), (1, .int y18_1), (2, .int y18_2)] → rg 0 11 y18_1 → rg 1 12 y18_2 → w18_0 = gi_18 h0 0 → rg 1 12 w18_0 → F_X12_next τ Z gi gr h0 = f_X12_next_18 τ Z gi gr h0 n18 gi_18 y18_1 y18_2 → W p l e (headSpec wsX12_next ({ frames := 1, cells := 0, slots := 0, locals := 21 })).room s m [.ref h0].toArray below meth c H locs 0 0 (MQ below (va_Qi (fun (r : Int32) (u : th_i × th_r) => th_Mod [5900] τ gi gr u.1 u.2 ∧ u.2 = gr ∧ (F_X12_next τ Z gi gr h0 = (r, u.1))) (fun (u : th_i × th_r) t => th_H D cA τ u.1 u.2 t.heap) (th_A τ s.heap.size)) [.ref h0].toArray s 0 0 (th_A τ s.heap.size)) (F0 m 18 ls []) := by
    intro n18
    induction n18 with
    | zero =>
      intro gi_18 H locs ls y18_1 y18_2 w18_0 hn
      exact absurd hn (Nat.not_lt_zero _)
    | succ n18 ih18 =>
      intro gi_18 H locs ls y18_1 y18_2 w18_0 hn18 hH hS hM hl fy18_1 fy18_2 ew18_0 fw18_0 hF
      have J82 : ∀ (gi_82 : th_i) (H : Heap) (locs : List Loc) (ls : Array Slot) (z82_0 : Int32) (w82_0 : Int32), th_H D cA τ gi_82 gr H → va_S (th_A τ s.heap.size) s.heap H locs → th_Mod [5900] τ gi gr gi_82 gr → lv_has ls 4 [(0, .ref h0), (2, .int y18_2)] → rg 1 11 y18_2 → rg 0 11 z82_0 → w82_0 = gi_82 h0 0 → rg 2 12 w82_0 → F_X12_next τ Z gi gr h0 = f_X12_next_82 τ Z gi gr h0 gi_18 y18_1 y18_2 (f_X12_next_18 τ Z gi gr h0 n18) gi_82 z82_0 → W p l e (headSpec wsX12_next ({ frames := 1, cells := 0, slots := 0, locals := 21 })).room s m [.ref h0].toArray below meth c H locs 0 0 (MQ below (va_Qi (fun (r : Int32) (u : th_i × th_r) => th_Mod [5900] τ gi gr u.1 u.2 ∧ u.2 = gr ∧ (F_X12_next τ Z gi gr h0 = (r, u.1))) (fun (u : th_i × th_r) t => th_H D cA τ u.1 u.2 t.heap) (th_A τ s.heap.size)) [.ref h0].toArray s 0 0 (th_A τ s.heap.size)) (F0 m 82 ls [.int z82_0]) := by
        intro gi_82 H locs ls z82_0 w82_0 hH hS hM hl fy82_2 fz82_0 ew82_0 fw82_0 hF
        refine lv_istore_n (i := 1) (lv' := [(1, .int z82_0), (0, .ref h0), (2, .int y18_2)]) hx hb dX12_next_82 rfl hl (th_ltN rfl) rfl (fun ls hl => ?_)
        obtain ⟨x1, e1⟩ : ∃ y : Int32, y = y18_2 + 1 := ⟨_, rfl⟩
        have f1 : rg 2 12 x1 := rg_e e1 (rg_w (rg_add fy82_2 rgc_1 (th_leI rfl) (th_leI rfl)) (th_leI rfl) (th_leI rfl))
        refine lv_iinc (v := x1) (lv' := [(2, .int x1), (1, .int z82_0), (0, .ref h0)]) hx hb dX12_next_83 hl (k := 2) rfl (by rw [e1]; rfl) (th_ltN rfl) rfl (fun ls hl => ?_)
        refine lv_goto (tgt := 18) hx hb dX12_next_86 (th_eqI rfl) ?_
        exact ih18 gi_82 _ _ _ z82_0 x1 w82_0 (th_up (rg_dA e1 fy82_2 rgc_1 (th_leI rfl) (th_leI rfl)) fy82_2 hn18 (th_ltI rfl)) hH hS hM (lv_sub hl [2, 1, 0] rfl) fz82_0 (rg_w f1 (th_leI rfl) (th_leI rfl)) ew82_0 (rg_w fw82_0 (th_leI rfl) (th_leI rfl)) (hF.trans (by simp only [f_X12_next_82, ← ew82_0, ← e1]))
      have J81 : ∀ (gi_81 : th_i) (H : Heap) (locs : List Loc) (ls : Array Slot) (w81_0 : Int32), th_H D cA τ gi_81 gr H → va_S (th_A τ s.heap.size) s.heap H locs → th_Mod [5900] τ gi gr gi_81 gr → lv_has ls 4 [(0, .ref h0), (1, .int y18_1), (2, .int y18_2)] → rg 0 11 y18_1 → rg 1 11 y18_2 → w81_0 = gi_81 h0 0 → rg 2 12 w81_0 → F_X12_next τ Z gi gr h0 = f_X12_next_81 τ Z gi gr h0 gi_18 y18_1 y18_2 (f_X12_next_18 τ Z gi gr h0 n18) gi_81 → W p l e (headSpec wsX12_next ({ frames := 1, cells := 0, slots := 0, locals := 21 })).room s m [.ref h0].toArray below meth c H locs 0 0 (MQ below (va_Qi (fun (r : Int32) (u : th_i × th_r) => th_Mod [5900] τ gi gr u.1 u.2 ∧ u.2 = gr ∧ (F_X12_next τ Z gi gr h0 = (r, u.1))) (fun (u : th_i × th_r) t => th_H D cA τ u.1 u.2 t.heap) (th_A τ s.heap.size)) [.ref h0].toArray s 0 0 (th_A τ s.heap.size)) (F0 m 81 ls []) := by
        intro gi_81 H locs ls w81_0 hH hS hM hl fy81_1 fy81_2 ew81_0 fw81_0 hF
        refine lv_iload_n hx hb dX12_next_81 rfl (lv_at hl 1 rfl) ?_
        exact J82 gi_81 _ _ _ y18_1 w81_0 hH hS hM (lv_sub hl [0, 2] rfl) fy81_2 fy81_1 ew81_0 fw81_0 (hF.trans (by simp only [f_X12_next_81, ← ew81_0]))
      have J77 : ∀ (gi_77 : th_i) (H : Heap) (locs : List Loc) (ls : Array Slot) (w77_0 : Int32), th_H D cA τ gi_77 gr H → va_S (th_A τ s.heap.size) s.heap H locs → th_Mod [5900] τ gi gr gi_77 gr → lv_has ls 4 [(0, .ref h0), (2, .int y18_2)] → rg 1 11 y18_2 → w77_0 = gi_77 h0 0 → rg 2 12 w77_0 → F_X12_next τ Z gi gr h0 = f_X12_next_77 τ Z gi gr h0 gi_18 y18_1 y18_2 (f_X12_next_18 τ Z gi gr h0 n18) gi_77 → W p l e (headSpec wsX12_next ({ frames := 1, cells := 0, slots := 0, locals := 21 })).room s m [.ref h0].toArray below meth c H locs 0 0 (MQ below (va_Qi (fun (r : Int32) (u : th_i × th_r) => th_Mod [5900] τ gi gr u.1 u.2 ∧ u.2 = gr ∧ (F_X12_next τ Z gi gr h0 = (r, u.1))) (fun (u : th_i × th_r) t => th_H D cA τ u.1 u.2 t.heap) (th_A τ s.heap.size)) [.ref h0].toArray s 0 0 (th_A τ s.heap.size)) (F0 m 77 ls []) := by
        intro gi_77 H locs ls w77_0 hH hS hM hl fy77_2 ew77_0 fw77_0 hF
        refine lv_iload_n hx hb dX12_next_77 rfl (lv_at hl 1 rfl) ?_
        refine lv_goto (tgt := 82) hx hb dX12_next_78 (th_eqI rfl) ?_
        exact J82 gi_77 _ _ _ y18_2 w77_0 hH hS hM (lv_sub hl [0, 1] rfl) fy77_2 (rg_w fy77_2 (th_leI rfl) (th_leI rfl)) ew77_0 fw77_0 (hF.trans (by simp only [f_X12_next_77, ← ew77_0]))
      refine lv_iload_n hx hb dX12_next_18 rfl (lv_at hl 2 rfl) ?_
      refine lv_aload_n hx hb dX12_next_19 rfl (lv_at hl 0 rfl) ?_
      refine th_get (ci := 11) (v := .int w18_0) (T := TX12) (C := RX12) (N := 38) hx hb hts (fun w h => List.mem_cons_of_mem _ (List.mem_append_right _ h)) hown hK hH t_h0 (th_nz rfl) (thE_12 _ _ _) rfl 0 (th_ltN rfl) (hts (.fieldLink RX12 109 "BayMooringsModel" "buoys" "I") (List.mem_cons_of_mem _ (List.mem_append_left _ (List.mem_of_getElem? (i := 0) rfl)))) (fun _ h9 => h9) (th_fI ew18_0 rfl) dX12_next_20 ?_
      refine lv_icmp_ge (tgt := 89) hx hb dX12_next_23 (th_eqI rfl) (fun c3 => ?_) (fun c3 => ?_)
      · skip
        refine lv_iload_n hx hb dX12_next_89 rfl (lv_at hl 1 rfl) ?_
        exact W.iret (v := y18_1) hx hb hr (fun t ht hW => ⟨⟨y18_1, (gi_18, gr), rfl, ⟨hM, rfl, (hF.trans (by simp only [↓reduceIte, f_X12_next_18, ← ew18_0, eq_true c3]))⟩, th_Ht ht hH⟩, hS.F ht⟩) hS.2.2 dX12_next_90
      · skip
        have f4 : rg 2 12 w18_0 := rg_w (rg_nle fw18_0 fy18_2 c3).1 (th_leI rfl) (th_leI rfl)
        have f5 : rg 1 11 y18_2 := rg_w (rg_nle fw18_0 fy18_2 c3).2 (th_leI rfl) (th_leI rfl)
        refine lv_aload_n hx hb dX12_next_26 rfl (lv_at hl 0 rfl) ?_
        obtain ⟨q6, r6, t6⟩ : ∃ q, gr h0 6 = some q ∧ τ q = 45 := (thI_12 hH t_h0).2.2.2.2.2.2.1
        refine th_get (ci := 11) (v := .ref q6) (T := TX12) (C := RX12) (N := 38) hx hb hts (fun w h => List.mem_cons_of_mem _ (List.mem_append_right _ h)) hown hK hH t_h0 (th_nz rfl) (thE_12 _ _ _) rfl 6 (th_ltN rfl) (hts (.fieldLink RX12 25 "BayMooringsModel" "high" "[I") (List.mem_cons_of_mem _ (List.mem_append_left _ (List.mem_of_getElem? (i := 2) rfl)))) (fun _ h9 => h9) (th_fR r6 rfl) dX12_next_27 ?_
        refine lv_iload_n hx hb dX12_next_30 rfl (lv_at hl 2 rfl) ?_
        refine th_iald hx hb hK hH t6 (th_nz rfl) 0 (thE_45 _ _ _) rfl (rg_in (n := 12) f5 (th_leI rfl) (th_ltI rfl)) dX12_next_31 ?_
        refine lv_topi (fun x7 e7 => ?_)
        refine lv_aload_n hx hb dX12_next_32 rfl (lv_at hl 0 rfl) ?_
        obtain ⟨q8, r8, t8⟩ : ∃ q, gr h0 5 = some q ∧ τ q = 44 := (thI_12 hH t_h0).2.2.2.2.2.1
        refine th_get (ci := 11) (v := .ref q8) (T := TX12) (C := RX12) (N := 38) hx hb hts (fun w h => List.mem_cons_of_mem _ (List.mem_append_right _ h)) hown hK hH t_h0 (th_nz rfl) (thE_12 _ _ _) rfl 5 (th_ltN rfl) (hts (.fieldLink RX12 22 "BayMooringsModel" "low" "[I") (List.mem_cons_of_mem _ (List.mem_append_left _ (List.mem_of_getElem? (i := 3) rfl)))) (fun _ h9 => h9) (th_fR r8 rfl) dX12_next_33 ?_
        refine lv_iload_n hx hb dX12_next_36 rfl (lv_at hl 2 rfl) ?_
        refine th_iald hx hb hK hH t8 (th_nz rfl) 0 (thE_44 _ _ _) rfl (rg_in (n := 12) f5 (th_leI rfl) (th_ltI rfl)) dX12_next_37 ?_
        refine lv_topi (fun x9 e9 => ?_)
        refine lv_isub hx hb dX12_next_38 ?_
        refine lv_topi (fun x10 e10 => ?_)
        refine lv_aload_n hx hb dX12_next_39 rfl (lv_at hl 0 rfl) ?_
        refine th_get (ci := 11) (v := .ref q6) (T := TX12) (C := RX12) (N := 38) hx hb hts (fun w h => List.mem_cons_of_mem _ (List.mem_append_right _ h)) hown hK hH t_h0 (th_nz rfl) (thE_12 _ _ _) rfl 6 (th_ltN rfl) (hts (.fieldLink RX12 25 "BayMooringsModel" "high" "[I") (List.mem_cons_of_mem _ (List.mem_append_left _ (List.mem_of_getElem? (i := 2) rfl)))) (fun _ h9 => h9) (th_fR r6 rfl) dX12_next_40 ?_
        refine lv_iload_n hx hb dX12_next_43 rfl (lv_at hl 1 rfl) ?_
        refine th_iald hx hb hK hH t6 (th_nz rfl) 0 (thE_45 _ _ _) rfl (rg_in (n := 12) fy18_1 (th_leI rfl) (th_ltI rfl)) dX12_next_44 ?_
        refine lv_topi (fun x12 e12 => ?_)
        refine lv_isub hx hb dX12_next_45 ?_
        refine lv_topi (fun x13 e13 => ?_)
        refine lv_aload_n hx hb dX12_next_46 rfl (lv_at hl 0 rfl) ?_
        refine th_get (ci := 11) (v := .ref q8) (T := TX12) (C := RX12) (N := 38) hx hb hts (fun w h => List.mem_cons_of_mem _ (List.mem_append_right _ h)) hown hK hH t_h0 (th_nz rfl) (thE_12 _ _ _) rfl 5 (th_ltN rfl) (hts (.fieldLink RX12 22 "BayMooringsModel" "low" "[I") (List.mem_cons_of_mem _ (List.mem_append_left _ (List.mem_of_getElem? (i := 3) rfl)))) (fun _ h9 => h9) (th_fR r8 rfl) dX12_next_47 ?_
        refine lv_iload_n hx hb dX12_next_50 rfl (lv_at hl 1 rfl) ?_
        refine th_iald hx hb hK hH t8 (th_nz rfl) 0 (thE_44 _ _ _) rfl (rg_in (n := 12) fy18_1 (th_leI rfl) (th_ltI rfl)) dX12_next_51 ?_
        refine lv_topi (fun x15 e15 => ?_)
        refine lv_iadd hx hb dX12_next_52 ?_
        refine lv_topi (fun x16 e16 => ?_)
        refine lv_istore_n (i := 3) (lv' := [(3, .int x16), (0, .ref h0), (1, .int y18_1), (2, .int y18_2)]) hx hb dX12_next_53 rfl hl (th_ltN rfl) rfl (fun ls hl => ?_)
        refine lv_iload_n hx hb dX12_next_54 rfl (lv_at hl 0 rfl) ?_
        refine lv_if_gt (tgt := 77) hx hb dX12_next_55 (th_eqI rfl) (fun c17 => ?_) (fun c17 => ?_)
        · skip
          have f18 : rg 1 2147483647 x16 := rg_w (rg_lt rgc_0 (rg_any x16) c17).2 (th_leI rfl) (th_leI rfl)
          exact J77 gi_18 _ _ _ w18_0 hH hS hM (lv_sub hl [1, 3] rfl) f5 ew18_0 f4 (hF.trans (by simp only [↓reduceIte, f_X12_next_18, ← ew18_0, eq_false c3, r6, Option.getD_some, ← e7, r8, ← e9, ← e10, ← e12, ← e13, ← e15, ← e16, eq_true c17]))
        · skip
          have f19 : rg (-2147483648) 0 x16 := rg_w (rg_nlt rgc_0 (rg_any x16) c17).2 (th_leI rfl) (th_leI rfl)
          refine lv_iload_n hx hb dX12_next_58 rfl (lv_at hl 0 rfl) ?_
          refine lv_if_ne (tgt := 81) hx hb dX12_next_59 (th_eqI rfl) (fun c20 => ?_) (fun c20 => ?_)
          · skip
            have f21 : rg (-2147483648) (-1) x16 := rg_w (rg_neR f19 rgc_0 c20) (th_leI rfl) (th_leI rfl)
            exact J81 gi_18 _ _ _ w18_0 hH hS hM (lv_sub hl [1, 2, 3] rfl) fy18_1 f5 ew18_0 f4 (hF.trans (by simp only [↓reduceIte, f_X12_next_18, ← ew18_0, eq_false c3, r6, Option.getD_some, ← e7, r8, ← e9, ← e10, ← e12, ← e13, ← e15, ← e16, eq_false c17, eq_false c20]))
          · skip
            have f22 : rg 0 0 x16 := rg_w (rg_eq f19 rgc_0 c20).1 (th_leI rfl) (th_leI rfl)
            refine lv_aload_n hx hb dX12_next_62 rfl (lv_at hl 1 rfl) ?_
            refine th_get (ci := 11) (v := .ref q6) (T := TX12) (C := RX12) (N := 38) hx hb hts (fun w h => List.mem_cons_of_mem _ (List.mem_append_right _ h)) hown hK hH t_h0 (th_nz rfl) (thE_12 _ _ _) rfl 6 (th_ltN rfl) (hts (.fieldLink RX12 25 "BayMooringsModel" "high" "[I") (List.mem_cons_of_mem _ (List.mem_append_left _ (List.mem_of_getElem? (i := 2) rfl)))) (fun _ h9 => h9) (th_fR r6 rfl) dX12_next_63 ?_
            refine lv_iload_n hx hb dX12_next_66 rfl (lv_at hl 3 rfl) ?_
            refine th_iald hx hb hK hH t6 (th_nz rfl) 0 (thE_45 _ _ _) rfl (rg_in (n := 12) f5 (th_leI rfl) (th_ltI rfl)) dX12_next_67 ?_
            rw [← e7]
            refine lv_aload_n hx hb dX12_next_68 rfl (lv_at hl 1 rfl) ?_
            refine th_get (ci := 11) (v := .ref q6) (T := TX12) (C := RX12) (N := 38) hx hb hts (fun w h => List.mem_cons_of_mem _ (List.mem_append_right _ h)) hown hK hH t_h0 (th_nz rfl) (thE_12 _ _ _) rfl 6 (th_ltN rfl) (hts (.fieldLink RX12 25 "BayMooringsModel" "high" "[I") (List.mem_cons_of_mem _ (List.mem_append_left _ (List.mem_of_getElem? (i := 2) rfl)))) (fun _ h9 => h9) (th_fR r6 rfl) dX12_next_69 ?_
            refine lv_iload_n hx hb dX12_next_72 rfl (lv_at hl 2 rfl) ?_
            refine th_iald hx hb hK hH t6 (th_nz rfl) 0 (thE_45 _ _ _) rfl (rg_in (n := 12) fy18_1 (th_leI rfl) (th_ltI rfl)) dX12_next_73 ?_
            rw [← e12]
            refine lv_icmp_le (tgt := 81) hx hb dX12_next_74 (th_eqI rfl) (fun c27 => ?_) (fun c27 => ?_)
            · skip
              exact J81 gi_18 _ _ _ w18_0 hH hS hM (lv_sub hl [1, 2, 3] rfl) fy18_1 f5 ew18_0 f4 (hF.trans (by simp only [↓reduceIte, f_X12_next_18, ← ew18_0, eq_false c3, r6, Option.getD_some, ← e7, r8, ← e9, ← e10, ← e12, ← e13, ← e15, ← e16, eq_false c17, eq_true c20, eq_true c27]))
            · skip
              exact J77 gi_18 _ _ _ w18_0 hH hS hM (lv_sub hl [1, 3] rfl) f5 ew18_0 f4 (hF.trans (by simp only [↓reduceIte, f_X12_next_18, ← ew18_0, eq_false c3, r6, Option.getD_some, ← e7, r8, ← e9, ← e10, ← e12, ← e13, ← e15, ← e16, eq_false c17, eq_true c20, eq_false c27]))
  have hS : va_S (th_A τ s.heap.size) s.heap s.heap [] := va_S.rf
  have hl := lv_entry ([.ref h0]) (n := 4) (Nat.le_of_ble_eq_true rfl)
  rw [lg_entry_eq]
  generalize (lg_sl ([.ref h0]) ++ List.replicate (4 - (lg_sl ([.ref h0])).length) Slot.unset).toArray = ls at hl ⊢
  have hl : lv_has ls 4 [(0, .ref h0)] := hl
  have hF : F_X12_next τ Z gi gr h0 = F_X12_next τ Z gi gr h0 := rfl
  refine lv_aload_n hx hb dX12_next_0 rfl (lv_at hl 0 rfl) ?_
  obtain ⟨x28, e28⟩ : ∃ y : Int32, y = gi h0 0 := ⟨_, rfl⟩
  refine th_get (ci := 11) (v := .int x28) (T := TX12) (C := RX12) (N := 38) hx hb hts (fun w h => List.mem_cons_of_mem _ (List.mem_append_right _ h)) hown hK hH t_h0 (th_nz rfl) (thE_12 _ _ _) rfl 0 (th_ltN rfl) (hts (.fieldLink RX12 109 "BayMooringsModel" "buoys" "I") (List.mem_cons_of_mem _ (List.mem_append_left _ (List.mem_of_getElem? (i := 0) rfl)))) (fun _ h9 => h9) (th_fI e28 rfl) dX12_next_1 ?_
  have f28 : rg 0 12 x28 := rg_e e28 ((thI_12 hH t_h0).1)
  refine lv_if_ne (tgt := 14) hx hb dX12_next_4 (th_eqI rfl) (fun c29 => ?_) (fun c29 => ?_)
  · skip
    have f30 : rg 1 12 x28 := rg_w (rg_neL f28 rgc_0 c29) (th_leI rfl) (th_leI rfl)
    refine lv_iconst (v := 0) hx hb dX12_next_14 ic_0 ?_
    refine lv_istore_n (i := 1) (lv' := [(1, .int 0), (0, .ref h0)]) hx hb dX12_next_15 rfl hl (th_ltN rfl) rfl (fun ls hl => ?_)
    refine lv_iconst (v := 1) hx hb dX12_next_16 ic_1 ?_
    refine lv_istore_n (i := 2) (lv' := [(2, .int 1), (1, .int 0), (0, .ref h0)]) hx hb dX12_next_17 rfl hl (th_ltN rfl) rfl (fun ls hl => ?_)
    exact J18 _ gi _ _ _ 0 1 x28 (Nat.lt_add_one _) hH hS hM (lv_sub hl [2, 1, 0] rfl) (rg_w rgc_0 (th_leI rfl) (th_leI rfl)) (rg_w rgc_1 (th_leI rfl) (th_leI rfl)) e28 f30 (hF.trans (by simp only [↓reduceIte, F_X12_next, ← e28, eq_false c29]))
  · skip
    have f31 : rg 0 0 x28 := rg_w (rg_eq f28 rgc_0 c29).1 (th_leI rfl) (th_leI rfl)
    refine lv_aload_n hx hb dX12_next_7 rfl (lv_at hl 0 rfl) ?_
    refine lv_ldc (v := (-1000002)) hx hb hown (hts (.constant RX12 191 (-1000002)) (List.mem_cons_of_mem _ (List.mem_append_left _ (List.mem_of_getElem? (i := 1) rfl)))) dX12_next_8 ?_
    have hA32 := th_Asub (τ := τ) hS
    refine va_calli (va_runV (As := [.int (-1000002)]) (rest := []) ⟨hx, hb, hml, hown, hts⟩ (k_X12_finding l D cA Z τ gi gr _ h0 t_h0 (-1000002) (rg_w rgc_m1000002 (th_leI rfl) (th_leI rfl))) (cwV 1 hts gX12_next_X12_finding rfl rfl rfl hd_X12_finding__1 ⟨Nat.le_of_ble_eq_true rfl, Nat.le_of_ble_eq_true rfl⟩) ⟨th_blind, tr_12 hK hH t_h0, (th_pre hH hK hN hZ hS hA32)⟩ rfl rfl hl.1 rfl (lv_room (Nat.le_of_ble_eq_true rfl)) dX12_next_10 ⟨Nat.le_of_ble_eq_true rfl, Nat.le_of_ble_eq_true rfl⟩) hS (fun q _ h => hA32 q h) hA32 (fun x33 u t H locs ht hvm hw33 hB hz1 hk1 hS => ?_)
    try dsimp only at hw33 hB
    rw [ht] at hB
    have hH := hB
    obtain ⟨gi33, gr33⟩ := u
    try dsimp only at hw33 hH
    obtain rfl : gr = gr33 := (hw33.2.1).symm
    have hM := hM.tr hw33.1 (fun _ h => h) (th_sub rfl)
    have e34 : x28 = gi33 h0 0 := Eq.trans e28 (Eq.symm (hw33.1 h0 0 (th_nzE t_h0 rfl) (th_nmE (key := 1200) t_h0 rfl rfl)).1)
    exact W.iret (v := x33) hx hb hr (fun t ht hW => ⟨⟨x33, (gi33, gr), rfl, ⟨hM, rfl, (hF.trans (by simp only [↓reduceIte, F_X12_next, ← e28, eq_true c29, hw33.2.2.1]))⟩, th_Ht ht hH⟩, hS.F ht⟩) hS.2.2 dX12_next_13

noncomputable def F_X12_renew (τ : th_t) (Z : th_Zt) (gi : th_i) (gr : th_r) (h0 : Nat) (p1 : Int32) : Int32 × th_i :=
  let x2 : Int32 := F_X12_isBuoy τ Z gi gr h0 p1
  if x2 = (0 : Int32) then (
    let u16 : Int32 × th_i := F_X12_finding τ Z gi gr h0 (-1000001)
    let x16 : Int32 := u16.1
    let gi16 : th_i := u16.2
    (x16, gi16)) else (
    let q6 : Nat := (gr h0 6).getD 0
    let x7 : Int32 := gi q6 p1.toNatClampNeg
    let gi9 : th_i := va_up gi q6 (upd (gi q6) p1.toNatClampNeg 0)
    let q11 : Nat := (gr h0 5).getD 0
    let gi12 : th_i := va_up gi9 q11 (upd (gi9 q11) p1.toNatClampNeg 0)
    (x7, gi12))
set_option maxHeartbeats 8000000 in
set_option maxRecDepth 100000 in
theorem k_X12_renew (l : Launch) (D : va_G) (cA : Nat → ClassId) (Z : th_Zt) (τ : th_t) (gi : th_i) (gr : th_r) (sz : Nat) (h0 : Nat) (t_h0 : τ h0 = 12) (p1 : Int32) : Met l yX12_renew wsX12_renew ({ frames := 2, cells := 0, slots := 0, locals := 43 }) (va_Pc [.ref h0, .int p1] (th_Pre D cA Z τ gi gr sz)) (va_Qi (fun (r : Int32) (u : th_i × th_r) => th_Mod [4400, 4500, 5900] τ gi gr u.1 u.2 ∧ u.2 = gr ∧ (F_X12_renew τ Z gi gr h0 p1 = (r, u.1))) (fun (u : th_i × th_r) t => th_H D cA τ u.1 u.2 t.heap) (th_A τ sz)) 0 0 (th_A τ sz) := by
  refine Met.ofW (cc := cX12_renew) (maxL := 3) (ret := (some .int)) (by decide) rfl ?_
  intro p e s m args below meth c s₁ B hml hv
  obtain ⟨rfl, hsz, hH, hK, hN, hZ⟩ := hv
  have hx := B.exec
  have hb := B.bytes
  have hr := B.returns
  have hts := atoms_spec (ws := wsX12_renew) B.pre
  have hown : s.vm.findClass RX12 = some m.cls := findClass_of_methodNamed B.named
  have hlocks := B.notSynchronized
  subst hsz
  have hM : th_Mod [4400, 4500, 5900] τ gi gr gi gr := th_Mod.rf
  have hS : va_S (th_A τ s.heap.size) s.heap s.heap [] := va_S.rf
  have hl := lv_entry ([.ref h0, .int p1]) (n := 3) (Nat.le_of_ble_eq_true rfl)
  rw [lg_entry_eq]
  generalize (lg_sl ([.ref h0, .int p1]) ++ List.replicate (3 - (lg_sl ([.ref h0, .int p1])).length) Slot.unset).toArray = ls at hl ⊢
  have hl : lv_has ls 3 [(0, .ref h0), (1, .int p1)] := hl
  have hF : F_X12_renew τ Z gi gr h0 p1 = F_X12_renew τ Z gi gr h0 p1 := rfl
  refine lv_aload_n hx hb dX12_renew_0 rfl (lv_at hl 0 rfl) ?_
  refine lv_iload_n hx hb dX12_renew_1 rfl (lv_at hl 1 rfl) ?_
  have hA1 := th_Asub (τ := τ) hS
  refine va_calli (va_runV (As := [.int p1]) (rest := []) ⟨hx, hb, hml, hown, hts⟩ (k_X12_isBuoy l D cA Z τ gi gr _ h0 t_h0 p1) (cwV 1 hts gX12_renew_X12_isBuoy rfl rfl rfl hd_X12_isBuoy__1 ⟨Nat.le_of_ble_eq_true rfl, Nat.le_of_ble_eq_true rfl⟩) ⟨th_blind, tr_12 hK hH t_h0, (th_pre hH hK hN hZ hS hA1)⟩ rfl rfl hl.1 rfl (lv_room (Nat.le_of_ble_eq_true rfl)) dX12_renew_2 ⟨Nat.le_of_ble_eq_true rfl, Nat.le_of_ble_eq_true rfl⟩) hS (fun q _ h => hA1 q h) hA1 (fun x2 u t H locs ht hvm hw2 hB hz1 hk1 hS => ?_)
  try dsimp only at hw2 hB
  rw [ht] at hB
  have hH := hB
  refine lv_if_ne (tgt := 15) hx hb dX12_renew_5 (th_eqI rfl) (fun c3 => ?_) (fun c3 => ?_)
  · skip
    have f4 : rg 1 1 x2 := rg_w (rg_neL hw2.1 rgc_0 c3) (th_leI rfl) (th_leI rfl)
    have f5 : rg 0 11 p1 := rg_w (hw2.2.1 c3) (th_leI rfl) (th_leI rfl)
    refine lv_aload_n hx hb dX12_renew_15 rfl (lv_at hl 0 rfl) ?_
    obtain ⟨q6, r6, t6⟩ : ∃ q, gr h0 6 = some q ∧ τ q = 45 := (thI_12 hH t_h0).2.2.2.2.2.2.1
    refine th_get (ci := 11) (v := .ref q6) (T := TX12) (C := RX12) (N := 38) hx hb hts (fun w h => List.mem_cons_of_mem _ (List.mem_append_right _ h)) hown hK hH t_h0 (th_nz rfl) (thE_12 _ _ _) rfl 6 (th_ltN rfl) (hts (.fieldLink RX12 25 "BayMooringsModel" "high" "[I") (List.mem_cons_of_mem _ (List.mem_append_left _ (List.mem_of_getElem? (i := 1) rfl)))) (fun _ h9 => h9) (th_fR r6 rfl) dX12_renew_16 ?_
    refine lv_iload_n hx hb dX12_renew_19 rfl (lv_at hl 1 rfl) ?_
    refine th_iald hx hb hK hH t6 (th_nz rfl) 0 (thE_45 _ _ _) rfl (rg_in (n := 12) f5 (th_leI rfl) (th_ltI rfl)) dX12_renew_20 ?_
    refine lv_topi (fun x7 e7 => ?_)
    refine lv_istore_n (i := 2) (lv' := [(2, .int x7), (0, .ref h0), (1, .int p1)]) hx hb dX12_renew_21 rfl hl (th_ltN rfl) rfl (fun ls hl => ?_)
    refine lv_aload_n hx hb dX12_renew_22 rfl (lv_at hl 1 rfl) ?_
    refine th_get (ci := 11) (v := .ref q6) (T := TX12) (C := RX12) (N := 38) hx hb hts (fun w h => List.mem_cons_of_mem _ (List.mem_append_right _ h)) hown hK hH t_h0 (th_nz rfl) (thE_12 _ _ _) rfl 6 (th_ltN rfl) (hts (.fieldLink RX12 25 "BayMooringsModel" "high" "[I") (List.mem_cons_of_mem _ (List.mem_append_left _ (List.mem_of_getElem? (i := 1) rfl)))) (fun _ h9 => h9) (th_fR r6 rfl) dX12_renew_23 ?_
    refine lv_iload_n hx hb dX12_renew_26 rfl (lv_at hl 2 rfl) ?_
    refine lv_iconst (v := 0) hx hb dX12_renew_27 ic_0 ?_
    refine th_iast hx hb hK hH hS t6 (th_nz rfl) (Or.inl (th_nzE t6 rfl)) 0 (fun _ => thE_45 _ _ _) rfl (rg_in (n := 12) f5 (th_leI rfl) (th_ltI rfl)) (trivial) dX12_renew_28 (fun gi9 H locs hu9 ho9 hH hS => ?_)
    have eg9 : gi9 = va_up gi q6 (upd (gi q6) p1.toNatClampNeg 0) := th_upE hu9 ho9
    have hM := hM.i t6 (th_mem (a := 4500) rfl) ho9
    refine lv_aload_n hx hb dX12_renew_29 rfl (lv_at hl 1 rfl) ?_
    obtain ⟨q11, r11, t11⟩ : ∃ q, gr h0 5 = some q ∧ τ q = 44 := (thI_12 hH t_h0).2.2.2.2.2.1
    refine th_get (ci := 11) (v := .ref q11) (T := TX12) (C := RX12) (N := 38) hx hb hts (fun w h => List.mem_cons_of_mem _ (List.mem_append_right _ h)) hown hK hH t_h0 (th_nz rfl) (thE_12 _ _ _) rfl 5 (th_ltN rfl) (hts (.fieldLink RX12 22 "BayMooringsModel" "low" "[I") (List.mem_cons_of_mem _ (List.mem_append_left _ (List.mem_of_getElem? (i := 2) rfl)))) (fun _ h9 => h9) (th_fR r11 rfl) dX12_renew_30 ?_
    refine lv_iload_n hx hb dX12_renew_33 rfl (lv_at hl 2 rfl) ?_
    refine lv_iconst (v := 0) hx hb dX12_renew_34 ic_0 ?_
    refine th_iast hx hb hK hH hS t11 (th_nz rfl) (Or.inl (th_nzE t11 rfl)) 0 (fun _ => thE_44 _ _ _) rfl (rg_in (n := 12) f5 (th_leI rfl) (th_ltI rfl)) (trivial) dX12_renew_35 (fun gi12 H locs hu12 ho12 hH hS => ?_)
    have eg12 : gi12 = va_up gi9 q11 (upd (gi9 q11) p1.toNatClampNeg 0) := th_upE hu12 ho12
    have e13 : 0 = gi12 q6 (p1.toNatClampNeg) := Eq.trans hu9.symm (Eq.symm (ho12 _ _ (Or.inl (th_ne t6 t11 (th_nz rfl)))))
    have hM := hM.i t11 (th_mem (a := 4400) rfl) ho12
    refine lv_iload_n hx hb dX12_renew_36 rfl (lv_at hl 0 rfl) ?_
    exact W.iret (v := x7) hx hb hr (fun t ht hW => ⟨⟨x7, (gi12, gr), rfl, ⟨hM, rfl, (hF.trans (by simp only [↓reduceIte, F_X12_renew, hw2.2.2, eq_false c3, r6, Option.getD_some, ← e7, ← eg9, r11, ← eg12]))⟩, th_Ht ht hH⟩, hS.F ht⟩) hS.2.2 dX12_renew_37
  · skip
    have f14 : rg 0 0 x2 := rg_w (rg_eq hw2.1 rgc_0 c3).1 (th_leI rfl) (th_leI rfl)
    refine lv_aload_n hx hb dX12_renew_8 rfl (lv_at hl 0 rfl) ?_
    refine lv_ldc (v := (-1000001)) hx hb hown (hts (.constant RX12 119 (-1000001)) (List.mem_cons_of_mem _ (List.mem_append_left _ (List.mem_of_getElem? (i := 0) rfl)))) dX12_renew_9 ?_
    have hA15 := th_Asub (τ := τ) hS
    refine va_calli (va_runV (As := [.int (-1000001)]) (rest := []) ⟨hx, hb, hml, hown, hts⟩ (k_X12_finding l D cA Z τ gi gr _ h0 t_h0 (-1000001) (rg_w rgc_m1000001 (th_leI rfl) (th_leI rfl))) (cwV 1 hts gX12_renew_X12_finding rfl rfl rfl hd_X12_finding__1 ⟨Nat.le_of_ble_eq_true rfl, Nat.le_of_ble_eq_true rfl⟩) ⟨th_blind, tr_12 hK hH t_h0, (th_pre hH hK hN hZ hS hA15)⟩ rfl rfl hl.1 rfl (lv_room (Nat.le_of_ble_eq_true rfl)) dX12_renew_11 ⟨Nat.le_of_ble_eq_true rfl, Nat.le_of_ble_eq_true rfl⟩) hS (fun q _ h => hA15 q h) hA15 (fun x16 u t H locs ht hvm hw16 hB hz1 hk1 hS => ?_)
    try dsimp only at hw16 hB
    rw [ht] at hB
    have hH := hB
    obtain ⟨gi16, gr16⟩ := u
    try dsimp only at hw16 hH
    obtain rfl : gr = gr16 := (hw16.2.1).symm
    have hM := hM.tr hw16.1 (fun _ h => h) (th_sub rfl)
    exact W.iret (v := x16) hx hb hr (fun t ht hW => ⟨⟨x16, (gi16, gr), rfl, ⟨hM, rfl, (hF.trans (by simp only [↓reduceIte, F_X12_renew, hw2.2.2, eq_true c3, hw16.2.2.1]))⟩, th_Ht ht hH⟩, hS.F ht⟩) hS.2.2 dX12_renew_14

noncomputable def F_X12_holds (τ : th_t) (Z : th_Zt) (gi : th_i) (gr : th_r) (h0 : Nat) (p1 : Int32) (p2 : Int32) (p3 : Int32) : Int32 :=
  let q1 : Nat := (gr h0 6).getD 0
  let x2 : Int32 := gi q1 p2.toNatClampNeg
  let x3 : Int32 := x2 + p3
  let q4 : Nat := (gr h0 10).getD 0
  let x5 : Int32 := gi q4 p1.toNatClampNeg
  let x6 : Int32 := x5 / 10
  let x7 : Int32 := x3 + x6
  if (100 : Int32) < x7 then (
    0) else (
    1)
set_option maxHeartbeats 8000000 in
set_option maxRecDepth 100000 in
theorem k_X12_holds (l : Launch) (D : va_G) (cA : Nat → ClassId) (Z : th_Zt) (τ : th_t) (gi : th_i) (gr : th_r) (sz : Nat) (h0 : Nat) (t_h0 : τ h0 = 12) (p1 : Int32) (f_p1 : rg 0 15 p1) (p2 : Int32) (f_p2 : rg 0 11 p2) (p3 : Int32) : Met l yX12_holds wsX12_holds ({ frames := 0, cells := 0, slots := 0, locals := 0 }) (va_Pc [.ref h0, .int p1, .int p2, .int p3] (th_Pre D cA Z τ gi gr sz)) (va_Qi (fun (r : Int32) (_ : Unit) => rg 0 1 r ∧ (F_X12_holds τ Z gi gr h0 p1 p2 p3 = r)) (fun (_ : Unit) t => th_H D cA τ gi gr t.heap) (th_A τ sz)) 0 0 (th_A τ sz) := by
  refine Met.ofW (cc := cX12_holds) (maxL := 4) (ret := (some .boolean)) (by decide) rfl ?_
  intro p e s m args below meth c s₁ B hml hv
  obtain ⟨rfl, hsz, hH, hK, hN, hZ⟩ := hv
  have hx := B.exec
  have hb := B.bytes
  have hr := B.returns
  have hts := atoms_spec (ws := wsX12_holds) B.pre
  have hown : s.vm.findClass RX12 = some m.cls := findClass_of_methodNamed B.named
  have hlocks := B.notSynchronized
  subst hsz
  have hS : va_S (th_A τ s.heap.size) s.heap s.heap [] := va_S.rf
  have hl := lv_entry ([.ref h0, .int p1, .int p2, .int p3]) (n := 4) (Nat.le_of_ble_eq_true rfl)
  rw [lg_entry_eq]
  generalize (lg_sl ([.ref h0, .int p1, .int p2, .int p3]) ++ List.replicate (4 - (lg_sl ([.ref h0, .int p1, .int p2, .int p3])).length) Slot.unset).toArray = ls at hl ⊢
  have hl : lv_has ls 4 [(0, .ref h0), (1, .int p1), (2, .int p2), (3, .int p3)] := hl
  have hF : F_X12_holds τ Z gi gr h0 p1 p2 p3 = F_X12_holds τ Z gi gr h0 p1 p2 p3 := rfl
  refine lv_aload_n hx hb dX12_holds_0 rfl (lv_at hl 0 rfl) ?_
  obtain ⟨q1, r1, t1⟩ : ∃ q, gr h0 6 = some q ∧ τ q = 45 := (thI_12 hH t_h0).2.2.2.2.2.2.1
  refine th_get (ci := 11) (v := .ref q1) (T := TX12) (C := RX12) (N := 38) hx hb hts (fun w h => List.mem_cons_of_mem _ (List.mem_append_right _ h)) hown hK hH t_h0 (th_nz rfl) (thE_12 _ _ _) rfl 6 (th_ltN rfl) (hts (.fieldLink RX12 25 "BayMooringsModel" "high" "[I") (List.mem_cons_of_mem _ (List.mem_append_left _ (List.mem_of_getElem? (i := 0) rfl)))) (fun _ h9 => h9) (th_fR r1 rfl) dX12_holds_1 ?_
  refine lv_iload_n hx hb dX12_holds_4 rfl (lv_at hl 2 rfl) ?_
  refine th_iald hx hb hK hH t1 (th_nz rfl) 0 (thE_45 _ _ _) rfl (rg_in (n := 12) f_p2 (th_leI rfl) (th_ltI rfl)) dX12_holds_5 ?_
  refine lv_topi (fun x2 e2 => ?_)
  refine lv_iload_n hx hb dX12_holds_6 rfl (lv_at hl 3 rfl) ?_
  refine lv_iadd hx hb dX12_holds_7 ?_
  refine lv_topi (fun x3 e3 => ?_)
  refine lv_aload_n hx hb dX12_holds_8 rfl (lv_at hl 0 rfl) ?_
  obtain ⟨q4, r4, t4⟩ : ∃ q, gr h0 10 = some q ∧ τ q = 48 := (thI_12 hH t_h0).2.2.2.2.2.2.2.2.2.2.1
  refine th_get (ci := 11) (v := .ref q4) (T := TX12) (C := RX12) (N := 38) hx hb hts (fun w h => List.mem_cons_of_mem _ (List.mem_append_right _ h)) hown hK hH t_h0 (th_nz rfl) (thE_12 _ _ _) rfl 10 (th_ltN rfl) (hts (.fieldLink RX12 34 "BayMooringsModel" "lengthOf" "[I") (List.mem_cons_of_mem _ (List.mem_append_left _ (List.mem_of_getElem? (i := 1) rfl)))) (fun _ h9 => h9) (th_fR r4 rfl) dX12_holds_9 ?_
  refine lv_iload_n hx hb dX12_holds_12 rfl (lv_at hl 1 rfl) ?_
  refine th_iald hx hb hK hH t4 (th_nz rfl) 0 (thE_48 _ _ _) rfl (rg_in (n := 16) f_p1 (th_leI rfl) (th_ltI rfl)) dX12_holds_13 ?_
  refine lv_topi (fun x5 e5 => ?_)
  refine lv_bipush (v := 10) hx hb dX12_holds_14 bp_10 ?_
  refine lv_idiv hx hb dX12_holds_16 (rg_ne0 rgc_10 (Or.inl (th_ltI rfl))) ?_
  refine lv_topi (fun x6 e6 => ?_)
  refine lv_iadd hx hb dX12_holds_17 ?_
  refine lv_topi (fun x7 e7 => ?_)
  refine lv_bipush (v := 100) hx hb dX12_holds_18 bp_100 ?_
  refine lv_icmp_gt (tgt := 27) hx hb dX12_holds_20 (th_eqI rfl) (fun c8 => ?_) (fun c8 => ?_)
  · skip
    have f9 : rg 101 2147483647 x7 := rg_w (rg_lt rgc_100 (rg_any x7) c8).2 (th_leI rfl) (th_leI rfl)
    refine lv_iconst (v := 0) hx hb dX12_holds_27 ic_0 ?_
    exact W.zret (v := 0) hx hb hr (rg_nb (rg_w rgc_0 (th_leI rfl) (th_leI rfl))) (fun t ht hW => ⟨⟨0, (), rfl, ⟨(rg_w rgc_0 (th_leI rfl) (th_leI rfl)), (hF.trans (by simp only [↓reduceIte, F_X12_holds, r1, Option.getD_some, ← e2, ← e3, r4, ← e5, ← e6, ← e7, eq_true c8]))⟩, th_Ht ht hH⟩, hS.F ht⟩) hS.2.2 dX12_holds_28
  · skip
    have f10 : rg (-2147483648) 100 x7 := rg_w (rg_nlt rgc_100 (rg_any x7) c8).2 (th_leI rfl) (th_leI rfl)
    refine lv_iconst (v := 1) hx hb dX12_holds_23 ic_1 ?_
    refine lv_goto (tgt := 28) hx hb dX12_holds_24 (th_eqI rfl) ?_
    exact W.zret (v := 1) hx hb hr (rg_nb (rg_w rgc_1 (th_leI rfl) (th_leI rfl))) (fun t ht hW => ⟨⟨1, (), rfl, ⟨(rg_w rgc_1 (th_leI rfl) (th_leI rfl)), (hF.trans (by simp only [↓reduceIte, F_X12_holds, r1, Option.getD_some, ← e2, ← e3, r4, ← e5, ← e6, ← e7, eq_false c8]))⟩, th_Ht ht hH⟩, hS.F ht⟩) hS.2.2 dX12_holds_28

noncomputable def f_X12_flee_141 (τ : th_t) (Z : th_Zt) (gi : th_i) (gr : th_r) (h0 : Nat) (p1 : Int32) (gi_32 : th_i) (y32_2 : Int32) (y32_3 : Int32) (k_32 : th_i → Int32 → Int32 → Int32 × th_i) (gi_141 : th_i) (y141_2 : Int32) : Int32 × th_i :=
  let w141_0 : Int32 := gi_141 h0 8
  let x1 : Int32 := y32_3 + 1
  k_32 gi_141 y141_2 x1
noncomputable def f_X12_flee_125 (τ : th_t) (Z : th_Zt) (gi : th_i) (gr : th_r) (h0 : Nat) (p1 : Int32) (gi_32 : th_i) (y32_2 : Int32) (y32_3 : Int32) (gi_88 : th_i) (y88_2 : Int32) (y88_4 : Int32) (y88_5 : Int32) (k_32 : th_i → Int32 → Int32 → Int32 × th_i) (k_88 : th_i → Int32 → Int32 → Int32 → Int32 × th_i) (gi_125 : th_i) (z125_0 : Int32) : Int32 × th_i :=
  let w125_0 : Int32 := gi_125 h0 0
  let w125_1 : Int32 := gi_125 h0 8
  let x2 : Int32 := y88_5 + (-1)
  k_88 gi_125 y88_2 z125_0 x2
noncomputable def f_X12_flee_123 (τ : th_t) (Z : th_Zt) (gi : th_i) (gr : th_r) (h0 : Nat) (p1 : Int32) (gi_32 : th_i) (y32_2 : Int32) (y32_3 : Int32) (gi_88 : th_i) (y88_2 : Int32) (y88_4 : Int32) (y88_5 : Int32) (k_32 : th_i → Int32 → Int32 → Int32 × th_i) (k_88 : th_i → Int32 → Int32 → Int32 → Int32 × th_i) (gi_123 : th_i) : Int32 × th_i :=
  let w123_0 : Int32 := gi_123 h0 0
  let w123_1 : Int32 := gi_123 h0 8
  f_X12_flee_125 τ Z gi gr h0 p1 gi_32 y32_2 y32_3 gi_88 y88_2 y88_4 y88_5 k_32 k_88 gi_123 y88_4
noncomputable def f_X12_flee_88 (τ : th_t) (Z : th_Zt) (gi : th_i) (gr : th_r) (h0 : Nat) (p1 : Int32) (gi_32 : th_i) (y32_2 : Int32) (y32_3 : Int32) (k_32 : th_i → Int32 → Int32 → Int32 × th_i) : Nat → th_i → Int32 → Int32 → Int32 → Int32 × th_i
  | 0, gi_88, y88_2, y88_4, y88_5 => (0, gi_88)
  | n88 + 1, gi_88, y88_2, y88_4, y88_5 =>
    let w88_0 : Int32 := gi_88 h0 0
    let w88_1 : Int32 := gi_88 h0 8
    if y88_5 < (0 : Int32) then (
      let q5 : Nat := (gr h0 37).getD 0
      let gi6 : th_i := va_up gi_88 q5 (upd (gi_88 q5) y32_3.toNatClampNeg y88_4)
      f_X12_flee_141 τ Z gi gr h0 p1 gi_32 y32_2 y32_3 k_32 gi6 y88_2) else (
      let x11 : Int32 := F_X12_holds τ Z gi_88 gr h0 y32_3 y88_5 p1
      if x11 = (0 : Int32) then (
        f_X12_flee_123 τ Z gi gr h0 p1 gi_32 y32_2 y32_3 gi_88 y88_2 y88_4 y88_5 k_32 (f_X12_flee_88 τ Z gi gr h0 p1 gi_32 y32_2 y32_3 k_32 n88) gi_88) else (
        let q15 : Nat := (gr h0 37).getD 0
        let x17 : Int32 := F_X12_mayLie τ Z gi_88 gr h0 y32_3 y88_5 q15
        if x17 = (0 : Int32) then (
          f_X12_flee_123 τ Z gi gr h0 p1 gi_32 y32_2 y32_3 gi_88 y88_2 y88_4 y88_5 k_32 (f_X12_flee_88 τ Z gi gr h0 p1 gi_32 y32_2 y32_3 k_32 n88) gi_88) else (
          f_X12_flee_125 τ Z gi gr h0 p1 gi_32 y32_2 y32_3 gi_88 y88_2 y88_4 y88_5 k_32 (f_X12_flee_88 τ Z gi gr h0 p1 gi_32 y32_2 y32_3 k_32 n88) gi_88 y88_5)))
noncomputable def f_X12_flee_32 (τ : th_t) (Z : th_Zt) (gi : th_i) (gr : th_r) (h0 : Nat) (p1 : Int32) : Nat → th_i → Int32 → Int32 → Int32 × th_i
  | 0, gi_32, y32_2, y32_3 => (0, gi_32)
  | n32 + 1, gi_32, y32_2, y32_3 =>
    let w32_0 : Int32 := gi_32 h0 8
    if w32_0 ≤ y32_3 then (
      (y32_2, gi_32)) else (
      let q25 : Nat := (gr h0 12).getD 0
      let x26 : Int32 := gi_32 q25 y32_3.toNatClampNeg
      if x26 < (0 : Int32) then (
        f_X12_flee_141 τ Z gi gr h0 p1 gi_32 y32_2 y32_3 (f_X12_flee_32 τ Z gi gr h0 p1 n32) gi_32 y32_2) else (
        let x33 : Int32 := F_X12_holds τ Z gi_32 gr h0 y32_3 x26 p1
        if x33 = (0 : Int32) then (
          let x36 : Int32 := y32_2 + 1
          let q37 : Nat := (gr h0 37).getD 0
          let gi38 : th_i := va_up gi_32 q37 (upd (gi_32 q37) y32_3.toNatClampNeg (-1))
          let x41 : Int32 := gi38 h0 0
          let x42 : Int32 := x41 - 1
          f_X12_flee_88 τ Z gi gr h0 p1 gi_32 y32_2 y32_3 (f_X12_flee_32 τ Z gi gr h0 p1 n32) ((x42.toInt - (-1)).toNat + 1) gi38 x36 (-1) x42) else (
          f_X12_flee_141 τ Z gi gr h0 p1 gi_32 y32_2 y32_3 (f_X12_flee_32 τ Z gi gr h0 p1 n32) gi_32 y32_2)))
noncomputable def f_X12_flee_4 (τ : th_t) (Z : th_Zt) (gi : th_i) (gr : th_r) (h0 : Nat) (p1 : Int32) : Nat → th_i → Int32 → Int32 → Int32 × th_i
  | 0, gi_4, y4_2, y4_3 => (0, gi_4)
  | n4 + 1, gi_4, y4_2, y4_3 =>
    let x44 : Int32 := gi_4 h0 8
    if x44 ≤ y4_3 then (
      f_X12_flee_32 τ Z gi gr h0 p1 ((16 - (0 : Int32).toInt).toNat + 1) gi_4 y4_2 0) else (
      let q48 : Nat := (gr h0 37).getD 0
      let q49 : Nat := (gr h0 12).getD 0
      let x50 : Int32 := gi_4 q49 y4_3.toNatClampNeg
      let gi51 : th_i := va_up gi_4 q48 (upd (gi_4 q48) y4_3.toNatClampNeg x50)
      let x54 : Int32 := y4_3 + 1
      (f_X12_flee_4 τ Z gi gr h0 p1 n4) gi51 y4_2 x54)
noncomputable def F_X12_flee (τ : th_t) (Z : th_Zt) (gi : th_i) (gr : th_r) (h0 : Nat) (p1 : Int32) : Int32 × th_i :=
  f_X12_flee_4 τ Z gi gr h0 p1 ((16 - (0 : Int32).toInt).toNat + 1) gi 0 0
set_option maxHeartbeats 8000000 in
set_option maxRecDepth 100000 in
theorem k_X12_flee (l : Launch) (D : va_G) (cA : Nat → ClassId) (Z : th_Zt) (τ : th_t) (gi : th_i) (gr : th_r) (sz : Nat) (h0 : Nat) (t_h0 : τ h0 = 12) (p1 : Int32) : Met l yX12_flee wsX12_flee ({ frames := 5, cells := 0, slots := 0, locals := 150 }) (va_Pc [.ref h0, .int p1] (th_Pre D cA Z τ gi gr sz)) (va_Qi (fun (r : Int32) (u : th_i × th_r) => th_Mod [6800] τ gi gr u.1 u.2 ∧ u.2 = gr ∧ (F_X12_flee τ Z gi gr h0 p1 = (r, u.1))) (fun (u : th_i × th_r) t => th_H D cA τ u.1 u.2 t.heap) (th_A τ sz)) 0 0 (th_A τ sz) := by
  refine Met.ofW (cc := cX12_flee) (maxL := 6) (ret := (some .int)) (by decide) rfl ?_
  intro p e s m args below meth c s₁ B hml hv
  obtain ⟨rfl, hsz, hH, hK, hN, hZ⟩ := hv
  have hx := B.exec
  have hb := B.bytes
  have hr := B.returns
  have hts := atoms_spec (ws := wsX12_flee) B.pre
  have hown : s.vm.findClass RX12 = some m.cls := findClass_of_methodNamed B.named
  have hlocks := B.notSynchronized
  subst hsz
  have hM : th_Mod [6800] τ gi gr gi gr := th_Mod.rf
  have J32 : ∀ (n32 : Nat) (gi_32 : th_i) (H : Heap) (locs : List Loc) (ls : Array Slot) (y32_2 : Int32) (y32_3 : Int32) (w32_0 : Int32), (16 - y32_3.toInt).toNat < n32 → th_H D cA τ gi_32 gr H → va_S (th_A τ s.heap.size) s.heap H locs → th_Mod [6800] τ gi gr gi_32 gr → lv_has ls 6 [(0, .ref h0), (1, .int p1), (2, .int y32_2), (3, .int y32_3)] → rg 0 16 y32_3 → w32_0 = gi_32 h0 8 → rg 0 16 w32_0 → F_X12_flee τ Z gi gr h0 p1 = f_X12_flee_32 τ Z gi gr h0 p1 n32 gi_32 y32_2 y32_3 → W p l e (headSpec wsX12_flee ({ frames := 5, cells := 0, slots := 0, locals := 150 })).room s m [.ref h0, .int p1].toArray below meth c H locs 0 0 (MQ below (va_Qi (fun (r : Int32) (u : th_i × th_r) => th_Mod [6800] τ gi gr u.1 u.2 ∧ u.2 = gr ∧ (F_X12_flee τ Z gi gr h0 p1 = (r, u.1))) (fun (u : th_i × th_r) t => th_H D cA τ u.1 u.2 t.heap) (th_A τ s.heap.size)) [.ref h0, .int p1].toArray s 0 0 (th_A τ s.heap.size)) (F0 m 32 ls []) := by
    intro n32
    induction n32 with
    | zero =>
      intro gi_32 H locs ls y32_2 y32_3 w32_0 hn
      exact absurd hn (Nat.not_lt_zero _)
    | succ n32 ih32 =>
      intro gi_32 H locs ls y32_2 y32_3 w32_0 hn32 hH hS hM hl fy32_3 ew32_0 fw32_0 hF
      have J141 : ∀ (gi_141 : th_i) (H : Heap) (locs : List Loc) (ls : Array Slot) (y141_2 : Int32) (w141_0 : Int32), th_H D cA τ gi_141 gr H → va_S (th_A τ s.heap.size) s.heap H locs → th_Mod [6800] τ gi gr gi_141 gr → lv_has ls 6 [(0, .ref h0), (1, .int p1), (2, .int y141_2), (3, .int y32_3)] → rg 0 15 y32_3 → w141_0 = gi_141 h0 8 → rg 1 16 w141_0 → F_X12_flee τ Z gi gr h0 p1 = f_X12_flee_141 τ Z gi gr h0 p1 gi_32 y32_2 y32_3 (f_X12_flee_32 τ Z gi gr h0 p1 n32) gi_141 y141_2 → W p l e (headSpec wsX12_flee ({ frames := 5, cells := 0, slots := 0, locals := 150 })).room s m [.ref h0, .int p1].toArray below meth c H locs 0 0 (MQ below (va_Qi (fun (r : Int32) (u : th_i × th_r) => th_Mod [6800] τ gi gr u.1 u.2 ∧ u.2 = gr ∧ (F_X12_flee τ Z gi gr h0 p1 = (r, u.1))) (fun (u : th_i × th_r) t => th_H D cA τ u.1 u.2 t.heap) (th_A τ s.heap.size)) [.ref h0, .int p1].toArray s 0 0 (th_A τ s.heap.size)) (F0 m 141 ls []) := by
        intro gi_141 H locs ls y141_2 w141_0 hH hS hM hl fy141_3 ew141_0 fw141_0 hF
        obtain ⟨x1, e1⟩ : ∃ y : Int32, y = y32_3 + 1 := ⟨_, rfl⟩
        have f1 : rg 1 16 x1 := rg_e e1 (rg_w (rg_add fy141_3 rgc_1 (th_leI rfl) (th_leI rfl)) (th_leI rfl) (th_leI rfl))
        refine lv_iinc (v := x1) (lv' := [(3, .int x1), (0, .ref h0), (1, .int p1), (2, .int y141_2)]) hx hb dX12_flee_141 hl (k := 3) rfl (by rw [e1]; rfl) (th_ltN rfl) rfl (fun ls hl => ?_)
        refine lv_goto (tgt := 32) hx hb dX12_flee_144 (th_eqI rfl) ?_
        exact ih32 gi_141 _ _ _ y141_2 x1 w141_0 (th_up (rg_dA e1 fy141_3 rgc_1 (th_leI rfl) (th_leI rfl)) fy141_3 hn32 (th_ltI rfl)) hH hS hM (lv_sub hl [1, 2, 3, 0] rfl) (rg_w f1 (th_leI rfl) (th_leI rfl)) ew141_0 (rg_w fw141_0 (th_leI rfl) (th_leI rfl)) (hF.trans (by simp only [f_X12_flee_141, ← ew141_0, ← e1]))
      have J88 : ∀ (n88 : Nat) (gi_88 : th_i) (H : Heap) (locs : List Loc) (ls : Array Slot) (y88_2 : Int32) (y88_4 : Int32) (y88_5 : Int32) (w88_0 : Int32) (w88_1 : Int32), (y88_5.toInt - (-1)).toNat < n88 → th_H D cA τ gi_88 gr H → va_S (th_A τ s.heap.size) s.heap H locs → th_Mod [6800] τ gi gr gi_88 gr → lv_has ls 6 [(0, .ref h0), (1, .int p1), (2, .int y88_2), (3, .int y32_3), (4, .int y88_4), (5, .int y88_5)] → rg 0 15 y32_3 → rg (-1) 11 y88_4 → rg (-1) 11 y88_5 → w88_0 = gi_88 h0 0 → rg 0 12 w88_0 → w88_1 = gi_88 h0 8 → rg 1 16 w88_1 → F_X12_flee τ Z gi gr h0 p1 = f_X12_flee_88 τ Z gi gr h0 p1 gi_32 y32_2 y32_3 (f_X12_flee_32 τ Z gi gr h0 p1 n32) n88 gi_88 y88_2 y88_4 y88_5 → W p l e (headSpec wsX12_flee ({ frames := 5, cells := 0, slots := 0, locals := 150 })).room s m [.ref h0, .int p1].toArray below meth c H locs 0 0 (MQ below (va_Qi (fun (r : Int32) (u : th_i × th_r) => th_Mod [6800] τ gi gr u.1 u.2 ∧ u.2 = gr ∧ (F_X12_flee τ Z gi gr h0 p1 = (r, u.1))) (fun (u : th_i × th_r) t => th_H D cA τ u.1 u.2 t.heap) (th_A τ s.heap.size)) [.ref h0, .int p1].toArray s 0 0 (th_A τ s.heap.size)) (F0 m 88 ls []) := by
        intro n88
        induction n88 with
        | zero =>
          intro gi_88 H locs ls y88_2 y88_4 y88_5 w88_0 w88_1 hn
          exact absurd hn (Nat.not_lt_zero _)
        | succ n88 ih88 =>
          intro gi_88 H locs ls y88_2 y88_4 y88_5 w88_0 w88_1 hn88 hH hS hM hl fy88_3 fy88_4 fy88_5 ew88_0 fw88_0 ew88_1 fw88_1 hF
          have J125 : ∀ (gi_125 : th_i) (H : Heap) (locs : List Loc) (ls : Array Slot) (z125_0 : Int32) (w125_0 : Int32) (w125_1 : Int32), th_H D cA τ gi_125 gr H → va_S (th_A τ s.heap.size) s.heap H locs → th_Mod [6800] τ gi gr gi_125 gr → lv_has ls 6 [(0, .ref h0), (1, .int p1), (2, .int y88_2), (3, .int y32_3), (5, .int y88_5)] → rg 0 15 y32_3 → rg 0 11 y88_5 → rg (-1) 11 z125_0 → w125_0 = gi_125 h0 0 → rg 0 12 w125_0 → w125_1 = gi_125 h0 8 → rg 1 16 w125_1 → F_X12_flee τ Z gi gr h0 p1 = f_X12_flee_125 τ Z gi gr h0 p1 gi_32 y32_2 y32_3 gi_88 y88_2 y88_4 y88_5 (f_X12_flee_32 τ Z gi gr h0 p1 n32) (f_X12_flee_88 τ Z gi gr h0 p1 gi_32 y32_2 y32_3 (f_X12_flee_32 τ Z gi gr h0 p1 n32) n88) gi_125 z125_0 → W p l e (headSpec wsX12_flee ({ frames := 5, cells := 0, slots := 0, locals := 150 })).room s m [.ref h0, .int p1].toArray below meth c H locs 0 0 (MQ below (va_Qi (fun (r : Int32) (u : th_i × th_r) => th_Mod [6800] τ gi gr u.1 u.2 ∧ u.2 = gr ∧ (F_X12_flee τ Z gi gr h0 p1 = (r, u.1))) (fun (u : th_i × th_r) t => th_H D cA τ u.1 u.2 t.heap) (th_A τ s.heap.size)) [.ref h0, .int p1].toArray s 0 0 (th_A τ s.heap.size)) (F0 m 125 ls [.int z125_0]) := by
            intro gi_125 H locs ls z125_0 w125_0 w125_1 hH hS hM hl fy125_3 fy125_5 fz125_0 ew125_0 fw125_0 ew125_1 fw125_1 hF
            refine lv_istore (i := 4) (lv' := [(4, .int z125_0), (0, .ref h0), (1, .int p1), (2, .int y88_2), (3, .int y32_3), (5, .int y88_5)]) hx hb dX12_flee_125 hl (th_ltN rfl) rfl (fun ls hl => ?_)
            obtain ⟨x2, e2⟩ : ∃ y : Int32, y = y88_5 + (-1) := ⟨_, rfl⟩
            have f2 : rg (-1) 10 x2 := rg_e e2 (rg_w (rg_add fy125_5 rgc_m1 (th_leI rfl) (th_leI rfl)) (th_leI rfl) (th_leI rfl))
            refine lv_iinc (v := x2) (lv' := [(5, .int x2), (4, .int z125_0), (0, .ref h0), (1, .int p1), (2, .int y88_2), (3, .int y32_3)]) hx hb dX12_flee_127 hl (k := 5) rfl (by rw [e2]; rfl) (th_ltN rfl) rfl (fun ls hl => ?_)
            refine lv_goto (tgt := 88) hx hb dX12_flee_130 (th_eqI rfl) ?_
            exact ih88 gi_125 _ _ _ y88_2 z125_0 x2 w125_0 w125_1 (th_dn (rg_dA e2 fy125_5 rgc_m1 (th_leI rfl) (th_leI rfl)) fy125_5 hn88 (th_ltI rfl)) hH hS hM (lv_sub hl [2, 3, 4, 5, 1, 0] rfl) fy125_3 fz125_0 (rg_w f2 (th_leI rfl) (th_leI rfl)) ew125_0 fw125_0 ew125_1 fw125_1 (hF.trans (by simp only [f_X12_flee_125, ← ew125_0, ← ew125_1, ← e2]))
          have J123 : ∀ (gi_123 : th_i) (H : Heap) (locs : List Loc) (ls : Array Slot) (w123_0 : Int32) (w123_1 : Int32), th_H D cA τ gi_123 gr H → va_S (th_A τ s.heap.size) s.heap H locs → th_Mod [6800] τ gi gr gi_123 gr → lv_has ls 6 [(0, .ref h0), (1, .int p1), (2, .int y88_2), (3, .int y32_3), (4, .int y88_4), (5, .int y88_5)] → rg 0 15 y32_3 → rg (-1) 11 y88_4 → rg 0 11 y88_5 → w123_0 = gi_123 h0 0 → rg 0 12 w123_0 → w123_1 = gi_123 h0 8 → rg 1 16 w123_1 → F_X12_flee τ Z gi gr h0 p1 = f_X12_flee_123 τ Z gi gr h0 p1 gi_32 y32_2 y32_3 gi_88 y88_2 y88_4 y88_5 (f_X12_flee_32 τ Z gi gr h0 p1 n32) (f_X12_flee_88 τ Z gi gr h0 p1 gi_32 y32_2 y32_3 (f_X12_flee_32 τ Z gi gr h0 p1 n32) n88) gi_123 → W p l e (headSpec wsX12_flee ({ frames := 5, cells := 0, slots := 0, locals := 150 })).room s m [.ref h0, .int p1].toArray below meth c H locs 0 0 (MQ below (va_Qi (fun (r : Int32) (u : th_i × th_r) => th_Mod [6800] τ gi gr u.1 u.2 ∧ u.2 = gr ∧ (F_X12_flee τ Z gi gr h0 p1 = (r, u.1))) (fun (u : th_i × th_r) t => th_H D cA τ u.1 u.2 t.heap) (th_A τ s.heap.size)) [.ref h0, .int p1].toArray s 0 0 (th_A τ s.heap.size)) (F0 m 123 ls []) := by
            intro gi_123 H locs ls w123_0 w123_1 hH hS hM hl fy123_3 fy123_4 fy123_5 ew123_0 fw123_0 ew123_1 fw123_1 hF
            refine lv_iload hx hb dX12_flee_123 (lv_at hl 4 rfl) ?_
            exact J125 gi_123 _ _ _ y88_4 w123_0 w123_1 hH hS hM (lv_sub hl [0, 1, 2, 3, 5] rfl) fy123_3 fy123_5 fy123_4 ew123_0 fw123_0 ew123_1 fw123_1 (hF.trans (by simp only [f_X12_flee_123, ← ew123_0, ← ew123_1]))
          refine lv_iload hx hb dX12_flee_88 (lv_at hl 5 rfl) ?_
          refine lv_if_lt (tgt := 133) hx hb dX12_flee_90 (th_eqI rfl) (fun c3 => ?_) (fun c3 => ?_)
          · skip
            have f4 : rg (-1) (-1) y88_5 := rg_w (rg_lt fy88_5 rgc_0 c3).1 (th_leI rfl) (th_leI rfl)
            refine lv_aload_n hx hb dX12_flee_133 rfl (lv_at hl 0 rfl) ?_
            obtain ⟨q5, r5, t5⟩ : ∃ q, gr h0 37 = some q ∧ τ q = 68 := (thI_12 hH t_h0).2.2.2.2.2.2.2.2.2.2.2.2.2.2.2.2.2.2.2.2.2.2.2.2.2.2.2.2.2.2.2.2.2
            refine th_get (ci := 11) (v := .ref q5) (T := TX12) (C := RX12) (N := 38) hx hb hts (fun w h => List.mem_cons_of_mem _ (List.mem_append_right _ h)) hown hK hH t_h0 (th_nz rfl) (thE_12 _ _ _) rfl 37 (th_ltN rfl) (hts (.fieldLink RX12 105 "BayMooringsModel" "then" "[I") (List.mem_cons_of_mem _ (List.mem_append_left _ (List.mem_append_left _ (List.mem_of_getElem? (i := 1) rfl))))) (fun _ h9 => h9) (th_fR r5 rfl) dX12_flee_134 ?_
            refine lv_iload_n hx hb dX12_flee_137 rfl (lv_at hl 3 rfl) ?_
            refine lv_iload hx hb dX12_flee_138 (lv_at hl 4 rfl) ?_
            refine th_iast hx hb hK hH hS t5 (th_nz rfl) (Or.inl (th_nzE t5 rfl)) 0 (fun _ => thE_68 _ _ _) rfl (rg_in (n := 16) fy88_3 (th_leI rfl) (th_ltI rfl)) (th_ai (P := rg (-1) 11) (thI_68 hH t5) fy88_4) dX12_flee_140 (fun gi6 H locs hu6 ho6 hH hS => ?_)
            have eg6 : gi6 = va_up gi_88 q5 (upd (gi_88 q5) y32_3.toNatClampNeg y88_4) := th_upE hu6 ho6
            have e7 : w88_0 = gi6 h0 0 := Eq.trans ew88_0 (Eq.symm (ho6 _ _ (Or.inl (th_ne t_h0 t5 (th_nz rfl)))))
            have e8 : w88_1 = gi6 h0 8 := Eq.trans ew88_1 (Eq.symm (ho6 _ _ (Or.inl (th_ne t_h0 t5 (th_nz rfl)))))
            have hM := hM.i t5 (th_mem (a := 6800) rfl) ho6
            exact J141 gi6 _ _ _ y88_2 w88_1 hH hS hM (lv_sub hl [0, 1, 2, 3] rfl) fy88_3 e8 fw88_1 (hF.trans (by simp only [↓reduceIte, f_X12_flee_88, ← ew88_0, ← ew88_1, eq_true c3, r5, Option.getD_some, ← eg6]))
          · skip
            have f9 : rg 0 11 y88_5 := rg_w (rg_nlt fy88_5 rgc_0 c3).1 (th_leI rfl) (th_leI rfl)
            refine lv_aload_n hx hb dX12_flee_93 rfl (lv_at hl 0 rfl) ?_
            refine lv_iload_n hx hb dX12_flee_94 rfl (lv_at hl 3 rfl) ?_
            refine lv_iload hx hb dX12_flee_95 (lv_at hl 5 rfl) ?_
            refine lv_iload_n hx hb dX12_flee_97 rfl (lv_at hl 1 rfl) ?_
            have hA10 := th_Asub (τ := τ) hS
            refine va_calli (va_runV (As := [.int y32_3, .int y88_5, .int p1]) (rest := []) ⟨hx, hb, hml, hown, hts⟩ (k_X12_holds l D cA Z τ gi_88 gr _ h0 t_h0 y32_3 fy88_3 y88_5 f9 p1) (cwV 3 hts gX12_flee_X12_holds rfl rfl rfl hd_X12_holds__3 ⟨Nat.le_of_ble_eq_true rfl, Nat.le_of_ble_eq_true rfl⟩) ⟨th_blind, tr_12 hK hH t_h0, (th_pre hH hK hN hZ hS hA10)⟩ rfl rfl hl.1 rfl (lv_room (Nat.le_of_ble_eq_true rfl)) dX12_flee_98 ⟨Nat.le_of_ble_eq_true rfl, Nat.le_of_ble_eq_true rfl⟩) hS (fun q _ h => hA10 q h) hA10 (fun x11 u t H locs ht hvm hw11 hB hz1 hk1 hS => ?_)
            try dsimp only at hw11 hB
            rw [ht] at hB
            have hH := hB
            refine lv_if_eq (tgt := 123) hx hb dX12_flee_101 (th_eqI rfl) (fun c12 => ?_) (fun c12 => ?_)
            · skip
              have f13 : rg 0 0 x11 := rg_w (rg_eq hw11.1 rgc_0 c12).1 (th_leI rfl) (th_leI rfl)
              exact J123 gi_88 _ _ _ w88_0 w88_1 hH hS hM (lv_sub hl [0, 1, 2, 3, 4, 5] rfl) fy88_3 fy88_4 f9 ew88_0 fw88_0 ew88_1 fw88_1 (hF.trans (by simp only [↓reduceIte, f_X12_flee_88, ← ew88_0, ← ew88_1, eq_false c3, hw11.2, eq_true c12]))
            · skip
              have f14 : rg 1 1 x11 := rg_w (rg_neL hw11.1 rgc_0 c12) (th_leI rfl) (th_leI rfl)
              refine lv_aload_n hx hb dX12_flee_104 rfl (lv_at hl 0 rfl) ?_
              refine lv_iload_n hx hb dX12_flee_105 rfl (lv_at hl 3 rfl) ?_
              refine lv_iload hx hb dX12_flee_106 (lv_at hl 5 rfl) ?_
              refine lv_aload_n hx hb dX12_flee_108 rfl (lv_at hl 0 rfl) ?_
              obtain ⟨q15, r15, t15⟩ : ∃ q, gr h0 37 = some q ∧ τ q = 68 := (thI_12 hH t_h0).2.2.2.2.2.2.2.2.2.2.2.2.2.2.2.2.2.2.2.2.2.2.2.2.2.2.2.2.2.2.2.2.2
              refine th_get (ci := 11) (v := .ref q15) (T := TX12) (C := RX12) (N := 38) hx hb hts (fun w h => List.mem_cons_of_mem _ (List.mem_append_right _ h)) hown hK hH t_h0 (th_nz rfl) (thE_12 _ _ _) rfl 37 (th_ltN rfl) (hts (.fieldLink RX12 105 "BayMooringsModel" "then" "[I") (List.mem_cons_of_mem _ (List.mem_append_left _ (List.mem_append_left _ (List.mem_of_getElem? (i := 1) rfl))))) (fun _ h9 => h9) (th_fR r15 rfl) dX12_flee_109 ?_
              have hA16 := th_Asub (τ := τ) hS
              refine va_calli (va_runV (As := [.int y32_3, .int y88_5, .ref q15]) (rest := []) ⟨hx, hb, hml, hown, hts⟩ (k_X12_mayLie l D cA Z τ gi_88 gr _ h0 t_h0 y32_3 fy88_3 y88_5 f9 q15 (Or.inr t15)) (cwV 3 hts gX12_flee_X12_mayLie rfl rfl rfl hd_X12_mayLie__3 ⟨Nat.le_of_ble_eq_true rfl, Nat.le_of_ble_eq_true rfl⟩) ⟨th_blind, tr_12 hK hH t_h0, (th_pre hH hK hN hZ hS hA16)⟩ rfl rfl hl.1 rfl (lv_room (Nat.le_of_ble_eq_true rfl)) dX12_flee_112 ⟨Nat.le_of_ble_eq_true rfl, Nat.le_of_ble_eq_true rfl⟩) hS (fun q _ h => hA16 q h) hA16 (fun x17 u t H locs ht hvm hw17 hB hz1 hk1 hS => ?_)
              try dsimp only at hw17 hB
              rw [ht] at hB
              have hH := hB
              refine lv_if_eq (tgt := 123) hx hb dX12_flee_115 (th_eqI rfl) (fun c18 => ?_) (fun c18 => ?_)
              · skip
                have f19 : rg 0 0 x17 := rg_w (rg_eq hw17.1 rgc_0 c18).1 (th_leI rfl) (th_leI rfl)
                exact J123 gi_88 _ _ _ w88_0 w88_1 hH hS hM (lv_sub hl [0, 1, 2, 3, 4, 5] rfl) fy88_3 fy88_4 f9 ew88_0 fw88_0 ew88_1 fw88_1 (hF.trans (by simp only [↓reduceIte, f_X12_flee_88, ← ew88_0, ← ew88_1, eq_false c3, hw11.2, eq_false c12, r15, Option.getD_some, hw17.2, eq_true c18]))
              · skip
                have f20 : rg 1 1 x17 := rg_w (rg_neL hw17.1 rgc_0 c18) (th_leI rfl) (th_leI rfl)
                refine lv_iload hx hb dX12_flee_118 (lv_at hl 5 rfl) ?_
                refine lv_goto (tgt := 125) hx hb dX12_flee_120 (th_eqI rfl) ?_
                exact J125 gi_88 _ _ _ y88_5 w88_0 w88_1 hH hS hM (lv_sub hl [0, 1, 2, 3, 5] rfl) fy88_3 f9 (rg_w f9 (th_leI rfl) (th_leI rfl)) ew88_0 fw88_0 ew88_1 fw88_1 (hF.trans (by simp only [↓reduceIte, f_X12_flee_88, ← ew88_0, ← ew88_1, eq_false c3, hw11.2, eq_false c12, r15, Option.getD_some, hw17.2, eq_false c18]))
      refine lv_iload_n hx hb dX12_flee_32 rfl (lv_at hl 3 rfl) ?_
      refine lv_aload_n hx hb dX12_flee_33 rfl (lv_at hl 0 rfl) ?_
      refine th_get (ci := 11) (v := .int w32_0) (T := TX12) (C := RX12) (N := 38) hx hb hts (fun w h => List.mem_cons_of_mem _ (List.mem_append_right _ h)) hown hK hH t_h0 (th_nz rfl) (thE_12 _ _ _) rfl 8 (th_ltN rfl) (hts (.fieldLink RX12 116 "BayMooringsModel" "boats" "I") (List.mem_cons_of_mem _ (List.mem_append_left _ (List.mem_append_left _ (List.mem_of_getElem? (i := 0) rfl))))) (fun _ h9 => h9) (th_fI ew32_0 rfl) dX12_flee_34 ?_
      refine lv_icmp_ge (tgt := 147) hx hb dX12_flee_37 (th_eqI rfl) (fun c22 => ?_) (fun c22 => ?_)
      · skip
        refine lv_iload_n hx hb dX12_flee_147 rfl (lv_at hl 2 rfl) ?_
        exact W.iret (v := y32_2) hx hb hr (fun t ht hW => ⟨⟨y32_2, (gi_32, gr), rfl, ⟨hM, rfl, (hF.trans (by simp only [↓reduceIte, f_X12_flee_32, ← ew32_0, eq_true c22]))⟩, th_Ht ht hH⟩, hS.F ht⟩) hS.2.2 dX12_flee_148
      · skip
        have f23 : rg 1 16 w32_0 := rg_w (rg_nle fw32_0 fy32_3 c22).1 (th_leI rfl) (th_leI rfl)
        have f24 : rg 0 15 y32_3 := rg_w (rg_nle fw32_0 fy32_3 c22).2 (th_leI rfl) (th_leI rfl)
        refine lv_aload_n hx hb dX12_flee_40 rfl (lv_at hl 0 rfl) ?_
        obtain ⟨q25, r25, t25⟩ : ∃ q, gr h0 12 = some q ∧ τ q = 50 := (thI_12 hH t_h0).2.2.2.2.2.2.2.2.2.2.2.2.1
        refine th_get (ci := 11) (v := .ref q25) (T := TX12) (C := RX12) (N := 38) hx hb hts (fun w h => List.mem_cons_of_mem _ (List.mem_append_right _ h)) hown hK hH t_h0 (th_nz rfl) (thE_12 _ _ _) rfl 12 (th_ltN rfl) (hts (.fieldLink RX12 40 "BayMooringsModel" "buoyOf" "[I") (List.mem_cons_of_mem _ (List.mem_append_left _ (List.mem_append_left _ (List.mem_of_getElem? (i := 2) rfl))))) (fun _ h9 => h9) (th_fR r25 rfl) dX12_flee_41 ?_
        refine lv_iload_n hx hb dX12_flee_44 rfl (lv_at hl 3 rfl) ?_
        refine th_iald hx hb hK hH t25 (th_nz rfl) 0 (thE_50 _ _ _) rfl (rg_in (n := 16) f24 (th_leI rfl) (th_ltI rfl)) dX12_flee_45 ?_
        refine lv_topi (fun x26 e26 => ?_)
        have f26 : rg (-1) 11 x26 := rg_e e26 ((thI_50 hH t25) _ (rg_cl (n := 16) f24 (th_leI rfl) (th_ltI rfl)))
        refine lv_if_lt (tgt := 141) hx hb dX12_flee_46 (th_eqI rfl) (fun c27 => ?_) (fun c27 => ?_)
        · skip
          have f28 : rg (-1) (-1) x26 := rg_w (rg_lt f26 rgc_0 c27).1 (th_leI rfl) (th_leI rfl)
          exact J141 gi_32 _ _ _ y32_2 w32_0 hH hS hM (lv_sub hl [0, 1, 2, 3] rfl) f24 ew32_0 f23 (hF.trans (by simp only [↓reduceIte, f_X12_flee_32, ← ew32_0, eq_false c22, r25, Option.getD_some, ← e26, eq_true c27]))
        · skip
          have f29 : rg 0 11 x26 := rg_w (rg_nlt f26 rgc_0 c27).1 (th_leI rfl) (th_leI rfl)
          refine lv_aload_n hx hb dX12_flee_49 rfl (lv_at hl 0 rfl) ?_
          refine lv_iload_n hx hb dX12_flee_50 rfl (lv_at hl 3 rfl) ?_
          refine lv_aload_n hx hb dX12_flee_51 rfl (lv_at hl 0 rfl) ?_
          refine th_get (ci := 11) (v := .ref q25) (T := TX12) (C := RX12) (N := 38) hx hb hts (fun w h => List.mem_cons_of_mem _ (List.mem_append_right _ h)) hown hK hH t_h0 (th_nz rfl) (thE_12 _ _ _) rfl 12 (th_ltN rfl) (hts (.fieldLink RX12 40 "BayMooringsModel" "buoyOf" "[I") (List.mem_cons_of_mem _ (List.mem_append_left _ (List.mem_append_left _ (List.mem_of_getElem? (i := 2) rfl))))) (fun _ h9 => h9) (th_fR r25 rfl) dX12_flee_52 ?_
          refine lv_iload_n hx hb dX12_flee_55 rfl (lv_at hl 3 rfl) ?_
          refine th_iald hx hb hK hH t25 (th_nz rfl) 0 (thE_50 _ _ _) rfl (rg_in (n := 16) f24 (th_leI rfl) (th_ltI rfl)) dX12_flee_56 ?_
          rw [← e26]
          refine lv_iload_n hx hb dX12_flee_57 rfl (lv_at hl 1 rfl) ?_
          have hA32 := th_Asub (τ := τ) hS
          refine va_calli (va_runV (As := [.int y32_3, .int x26, .int p1]) (rest := []) ⟨hx, hb, hml, hown, hts⟩ (k_X12_holds l D cA Z τ gi_32 gr _ h0 t_h0 y32_3 f24 x26 f29 p1) (cwV 3 hts gX12_flee_X12_holds rfl rfl rfl hd_X12_holds__3 ⟨Nat.le_of_ble_eq_true rfl, Nat.le_of_ble_eq_true rfl⟩) ⟨th_blind, tr_12 hK hH t_h0, (th_pre hH hK hN hZ hS hA32)⟩ rfl rfl hl.1 rfl (lv_room (Nat.le_of_ble_eq_true rfl)) dX12_flee_58 ⟨Nat.le_of_ble_eq_true rfl, Nat.le_of_ble_eq_true rfl⟩) hS (fun q _ h => hA32 q h) hA32 (fun x33 u t H locs ht hvm hw33 hB hz1 hk1 hS => ?_)
          try dsimp only at hw33 hB
          rw [ht] at hB
          have hH := hB
          refine lv_if_eq (tgt := 67) hx hb dX12_flee_61 (th_eqI rfl) (fun c34 => ?_) (fun c34 => ?_)
          · skip
            have f35 : rg 0 0 x33 := rg_w (rg_eq hw33.1 rgc_0 c34).1 (th_leI rfl) (th_leI rfl)
            obtain ⟨x36, e36⟩ : ∃ y : Int32, y = y32_2 + 1 := ⟨_, rfl⟩
            refine lv_iinc (v := x36) (lv' := [(2, .int x36), (0, .ref h0), (1, .int p1), (3, .int y32_3)]) hx hb dX12_flee_67 hl (k := 2) rfl (by rw [e36]; rfl) (th_ltN rfl) rfl (fun ls hl => ?_)
            refine lv_aload_n hx hb dX12_flee_70 rfl (lv_at hl 1 rfl) ?_
            obtain ⟨q37, r37, t37⟩ : ∃ q, gr h0 37 = some q ∧ τ q = 68 := (thI_12 hH t_h0).2.2.2.2.2.2.2.2.2.2.2.2.2.2.2.2.2.2.2.2.2.2.2.2.2.2.2.2.2.2.2.2.2
            refine th_get (ci := 11) (v := .ref q37) (T := TX12) (C := RX12) (N := 38) hx hb hts (fun w h => List.mem_cons_of_mem _ (List.mem_append_right _ h)) hown hK hH t_h0 (th_nz rfl) (thE_12 _ _ _) rfl 37 (th_ltN rfl) (hts (.fieldLink RX12 105 "BayMooringsModel" "then" "[I") (List.mem_cons_of_mem _ (List.mem_append_left _ (List.mem_append_left _ (List.mem_of_getElem? (i := 1) rfl))))) (fun _ h9 => h9) (th_fR r37 rfl) dX12_flee_71 ?_
            refine lv_iload_n hx hb dX12_flee_74 rfl (lv_at hl 3 rfl) ?_
            refine lv_iconst (v := (-1)) hx hb dX12_flee_75 ic_m1 ?_
            refine th_iast hx hb hK hH hS t37 (th_nz rfl) (Or.inl (th_nzE t37 rfl)) 0 (fun _ => thE_68 _ _ _) rfl (rg_in (n := 16) f24 (th_leI rfl) (th_ltI rfl)) (th_ai (P := rg (-1) 11) (thI_68 hH t37) (rg_w rgc_m1 (th_leI rfl) (th_leI rfl))) dX12_flee_76 (fun gi38 H locs hu38 ho38 hH hS => ?_)
            have eg38 : gi38 = va_up gi_32 q37 (upd (gi_32 q37) y32_3.toNatClampNeg (-1)) := th_upE hu38 ho38
            have e39 : w32_0 = gi38 h0 8 := Eq.trans ew32_0 (Eq.symm (ho38 _ _ (Or.inl (th_ne t_h0 t37 (th_nz rfl)))))
            have e40 : x26 = gi38 q25 (y32_3.toNatClampNeg) := Eq.trans e26 (Eq.symm (ho38 _ _ (Or.inl (th_ne t25 t37 (th_nz rfl)))))
            have hM := hM.i t37 (th_mem (a := 6800) rfl) ho38
            refine lv_iconst (v := (-1)) hx hb dX12_flee_77 ic_m1 ?_
            refine lv_istore (i := 4) (lv' := [(4, .int (-1)), (2, .int x36), (0, .ref h0), (1, .int p1), (3, .int y32_3)]) hx hb dX12_flee_78 hl (th_ltN rfl) rfl (fun ls hl => ?_)
            refine lv_aload_n hx hb dX12_flee_80 rfl (lv_at hl 2 rfl) ?_
            obtain ⟨x41, e41⟩ : ∃ y : Int32, y = gi38 h0 0 := ⟨_, rfl⟩
            refine th_get (ci := 11) (v := .int x41) (T := TX12) (C := RX12) (N := 38) hx hb hts (fun w h => List.mem_cons_of_mem _ (List.mem_append_right _ h)) hown hK hH t_h0 (th_nz rfl) (thE_12 _ _ _) rfl 0 (th_ltN rfl) (hts (.fieldLink RX12 109 "BayMooringsModel" "buoys" "I") (List.mem_cons_of_mem _ (List.mem_append_left _ (List.mem_append_left _ (List.mem_of_getElem? (i := 3) rfl))))) (fun _ h9 => h9) (th_fI e41 rfl) dX12_flee_81 ?_
            have f41 : rg 0 12 x41 := rg_e e41 ((thI_12 hH t_h0).1)
            refine lv_iconst (v := 1) hx hb dX12_flee_84 ic_1 ?_
            refine lv_isub hx hb dX12_flee_85 ?_
            refine lv_topi (fun x42 e42 => ?_)
            have f42 : rg (-1) 11 x42 := rg_e e42 (rg_w (rg_sub f41 rgc_1 (th_leI rfl) (th_leI rfl)) (th_leI rfl) (th_leI rfl))
            refine lv_istore (i := 5) (lv' := [(5, .int x42), (4, .int (-1)), (2, .int x36), (0, .ref h0), (1, .int p1), (3, .int y32_3)]) hx hb dX12_flee_86 hl (th_ltN rfl) rfl (fun ls hl => ?_)
            exact J88 _ gi38 _ _ _ x36 (-1) x42 x41 w32_0 (Nat.lt_add_one _) hH hS hM (lv_sub hl [3, 4, 2, 5, 1, 0] rfl) f24 (rg_w rgc_m1 (th_leI rfl) (th_leI rfl)) f42 e41 f41 e39 f23 (hF.trans (by simp only [↓reduceIte, f_X12_flee_32, ← ew32_0, eq_false c22, r25, Option.getD_some, ← e26, eq_false c27, hw33.2, eq_true c34, ← e36, r37, ← eg38, ← e41, ← e42]))
          · skip
            have f43 : rg 1 1 x33 := rg_w (rg_neL hw33.1 rgc_0 c34) (th_leI rfl) (th_leI rfl)
            refine lv_goto (tgt := 141) hx hb dX12_flee_64 (th_eqI rfl) ?_
            exact J141 gi_32 _ _ _ y32_2 w32_0 hH hS hM (lv_sub hl [0, 1, 2, 3] rfl) f24 ew32_0 f23 (hF.trans (by simp only [↓reduceIte, f_X12_flee_32, ← ew32_0, eq_false c22, r25, Option.getD_some, ← e26, eq_false c27, hw33.2, eq_false c34]))
  have J4 : ∀ (n4 : Nat) (gi_4 : th_i) (H : Heap) (locs : List Loc) (ls : Array Slot) (y4_2 : Int32) (y4_3 : Int32), (16 - y4_3.toInt).toNat < n4 → th_H D cA τ gi_4 gr H → va_S (th_A τ s.heap.size) s.heap H locs → th_Mod [6800] τ gi gr gi_4 gr → lv_has ls 6 [(0, .ref h0), (1, .int p1), (2, .int y4_2), (3, .int y4_3)] → rg 0 0 y4_2 → rg 0 16 y4_3 → F_X12_flee τ Z gi gr h0 p1 = f_X12_flee_4 τ Z gi gr h0 p1 n4 gi_4 y4_2 y4_3 → W p l e (headSpec wsX12_flee ({ frames := 5, cells := 0, slots := 0, locals := 150 })).room s m [.ref h0, .int p1].toArray below meth c H locs 0 0 (MQ below (va_Qi (fun (r : Int32) (u : th_i × th_r) => th_Mod [6800] τ gi gr u.1 u.2 ∧ u.2 = gr ∧ (F_X12_flee τ Z gi gr h0 p1 = (r, u.1))) (fun (u : th_i × th_r) t => th_H D cA τ u.1 u.2 t.heap) (th_A τ s.heap.size)) [.ref h0, .int p1].toArray s 0 0 (th_A τ s.heap.size)) (F0 m 4 ls []) := by
    intro n4
    induction n4 with
    | zero =>
      intro gi_4 H locs ls y4_2 y4_3 hn
      exact absurd hn (Nat.not_lt_zero _)
    | succ n4 ih4 =>
      intro gi_4 H locs ls y4_2 y4_3 hn4 hH hS hM hl fy4_2 fy4_3 hF
      refine lv_iload_n hx hb dX12_flee_4 rfl (lv_at hl 3 rfl) ?_
      refine lv_aload_n hx hb dX12_flee_5 rfl (lv_at hl 0 rfl) ?_
      obtain ⟨x44, e44⟩ : ∃ y : Int32, y = gi_4 h0 8 := ⟨_, rfl⟩
      refine th_get (ci := 11) (v := .int x44) (T := TX12) (C := RX12) (N := 38) hx hb hts (fun w h => List.mem_cons_of_mem _ (List.mem_append_right _ h)) hown hK hH t_h0 (th_nz rfl) (thE_12 _ _ _) rfl 8 (th_ltN rfl) (hts (.fieldLink RX12 116 "BayMooringsModel" "boats" "I") (List.mem_cons_of_mem _ (List.mem_append_left _ (List.mem_append_left _ (List.mem_of_getElem? (i := 0) rfl))))) (fun _ h9 => h9) (th_fI e44 rfl) dX12_flee_6 ?_
      have f44 : rg 0 16 x44 := rg_e e44 ((thI_12 hH t_h0).2.2.2.2.2.2.2.2.1)
      refine lv_icmp_ge (tgt := 30) hx hb dX12_flee_9 (th_eqI rfl) (fun c45 => ?_) (fun c45 => ?_)
      · skip
        refine lv_iconst (v := 0) hx hb dX12_flee_30 ic_0 ?_
        refine lv_istore_n (i := 3) (lv' := [(3, .int 0), (0, .ref h0), (1, .int p1), (2, .int y4_2)]) hx hb dX12_flee_31 rfl hl (th_ltN rfl) rfl (fun ls hl => ?_)
        exact J32 _ gi_4 _ _ _ y4_2 0 x44 (Nat.lt_add_one _) hH hS hM (lv_sub hl [1, 2, 3, 0] rfl) (rg_w rgc_0 (th_leI rfl) (th_leI rfl)) e44 f44 (hF.trans (by simp only [↓reduceIte, f_X12_flee_4, ← e44, eq_true c45]))
      · skip
        have f46 : rg 1 16 x44 := rg_w (rg_nle f44 fy4_3 c45).1 (th_leI rfl) (th_leI rfl)
        have f47 : rg 0 15 y4_3 := rg_w (rg_nle f44 fy4_3 c45).2 (th_leI rfl) (th_leI rfl)
        refine lv_aload_n hx hb dX12_flee_12 rfl (lv_at hl 0 rfl) ?_
        obtain ⟨q48, r48, t48⟩ : ∃ q, gr h0 37 = some q ∧ τ q = 68 := (thI_12 hH t_h0).2.2.2.2.2.2.2.2.2.2.2.2.2.2.2.2.2.2.2.2.2.2.2.2.2.2.2.2.2.2.2.2.2
        refine th_get (ci := 11) (v := .ref q48) (T := TX12) (C := RX12) (N := 38) hx hb hts (fun w h => List.mem_cons_of_mem _ (List.mem_append_right _ h)) hown hK hH t_h0 (th_nz rfl) (thE_12 _ _ _) rfl 37 (th_ltN rfl) (hts (.fieldLink RX12 105 "BayMooringsModel" "then" "[I") (List.mem_cons_of_mem _ (List.mem_append_left _ (List.mem_append_left _ (List.mem_of_getElem? (i := 1) rfl))))) (fun _ h9 => h9) (th_fR r48 rfl) dX12_flee_13 ?_
        refine lv_iload_n hx hb dX12_flee_16 rfl (lv_at hl 3 rfl) ?_
        refine lv_aload_n hx hb dX12_flee_17 rfl (lv_at hl 0 rfl) ?_
        obtain ⟨q49, r49, t49⟩ : ∃ q, gr h0 12 = some q ∧ τ q = 50 := (thI_12 hH t_h0).2.2.2.2.2.2.2.2.2.2.2.2.1
        refine th_get (ci := 11) (v := .ref q49) (T := TX12) (C := RX12) (N := 38) hx hb hts (fun w h => List.mem_cons_of_mem _ (List.mem_append_right _ h)) hown hK hH t_h0 (th_nz rfl) (thE_12 _ _ _) rfl 12 (th_ltN rfl) (hts (.fieldLink RX12 40 "BayMooringsModel" "buoyOf" "[I") (List.mem_cons_of_mem _ (List.mem_append_left _ (List.mem_append_left _ (List.mem_of_getElem? (i := 2) rfl))))) (fun _ h9 => h9) (th_fR r49 rfl) dX12_flee_18 ?_
        refine lv_iload_n hx hb dX12_flee_21 rfl (lv_at hl 3 rfl) ?_
        refine th_iald hx hb hK hH t49 (th_nz rfl) 0 (thE_50 _ _ _) rfl (rg_in (n := 16) f47 (th_leI rfl) (th_ltI rfl)) dX12_flee_22 ?_
        refine lv_topi (fun x50 e50 => ?_)
        have f50 : rg (-1) 11 x50 := rg_e e50 ((thI_50 hH t49) _ (rg_cl (n := 16) f47 (th_leI rfl) (th_ltI rfl)))
        refine th_iast hx hb hK hH hS t48 (th_nz rfl) (Or.inl (th_nzE t48 rfl)) 0 (fun _ => thE_68 _ _ _) rfl (rg_in (n := 16) f47 (th_leI rfl) (th_ltI rfl)) (th_ai (P := rg (-1) 11) (thI_68 hH t48) f50) dX12_flee_23 (fun gi51 H locs hu51 ho51 hH hS => ?_)
        have eg51 : gi51 = va_up gi_4 q48 (upd (gi_4 q48) y4_3.toNatClampNeg x50) := th_upE hu51 ho51
        have e52 : x44 = gi51 h0 8 := Eq.trans e44 (Eq.symm (ho51 _ _ (Or.inl (th_ne t_h0 t48 (th_nz rfl)))))
        have e53 : x50 = gi51 q49 (y4_3.toNatClampNeg) := Eq.trans e50 (Eq.symm (ho51 _ _ (Or.inl (th_ne t49 t48 (th_nz rfl)))))
        have hM := hM.i t48 (th_mem (a := 6800) rfl) ho51
        obtain ⟨x54, e54⟩ : ∃ y : Int32, y = y4_3 + 1 := ⟨_, rfl⟩
        have f54 : rg 1 16 x54 := rg_e e54 (rg_w (rg_add f47 rgc_1 (th_leI rfl) (th_leI rfl)) (th_leI rfl) (th_leI rfl))
        refine lv_iinc (v := x54) (lv' := [(3, .int x54), (0, .ref h0), (1, .int p1), (2, .int y4_2)]) hx hb dX12_flee_24 hl (k := 3) rfl (by rw [e54]; rfl) (th_ltN rfl) rfl (fun ls hl => ?_)
        refine lv_goto (tgt := 4) hx hb dX12_flee_27 (th_eqI rfl) ?_
        exact ih4 gi51 _ _ _ y4_2 x54 (th_up (rg_dA e54 f47 rgc_1 (th_leI rfl) (th_leI rfl)) f47 hn4 (th_ltI rfl)) hH hS hM (lv_sub hl [1, 2, 3, 0] rfl) fy4_2 (rg_w f54 (th_leI rfl) (th_leI rfl)) (hF.trans (by simp only [↓reduceIte, f_X12_flee_4, ← e44, eq_false c45, r48, Option.getD_some, r49, ← e50, ← eg51, ← e54]))
  have hS : va_S (th_A τ s.heap.size) s.heap s.heap [] := va_S.rf
  have hl := lv_entry ([.ref h0, .int p1]) (n := 6) (Nat.le_of_ble_eq_true rfl)
  rw [lg_entry_eq]
  generalize (lg_sl ([.ref h0, .int p1]) ++ List.replicate (6 - (lg_sl ([.ref h0, .int p1])).length) Slot.unset).toArray = ls at hl ⊢
  have hl : lv_has ls 6 [(0, .ref h0), (1, .int p1)] := hl
  have hF : F_X12_flee τ Z gi gr h0 p1 = F_X12_flee τ Z gi gr h0 p1 := rfl
  refine lv_iconst (v := 0) hx hb dX12_flee_0 ic_0 ?_
  refine lv_istore_n (i := 2) (lv' := [(2, .int 0), (0, .ref h0), (1, .int p1)]) hx hb dX12_flee_1 rfl hl (th_ltN rfl) rfl (fun ls hl => ?_)
  refine lv_iconst (v := 0) hx hb dX12_flee_2 ic_0 ?_
  refine lv_istore_n (i := 3) (lv' := [(3, .int 0), (2, .int 0), (0, .ref h0), (1, .int p1)]) hx hb dX12_flee_3 rfl hl (th_ltN rfl) rfl (fun ls hl => ?_)
  exact J4 _ gi _ _ _ 0 0 (Nat.lt_add_one _) hH hS hM (lv_sub hl [2, 3, 1, 0] rfl) rgc_0 (rg_w rgc_0 (th_leI rfl) (th_leI rfl)) (hF.trans (by simp only [F_X12_flee]))

noncomputable def F_X12_storm (τ : th_t) (Z : th_Zt) (gi : th_i) (gr : th_r) (h0 : Nat) (p1 : Int32) : Int32 × th_i :=
  let x2 : Int32 := F_X12_within τ Z gi gr p1 1 100
  if x2 = (0 : Int32) then (
    let u6 : Int32 × th_i := F_X12_finding τ Z gi gr h0 (-1000001)
    let x6 : Int32 := u6.1
    let gi6 : th_i := u6.2
    (x6, gi6)) else (
    let u12 : Int32 × th_i := F_X12_flee τ Z gi gr h0 p1
    let x12 : Int32 := u12.1
    let gi12 : th_i := u12.2
    (x12, gi12))
set_option maxHeartbeats 8000000 in
set_option maxRecDepth 100000 in
theorem k_X12_storm (l : Launch) (D : va_G) (cA : Nat → ClassId) (Z : th_Zt) (τ : th_t) (gi : th_i) (gr : th_r) (sz : Nat) (h0 : Nat) (t_h0 : τ h0 = 12) (p1 : Int32) : Met l yX12_storm wsX12_storm ({ frames := 6, cells := 0, slots := 0, locals := 175 }) (va_Pc [.ref h0, .int p1] (th_Pre D cA Z τ gi gr sz)) (va_Qi (fun (r : Int32) (u : th_i × th_r) => th_Mod [5900, 6800] τ gi gr u.1 u.2 ∧ u.2 = gr ∧ (F_X12_storm τ Z gi gr h0 p1 = (r, u.1))) (fun (u : th_i × th_r) t => th_H D cA τ u.1 u.2 t.heap) (th_A τ sz)) 0 0 (th_A τ sz) := by
  refine Met.ofW (cc := cX12_storm) (maxL := 2) (ret := (some .int)) (by decide) rfl ?_
  intro p e s m args below meth c s₁ B hml hv
  obtain ⟨rfl, hsz, hH, hK, hN, hZ⟩ := hv
  have hx := B.exec
  have hb := B.bytes
  have hr := B.returns
  have hts := atoms_spec (ws := wsX12_storm) B.pre
  have hown : s.vm.findClass RX12 = some m.cls := findClass_of_methodNamed B.named
  have hlocks := B.notSynchronized
  subst hsz
  have hM : th_Mod [5900, 6800] τ gi gr gi gr := th_Mod.rf
  have hS : va_S (th_A τ s.heap.size) s.heap s.heap [] := va_S.rf
  have hl := lv_entry ([.ref h0, .int p1]) (n := 2) (Nat.le_of_ble_eq_true rfl)
  rw [lg_entry_eq]
  generalize (lg_sl ([.ref h0, .int p1]) ++ List.replicate (2 - (lg_sl ([.ref h0, .int p1])).length) Slot.unset).toArray = ls at hl ⊢
  have hl : lv_has ls 2 [(0, .ref h0), (1, .int p1)] := hl
  have hF : F_X12_storm τ Z gi gr h0 p1 = F_X12_storm τ Z gi gr h0 p1 := rfl
  refine lv_iload_n hx hb dX12_storm_0 rfl (lv_at hl 1 rfl) ?_
  refine lv_iconst (v := 1) hx hb dX12_storm_1 ic_1 ?_
  refine lv_bipush (v := 100) hx hb dX12_storm_2 bp_100 ?_
  have hA1 := th_Asub (τ := τ) hS
  refine va_calli (va_runS (As := [.int p1, .int 1, .int 100]) (rest := []) ⟨hx, hb, hml, hown, hts⟩ (k_X12_within l D cA Z τ gi gr _ p1 1 100) (va_cwS 3 hts gX12_storm_X12_within rfl rfl rfl (by decide +kernel) ⟨Nat.le_of_ble_eq_true rfl, Nat.le_of_ble_eq_true rfl⟩) ⟨th_blind, (th_pre hH hK hN hZ hS hA1)⟩ rfl rfl hl.1 rfl (lv_room (Nat.le_of_ble_eq_true rfl)) dX12_storm_4 ⟨Nat.le_of_ble_eq_true rfl, Nat.le_of_ble_eq_true rfl⟩) hS (fun q _ h => hA1 q h) hA1 (fun x2 u t H locs ht hvm hw2 hB hz1 hk1 hS => ?_)
  try dsimp only at hw2 hB
  rw [ht] at hB
  have hH := hB
  refine lv_if_eq (tgt := 18) hx hb dX12_storm_7 (th_eqI rfl) (fun c3 => ?_) (fun c3 => ?_)
  · skip
    have f4 : rg 0 0 x2 := rg_w (rg_eq hw2.1 rgc_0 c3).1 (th_leI rfl) (th_leI rfl)
    refine lv_aload_n hx hb dX12_storm_18 rfl (lv_at hl 0 rfl) ?_
    refine lv_ldc (v := (-1000001)) hx hb hown (hts (.constant RX12 119 (-1000001)) (List.mem_cons_of_mem _ (List.mem_append_left _ (List.mem_append_left _ (List.mem_of_getElem? (i := 0) rfl))))) dX12_storm_19 ?_
    have hA5 := th_Asub (τ := τ) hS
    refine va_calli (va_runV (As := [.int (-1000001)]) (rest := []) ⟨hx, hb, hml, hown, hts⟩ (k_X12_finding l D cA Z τ gi gr _ h0 t_h0 (-1000001) (rg_w rgc_m1000001 (th_leI rfl) (th_leI rfl))) (cwV 1 hts gX12_storm_X12_finding rfl rfl rfl hd_X12_finding__1 ⟨Nat.le_of_ble_eq_true rfl, Nat.le_of_ble_eq_true rfl⟩) ⟨th_blind, tr_12 hK hH t_h0, (th_pre hH hK hN hZ hS hA5)⟩ rfl rfl hl.1 rfl (lv_room (Nat.le_of_ble_eq_true rfl)) dX12_storm_21 ⟨Nat.le_of_ble_eq_true rfl, Nat.le_of_ble_eq_true rfl⟩) hS (fun q _ h => hA5 q h) hA5 (fun x6 u t H locs ht hvm hw6 hB hz1 hk1 hS => ?_)
    try dsimp only at hw6 hB
    rw [ht] at hB
    have hH := hB
    obtain ⟨gi6, gr6⟩ := u
    try dsimp only at hw6 hH
    obtain rfl : gr = gr6 := (hw6.2.1).symm
    have hM := hM.tr hw6.1 (fun _ h => h) (th_sub rfl)
    exact W.iret (v := x6) hx hb hr (fun t ht hW => ⟨⟨x6, (gi6, gr), rfl, ⟨hM, rfl, (hF.trans (by simp only [↓reduceIte, F_X12_storm, hw2.2.2.1, eq_true c3, hw6.2.2.1]))⟩, th_Ht ht hH⟩, hS.F ht⟩) hS.2.2 dX12_storm_24
  · skip
    have f7 : rg 1 1 x2 := rg_w (rg_neL hw2.1 rgc_0 c3) (th_leI rfl) (th_leI rfl)
    have g8 := hw2.2.1 c3
    have f9 : rg 1 2147483647 p1 := rg_w (rg_le rgc_1 (rg_any p1) g8.1).2 (th_leI rfl) (th_leI rfl)
    have f10 : rg 1 100 p1 := rg_w (rg_le f9 rgc_100 g8.2).1 (th_leI rfl) (th_leI rfl)
    refine lv_aload_n hx hb dX12_storm_10 rfl (lv_at hl 0 rfl) ?_
    refine lv_iload_n hx hb dX12_storm_11 rfl (lv_at hl 1 rfl) ?_
    have hA11 := th_Asub (τ := τ) hS
    refine va_calli (va_runV (As := [.int p1]) (rest := []) ⟨hx, hb, hml, hown, hts⟩ (k_X12_flee l D cA Z τ gi gr _ h0 t_h0 p1) (cwV 1 hts gX12_storm_X12_flee rfl rfl rfl hd_X12_flee__1 ⟨Nat.le_of_ble_eq_true rfl, Nat.le_of_ble_eq_true rfl⟩) ⟨th_blind, tr_12 hK hH t_h0, (th_pre hH hK hN hZ hS hA11)⟩ rfl rfl hl.1 rfl (lv_room (Nat.le_of_ble_eq_true rfl)) dX12_storm_12 ⟨Nat.le_of_ble_eq_true rfl, Nat.le_of_ble_eq_true rfl⟩) hS (fun q _ h => hA11 q h) hA11 (fun x12 u t H locs ht hvm hw12 hB hz1 hk1 hS => ?_)
    try dsimp only at hw12 hB
    rw [ht] at hB
    have hH := hB
    obtain ⟨gi12, gr12⟩ := u
    try dsimp only at hw12 hH
    obtain rfl : gr = gr12 := (hw12.2.1).symm
    have hM := hM.tr hw12.1 (fun _ h => h) (th_sub rfl)
    refine lv_goto (tgt := 24) hx hb dX12_storm_15 (th_eqI rfl) ?_
    exact W.iret (v := x12) hx hb hr (fun t ht hW => ⟨⟨x12, (gi12, gr), rfl, ⟨hM, rfl, (hF.trans (by simp only [↓reduceIte, F_X12_storm, hw2.2.2.1, eq_false c3, hw12.2.2]))⟩, th_Ht ht hH⟩, hS.F ht⟩) hS.2.2 dX12_storm_24

noncomputable def f_X12_fled_18 (τ : th_t) (Z : th_Zt) (gi : th_i) (gr : th_r) (h0 : Nat) (p1 : Int32) (p2 : Int32) (gi_18 : th_i) : Int32 × th_i :=
  let u2 : Int32 × th_i := F_X12_finding τ Z gi_18 gr h0 (-1000001)
  let x2 : Int32 := u2.1
  let gi2 : th_i := u2.2
  (x2, gi2)
noncomputable def F_X12_fled (τ : th_t) (Z : th_Zt) (gi : th_i) (gr : th_r) (h0 : Nat) (p1 : Int32) (p2 : Int32) : Int32 × th_i :=
  let x4 : Int32 := F_X12_isBoat τ Z gi gr h0 p1
  if x4 = (0 : Int32) then (
    f_X12_fled_18 τ Z gi gr h0 p1 p2 gi) else (
    let x10 : Int32 := F_X12_within τ Z gi gr p2 1 100
    if x10 = (0 : Int32) then (
      f_X12_fled_18 τ Z gi gr h0 p1 p2 gi) else (
      let q16 : Nat := (gr h0 12).getD 0
      let x17 : Int32 := gi q16 p1.toNatClampNeg
      if (0 : Int32) ≤ x17 then (
        let u21 : Int32 × th_i := F_X12_flee τ Z gi gr h0 p2
        let x21 : Int32 := u21.1
        let gi21 : th_i := u21.2
        let q23 : Nat := (gr h0 37).getD 0
        let x24 : Int32 := gi21 q23 p1.toNatClampNeg
        (x24, gi21)) else (
        let u27 : Int32 × th_i := F_X12_finding τ Z gi gr h0 (-1000003)
        let x27 : Int32 := u27.1
        let gi27 : th_i := u27.2
        (x27, gi27))))
set_option maxHeartbeats 8000000 in
set_option maxRecDepth 100000 in
theorem k_X12_fled (l : Launch) (D : va_G) (cA : Nat → ClassId) (Z : th_Zt) (τ : th_t) (gi : th_i) (gr : th_r) (sz : Nat) (h0 : Nat) (t_h0 : τ h0 = 12) (p1 : Int32) (p2 : Int32) : Met l yX12_fled wsX12_fled ({ frames := 6, cells := 0, slots := 0, locals := 175 }) (va_Pc [.ref h0, .int p1, .int p2] (th_Pre D cA Z τ gi gr sz)) (va_Qi (fun (r : Int32) (u : th_i × th_r) => th_Mod [5900, 6800] τ gi gr u.1 u.2 ∧ u.2 = gr ∧ (F_X12_fled τ Z gi gr h0 p1 p2 = (r, u.1))) (fun (u : th_i × th_r) t => th_H D cA τ u.1 u.2 t.heap) (th_A τ sz)) 0 0 (th_A τ sz) := by
  refine Met.ofW (cc := cX12_fled) (maxL := 4) (ret := (some .int)) (by decide) rfl ?_
  intro p e s m args below meth c s₁ B hml hv
  obtain ⟨rfl, hsz, hH, hK, hN, hZ⟩ := hv
  have hx := B.exec
  have hb := B.bytes
  have hr := B.returns
  have hts := atoms_spec (ws := wsX12_fled) B.pre
  have hown : s.vm.findClass RX12 = some m.cls := findClass_of_methodNamed B.named
  have hlocks := B.notSynchronized
  subst hsz
  have hM : th_Mod [5900, 6800] τ gi gr gi gr := th_Mod.rf
  have J18 : ∀ (gi_18 : th_i) (H : Heap) (locs : List Loc) (ls : Array Slot), th_H D cA τ gi_18 gr H → va_S (th_A τ s.heap.size) s.heap H locs → th_Mod [5900, 6800] τ gi gr gi_18 gr → lv_has ls 4 [(0, .ref h0)] → F_X12_fled τ Z gi gr h0 p1 p2 = f_X12_fled_18 τ Z gi gr h0 p1 p2 gi_18 → W p l e (headSpec wsX12_fled ({ frames := 6, cells := 0, slots := 0, locals := 175 })).room s m [.ref h0, .int p1, .int p2].toArray below meth c H locs 0 0 (MQ below (va_Qi (fun (r : Int32) (u : th_i × th_r) => th_Mod [5900, 6800] τ gi gr u.1 u.2 ∧ u.2 = gr ∧ (F_X12_fled τ Z gi gr h0 p1 p2 = (r, u.1))) (fun (u : th_i × th_r) t => th_H D cA τ u.1 u.2 t.heap) (th_A τ s.heap.size)) [.ref h0, .int p1, .int p2].toArray s 0 0 (th_A τ s.heap.size)) (F0 m 18 ls []) := by
    intro gi_18 H locs ls hH hS hM hl hF
    refine lv_aload_n hx hb dX12_fled_18 rfl (lv_at hl 0 rfl) ?_
    refine lv_ldc (v := (-1000001)) hx hb hown (hts (.constant RX12 119 (-1000001)) (List.mem_cons_of_mem _ (List.mem_append_left _ (List.mem_append_left _ (List.mem_of_getElem? (i := 0) rfl))))) dX12_fled_19 ?_
    have hA1 := th_Asub (τ := τ) hS
    refine va_calli (va_runV (As := [.int (-1000001)]) (rest := []) ⟨hx, hb, hml, hown, hts⟩ (k_X12_finding l D cA Z τ gi_18 gr _ h0 t_h0 (-1000001) (rg_w rgc_m1000001 (th_leI rfl) (th_leI rfl))) (cwV 1 hts gX12_fled_X12_finding rfl rfl rfl hd_X12_finding__1 ⟨Nat.le_of_ble_eq_true rfl, Nat.le_of_ble_eq_true rfl⟩) ⟨th_blind, tr_12 hK hH t_h0, (th_pre hH hK hN hZ hS hA1)⟩ rfl rfl hl.1 rfl (lv_room (Nat.le_of_ble_eq_true rfl)) dX12_fled_21 ⟨Nat.le_of_ble_eq_true rfl, Nat.le_of_ble_eq_true rfl⟩) hS (fun q _ h => hA1 q h) hA1 (fun x2 u t H locs ht hvm hw2 hB hz1 hk1 hS => ?_)
    try dsimp only at hw2 hB
    rw [ht] at hB
    have hH := hB
    obtain ⟨gi2, gr2⟩ := u
    try dsimp only at hw2 hH
    obtain rfl : gr = gr2 := (hw2.2.1).symm
    have hM := hM.tr hw2.1 (fun _ h => h) (th_sub rfl)
    exact W.iret (v := x2) hx hb hr (fun t ht hW => ⟨⟨x2, (gi2, gr), rfl, ⟨hM, rfl, (hF.trans (by simp only [f_X12_fled_18, hw2.2.2.1]))⟩, th_Ht ht hH⟩, hS.F ht⟩) hS.2.2 dX12_fled_24
  have hS : va_S (th_A τ s.heap.size) s.heap s.heap [] := va_S.rf
  have hl := lv_entry ([.ref h0, .int p1, .int p2]) (n := 4) (Nat.le_of_ble_eq_true rfl)
  rw [lg_entry_eq]
  generalize (lg_sl ([.ref h0, .int p1, .int p2]) ++ List.replicate (4 - (lg_sl ([.ref h0, .int p1, .int p2])).length) Slot.unset).toArray = ls at hl ⊢
  have hl : lv_has ls 4 [(0, .ref h0), (1, .int p1), (2, .int p2)] := hl
  have hF : F_X12_fled τ Z gi gr h0 p1 p2 = F_X12_fled τ Z gi gr h0 p1 p2 := rfl
  refine lv_aload_n hx hb dX12_fled_0 rfl (lv_at hl 0 rfl) ?_
  refine lv_iload_n hx hb dX12_fled_1 rfl (lv_at hl 1 rfl) ?_
  have hA3 := th_Asub (τ := τ) hS
  refine va_calli (va_runV (As := [.int p1]) (rest := []) ⟨hx, hb, hml, hown, hts⟩ (k_X12_isBoat l D cA Z τ gi gr _ h0 t_h0 p1) (cwV 1 hts gX12_fled_X12_isBoat rfl rfl rfl hd_X12_isBoat__1 ⟨Nat.le_of_ble_eq_true rfl, Nat.le_of_ble_eq_true rfl⟩) ⟨th_blind, tr_12 hK hH t_h0, (th_pre hH hK hN hZ hS hA3)⟩ rfl rfl hl.1 rfl (lv_room (Nat.le_of_ble_eq_true rfl)) dX12_fled_2 ⟨Nat.le_of_ble_eq_true rfl, Nat.le_of_ble_eq_true rfl⟩) hS (fun q _ h => hA3 q h) hA3 (fun x4 u t H locs ht hvm hw4 hB hz1 hk1 hS => ?_)
  try dsimp only at hw4 hB
  rw [ht] at hB
  have hH := hB
  refine lv_if_eq (tgt := 18) hx hb dX12_fled_5 (th_eqI rfl) (fun c5 => ?_) (fun c5 => ?_)
  · skip
    have f6 : rg 0 0 x4 := rg_w (rg_eq hw4.1 rgc_0 c5).1 (th_leI rfl) (th_leI rfl)
    exact J18 gi _ _ _ hH hS hM (lv_sub hl [0] rfl) (hF.trans (by simp only [↓reduceIte, F_X12_fled, hw4.2.2, eq_true c5]))
  · skip
    have f7 : rg 1 1 x4 := rg_w (rg_neL hw4.1 rgc_0 c5) (th_leI rfl) (th_leI rfl)
    have f8 : rg 0 15 p1 := rg_w (hw4.2.1 c5) (th_leI rfl) (th_leI rfl)
    refine lv_iload_n hx hb dX12_fled_8 rfl (lv_at hl 2 rfl) ?_
    refine lv_iconst (v := 1) hx hb dX12_fled_9 ic_1 ?_
    refine lv_bipush (v := 100) hx hb dX12_fled_10 bp_100 ?_
    have hA9 := th_Asub (τ := τ) hS
    refine va_calli (va_runS (As := [.int p2, .int 1, .int 100]) (rest := []) ⟨hx, hb, hml, hown, hts⟩ (k_X12_within l D cA Z τ gi gr _ p2 1 100) (va_cwS 3 hts gX12_fled_X12_within rfl rfl rfl (by decide +kernel) ⟨Nat.le_of_ble_eq_true rfl, Nat.le_of_ble_eq_true rfl⟩) ⟨th_blind, (th_pre hH hK hN hZ hS hA9)⟩ rfl rfl hl.1 rfl (lv_room (Nat.le_of_ble_eq_true rfl)) dX12_fled_12 ⟨Nat.le_of_ble_eq_true rfl, Nat.le_of_ble_eq_true rfl⟩) hS (fun q _ h => hA9 q h) hA9 (fun x10 u t H locs ht hvm hw10 hB hz1 hk1 hS => ?_)
    try dsimp only at hw10 hB
    rw [ht] at hB
    have hH := hB
    refine lv_if_ne (tgt := 25) hx hb dX12_fled_15 (th_eqI rfl) (fun c11 => ?_) (fun c11 => ?_)
    · skip
      have f12 : rg 1 1 x10 := rg_w (rg_neL hw10.1 rgc_0 c11) (th_leI rfl) (th_leI rfl)
      have g13 := hw10.2.1 c11
      have f14 : rg 1 2147483647 p2 := rg_w (rg_le rgc_1 (rg_any p2) g13.1).2 (th_leI rfl) (th_leI rfl)
      have f15 : rg 1 100 p2 := rg_w (rg_le f14 rgc_100 g13.2).1 (th_leI rfl) (th_leI rfl)
      refine lv_aload_n hx hb dX12_fled_25 rfl (lv_at hl 0 rfl) ?_
      obtain ⟨q16, r16, t16⟩ : ∃ q, gr h0 12 = some q ∧ τ q = 50 := (thI_12 hH t_h0).2.2.2.2.2.2.2.2.2.2.2.2.1
      refine th_get (ci := 11) (v := .ref q16) (T := TX12) (C := RX12) (N := 38) hx hb hts (fun w h => List.mem_cons_of_mem _ (List.mem_append_right _ h)) hown hK hH t_h0 (th_nz rfl) (thE_12 _ _ _) rfl 12 (th_ltN rfl) (hts (.fieldLink RX12 40 "BayMooringsModel" "buoyOf" "[I") (List.mem_cons_of_mem _ (List.mem_append_left _ (List.mem_append_left _ (List.mem_of_getElem? (i := 1) rfl))))) (fun _ h9 => h9) (th_fR r16 rfl) dX12_fled_26 ?_
      refine lv_iload_n hx hb dX12_fled_29 rfl (lv_at hl 1 rfl) ?_
      refine th_iald hx hb hK hH t16 (th_nz rfl) 0 (thE_50 _ _ _) rfl (rg_in (n := 16) f8 (th_leI rfl) (th_ltI rfl)) dX12_fled_30 ?_
      refine lv_topi (fun x17 e17 => ?_)
      have f17 : rg (-1) 11 x17 := rg_e e17 ((thI_50 hH t16) _ (rg_cl (n := 16) f8 (th_leI rfl) (th_ltI rfl)))
      refine lv_if_ge (tgt := 41) hx hb dX12_fled_31 (th_eqI rfl) (fun c18 => ?_) (fun c18 => ?_)
      · skip
        have f19 : rg 0 11 x17 := rg_w (rg_le rgc_0 f17 c18).2 (th_leI rfl) (th_leI rfl)
        refine lv_aload_n hx hb dX12_fled_41 rfl (lv_at hl 0 rfl) ?_
        refine lv_iload_n hx hb dX12_fled_42 rfl (lv_at hl 2 rfl) ?_
        have hA20 := th_Asub (τ := τ) hS
        refine va_calli (va_runV (As := [.int p2]) (rest := []) ⟨hx, hb, hml, hown, hts⟩ (k_X12_flee l D cA Z τ gi gr _ h0 t_h0 p2) (cwV 1 hts gX12_fled_X12_flee rfl rfl rfl hd_X12_flee__1 ⟨Nat.le_of_ble_eq_true rfl, Nat.le_of_ble_eq_true rfl⟩) ⟨th_blind, tr_12 hK hH t_h0, (th_pre hH hK hN hZ hS hA20)⟩ rfl rfl hl.1 rfl (lv_room (Nat.le_of_ble_eq_true rfl)) dX12_fled_43 ⟨Nat.le_of_ble_eq_true rfl, Nat.le_of_ble_eq_true rfl⟩) hS (fun q _ h => hA20 q h) hA20 (fun x21 u t H locs ht hvm hw21 hB hz1 hk1 hS => ?_)
        try dsimp only at hw21 hB
        rw [ht] at hB
        have hH := hB
        obtain ⟨gi21, gr21⟩ := u
        try dsimp only at hw21 hH
        obtain rfl : gr = gr21 := (hw21.2.1).symm
        have hM := hM.tr hw21.1 (fun _ h => h) (th_sub rfl)
        have e22 : x17 = gi21 q16 (p1.toNatClampNeg) := Eq.trans e17 (Eq.symm (hw21.1 q16 (p1.toNatClampNeg) (th_nzE t16 rfl) (th_nmE (key := 5000) t16 rfl rfl)).1)
        refine lv_istore_n (i := 3) (lv' := [(3, .int x21), (0, .ref h0), (1, .int p1), (2, .int p2)]) hx hb dX12_fled_46 rfl hl (th_ltN rfl) rfl (fun ls hl => ?_)
        refine lv_aload_n hx hb dX12_fled_47 rfl (lv_at hl 1 rfl) ?_
        obtain ⟨q23, r23, t23⟩ : ∃ q, gr h0 37 = some q ∧ τ q = 68 := (thI_12 hH t_h0).2.2.2.2.2.2.2.2.2.2.2.2.2.2.2.2.2.2.2.2.2.2.2.2.2.2.2.2.2.2.2.2.2
        refine th_get (ci := 11) (v := .ref q23) (T := TX12) (C := RX12) (N := 38) hx hb hts (fun w h => List.mem_cons_of_mem _ (List.mem_append_right _ h)) hown hK hH t_h0 (th_nz rfl) (thE_12 _ _ _) rfl 37 (th_ltN rfl) (hts (.fieldLink RX12 105 "BayMooringsModel" "then" "[I") (List.mem_cons_of_mem _ (List.mem_append_left _ (List.mem_append_left _ (List.mem_of_getElem? (i := 3) rfl))))) (fun _ h9 => h9) (th_fR r23 rfl) dX12_fled_48 ?_
        refine lv_iload_n hx hb dX12_fled_51 rfl (lv_at hl 2 rfl) ?_
        refine th_iald hx hb hK hH t23 (th_nz rfl) 0 (thE_68 _ _ _) rfl (rg_in (n := 16) f8 (th_leI rfl) (th_ltI rfl)) dX12_fled_52 ?_
        refine lv_topi (fun x24 e24 => ?_)
        have f24 : rg (-1) 11 x24 := rg_e e24 ((thI_68 hH t23) _ (rg_cl (n := 16) f8 (th_leI rfl) (th_ltI rfl)))
        exact W.iret (v := x24) hx hb hr (fun t ht hW => ⟨⟨x24, (gi21, gr), rfl, ⟨hM, rfl, (hF.trans (by simp only [↓reduceIte, F_X12_fled, hw4.2.2, eq_false c5, hw10.2.2.1, eq_false c11, r16, Option.getD_some, ← e17, eq_true c18, hw21.2.2, r23, ← e24]))⟩, th_Ht ht hH⟩, hS.F ht⟩) hS.2.2 dX12_fled_53
      · skip
        have f25 : rg (-1) (-1) x17 := rg_w (rg_nle rgc_0 f17 c18).2 (th_leI rfl) (th_leI rfl)
        refine lv_aload_n hx hb dX12_fled_34 rfl (lv_at hl 0 rfl) ?_
        refine lv_ldc (v := (-1000003)) hx hb hown (hts (.constant RX12 186 (-1000003)) (List.mem_cons_of_mem _ (List.mem_append_left _ (List.mem_append_left _ (List.mem_of_getElem? (i := 2) rfl))))) dX12_fled_35 ?_
        have hA26 := th_Asub (τ := τ) hS
        refine va_calli (va_runV (As := [.int (-1000003)]) (rest := []) ⟨hx, hb, hml, hown, hts⟩ (k_X12_finding l D cA Z τ gi gr _ h0 t_h0 (-1000003) (rg_w rgc_m1000003 (th_leI rfl) (th_leI rfl))) (cwV 1 hts gX12_fled_X12_finding rfl rfl rfl hd_X12_finding__1 ⟨Nat.le_of_ble_eq_true rfl, Nat.le_of_ble_eq_true rfl⟩) ⟨th_blind, tr_12 hK hH t_h0, (th_pre hH hK hN hZ hS hA26)⟩ rfl rfl hl.1 rfl (lv_room (Nat.le_of_ble_eq_true rfl)) dX12_fled_37 ⟨Nat.le_of_ble_eq_true rfl, Nat.le_of_ble_eq_true rfl⟩) hS (fun q _ h => hA26 q h) hA26 (fun x27 u t H locs ht hvm hw27 hB hz1 hk1 hS => ?_)
        try dsimp only at hw27 hB
        rw [ht] at hB
        have hH := hB
        obtain ⟨gi27, gr27⟩ := u
        try dsimp only at hw27 hH
        obtain rfl : gr = gr27 := (hw27.2.1).symm
        have hM := hM.tr hw27.1 (fun _ h => h) (th_sub rfl)
        have e28 : x17 = gi27 q16 (p1.toNatClampNeg) := Eq.trans e17 (Eq.symm (hw27.1 q16 (p1.toNatClampNeg) (th_nzE t16 rfl) (th_nmE (key := 5000) t16 rfl rfl)).1)
        exact W.iret (v := x27) hx hb hr (fun t ht hW => ⟨⟨x27, (gi27, gr), rfl, ⟨hM, rfl, (hF.trans (by simp only [↓reduceIte, F_X12_fled, hw4.2.2, eq_false c5, hw10.2.2.1, eq_false c11, r16, Option.getD_some, ← e17, eq_false c18, hw27.2.2.1]))⟩, th_Ht ht hH⟩, hS.F ht⟩) hS.2.2 dX12_fled_40
    · skip
      have f29 : rg 0 0 x10 := rg_w (rg_eq hw10.1 rgc_0 c11).1 (th_leI rfl) (th_leI rfl)
      exact J18 gi _ _ _ hH hS hM (lv_sub hl [0] rfl) (hF.trans (by simp only [↓reduceIte, F_X12_fled, hw4.2.2, eq_false c5, hw10.2.2.1, eq_true c11]))

noncomputable def F_X12_rate (τ : th_t) (Z : th_Zt) (gi : th_i) (gr : th_r) (h0 : Nat) (p1 : Int32) : Int32 × th_i :=
  let wt0 : Int32 := gi h0 23
  let x2 : Int32 := F_X12_within τ Z gi gr p1 0 100
  if x2 = (0 : Int32) then (
    let u13 : Int32 × th_i := F_X12_finding τ Z gi gr h0 (-1000001)
    let x13 : Int32 := u13.1
    let gi13 : th_i := u13.2
    (x13, gi13)) else (
    let gi9 : th_i := va_up gi h0 (upd (gi h0) 23 p1)
    (wt0, gi9))
set_option maxHeartbeats 8000000 in
set_option maxRecDepth 100000 in
theorem k_X12_rate (l : Launch) (D : va_G) (cA : Nat → ClassId) (Z : th_Zt) (τ : th_t) (gi : th_i) (gr : th_r) (sz : Nat) (h0 : Nat) (t_h0 : τ h0 = 12) (p1 : Int32) : Met l yX12_rate wsX12_rate ({ frames := 1, cells := 0, slots := 0, locals := 22 }) (va_Pc [.ref h0, .int p1] (th_Pre D cA Z τ gi gr sz)) (va_Qi (fun (r : Int32) (u : th_i × th_r) => th_Mod [1223, 5900] τ gi gr u.1 u.2 ∧ u.2 = gr ∧ (F_X12_rate τ Z gi gr h0 p1 = (r, u.1)) ∧ (se_post 0 100 (gi h0 23) (u.1 h0 23) p1 r)) (fun (u : th_i × th_r) t => th_H D cA τ u.1 u.2 t.heap) (th_A τ sz)) 0 0 (th_A τ sz) := by
  refine Met.ofW (cc := cX12_rate) (maxL := 3) (ret := (some .int)) (by decide) rfl ?_
  intro p e s m args below meth c s₁ B hml hv
  obtain ⟨rfl, hsz, hH, hK, hN, hZ⟩ := hv
  have hx := B.exec
  have hb := B.bytes
  have hr := B.returns
  have hts := atoms_spec (ws := wsX12_rate) B.pre
  have hown : s.vm.findClass RX12 = some m.cls := findClass_of_methodNamed B.named
  have hlocks := B.notSynchronized
  subst hsz
  have hM : th_Mod [1223, 5900] τ gi gr gi gr := th_Mod.rf
  have hS : va_S (th_A τ s.heap.size) s.heap s.heap [] := va_S.rf
  have hl := lv_entry ([.ref h0, .int p1]) (n := 3) (Nat.le_of_ble_eq_true rfl)
  rw [lg_entry_eq]
  generalize (lg_sl ([.ref h0, .int p1]) ++ List.replicate (3 - (lg_sl ([.ref h0, .int p1])).length) Slot.unset).toArray = ls at hl ⊢
  have hl : lv_has ls 3 [(0, .ref h0), (1, .int p1)] := hl
  obtain ⟨wt0, ewt0⟩ : ∃ y : Int32, y = gi h0 23 := ⟨_, rfl⟩
  have hF : F_X12_rate τ Z gi gr h0 p1 = F_X12_rate τ Z gi gr h0 p1 := rfl
  refine lv_iload_n hx hb dX12_rate_0 rfl (lv_at hl 1 rfl) ?_
  refine lv_iconst (v := 0) hx hb dX12_rate_1 ic_0 ?_
  refine lv_bipush (v := 100) hx hb dX12_rate_2 bp_100 ?_
  have hA1 := th_Asub (τ := τ) hS
  refine va_calli (va_runS (As := [.int p1, .int 0, .int 100]) (rest := []) ⟨hx, hb, hml, hown, hts⟩ (k_X12_within l D cA Z τ gi gr _ p1 0 100) (va_cwS 3 hts gX12_rate_X12_within rfl rfl rfl (by decide +kernel) ⟨Nat.le_of_ble_eq_true rfl, Nat.le_of_ble_eq_true rfl⟩) ⟨th_blind, (th_pre hH hK hN hZ hS hA1)⟩ rfl rfl hl.1 rfl (lv_room (Nat.le_of_ble_eq_true rfl)) dX12_rate_4 ⟨Nat.le_of_ble_eq_true rfl, Nat.le_of_ble_eq_true rfl⟩) hS (fun q _ h => hA1 q h) hA1 (fun x2 u t H locs ht hvm hw2 hB hz1 hk1 hS => ?_)
  try dsimp only at hw2 hB
  rw [ht] at hB
  have hH := hB
  refine lv_if_ne (tgt := 17) hx hb dX12_rate_7 (th_eqI rfl) (fun c3 => ?_) (fun c3 => ?_)
  · skip
    have f4 : rg 1 1 x2 := rg_w (rg_neL hw2.1 rgc_0 c3) (th_leI rfl) (th_leI rfl)
    have g5 := hw2.2.1 c3
    have f6 : rg 0 2147483647 p1 := rg_w (rg_le rgc_0 (rg_any p1) g5.1).2 (th_leI rfl) (th_leI rfl)
    have f7 : rg 0 100 p1 := rg_w (rg_le f6 rgc_100 g5.2).1 (th_leI rfl) (th_leI rfl)
    refine lv_aload_n hx hb dX12_rate_17 rfl (lv_at hl 0 rfl) ?_
    refine th_get (ci := 11) (v := .int wt0) (T := TX12) (C := RX12) (N := 38) hx hb hts (fun w h => List.mem_cons_of_mem _ (List.mem_append_right _ h)) hown hK hH t_h0 (th_nz rfl) (thE_12 _ _ _) rfl 23 (th_ltN rfl) (hts (.fieldLink RX12 71 "BayMooringsModel" "rate" "I") (List.mem_cons_of_mem _ (List.mem_append_left _ (List.mem_of_getElem? (i := 1) rfl)))) (fun _ h9 => h9) (th_fI ewt0 rfl) dX12_rate_18 ?_
    refine lv_istore_n (i := 2) (lv' := [(2, .int wt0), (0, .ref h0), (1, .int p1)]) hx hb dX12_rate_21 rfl hl (th_ltN rfl) rfl (fun ls hl => ?_)
    refine lv_aload_n hx hb dX12_rate_22 rfl (lv_at hl 1 rfl) ?_
    refine lv_iload_n hx hb dX12_rate_23 rfl (lv_at hl 2 rfl) ?_
    refine th_put (ci := 11) (v := .int p1) (T := TX12) (C := RX12) (N := 38) (ty := .int) (gi' := va_up gi h0 (upd (gi h0) 23 p1)) (gr' := gr) hx hb hts (fun w h => List.mem_cons_of_mem _ (List.mem_append_right _ h)) tyX12 tyX12_ok nmX12 hown hK hH hS t_h0 (th_nz rfl) (Or.inl (th_nzE t_h0 rfl)) rfl rfl 23 (th_ltN rfl) (hts (.fieldLink RX12 71 "BayMooringsModel" "rate" "I") (List.mem_cons_of_mem _ (List.mem_append_left _ (List.mem_of_getElem? (i := 1) rfl)))) (fun _ h9 => h9) rfl (by decide +kernel) rfl rfl (Nat.le_of_ble_eq_true rfl) (by rw [va_up_self]; rfl) (by rw [va_up_self]; show rg 0 12 (gi h0 0) ∧ (∃ q, gr h0 1 = some q ∧ τ q = 40) ∧ (∃ q, gr h0 2 = some q ∧ τ q = 41) ∧ (∃ q, gr h0 3 = some q ∧ τ q = 42) ∧ (∃ q, gr h0 4 = some q ∧ τ q = 43) ∧ (∃ q, gr h0 5 = some q ∧ τ q = 44) ∧ (∃ q, gr h0 6 = some q ∧ τ q = 45) ∧ (∃ q, gr h0 7 = some q ∧ τ q = 46) ∧ rg 0 16 (gi h0 8) ∧ (∃ q, gr h0 9 = some q ∧ τ q = 47) ∧ (∃ q, gr h0 10 = some q ∧ τ q = 48) ∧ (∃ q, gr h0 11 = some q ∧ τ q = 49) ∧ (∃ q, gr h0 12 = some q ∧ τ q = 50) ∧ (∃ q, gr h0 13 = some q ∧ τ q = 51) ∧ (∃ q, gr h0 15 = some q ∧ τ q = 52) ∧ (∃ q, gr h0 16 = some q ∧ τ q = 53) ∧ rg 0 10 (gi h0 17) ∧ (∃ q, gr h0 18 = some q ∧ τ q = 54) ∧ (∃ q, gr h0 19 = some q ∧ τ q = 55) ∧ (∃ q, gr h0 21 = some q ∧ τ q = 56) ∧ (∃ q, gr h0 22 = some q ∧ τ q = 57) ∧ rg 0 24 (gi h0 24) ∧ (∃ q, gr h0 25 = some q ∧ τ q = 58) ∧ (∃ q, gr h0 26 = some q ∧ τ q = 59) ∧ rg 0 5 (gi h0 27) ∧ (∃ q, gr h0 28 = some q ∧ τ q = 60) ∧ (∃ q, gr h0 29 = some q ∧ τ q = 61) ∧ (∃ q, gr h0 30 = some q ∧ τ q = 62) ∧ (∃ q, gr h0 31 = some q ∧ τ q = 63) ∧ (∃ q, gr h0 32 = some q ∧ τ q = 64) ∧ (∃ q, gr h0 34 = some q ∧ τ q = 65) ∧ (∃ q, gr h0 35 = some q ∧ τ q = 66) ∧ (∃ q, gr h0 36 = some q ∧ τ q = 67) ∧ (∃ q, gr h0 37 = some q ∧ τ q = 68); exact ⟨(thI_12 hH t_h0).1, (thI_12 hH t_h0).2.1, (thI_12 hH t_h0).2.2.1, (thI_12 hH t_h0).2.2.2.1, (thI_12 hH t_h0).2.2.2.2.1, (thI_12 hH t_h0).2.2.2.2.2.1, (thI_12 hH t_h0).2.2.2.2.2.2.1, (thI_12 hH t_h0).2.2.2.2.2.2.2.1, (thI_12 hH t_h0).2.2.2.2.2.2.2.2.1, (thI_12 hH t_h0).2.2.2.2.2.2.2.2.2.1, (thI_12 hH t_h0).2.2.2.2.2.2.2.2.2.2.1, (thI_12 hH t_h0).2.2.2.2.2.2.2.2.2.2.2.1, (thI_12 hH t_h0).2.2.2.2.2.2.2.2.2.2.2.2.1, (thI_12 hH t_h0).2.2.2.2.2.2.2.2.2.2.2.2.2.1, (thI_12 hH t_h0).2.2.2.2.2.2.2.2.2.2.2.2.2.2.1, (thI_12 hH t_h0).2.2.2.2.2.2.2.2.2.2.2.2.2.2.2.1, (thI_12 hH t_h0).2.2.2.2.2.2.2.2.2.2.2.2.2.2.2.2.1, (thI_12 hH t_h0).2.2.2.2.2.2.2.2.2.2.2.2.2.2.2.2.2.1, (thI_12 hH t_h0).2.2.2.2.2.2.2.2.2.2.2.2.2.2.2.2.2.2.1, (thI_12 hH t_h0).2.2.2.2.2.2.2.2.2.2.2.2.2.2.2.2.2.2.2.1, (thI_12 hH t_h0).2.2.2.2.2.2.2.2.2.2.2.2.2.2.2.2.2.2.2.2.1, (thI_12 hH t_h0).2.2.2.2.2.2.2.2.2.2.2.2.2.2.2.2.2.2.2.2.2.1, (thI_12 hH t_h0).2.2.2.2.2.2.2.2.2.2.2.2.2.2.2.2.2.2.2.2.2.2.1, (thI_12 hH t_h0).2.2.2.2.2.2.2.2.2.2.2.2.2.2.2.2.2.2.2.2.2.2.2.1, (thI_12 hH t_h0).2.2.2.2.2.2.2.2.2.2.2.2.2.2.2.2.2.2.2.2.2.2.2.2.1, (thI_12 hH t_h0).2.2.2.2.2.2.2.2.2.2.2.2.2.2.2.2.2.2.2.2.2.2.2.2.2.1, (thI_12 hH t_h0).2.2.2.2.2.2.2.2.2.2.2.2.2.2.2.2.2.2.2.2.2.2.2.2.2.2.1, (thI_12 hH t_h0).2.2.2.2.2.2.2.2.2.2.2.2.2.2.2.2.2.2.2.2.2.2.2.2.2.2.2.1, (thI_12 hH t_h0).2.2.2.2.2.2.2.2.2.2.2.2.2.2.2.2.2.2.2.2.2.2.2.2.2.2.2.2.1, (thI_12 hH t_h0).2.2.2.2.2.2.2.2.2.2.2.2.2.2.2.2.2.2.2.2.2.2.2.2.2.2.2.2.2.1, (thI_12 hH t_h0).2.2.2.2.2.2.2.2.2.2.2.2.2.2.2.2.2.2.2.2.2.2.2.2.2.2.2.2.2.2.1, (thI_12 hH t_h0).2.2.2.2.2.2.2.2.2.2.2.2.2.2.2.2.2.2.2.2.2.2.2.2.2.2.2.2.2.2.2.1, (thI_12 hH t_h0).2.2.2.2.2.2.2.2.2.2.2.2.2.2.2.2.2.2.2.2.2.2.2.2.2.2.2.2.2.2.2.2.1, (thI_12 hH t_h0).2.2.2.2.2.2.2.2.2.2.2.2.2.2.2.2.2.2.2.2.2.2.2.2.2.2.2.2.2.2.2.2.2⟩) (fun b hb => ⟨va_up_ne _ _ hb, rfl⟩) dX12_rate_24 (fun H locs hH hS => ?_)
    obtain ⟨gi9, eg9⟩ : ∃ g, g = va_up gi h0 (upd (gi h0) 23 p1) := ⟨_, rfl⟩
    rw [← eg9] at hH
    have hu9 : gi9 h0 23 = p1 := (th_uI eg9).1
    have ho9 : ∀ b j, b ≠ h0 ∨ j ≠ 23 → gi9 b j = gi b j := (th_uI eg9).2
    have hM := hM.i t_h0 (th_mem (a := 1223) rfl) ho9
    refine lv_iload_n hx hb dX12_rate_27 rfl (lv_at hl 0 rfl) ?_
    exact W.iret (v := wt0) hx hb hr (fun t ht hW => ⟨⟨wt0, (gi9, gr), rfl, ⟨hM, rfl, (hF.trans (by simp only [↓reduceIte, F_X12_rate, ← ewt0, hw2.2.2.1, eq_false c3, ← eg9])), (se_yes f7 ((rfl).trans ewt0) (hu9.symm.symm.trans rfl))⟩, th_Ht ht hH⟩, hS.F ht⟩) hS.2.2 dX12_rate_28
  · skip
    have f11 : rg 0 0 x2 := rg_w (rg_eq hw2.1 rgc_0 c3).1 (th_leI rfl) (th_leI rfl)
    refine lv_aload_n hx hb dX12_rate_10 rfl (lv_at hl 0 rfl) ?_
    refine lv_ldc (v := (-1000001)) hx hb hown (hts (.constant RX12 119 (-1000001)) (List.mem_cons_of_mem _ (List.mem_append_left _ (List.mem_of_getElem? (i := 0) rfl)))) dX12_rate_11 ?_
    have hA12 := th_Asub (τ := τ) hS
    refine va_calli (va_runV (As := [.int (-1000001)]) (rest := []) ⟨hx, hb, hml, hown, hts⟩ (k_X12_finding l D cA Z τ gi gr _ h0 t_h0 (-1000001) (rg_w rgc_m1000001 (th_leI rfl) (th_leI rfl))) (cwV 1 hts gX12_rate_X12_finding rfl rfl rfl hd_X12_finding__1 ⟨Nat.le_of_ble_eq_true rfl, Nat.le_of_ble_eq_true rfl⟩) ⟨th_blind, tr_12 hK hH t_h0, (th_pre hH hK hN hZ hS hA12)⟩ rfl rfl hl.1 rfl (lv_room (Nat.le_of_ble_eq_true rfl)) dX12_rate_13 ⟨Nat.le_of_ble_eq_true rfl, Nat.le_of_ble_eq_true rfl⟩) hS (fun q _ h => hA12 q h) hA12 (fun x13 u t H locs ht hvm hw13 hB hz1 hk1 hS => ?_)
    try dsimp only at hw13 hB
    rw [ht] at hB
    have hH := hB
    obtain ⟨gi13, gr13⟩ := u
    try dsimp only at hw13 hH
    obtain rfl : gr = gr13 := (hw13.2.1).symm
    have hM := hM.tr hw13.1 (fun _ h => h) (th_sub rfl)
    have e14 : wt0 = gi13 h0 23 := Eq.trans ewt0 (Eq.symm (hw13.1 h0 23 (th_nzE t_h0 rfl) (th_nmE (key := 1223) t_h0 rfl rfl)).1)
    exact W.iret (v := x13) hx hb hr (fun t ht hW => ⟨⟨x13, (gi13, gr), rfl, ⟨hM, rfl, (hF.trans (by simp only [↓reduceIte, F_X12_rate, ← ewt0, hw2.2.2.1, eq_true c3, hw13.2.2.1])), (se_no (fun h8 => (hw2.2.2.2 c3) (rg_iw (by decide) (by decide) h8)) (hw13.2.2.2.trans (by decide)) (e14.symm.trans ((rfl).trans ewt0)))⟩, th_Ht ht hH⟩, hS.F ht⟩) hS.2.2 dX12_rate_16

noncomputable def f_X12_dues_31 (τ : th_t) (Z : th_Zt) (gi : th_i) (gr : th_r) (h0 : Nat) (y4_1 : Int32) (y4_2 : Int32) (k_4 : Int32 → Int32 → Int32) (z31_1 : Int32) : Int32 :=
  let w31_0 : Int32 := gi h0 8
  let x1 : Int32 := y4_1 + z31_1
  let x2 : Int32 := y4_2 + 1
  k_4 x1 x2
noncomputable def f_X12_dues_4 (τ : th_t) (Z : th_Zt) (gi : th_i) (gr : th_r) (h0 : Nat) : Nat → Int32 → Int32 → Int32
  | 0, y4_1, y4_2 => 0
  | n4 + 1, y4_1, y4_2 =>
    let x3 : Int32 := gi h0 8
    if x3 ≤ y4_2 then (
      y4_1) else (
      let q7 : Nat := (gr h0 12).getD 0
      let x8 : Int32 := gi q7 y4_2.toNatClampNeg
      if (0 : Int32) ≤ x8 then (
        let x12 : Int32 := F_X12_duesOf τ Z gi gr h0 y4_2
        f_X12_dues_31 τ Z gi gr h0 y4_1 y4_2 (f_X12_dues_4 τ Z gi gr h0 n4) x12) else (
        f_X12_dues_31 τ Z gi gr h0 y4_1 y4_2 (f_X12_dues_4 τ Z gi gr h0 n4) 0))
noncomputable def F_X12_dues (τ : th_t) (Z : th_Zt) (gi : th_i) (gr : th_r) (h0 : Nat) : Int32 :=
  f_X12_dues_4 τ Z gi gr h0 ((16 - (0 : Int32).toInt).toNat + 1) 0 0
set_option maxHeartbeats 8000000 in
set_option maxRecDepth 100000 in
theorem k_X12_dues (l : Launch) (D : va_G) (cA : Nat → ClassId) (Z : th_Zt) (τ : th_t) (gi : th_i) (gr : th_r) (sz : Nat) (h0 : Nat) (t_h0 : τ h0 = 12) : Met l yX12_dues wsX12_dues ({ frames := 1, cells := 0, slots := 0, locals := 22 }) (va_Pc [.ref h0] (th_Pre D cA Z τ gi gr sz)) (va_Qi (fun (r : Int32) (_ : Unit) => (F_X12_dues τ Z gi gr h0 = r)) (fun (_ : Unit) t => th_H D cA τ gi gr t.heap) (th_A τ sz)) 0 0 (th_A τ sz) := by
  refine Met.ofW (cc := cX12_dues) (maxL := 3) (ret := (some .int)) (by decide) rfl ?_
  intro p e s m args below meth c s₁ B hml hv
  obtain ⟨rfl, hsz, hH, hK, hN, hZ⟩ := hv
  have hx := B.exec
  have hb := B.bytes
  have hr := B.returns
  have hts := atoms_spec (ws := wsX12_dues) B.pre
  have hown : s.vm.findClass RX12 = some m.cls := findClass_of_methodNamed B.named
  have hlocks := B.notSynchronized
  subst hsz
  have J4 : ∀ (n4 : Nat) (H : Heap) (locs : List Loc) (ls : Array Slot) (y4_1 : Int32) (y4_2 : Int32), (16 - y4_2.toInt).toNat < n4 → th_H D cA τ gi gr H → va_S (th_A τ s.heap.size) s.heap H locs → lv_has ls 3 [(0, .ref h0), (1, .int y4_1), (2, .int y4_2)] → rg 0 16 y4_2 → F_X12_dues τ Z gi gr h0 = f_X12_dues_4 τ Z gi gr h0 n4 y4_1 y4_2 → W p l e (headSpec wsX12_dues ({ frames := 1, cells := 0, slots := 0, locals := 22 })).room s m [.ref h0].toArray below meth c H locs 0 0 (MQ below (va_Qi (fun (r : Int32) (_ : Unit) => (F_X12_dues τ Z gi gr h0 = r)) (fun (_ : Unit) t => th_H D cA τ gi gr t.heap) (th_A τ s.heap.size)) [.ref h0].toArray s 0 0 (th_A τ s.heap.size)) (F0 m 4 ls []) := by
    intro n4
    induction n4 with
    | zero =>
      intro H locs ls y4_1 y4_2 hn
      exact absurd hn (Nat.not_lt_zero _)
    | succ n4 ih4 =>
      intro H locs ls y4_1 y4_2 hn4 hH hS hl fy4_2 hF
      have J31 : ∀ (H : Heap) (locs : List Loc) (ls : Array Slot) (z31_1 : Int32) (w31_0 : Int32), th_H D cA τ gi gr H → va_S (th_A τ s.heap.size) s.heap H locs → lv_has ls 3 [(0, .ref h0), (2, .int y4_2)] → rg 0 15 y4_2 → w31_0 = gi h0 8 → rg 1 16 w31_0 → F_X12_dues τ Z gi gr h0 = f_X12_dues_31 τ Z gi gr h0 y4_1 y4_2 (f_X12_dues_4 τ Z gi gr h0 n4) z31_1 → W p l e (headSpec wsX12_dues ({ frames := 1, cells := 0, slots := 0, locals := 22 })).room s m [.ref h0].toArray below meth c H locs 0 0 (MQ below (va_Qi (fun (r : Int32) (_ : Unit) => (F_X12_dues τ Z gi gr h0 = r)) (fun (_ : Unit) t => th_H D cA τ gi gr t.heap) (th_A τ s.heap.size)) [.ref h0].toArray s 0 0 (th_A τ s.heap.size)) (F0 m 31 ls [.int z31_1, .int y4_1]) := by
        intro H locs ls z31_1 w31_0 hH hS hl fy31_2 ew31_0 fw31_0 hF
        refine lv_iadd hx hb dX12_dues_31 ?_
        refine lv_topi (fun x1 e1 => ?_)
        refine lv_istore_n (i := 1) (lv' := [(1, .int x1), (0, .ref h0), (2, .int y4_2)]) hx hb dX12_dues_32 rfl hl (th_ltN rfl) rfl (fun ls hl => ?_)
        obtain ⟨x2, e2⟩ : ∃ y : Int32, y = y4_2 + 1 := ⟨_, rfl⟩
        have f2 : rg 1 16 x2 := rg_e e2 (rg_w (rg_add fy31_2 rgc_1 (th_leI rfl) (th_leI rfl)) (th_leI rfl) (th_leI rfl))
        refine lv_iinc (v := x2) (lv' := [(2, .int x2), (1, .int x1), (0, .ref h0)]) hx hb dX12_dues_33 hl (k := 2) rfl (by rw [e2]; rfl) (th_ltN rfl) rfl (fun ls hl => ?_)
        refine lv_goto (tgt := 4) hx hb dX12_dues_36 (th_eqI rfl) ?_
        exact ih4 _ _ _ x1 x2 (th_up (rg_dA e2 fy31_2 rgc_1 (th_leI rfl) (th_leI rfl)) fy31_2 hn4 (th_ltI rfl)) hH hS (lv_sub hl [2, 1, 0] rfl) (rg_w f2 (th_leI rfl) (th_leI rfl)) (hF.trans (by simp only [f_X12_dues_31, ← ew31_0, ← e1, ← e2]))
      refine lv_iload_n hx hb dX12_dues_4 rfl (lv_at hl 2 rfl) ?_
      refine lv_aload_n hx hb dX12_dues_5 rfl (lv_at hl 0 rfl) ?_
      obtain ⟨x3, e3⟩ : ∃ y : Int32, y = gi h0 8 := ⟨_, rfl⟩
      refine th_get (ci := 11) (v := .int x3) (T := TX12) (C := RX12) (N := 38) hx hb hts (fun w h => List.mem_cons_of_mem _ (List.mem_append_right _ h)) hown hK hH t_h0 (th_nz rfl) (thE_12 _ _ _) rfl 8 (th_ltN rfl) (hts (.fieldLink RX12 116 "BayMooringsModel" "boats" "I") (List.mem_cons_of_mem _ (List.mem_append_left _ (List.mem_of_getElem? (i := 0) rfl)))) (fun _ h9 => h9) (th_fI e3 rfl) dX12_dues_6 ?_
      have f3 : rg 0 16 x3 := rg_e e3 ((thI_12 hH t_h0).2.2.2.2.2.2.2.2.1)
      refine lv_icmp_ge (tgt := 39) hx hb dX12_dues_9 (th_eqI rfl) (fun c4 => ?_) (fun c4 => ?_)
      · skip
        refine lv_iload_n hx hb dX12_dues_39 rfl (lv_at hl 1 rfl) ?_
        exact W.iret (v := y4_1) hx hb hr (fun t ht hW => ⟨⟨y4_1, (), rfl, (hF.trans (by simp only [↓reduceIte, f_X12_dues_4, ← e3, eq_true c4])), th_Ht ht hH⟩, hS.F ht⟩) hS.2.2 dX12_dues_40
      · skip
        have f5 : rg 1 16 x3 := rg_w (rg_nle f3 fy4_2 c4).1 (th_leI rfl) (th_leI rfl)
        have f6 : rg 0 15 y4_2 := rg_w (rg_nle f3 fy4_2 c4).2 (th_leI rfl) (th_leI rfl)
        refine lv_iload_n hx hb dX12_dues_12 rfl (lv_at hl 1 rfl) ?_
        refine lv_aload_n hx hb dX12_dues_13 rfl (lv_at hl 0 rfl) ?_
        obtain ⟨q7, r7, t7⟩ : ∃ q, gr h0 12 = some q ∧ τ q = 50 := (thI_12 hH t_h0).2.2.2.2.2.2.2.2.2.2.2.2.1
        refine th_get (ci := 11) (v := .ref q7) (T := TX12) (C := RX12) (N := 38) hx hb hts (fun w h => List.mem_cons_of_mem _ (List.mem_append_right _ h)) hown hK hH t_h0 (th_nz rfl) (thE_12 _ _ _) rfl 12 (th_ltN rfl) (hts (.fieldLink RX12 40 "BayMooringsModel" "buoyOf" "[I") (List.mem_cons_of_mem _ (List.mem_append_left _ (List.mem_of_getElem? (i := 1) rfl)))) (fun _ h9 => h9) (th_fR r7 rfl) dX12_dues_14 ?_
        refine lv_iload_n hx hb dX12_dues_17 rfl (lv_at hl 2 rfl) ?_
        refine th_iald hx hb hK hH t7 (th_nz rfl) 0 (thE_50 _ _ _) rfl (rg_in (n := 16) f6 (th_leI rfl) (th_ltI rfl)) dX12_dues_18 ?_
        refine lv_topi (fun x8 e8 => ?_)
        have f8 : rg (-1) 11 x8 := rg_e e8 ((thI_50 hH t7) _ (rg_cl (n := 16) f6 (th_leI rfl) (th_ltI rfl)))
        refine lv_if_ge (tgt := 26) hx hb dX12_dues_19 (th_eqI rfl) (fun c9 => ?_) (fun c9 => ?_)
        · skip
          have f10 : rg 0 11 x8 := rg_w (rg_le rgc_0 f8 c9).2 (th_leI rfl) (th_leI rfl)
          refine lv_aload_n hx hb dX12_dues_26 rfl (lv_at hl 0 rfl) ?_
          refine lv_iload_n hx hb dX12_dues_27 rfl (lv_at hl 2 rfl) ?_
          have hA11 := th_Asub (τ := τ) hS
          refine va_calli (va_runV (As := [.int y4_2]) (rest := [.int y4_1]) ⟨hx, hb, hml, hown, hts⟩ (k_X12_duesOf l D cA Z τ gi gr _ h0 t_h0 y4_2 f6) (cwV 1 hts gX12_dues_X12_duesOf rfl rfl rfl hd_X12_duesOf__1 ⟨Nat.le_of_ble_eq_true rfl, Nat.le_of_ble_eq_true rfl⟩) ⟨th_blind, tr_12 hK hH t_h0, (th_pre hH hK hN hZ hS hA11)⟩ rfl rfl hl.1 rfl (lv_room (Nat.le_of_ble_eq_true rfl)) dX12_dues_28 ⟨Nat.le_of_ble_eq_true rfl, Nat.le_of_ble_eq_true rfl⟩) hS (fun q _ h => hA11 q h) hA11 (fun x12 u t H locs ht hvm hw12 hB hz1 hk1 hS => ?_)
          try dsimp only at hw12 hB
          rw [ht] at hB
          have hH := hB
          exact J31 _ _ _ x12 x3 hH hS (lv_sub hl [0, 2] rfl) f6 e3 f5 (hF.trans (by simp only [↓reduceIte, f_X12_dues_4, ← e3, eq_false c4, r7, Option.getD_some, ← e8, eq_true c9, hw12]))
        · skip
          have f13 : rg (-1) (-1) x8 := rg_w (rg_nle rgc_0 f8 c9).2 (th_leI rfl) (th_leI rfl)
          refine lv_iconst (v := 0) hx hb dX12_dues_22 ic_0 ?_
          refine lv_goto (tgt := 31) hx hb dX12_dues_23 (th_eqI rfl) ?_
          exact J31 _ _ _ 0 x3 hH hS (lv_sub hl [0, 2] rfl) f6 e3 f5 (hF.trans (by simp only [↓reduceIte, f_X12_dues_4, ← e3, eq_false c4, r7, Option.getD_some, ← e8, eq_false c9]))
  have hS : va_S (th_A τ s.heap.size) s.heap s.heap [] := va_S.rf
  have hl := lv_entry ([.ref h0]) (n := 3) (Nat.le_of_ble_eq_true rfl)
  rw [lg_entry_eq]
  generalize (lg_sl ([.ref h0]) ++ List.replicate (3 - (lg_sl ([.ref h0])).length) Slot.unset).toArray = ls at hl ⊢
  have hl : lv_has ls 3 [(0, .ref h0)] := hl
  have hF : F_X12_dues τ Z gi gr h0 = F_X12_dues τ Z gi gr h0 := rfl
  refine lv_iconst (v := 0) hx hb dX12_dues_0 ic_0 ?_
  refine lv_istore_n (i := 1) (lv' := [(1, .int 0), (0, .ref h0)]) hx hb dX12_dues_1 rfl hl (th_ltN rfl) rfl (fun ls hl => ?_)
  refine lv_iconst (v := 0) hx hb dX12_dues_2 ic_0 ?_
  refine lv_istore_n (i := 2) (lv' := [(2, .int 0), (1, .int 0), (0, .ref h0)]) hx hb dX12_dues_3 rfl hl (th_ltN rfl) rfl (fun ls hl => ?_)
  exact J4 _ _ _ _ 0 0 (Nat.lt_add_one _) hH hS (lv_sub hl [2, 1, 0] rfl) (rg_w rgc_0 (th_leI rfl) (th_leI rfl)) (hF.trans (by simp only [F_X12_dues]))

noncomputable def F_X12_tell (τ : th_t) (Z : th_Zt) (gi : th_i) (gr : th_r) (h0 : Nat) (p1 : Int32) : Int32 × th_i :=
  let x1 : Int32 := gi h0 24
  if x1 = (24 : Int32) then (
    let u16 : Int32 × th_i := F_X12_finding τ Z gi gr h0 (-1000004)
    let x16 : Int32 := u16.1
    let gi16 : th_i := u16.2
    (x16, gi16)) else (
    let q4 : Nat := (gr h0 25).getD 0
    let gi6 : th_i := va_up gi q4 (upd (gi q4) x1.toNatClampNeg p1)
    let x9 : Int32 := x1 + 1
    let gi10 : th_i := va_up gi6 h0 (upd (gi6 h0) 24 x9)
    (x9, gi10))
set_option maxHeartbeats 8000000 in
set_option maxRecDepth 100000 in
theorem k_X12_tell (l : Launch) (D : va_G) (cA : Nat → ClassId) (Z : th_Zt) (τ : th_t) (gi : th_i) (gr : th_r) (sz : Nat) (h0 : Nat) (t_h0 : τ h0 = 12) (p1 : Int32) : Met l yX12_tell wsX12_tell ({ frames := 1, cells := 0, slots := 0, locals := 21 }) (va_Pc [.ref h0, .int p1] (th_Pre D cA Z τ gi gr sz)) (va_Qi (fun (r : Int32) (u : th_i × th_r) => th_Mod [1224, 5800, 5900] τ gi gr u.1 u.2 ∧ u.2 = gr ∧ (F_X12_tell τ Z gi gr h0 p1 = (r, u.1))) (fun (u : th_i × th_r) t => th_H D cA τ u.1 u.2 t.heap) (th_A τ sz)) 0 0 (th_A τ sz) := by
  refine Met.ofW (cc := cX12_tell) (maxL := 2) (ret := (some .int)) (by decide) rfl ?_
  intro p e s m args below meth c s₁ B hml hv
  obtain ⟨rfl, hsz, hH, hK, hN, hZ⟩ := hv
  have hx := B.exec
  have hb := B.bytes
  have hr := B.returns
  have hts := atoms_spec (ws := wsX12_tell) B.pre
  have hown : s.vm.findClass RX12 = some m.cls := findClass_of_methodNamed B.named
  have hlocks := B.notSynchronized
  subst hsz
  have hM : th_Mod [1224, 5800, 5900] τ gi gr gi gr := th_Mod.rf
  have hS : va_S (th_A τ s.heap.size) s.heap s.heap [] := va_S.rf
  have hl := lv_entry ([.ref h0, .int p1]) (n := 2) (Nat.le_of_ble_eq_true rfl)
  rw [lg_entry_eq]
  generalize (lg_sl ([.ref h0, .int p1]) ++ List.replicate (2 - (lg_sl ([.ref h0, .int p1])).length) Slot.unset).toArray = ls at hl ⊢
  have hl : lv_has ls 2 [(0, .ref h0), (1, .int p1)] := hl
  have hF : F_X12_tell τ Z gi gr h0 p1 = F_X12_tell τ Z gi gr h0 p1 := rfl
  refine lv_aload_n hx hb dX12_tell_0 rfl (lv_at hl 0 rfl) ?_
  obtain ⟨x1, e1⟩ : ∃ y : Int32, y = gi h0 24 := ⟨_, rfl⟩
  refine th_get (ci := 11) (v := .int x1) (T := TX12) (C := RX12) (N := 38) hx hb hts (fun w h => List.mem_cons_of_mem _ (List.mem_append_right _ h)) hown hK hH t_h0 (th_nz rfl) (thE_12 _ _ _) rfl 24 (th_ltN rfl) (hts (.fieldLink RX12 243 "BayMooringsModel" "tells" "I") (List.mem_cons_of_mem _ (List.mem_append_left _ (List.mem_of_getElem? (i := 0) rfl)))) (fun _ h9 => h9) (th_fI e1 rfl) dX12_tell_1 ?_
  have f1 : rg 0 24 x1 := rg_e e1 ((thI_12 hH t_h0).2.2.2.2.2.2.2.2.2.2.2.2.2.2.2.2.2.2.2.2.2.1)
  refine lv_bipush (v := 24) hx hb dX12_tell_4 bp_24 ?_
  refine lv_icmp_ne (tgt := 16) hx hb dX12_tell_6 (th_eqI rfl) (fun c2 => ?_) (fun c2 => ?_)
  · skip
    have f3 : rg 0 23 x1 := rg_w (rg_neR f1 rgc_24 c2) (th_leI rfl) (th_leI rfl)
    refine lv_aload_n hx hb dX12_tell_16 rfl (lv_at hl 0 rfl) ?_
    obtain ⟨q4, r4, t4⟩ : ∃ q, gr h0 25 = some q ∧ τ q = 58 := (thI_12 hH t_h0).2.2.2.2.2.2.2.2.2.2.2.2.2.2.2.2.2.2.2.2.2.2.1
    refine th_get (ci := 11) (v := .ref q4) (T := TX12) (C := RX12) (N := 38) hx hb hts (fun w h => List.mem_cons_of_mem _ (List.mem_append_right _ h)) hown hK hH t_h0 (th_nz rfl) (thE_12 _ _ _) rfl 25 (th_ltN rfl) (hts (.fieldLink RX12 74 "BayMooringsModel" "told" "[I") (List.mem_cons_of_mem _ (List.mem_append_left _ (List.mem_of_getElem? (i := 2) rfl)))) (fun _ h9 => h9) (th_fR r4 rfl) dX12_tell_17 ?_
    refine lv_aload_n hx hb dX12_tell_20 rfl (lv_at hl 0 rfl) ?_
    refine th_get (ci := 11) (v := .int x1) (T := TX12) (C := RX12) (N := 38) hx hb hts (fun w h => List.mem_cons_of_mem _ (List.mem_append_right _ h)) hown hK hH t_h0 (th_nz rfl) (thE_12 _ _ _) rfl 24 (th_ltN rfl) (hts (.fieldLink RX12 243 "BayMooringsModel" "tells" "I") (List.mem_cons_of_mem _ (List.mem_append_left _ (List.mem_of_getElem? (i := 0) rfl)))) (fun _ h9 => h9) (th_fI e1 rfl) dX12_tell_21 ?_
    refine lv_iload_n hx hb dX12_tell_24 rfl (lv_at hl 1 rfl) ?_
    refine th_iast hx hb hK hH hS t4 (th_nz rfl) (Or.inl (th_nzE t4 rfl)) 0 (fun _ => thE_58 _ _ _) rfl (rg_in (n := 24) f3 (th_leI rfl) (th_ltI rfl)) (trivial) dX12_tell_25 (fun gi6 H locs hu6 ho6 hH hS => ?_)
    have eg6 : gi6 = va_up gi q4 (upd (gi q4) x1.toNatClampNeg p1) := th_upE hu6 ho6
    have e7 : x1 = gi6 h0 24 := Eq.trans e1 (Eq.symm (ho6 _ _ (Or.inl (th_ne t_h0 t4 (th_nz rfl)))))
    have hM := hM.i t4 (th_mem (a := 5800) rfl) ho6
    refine lv_aload_n hx hb dX12_tell_26 rfl (lv_at hl 0 rfl) ?_
    refine lv_dup hx hb dX12_tell_27 rfl ?_
    refine th_get (ci := 11) (v := .int x1) (T := TX12) (C := RX12) (N := 38) hx hb hts (fun w h => List.mem_cons_of_mem _ (List.mem_append_right _ h)) hown hK hH t_h0 (th_nz rfl) (thE_12 _ _ _) rfl 24 (th_ltN rfl) (hts (.fieldLink RX12 243 "BayMooringsModel" "tells" "I") (List.mem_cons_of_mem _ (List.mem_append_left _ (List.mem_of_getElem? (i := 0) rfl)))) (fun _ h9 => h9) (th_fI e7 rfl) dX12_tell_28 ?_
    refine lv_iconst (v := 1) hx hb dX12_tell_31 ic_1 ?_
    refine lv_iadd hx hb dX12_tell_32 ?_
    refine lv_topi (fun x9 e9 => ?_)
    have f9 : rg 1 24 x9 := rg_e e9 (rg_w (rg_add f3 rgc_1 (th_leI rfl) (th_leI rfl)) (th_leI rfl) (th_leI rfl))
    refine th_put (ci := 11) (v := .int x9) (T := TX12) (C := RX12) (N := 38) (ty := .int) (gi' := va_up gi6 h0 (upd (gi6 h0) 24 x9)) (gr' := gr) hx hb hts (fun w h => List.mem_cons_of_mem _ (List.mem_append_right _ h)) tyX12 tyX12_ok nmX12 hown hK hH hS t_h0 (th_nz rfl) (Or.inl (th_nzE t_h0 rfl)) rfl rfl 24 (th_ltN rfl) (hts (.fieldLink RX12 243 "BayMooringsModel" "tells" "I") (List.mem_cons_of_mem _ (List.mem_append_left _ (List.mem_of_getElem? (i := 0) rfl)))) (fun _ h9 => h9) rfl (by decide +kernel) rfl rfl (Nat.le_of_ble_eq_true rfl) (by rw [va_up_self]; rfl) (by rw [va_up_self]; show rg 0 12 (gi6 h0 0) ∧ (∃ q, gr h0 1 = some q ∧ τ q = 40) ∧ (∃ q, gr h0 2 = some q ∧ τ q = 41) ∧ (∃ q, gr h0 3 = some q ∧ τ q = 42) ∧ (∃ q, gr h0 4 = some q ∧ τ q = 43) ∧ (∃ q, gr h0 5 = some q ∧ τ q = 44) ∧ (∃ q, gr h0 6 = some q ∧ τ q = 45) ∧ (∃ q, gr h0 7 = some q ∧ τ q = 46) ∧ rg 0 16 (gi6 h0 8) ∧ (∃ q, gr h0 9 = some q ∧ τ q = 47) ∧ (∃ q, gr h0 10 = some q ∧ τ q = 48) ∧ (∃ q, gr h0 11 = some q ∧ τ q = 49) ∧ (∃ q, gr h0 12 = some q ∧ τ q = 50) ∧ (∃ q, gr h0 13 = some q ∧ τ q = 51) ∧ (∃ q, gr h0 15 = some q ∧ τ q = 52) ∧ (∃ q, gr h0 16 = some q ∧ τ q = 53) ∧ rg 0 10 (gi6 h0 17) ∧ (∃ q, gr h0 18 = some q ∧ τ q = 54) ∧ (∃ q, gr h0 19 = some q ∧ τ q = 55) ∧ (∃ q, gr h0 21 = some q ∧ τ q = 56) ∧ (∃ q, gr h0 22 = some q ∧ τ q = 57) ∧ rg 0 24 x9 ∧ (∃ q, gr h0 25 = some q ∧ τ q = 58) ∧ (∃ q, gr h0 26 = some q ∧ τ q = 59) ∧ rg 0 5 (gi6 h0 27) ∧ (∃ q, gr h0 28 = some q ∧ τ q = 60) ∧ (∃ q, gr h0 29 = some q ∧ τ q = 61) ∧ (∃ q, gr h0 30 = some q ∧ τ q = 62) ∧ (∃ q, gr h0 31 = some q ∧ τ q = 63) ∧ (∃ q, gr h0 32 = some q ∧ τ q = 64) ∧ (∃ q, gr h0 34 = some q ∧ τ q = 65) ∧ (∃ q, gr h0 35 = some q ∧ τ q = 66) ∧ (∃ q, gr h0 36 = some q ∧ τ q = 67) ∧ (∃ q, gr h0 37 = some q ∧ τ q = 68); exact ⟨(thI_12 hH t_h0).1, (thI_12 hH t_h0).2.1, (thI_12 hH t_h0).2.2.1, (thI_12 hH t_h0).2.2.2.1, (thI_12 hH t_h0).2.2.2.2.1, (thI_12 hH t_h0).2.2.2.2.2.1, (thI_12 hH t_h0).2.2.2.2.2.2.1, (thI_12 hH t_h0).2.2.2.2.2.2.2.1, (thI_12 hH t_h0).2.2.2.2.2.2.2.2.1, (thI_12 hH t_h0).2.2.2.2.2.2.2.2.2.1, (thI_12 hH t_h0).2.2.2.2.2.2.2.2.2.2.1, (thI_12 hH t_h0).2.2.2.2.2.2.2.2.2.2.2.1, (thI_12 hH t_h0).2.2.2.2.2.2.2.2.2.2.2.2.1, (thI_12 hH t_h0).2.2.2.2.2.2.2.2.2.2.2.2.2.1, (thI_12 hH t_h0).2.2.2.2.2.2.2.2.2.2.2.2.2.2.1, (thI_12 hH t_h0).2.2.2.2.2.2.2.2.2.2.2.2.2.2.2.1, (thI_12 hH t_h0).2.2.2.2.2.2.2.2.2.2.2.2.2.2.2.2.1, (thI_12 hH t_h0).2.2.2.2.2.2.2.2.2.2.2.2.2.2.2.2.2.1, (thI_12 hH t_h0).2.2.2.2.2.2.2.2.2.2.2.2.2.2.2.2.2.2.1, (thI_12 hH t_h0).2.2.2.2.2.2.2.2.2.2.2.2.2.2.2.2.2.2.2.1, (thI_12 hH t_h0).2.2.2.2.2.2.2.2.2.2.2.2.2.2.2.2.2.2.2.2.1, (rg_w f9 (th_leI rfl) (th_leI rfl)), (thI_12 hH t_h0).2.2.2.2.2.2.2.2.2.2.2.2.2.2.2.2.2.2.2.2.2.2.1, (thI_12 hH t_h0).2.2.2.2.2.2.2.2.2.2.2.2.2.2.2.2.2.2.2.2.2.2.2.1, (thI_12 hH t_h0).2.2.2.2.2.2.2.2.2.2.2.2.2.2.2.2.2.2.2.2.2.2.2.2.1, (thI_12 hH t_h0).2.2.2.2.2.2.2.2.2.2.2.2.2.2.2.2.2.2.2.2.2.2.2.2.2.1, (thI_12 hH t_h0).2.2.2.2.2.2.2.2.2.2.2.2.2.2.2.2.2.2.2.2.2.2.2.2.2.2.1, (thI_12 hH t_h0).2.2.2.2.2.2.2.2.2.2.2.2.2.2.2.2.2.2.2.2.2.2.2.2.2.2.2.1, (thI_12 hH t_h0).2.2.2.2.2.2.2.2.2.2.2.2.2.2.2.2.2.2.2.2.2.2.2.2.2.2.2.2.1, (thI_12 hH t_h0).2.2.2.2.2.2.2.2.2.2.2.2.2.2.2.2.2.2.2.2.2.2.2.2.2.2.2.2.2.1, (thI_12 hH t_h0).2.2.2.2.2.2.2.2.2.2.2.2.2.2.2.2.2.2.2.2.2.2.2.2.2.2.2.2.2.2.1, (thI_12 hH t_h0).2.2.2.2.2.2.2.2.2.2.2.2.2.2.2.2.2.2.2.2.2.2.2.2.2.2.2.2.2.2.2.1, (thI_12 hH t_h0).2.2.2.2.2.2.2.2.2.2.2.2.2.2.2.2.2.2.2.2.2.2.2.2.2.2.2.2.2.2.2.2.1, (thI_12 hH t_h0).2.2.2.2.2.2.2.2.2.2.2.2.2.2.2.2.2.2.2.2.2.2.2.2.2.2.2.2.2.2.2.2.2⟩) (fun b hb => ⟨va_up_ne _ _ hb, rfl⟩) dX12_tell_33 (fun H locs hH hS => ?_)
    obtain ⟨gi10, eg10⟩ : ∃ g, g = va_up gi6 h0 (upd (gi6 h0) 24 x9) := ⟨_, rfl⟩
    rw [← eg10] at hH
    have hu10 : gi10 h0 24 = x9 := (th_uI eg10).1
    have ho10 : ∀ b j, b ≠ h0 ∨ j ≠ 24 → gi10 b j = gi6 b j := (th_uI eg10).2
    have e12 : p1 = gi10 q4 (x1.toNatClampNeg) := Eq.trans hu6.symm (Eq.symm (ho10 _ _ (Or.inl (th_ne t4 t_h0 (th_nz rfl)))))
    have hM := hM.i t_h0 (th_mem (a := 1224) rfl) ho10
    refine lv_aload_n hx hb dX12_tell_36 rfl (lv_at hl 0 rfl) ?_
    refine th_get (ci := 11) (v := .int x9) (T := TX12) (C := RX12) (N := 38) hx hb hts (fun w h => List.mem_cons_of_mem _ (List.mem_append_right _ h)) hown hK hH t_h0 (th_nz rfl) (thE_12 _ _ _) rfl 24 (th_ltN rfl) (hts (.fieldLink RX12 243 "BayMooringsModel" "tells" "I") (List.mem_cons_of_mem _ (List.mem_append_left _ (List.mem_of_getElem? (i := 0) rfl)))) (fun _ h9 => h9) (th_fI hu10.symm rfl) dX12_tell_37 ?_
    exact W.iret (v := x9) hx hb hr (fun t ht hW => ⟨⟨x9, (gi10, gr), rfl, ⟨hM, rfl, (hF.trans (by simp only [↓reduceIte, F_X12_tell, ← e1, eq_false c2, r4, Option.getD_some, ← eg6, ← e9, ← eg10]))⟩, th_Ht ht hH⟩, hS.F ht⟩) hS.2.2 dX12_tell_40
  · skip
    have f14 : rg 24 24 x1 := rg_w (rg_eq f1 rgc_24 c2).1 (th_leI rfl) (th_leI rfl)
    refine lv_aload_n hx hb dX12_tell_9 rfl (lv_at hl 0 rfl) ?_
    refine lv_ldc (v := (-1000004)) hx hb hown (hts (.constant RX12 124 (-1000004)) (List.mem_cons_of_mem _ (List.mem_append_left _ (List.mem_of_getElem? (i := 1) rfl)))) dX12_tell_10 ?_
    have hA15 := th_Asub (τ := τ) hS
    refine va_calli (va_runV (As := [.int (-1000004)]) (rest := []) ⟨hx, hb, hml, hown, hts⟩ (k_X12_finding l D cA Z τ gi gr _ h0 t_h0 (-1000004) (rg_w rgc_m1000004 (th_leI rfl) (th_leI rfl))) (cwV 1 hts gX12_tell_X12_finding rfl rfl rfl hd_X12_finding__1 ⟨Nat.le_of_ble_eq_true rfl, Nat.le_of_ble_eq_true rfl⟩) ⟨th_blind, tr_12 hK hH t_h0, (th_pre hH hK hN hZ hS hA15)⟩ rfl rfl hl.1 rfl (lv_room (Nat.le_of_ble_eq_true rfl)) dX12_tell_12 ⟨Nat.le_of_ble_eq_true rfl, Nat.le_of_ble_eq_true rfl⟩) hS (fun q _ h => hA15 q h) hA15 (fun x16 u t H locs ht hvm hw16 hB hz1 hk1 hS => ?_)
    try dsimp only at hw16 hB
    rw [ht] at hB
    have hH := hB
    obtain ⟨gi16, gr16⟩ := u
    try dsimp only at hw16 hH
    obtain rfl : gr = gr16 := (hw16.2.1).symm
    have hM := hM.tr hw16.1 (fun _ h => h) (th_sub rfl)
    have e17 : x1 = gi16 h0 24 := Eq.trans e1 (Eq.symm (hw16.1 h0 24 (th_nzE t_h0 rfl) (th_nmE (key := 1224) t_h0 rfl rfl)).1)
    exact W.iret (v := x16) hx hb hr (fun t ht hW => ⟨⟨x16, (gi16, gr), rfl, ⟨hM, rfl, (hF.trans (by simp only [↓reduceIte, F_X12_tell, ← e1, eq_true c2, hw16.2.2.1]))⟩, th_Ht ht hH⟩, hS.F ht⟩) hS.2.2 dX12_tell_15

noncomputable def f_X12_check_16 (τ : th_t) (Z : th_Zt) (gi : th_i) (gr : th_r) (h0 : Nat) : Nat → th_i → Int32 → Int32 → Int32 × th_i
  | 0, gi_16, y16_1, y16_2 => (0, gi_16)
  | n16 + 1, gi_16, y16_1, y16_2 =>
    let w16_0 : Int32 := gi_16 h0 24
    if y16_1 ≤ y16_2 then (
      (0, gi_16)) else (
      let x4 : Int32 := gi_16 h0 8
      if x4 ≤ y16_2 then (
        let x6 : Int32 := 1 + y16_2
        (x6, gi_16)) else (
        let q9 : Nat := (gr h0 25).getD 0
        let x10 : Int32 := gi_16 q9 y16_2.toNatClampNeg
        let q11 : Nat := (gr h0 34).getD 0
        let x12 : Int32 := gi_16 q11 y16_2.toNatClampNeg
        if x10 = x12 then (
          let x15 : Int32 := y16_2 + 1
          (f_X12_check_16 τ Z gi gr h0 n16) gi_16 y16_1 x15) else (
          let x16 : Int32 := 1 + y16_2
          (x16, gi_16))))
noncomputable def F_X12_check (τ : th_t) (Z : th_Zt) (gi : th_i) (gr : th_r) (h0 : Nat) : Int32 × th_i :=
  let x17 : Int32 := gi h0 24
  let gi18 : th_i := va_up gi h0 (upd (gi h0) 24 0)
  let gi21 : th_i := F_X12_findRings τ Z gi18 gr h0
  f_X12_check_16 τ Z gi gr h0 ((16 - (0 : Int32).toInt).toNat + 1) gi21 x17 0
set_option maxHeartbeats 8000000 in
set_option maxRecDepth 100000 in
theorem k_X12_check (l : Launch) (D : va_G) (cA : Nat → ClassId) (Z : th_Zt) (τ : th_t) (gi : th_i) (gr : th_r) (sz : Nat) (h0 : Nat) (t_h0 : τ h0 = 12) : Met l yX12_check wsX12_check ({ frames := 4, cells := 0, slots := 0, locals := 95 }) (va_Pc [.ref h0] (th_Pre D cA Z τ gi gr sz)) (va_Qi (fun (r : Int32) (u : th_i × th_r) => th_Mod [1224, 6500, 6600, 6700] τ gi gr u.1 u.2 ∧ u.2 = gr ∧ (F_X12_check τ Z gi gr h0 = (r, u.1)) ∧ (u.1 h0 24 = 0)) (fun (u : th_i × th_r) t => th_H D cA τ u.1 u.2 t.heap) (th_A τ sz)) 0 0 (th_A τ sz) := by
  refine Met.ofW (cc := cX12_check) (maxL := 3) (ret := (some .int)) (by decide) rfl ?_
  intro p e s m args below meth c s₁ B hml hv
  obtain ⟨rfl, hsz, hH, hK, hN, hZ⟩ := hv
  have hx := B.exec
  have hb := B.bytes
  have hr := B.returns
  have hts := atoms_spec (ws := wsX12_check) B.pre
  have hown : s.vm.findClass RX12 = some m.cls := findClass_of_methodNamed B.named
  have hlocks := B.notSynchronized
  subst hsz
  have hM : th_Mod [1224, 6500, 6600, 6700] τ gi gr gi gr := th_Mod.rf
  have J16 : ∀ (n16 : Nat) (gi_16 : th_i) (H : Heap) (locs : List Loc) (ls : Array Slot) (y16_1 : Int32) (y16_2 : Int32) (w16_0 : Int32), (16 - y16_2.toInt).toNat < n16 → th_H D cA τ gi_16 gr H → va_S (th_A τ s.heap.size) s.heap H locs → th_Mod [1224, 6500, 6600, 6700] τ gi gr gi_16 gr → lv_has ls 3 [(0, .ref h0), (1, .int y16_1), (2, .int y16_2)] → rg 0 24 y16_1 → rg 0 16 y16_2 → w16_0 = gi_16 h0 24 → rg 0 0 w16_0 → F_X12_check τ Z gi gr h0 = f_X12_check_16 τ Z gi gr h0 n16 gi_16 y16_1 y16_2 → W p l e (headSpec wsX12_check ({ frames := 4, cells := 0, slots := 0, locals := 95 })).room s m [.ref h0].toArray below meth c H locs 0 0 (MQ below (va_Qi (fun (r : Int32) (u : th_i × th_r) => th_Mod [1224, 6500, 6600, 6700] τ gi gr u.1 u.2 ∧ u.2 = gr ∧ (F_X12_check τ Z gi gr h0 = (r, u.1)) ∧ (u.1 h0 24 = 0)) (fun (u : th_i × th_r) t => th_H D cA τ u.1 u.2 t.heap) (th_A τ s.heap.size)) [.ref h0].toArray s 0 0 (th_A τ s.heap.size)) (F0 m 16 ls []) := by
    intro n16
    induction n16 with
    | zero =>
      intro gi_16 H locs ls y16_1 y16_2 w16_0 hn
      exact absurd hn (Nat.not_lt_zero _)
    | succ n16 ih16 =>
      intro gi_16 H locs ls y16_1 y16_2 w16_0 hn16 hH hS hM hl fy16_1 fy16_2 ew16_0 fw16_0 hF
      refine lv_iload_n hx hb dX12_check_16 rfl (lv_at hl 2 rfl) ?_
      refine lv_iload_n hx hb dX12_check_17 rfl (lv_at hl 1 rfl) ?_
      refine lv_icmp_ge (tgt := 54) hx hb dX12_check_18 (th_eqI rfl) (fun c1 => ?_) (fun c1 => ?_)
      · skip
        have f2 : rg 0 16 y16_1 := rg_w (rg_le fy16_1 fy16_2 c1).1 (th_leI rfl) (th_leI rfl)
        refine lv_iconst (v := 0) hx hb dX12_check_54 ic_0 ?_
        exact W.iret (v := 0) hx hb hr (fun t ht hW => ⟨⟨0, (gi_16, gr), rfl, ⟨hM, rfl, (hF.trans (by simp only [↓reduceIte, f_X12_check_16, ← ew16_0, eq_true c1])), (ew16_0.symm.trans (rg_one fw16_0 rgc_0))⟩, th_Ht ht hH⟩, hS.F ht⟩) hS.2.2 dX12_check_55
      · skip
        have f3 : rg 1 24 y16_1 := rg_w (rg_nle fy16_1 fy16_2 c1).1 (th_leI rfl) (th_leI rfl)
        refine lv_iload_n hx hb dX12_check_21 rfl (lv_at hl 2 rfl) ?_
        refine lv_aload_n hx hb dX12_check_22 rfl (lv_at hl 0 rfl) ?_
        obtain ⟨x4, e4⟩ : ∃ y : Int32, y = gi_16 h0 8 := ⟨_, rfl⟩
        refine th_get (ci := 11) (v := .int x4) (T := TX12) (C := RX12) (N := 38) hx hb hts (fun w h => List.mem_cons_of_mem _ (List.mem_append_right _ h)) hown hK hH t_h0 (th_nz rfl) (thE_12 _ _ _) rfl 8 (th_ltN rfl) (hts (.fieldLink RX12 116 "BayMooringsModel" "boats" "I") (List.mem_cons_of_mem _ (List.mem_append_left _ (List.mem_append_left _ (List.mem_of_getElem? (i := 1) rfl))))) (fun _ h9 => h9) (th_fI e4 rfl) dX12_check_23 ?_
        have f4 : rg 0 16 x4 := rg_e e4 ((thI_12 hH t_h0).2.2.2.2.2.2.2.2.1)
        refine lv_icmp_ge (tgt := 44) hx hb dX12_check_26 (th_eqI rfl) (fun c5 => ?_) (fun c5 => ?_)
        · skip
          refine lv_iconst (v := 1) hx hb dX12_check_44 ic_1 ?_
          refine lv_iload_n hx hb dX12_check_45 rfl (lv_at hl 2 rfl) ?_
          refine lv_iadd hx hb dX12_check_46 ?_
          refine lv_topi (fun x6 e6 => ?_)
          have f6 : rg 1 17 x6 := rg_e e6 (rg_w (rg_add rgc_1 fy16_2 (th_leI rfl) (th_leI rfl)) (th_leI rfl) (th_leI rfl))
          exact W.iret (v := x6) hx hb hr (fun t ht hW => ⟨⟨x6, (gi_16, gr), rfl, ⟨hM, rfl, (hF.trans (by simp only [↓reduceIte, f_X12_check_16, ← ew16_0, eq_false c1, ← e4, eq_true c5, ← e6])), (ew16_0.symm.trans (rg_one fw16_0 rgc_0))⟩, th_Ht ht hH⟩, hS.F ht⟩) hS.2.2 dX12_check_47
        · skip
          have f7 : rg 1 16 x4 := rg_w (rg_nle f4 fy16_2 c5).1 (th_leI rfl) (th_leI rfl)
          have f8 : rg 0 15 y16_2 := rg_w (rg_nle f4 fy16_2 c5).2 (th_leI rfl) (th_leI rfl)
          refine lv_aload_n hx hb dX12_check_29 rfl (lv_at hl 0 rfl) ?_
          obtain ⟨q9, r9, t9⟩ : ∃ q, gr h0 25 = some q ∧ τ q = 58 := (thI_12 hH t_h0).2.2.2.2.2.2.2.2.2.2.2.2.2.2.2.2.2.2.2.2.2.2.1
          refine th_get (ci := 11) (v := .ref q9) (T := TX12) (C := RX12) (N := 38) hx hb hts (fun w h => List.mem_cons_of_mem _ (List.mem_append_right _ h)) hown hK hH t_h0 (th_nz rfl) (thE_12 _ _ _) rfl 25 (th_ltN rfl) (hts (.fieldLink RX12 74 "BayMooringsModel" "told" "[I") (List.mem_cons_of_mem _ (List.mem_append_left _ (List.mem_append_left _ (List.mem_of_getElem? (i := 2) rfl))))) (fun _ h9 => h9) (th_fR r9 rfl) dX12_check_30 ?_
          refine lv_iload_n hx hb dX12_check_33 rfl (lv_at hl 2 rfl) ?_
          refine th_iald hx hb hK hH t9 (th_nz rfl) 0 (thE_58 _ _ _) rfl (rg_in (n := 24) f8 (th_leI rfl) (th_ltI rfl)) dX12_check_34 ?_
          refine lv_topi (fun x10 e10 => ?_)
          refine lv_aload_n hx hb dX12_check_35 rfl (lv_at hl 0 rfl) ?_
          obtain ⟨q11, r11, t11⟩ : ∃ q, gr h0 34 = some q ∧ τ q = 65 := (thI_12 hH t_h0).2.2.2.2.2.2.2.2.2.2.2.2.2.2.2.2.2.2.2.2.2.2.2.2.2.2.2.2.2.2.1
          refine th_get (ci := 11) (v := .ref q11) (T := TX12) (C := RX12) (N := 38) hx hb hts (fun w h => List.mem_cons_of_mem _ (List.mem_append_right _ h)) hown hK hH t_h0 (th_nz rfl) (thE_12 _ _ _) rfl 34 (th_ltN rfl) (hts (.fieldLink RX12 95 "BayMooringsModel" "gets" "[I") (List.mem_cons_of_mem _ (List.mem_append_left _ (List.mem_append_left _ (List.mem_of_getElem? (i := 3) rfl))))) (fun _ h9 => h9) (th_fR r11 rfl) dX12_check_36 ?_
          refine lv_iload_n hx hb dX12_check_39 rfl (lv_at hl 2 rfl) ?_
          refine th_iald hx hb hK hH t11 (th_nz rfl) 0 (thE_65 _ _ _) rfl (rg_in (n := 16) f8 (th_leI rfl) (th_ltI rfl)) dX12_check_40 ?_
          refine lv_topi (fun x12 e12 => ?_)
          have f12 : rg (-1) 11 x12 := rg_e e12 ((thI_65 hH t11) _ (rg_cl (n := 16) f8 (th_leI rfl) (th_ltI rfl)))
          refine lv_icmp_eq (tgt := 48) hx hb dX12_check_41 (th_eqI rfl) (fun c13 => ?_) (fun c13 => ?_)
          · skip
            have f14 : rg (-1) 11 x10 := rg_w (rg_eq (rg_any x10) f12 c13).1 (th_leI rfl) (th_leI rfl)
            obtain ⟨x15, e15⟩ : ∃ y : Int32, y = y16_2 + 1 := ⟨_, rfl⟩
            have f15 : rg 1 16 x15 := rg_e e15 (rg_w (rg_add f8 rgc_1 (th_leI rfl) (th_leI rfl)) (th_leI rfl) (th_leI rfl))
            refine lv_iinc (v := x15) (lv' := [(2, .int x15), (0, .ref h0), (1, .int y16_1)]) hx hb dX12_check_48 hl (k := 2) rfl (by rw [e15]; rfl) (th_ltN rfl) rfl (fun ls hl => ?_)
            refine lv_goto (tgt := 16) hx hb dX12_check_51 (th_eqI rfl) ?_
            exact ih16 gi_16 _ _ _ y16_1 x15 w16_0 (th_up (rg_dA e15 f8 rgc_1 (th_leI rfl) (th_leI rfl)) f8 hn16 (th_ltI rfl)) hH hS hM (lv_sub hl [1, 2, 0] rfl) (rg_w f3 (th_leI rfl) (th_leI rfl)) (rg_w f15 (th_leI rfl) (th_leI rfl)) ew16_0 fw16_0 (hF.trans (by simp only [↓reduceIte, f_X12_check_16, ← ew16_0, eq_false c1, ← e4, eq_false c5, r9, Option.getD_some, ← e10, r11, ← e12, eq_true c13, ← e15]))
          · skip
            refine lv_iconst (v := 1) hx hb dX12_check_44 ic_1 ?_
            refine lv_iload_n hx hb dX12_check_45 rfl (lv_at hl 2 rfl) ?_
            refine lv_iadd hx hb dX12_check_46 ?_
            refine lv_topi (fun x16 e16 => ?_)
            have f16 : rg 1 16 x16 := rg_e e16 (rg_w (rg_add rgc_1 f8 (th_leI rfl) (th_leI rfl)) (th_leI rfl) (th_leI rfl))
            exact W.iret (v := x16) hx hb hr (fun t ht hW => ⟨⟨x16, (gi_16, gr), rfl, ⟨hM, rfl, (hF.trans (by simp only [↓reduceIte, f_X12_check_16, ← ew16_0, eq_false c1, ← e4, eq_false c5, r9, Option.getD_some, ← e10, r11, ← e12, eq_false c13, ← e16])), (ew16_0.symm.trans (rg_one fw16_0 rgc_0))⟩, th_Ht ht hH⟩, hS.F ht⟩) hS.2.2 dX12_check_47
  have hS : va_S (th_A τ s.heap.size) s.heap s.heap [] := va_S.rf
  have hl := lv_entry ([.ref h0]) (n := 3) (Nat.le_of_ble_eq_true rfl)
  rw [lg_entry_eq]
  generalize (lg_sl ([.ref h0]) ++ List.replicate (3 - (lg_sl ([.ref h0])).length) Slot.unset).toArray = ls at hl ⊢
  have hl : lv_has ls 3 [(0, .ref h0)] := hl
  have hF : F_X12_check τ Z gi gr h0 = F_X12_check τ Z gi gr h0 := rfl
  refine lv_aload_n hx hb dX12_check_0 rfl (lv_at hl 0 rfl) ?_
  obtain ⟨x17, e17⟩ : ∃ y : Int32, y = gi h0 24 := ⟨_, rfl⟩
  refine th_get (ci := 11) (v := .int x17) (T := TX12) (C := RX12) (N := 38) hx hb hts (fun w h => List.mem_cons_of_mem _ (List.mem_append_right _ h)) hown hK hH t_h0 (th_nz rfl) (thE_12 _ _ _) rfl 24 (th_ltN rfl) (hts (.fieldLink RX12 243 "BayMooringsModel" "tells" "I") (List.mem_cons_of_mem _ (List.mem_append_left _ (List.mem_append_left _ (List.mem_of_getElem? (i := 0) rfl))))) (fun _ h9 => h9) (th_fI e17 rfl) dX12_check_1 ?_
  have f17 : rg 0 24 x17 := rg_e e17 ((thI_12 hH t_h0).2.2.2.2.2.2.2.2.2.2.2.2.2.2.2.2.2.2.2.2.2.1)
  refine lv_istore_n (i := 1) (lv' := [(1, .int x17), (0, .ref h0)]) hx hb dX12_check_4 rfl hl (th_ltN rfl) rfl (fun ls hl => ?_)
  refine lv_aload_n hx hb dX12_check_5 rfl (lv_at hl 1 rfl) ?_
  refine lv_iconst (v := 0) hx hb dX12_check_6 ic_0 ?_
  refine th_put (ci := 11) (v := .int 0) (T := TX12) (C := RX12) (N := 38) (ty := .int) (gi' := va_up gi h0 (upd (gi h0) 24 0)) (gr' := gr) hx hb hts (fun w h => List.mem_cons_of_mem _ (List.mem_append_right _ h)) tyX12 tyX12_ok nmX12 hown hK hH hS t_h0 (th_nz rfl) (Or.inl (th_nzE t_h0 rfl)) rfl rfl 24 (th_ltN rfl) (hts (.fieldLink RX12 243 "BayMooringsModel" "tells" "I") (List.mem_cons_of_mem _ (List.mem_append_left _ (List.mem_append_left _ (List.mem_of_getElem? (i := 0) rfl))))) (fun _ h9 => h9) rfl (by decide +kernel) rfl rfl (Nat.le_of_ble_eq_true rfl) (by rw [va_up_self]; rfl) (by rw [va_up_self]; show rg 0 12 (gi h0 0) ∧ (∃ q, gr h0 1 = some q ∧ τ q = 40) ∧ (∃ q, gr h0 2 = some q ∧ τ q = 41) ∧ (∃ q, gr h0 3 = some q ∧ τ q = 42) ∧ (∃ q, gr h0 4 = some q ∧ τ q = 43) ∧ (∃ q, gr h0 5 = some q ∧ τ q = 44) ∧ (∃ q, gr h0 6 = some q ∧ τ q = 45) ∧ (∃ q, gr h0 7 = some q ∧ τ q = 46) ∧ rg 0 16 (gi h0 8) ∧ (∃ q, gr h0 9 = some q ∧ τ q = 47) ∧ (∃ q, gr h0 10 = some q ∧ τ q = 48) ∧ (∃ q, gr h0 11 = some q ∧ τ q = 49) ∧ (∃ q, gr h0 12 = some q ∧ τ q = 50) ∧ (∃ q, gr h0 13 = some q ∧ τ q = 51) ∧ (∃ q, gr h0 15 = some q ∧ τ q = 52) ∧ (∃ q, gr h0 16 = some q ∧ τ q = 53) ∧ rg 0 10 (gi h0 17) ∧ (∃ q, gr h0 18 = some q ∧ τ q = 54) ∧ (∃ q, gr h0 19 = some q ∧ τ q = 55) ∧ (∃ q, gr h0 21 = some q ∧ τ q = 56) ∧ (∃ q, gr h0 22 = some q ∧ τ q = 57) ∧ rg 0 24 0 ∧ (∃ q, gr h0 25 = some q ∧ τ q = 58) ∧ (∃ q, gr h0 26 = some q ∧ τ q = 59) ∧ rg 0 5 (gi h0 27) ∧ (∃ q, gr h0 28 = some q ∧ τ q = 60) ∧ (∃ q, gr h0 29 = some q ∧ τ q = 61) ∧ (∃ q, gr h0 30 = some q ∧ τ q = 62) ∧ (∃ q, gr h0 31 = some q ∧ τ q = 63) ∧ (∃ q, gr h0 32 = some q ∧ τ q = 64) ∧ (∃ q, gr h0 34 = some q ∧ τ q = 65) ∧ (∃ q, gr h0 35 = some q ∧ τ q = 66) ∧ (∃ q, gr h0 36 = some q ∧ τ q = 67) ∧ (∃ q, gr h0 37 = some q ∧ τ q = 68); exact ⟨(thI_12 hH t_h0).1, (thI_12 hH t_h0).2.1, (thI_12 hH t_h0).2.2.1, (thI_12 hH t_h0).2.2.2.1, (thI_12 hH t_h0).2.2.2.2.1, (thI_12 hH t_h0).2.2.2.2.2.1, (thI_12 hH t_h0).2.2.2.2.2.2.1, (thI_12 hH t_h0).2.2.2.2.2.2.2.1, (thI_12 hH t_h0).2.2.2.2.2.2.2.2.1, (thI_12 hH t_h0).2.2.2.2.2.2.2.2.2.1, (thI_12 hH t_h0).2.2.2.2.2.2.2.2.2.2.1, (thI_12 hH t_h0).2.2.2.2.2.2.2.2.2.2.2.1, (thI_12 hH t_h0).2.2.2.2.2.2.2.2.2.2.2.2.1, (thI_12 hH t_h0).2.2.2.2.2.2.2.2.2.2.2.2.2.1, (thI_12 hH t_h0).2.2.2.2.2.2.2.2.2.2.2.2.2.2.1, (thI_12 hH t_h0).2.2.2.2.2.2.2.2.2.2.2.2.2.2.2.1, (thI_12 hH t_h0).2.2.2.2.2.2.2.2.2.2.2.2.2.2.2.2.1, (thI_12 hH t_h0).2.2.2.2.2.2.2.2.2.2.2.2.2.2.2.2.2.1, (thI_12 hH t_h0).2.2.2.2.2.2.2.2.2.2.2.2.2.2.2.2.2.2.1, (thI_12 hH t_h0).2.2.2.2.2.2.2.2.2.2.2.2.2.2.2.2.2.2.2.1, (thI_12 hH t_h0).2.2.2.2.2.2.2.2.2.2.2.2.2.2.2.2.2.2.2.2.1, (rg_w rgc_0 (th_leI rfl) (th_leI rfl)), (thI_12 hH t_h0).2.2.2.2.2.2.2.2.2.2.2.2.2.2.2.2.2.2.2.2.2.2.1, (thI_12 hH t_h0).2.2.2.2.2.2.2.2.2.2.2.2.2.2.2.2.2.2.2.2.2.2.2.1, (thI_12 hH t_h0).2.2.2.2.2.2.2.2.2.2.2.2.2.2.2.2.2.2.2.2.2.2.2.2.1, (thI_12 hH t_h0).2.2.2.2.2.2.2.2.2.2.2.2.2.2.2.2.2.2.2.2.2.2.2.2.2.1, (thI_12 hH t_h0).2.2.2.2.2.2.2.2.2.2.2.2.2.2.2.2.2.2.2.2.2.2.2.2.2.2.1, (thI_12 hH t_h0).2.2.2.2.2.2.2.2.2.2.2.2.2.2.2.2.2.2.2.2.2.2.2.2.2.2.2.1, (thI_12 hH t_h0).2.2.2.2.2.2.2.2.2.2.2.2.2.2.2.2.2.2.2.2.2.2.2.2.2.2.2.2.1, (thI_12 hH t_h0).2.2.2.2.2.2.2.2.2.2.2.2.2.2.2.2.2.2.2.2.2.2.2.2.2.2.2.2.2.1, (thI_12 hH t_h0).2.2.2.2.2.2.2.2.2.2.2.2.2.2.2.2.2.2.2.2.2.2.2.2.2.2.2.2.2.2.1, (thI_12 hH t_h0).2.2.2.2.2.2.2.2.2.2.2.2.2.2.2.2.2.2.2.2.2.2.2.2.2.2.2.2.2.2.2.1, (thI_12 hH t_h0).2.2.2.2.2.2.2.2.2.2.2.2.2.2.2.2.2.2.2.2.2.2.2.2.2.2.2.2.2.2.2.2.1, (thI_12 hH t_h0).2.2.2.2.2.2.2.2.2.2.2.2.2.2.2.2.2.2.2.2.2.2.2.2.2.2.2.2.2.2.2.2.2⟩) (fun b hb => ⟨va_up_ne _ _ hb, rfl⟩) dX12_check_7 (fun H locs hH hS => ?_)
  obtain ⟨gi18, eg18⟩ : ∃ g, g = va_up gi h0 (upd (gi h0) 24 0) := ⟨_, rfl⟩
  rw [← eg18] at hH
  have hu18 : gi18 h0 24 = 0 := (th_uI eg18).1
  have ho18 : ∀ b j, b ≠ h0 ∨ j ≠ 24 → gi18 b j = gi b j := (th_uI eg18).2
  have hM := hM.i t_h0 (th_mem (a := 1224) rfl) ho18
  refine lv_aload_n hx hb dX12_check_10 rfl (lv_at hl 1 rfl) ?_
  have hA20 := th_Asub (τ := τ) hS
  refine va_callv (va_runV (As := []) (rest := []) ⟨hx, hb, hml, hown, hts⟩ (k_X12_findRings l D cA Z τ gi18 gr _ h0 t_h0) (cwV 0 hts gX12_check_X12_findRings rfl rfl rfl hd_X12_findRings__0 ⟨Nat.le_of_ble_eq_true rfl, Nat.le_of_ble_eq_true rfl⟩) ⟨th_blind, tr_12 hK hH t_h0, (th_pre hH hK hN hZ hS hA20)⟩ rfl rfl hl.1 rfl (lv_room (Nat.le_of_ble_eq_true rfl)) dX12_check_11 ⟨Nat.le_of_ble_eq_true rfl, Nat.le_of_ble_eq_true rfl⟩) hS (fun q _ h => hA20 q h) hA20 (fun  u t H locs ht hvm hw21 hB hz1 hk1 hS => ?_)
  try dsimp only at hw21 hB
  rw [ht] at hB
  have hH := hB
  obtain ⟨gi21, gr21⟩ := u
  try dsimp only at hw21 hH
  obtain rfl : gr = gr21 := (hw21.2.1).symm
  have hM := hM.tr hw21.1 (fun _ h => h) (th_sub rfl)
  have e22 : 0 = gi21 h0 24 := Eq.trans hu18.symm (Eq.symm (hw21.1 h0 24 (th_nzE t_h0 rfl) (th_nmE (key := 1224) t_h0 rfl rfl)).1)
  refine lv_iconst (v := 0) hx hb dX12_check_14 ic_0 ?_
  refine lv_istore_n (i := 2) (lv' := [(2, .int 0), (1, .int x17), (0, .ref h0)]) hx hb dX12_check_15 rfl hl (th_ltN rfl) rfl (fun ls hl => ?_)
  exact J16 _ gi21 _ _ _ x17 0 0 (Nat.lt_add_one _) hH hS hM (lv_sub hl [2, 1, 0] rfl) f17 (rg_w rgc_0 (th_leI rfl) (th_leI rfl)) e22 rgc_0 (hF.trans (by simp only [F_X12_check, ← e17, ← eg18, hw21.2.2]))

noncomputable def f_X12_count_27 (τ : th_t) (Z : th_Zt) (gi : th_i) (gr : th_r) (h0 : Nat) (p1 : Int32) (gi_4 : th_i) (y4_2 : Int32) (y4_3 : Int32) (k_4 : th_i → Int32 → Int32 → Int32 × th_i) (gi_27 : th_i) (z27_1 : Int32) : Int32 × th_i :=
  let w27_0 : Int32 := gi_27 h0 8
  let x1 : Int32 := y4_2 + z27_1
  let x2 : Int32 := y4_3 + 1
  k_4 gi_27 x1 x2
noncomputable def f_X12_count_4 (τ : th_t) (Z : th_Zt) (gi : th_i) (gr : th_r) (h0 : Nat) (p1 : Int32) : Nat → th_i → Int32 → Int32 → Int32 × th_i
  | 0, gi_4, y4_2, y4_3 => (0, gi_4)
  | n4 + 1, gi_4, y4_2, y4_3 =>
    let x3 : Int32 := gi_4 h0 8
    if x3 ≤ y4_3 then (
      if p1.toInt < 0 then (
        let u7 : Int32 × th_i := F_X12_finding τ Z gi_4 gr h0 (-1000001)
        let x7 : Int32 := u7.1
        let gi7 : th_i := u7.2
        (x7, gi7)) else (
        if 6 < p1.toInt then (
          let u10 : Int32 × th_i := F_X12_finding τ Z gi_4 gr h0 (-1000001)
          let x10 : Int32 := u10.1
          let gi10 : th_i := u10.2
          (x10, gi10)) else (
          if p1.toInt = 0 then (
            let x13 : Int32 := gi_4 h0 0
            (x13, gi_4)) else (
            if p1.toInt = 1 then (
              (x3, gi_4)) else (
              if p1.toInt = 2 then (
                (y4_2, gi_4)) else (
                if p1.toInt = 3 then (
                  let x18 : Int32 := gi_4 h0 17
                  (x18, gi_4)) else (
                  if p1.toInt = 4 then (
                    let x20 : Int32 := gi_4 h0 24
                    (x20, gi_4)) else (
                    if p1.toInt = 5 then (
                      let x23 : Int32 := F_X12_partedMany τ Z gi_4 gr h0
                      (x23, gi_4)) else (
                      if p1.toInt = 6 then (
                        let x25 : Int32 := gi_4 h0 14
                        (x25, gi_4)) else (
                        (0, gi_4))))))))))) else (
      let q28 : Nat := (gr h0 12).getD 0
      let x29 : Int32 := gi_4 q28 y4_3.toNatClampNeg
      if x29 < (0 : Int32) then (
        f_X12_count_27 τ Z gi gr h0 p1 gi_4 y4_2 y4_3 (f_X12_count_4 τ Z gi gr h0 p1 n4) gi_4 0) else (
        f_X12_count_27 τ Z gi gr h0 p1 gi_4 y4_2 y4_3 (f_X12_count_4 τ Z gi gr h0 p1 n4) gi_4 1))
noncomputable def F_X12_count (τ : th_t) (Z : th_Zt) (gi : th_i) (gr : th_r) (h0 : Nat) (p1 : Int32) : Int32 × th_i :=
  f_X12_count_4 τ Z gi gr h0 p1 ((16 - (0 : Int32).toInt).toNat + 1) gi 0 0
set_option maxHeartbeats 8000000 in
set_option maxRecDepth 100000 in
theorem k_X12_count (l : Launch) (D : va_G) (cA : Nat → ClassId) (Z : th_Zt) (τ : th_t) (gi : th_i) (gr : th_r) (sz : Nat) (h0 : Nat) (t_h0 : τ h0 = 12) (p1 : Int32) : Met l yX12_count wsX12_count ({ frames := 2, cells := 0, slots := 0, locals := 43 }) (va_Pc [.ref h0, .int p1] (th_Pre D cA Z τ gi gr sz)) (va_Qi (fun (r : Int32) (u : th_i × th_r) => th_Mod [5900] τ gi gr u.1 u.2 ∧ u.2 = gr ∧ (F_X12_count τ Z gi gr h0 p1 = (r, u.1))) (fun (u : th_i × th_r) t => th_H D cA τ u.1 u.2 t.heap) (th_A τ sz)) 0 0 (th_A τ sz) := by
  refine Met.ofW (cc := cX12_count) (maxL := 4) (ret := (some .int)) (by decide) rfl ?_
  intro p e s m args below meth c s₁ B hml hv
  obtain ⟨rfl, hsz, hH, hK, hN, hZ⟩ := hv
  have hx := B.exec
  have hb := B.bytes
  have hr := B.returns
  have hts := atoms_spec (ws := wsX12_count) B.pre
  have hown : s.vm.findClass RX12 = some m.cls := findClass_of_methodNamed B.named
  have hlocks := B.notSynchronized
  subst hsz
  have hM : th_Mod [5900] τ gi gr gi gr := th_Mod.rf
  have J4 : ∀ (n4 : Nat) (gi_4 : th_i) (H : Heap) (locs : List Loc) (ls : Array Slot) (y4_2 : Int32) (y4_3 : Int32), (16 - y4_3.toInt).toNat < n4 → th_H D cA τ gi_4 gr H → va_S (th_A τ s.heap.size) s.heap H locs → th_Mod [5900] τ gi gr gi_4 gr → lv_has ls 4 [(0, .ref h0), (1, .int p1), (2, .int y4_2), (3, .int y4_3)] → rg 0 16 y4_3 → F_X12_count τ Z gi gr h0 p1 = f_X12_count_4 τ Z gi gr h0 p1 n4 gi_4 y4_2 y4_3 → W p l e (headSpec wsX12_count ({ frames := 2, cells := 0, slots := 0, locals := 43 })).room s m [.ref h0, .int p1].toArray below meth c H locs 0 0 (MQ below (va_Qi (fun (r : Int32) (u : th_i × th_r) => th_Mod [5900] τ gi gr u.1 u.2 ∧ u.2 = gr ∧ (F_X12_count τ Z gi gr h0 p1 = (r, u.1))) (fun (u : th_i × th_r) t => th_H D cA τ u.1 u.2 t.heap) (th_A τ s.heap.size)) [.ref h0, .int p1].toArray s 0 0 (th_A τ s.heap.size)) (F0 m 4 ls []) := by
    intro n4
    induction n4 with
    | zero =>
      intro gi_4 H locs ls y4_2 y4_3 hn
      exact absurd hn (Nat.not_lt_zero _)
    | succ n4 ih4 =>
      intro gi_4 H locs ls y4_2 y4_3 hn4 hH hS hM hl fy4_3 hF
      have J27 : ∀ (gi_27 : th_i) (H : Heap) (locs : List Loc) (ls : Array Slot) (z27_1 : Int32) (w27_0 : Int32), th_H D cA τ gi_27 gr H → va_S (th_A τ s.heap.size) s.heap H locs → th_Mod [5900] τ gi gr gi_27 gr → lv_has ls 4 [(0, .ref h0), (1, .int p1), (3, .int y4_3)] → rg 0 15 y4_3 → rg 0 1 z27_1 → w27_0 = gi_27 h0 8 → rg 1 16 w27_0 → F_X12_count τ Z gi gr h0 p1 = f_X12_count_27 τ Z gi gr h0 p1 gi_4 y4_2 y4_3 (f_X12_count_4 τ Z gi gr h0 p1 n4) gi_27 z27_1 → W p l e (headSpec wsX12_count ({ frames := 2, cells := 0, slots := 0, locals := 43 })).room s m [.ref h0, .int p1].toArray below meth c H locs 0 0 (MQ below (va_Qi (fun (r : Int32) (u : th_i × th_r) => th_Mod [5900] τ gi gr u.1 u.2 ∧ u.2 = gr ∧ (F_X12_count τ Z gi gr h0 p1 = (r, u.1))) (fun (u : th_i × th_r) t => th_H D cA τ u.1 u.2 t.heap) (th_A τ s.heap.size)) [.ref h0, .int p1].toArray s 0 0 (th_A τ s.heap.size)) (F0 m 27 ls [.int z27_1, .int y4_2]) := by
        intro gi_27 H locs ls z27_1 w27_0 hH hS hM hl fy27_3 fz27_1 ew27_0 fw27_0 hF
        refine lv_iadd hx hb dX12_count_27 ?_
        refine lv_topi (fun x1 e1 => ?_)
        refine lv_istore_n (i := 2) (lv' := [(2, .int x1), (0, .ref h0), (1, .int p1), (3, .int y4_3)]) hx hb dX12_count_28 rfl hl (th_ltN rfl) rfl (fun ls hl => ?_)
        obtain ⟨x2, e2⟩ : ∃ y : Int32, y = y4_3 + 1 := ⟨_, rfl⟩
        have f2 : rg 1 16 x2 := rg_e e2 (rg_w (rg_add fy27_3 rgc_1 (th_leI rfl) (th_leI rfl)) (th_leI rfl) (th_leI rfl))
        refine lv_iinc (v := x2) (lv' := [(3, .int x2), (2, .int x1), (0, .ref h0), (1, .int p1)]) hx hb dX12_count_29 hl (k := 3) rfl (by rw [e2]; rfl) (th_ltN rfl) rfl (fun ls hl => ?_)
        refine lv_goto (tgt := 4) hx hb dX12_count_32 (th_eqI rfl) ?_
        exact ih4 gi_27 _ _ _ x1 x2 (th_up (rg_dA e2 fy27_3 rgc_1 (th_leI rfl) (th_leI rfl)) fy27_3 hn4 (th_ltI rfl)) hH hS hM (lv_sub hl [2, 3, 1, 0] rfl) (rg_w f2 (th_leI rfl) (th_leI rfl)) (hF.trans (by simp only [f_X12_count_27, ← ew27_0, ← e1, ← e2]))
      refine lv_iload_n hx hb dX12_count_4 rfl (lv_at hl 3 rfl) ?_
      refine lv_aload_n hx hb dX12_count_5 rfl (lv_at hl 0 rfl) ?_
      obtain ⟨x3, e3⟩ : ∃ y : Int32, y = gi_4 h0 8 := ⟨_, rfl⟩
      refine th_get (ci := 11) (v := .int x3) (T := TX12) (C := RX12) (N := 38) hx hb hts (fun w h => List.mem_cons_of_mem _ (List.mem_append_right _ h)) hown hK hH t_h0 (th_nz rfl) (thE_12 _ _ _) rfl 8 (th_ltN rfl) (hts (.fieldLink RX12 116 "BayMooringsModel" "boats" "I") (List.mem_cons_of_mem _ (List.mem_append_left _ (List.mem_of_getElem? (i := 0) rfl)))) (fun _ h9 => h9) (th_fI e3 rfl) dX12_count_6 ?_
      have f3 : rg 0 16 x3 := rg_e e3 ((thI_12 hH t_h0).2.2.2.2.2.2.2.2.1)
      refine lv_icmp_ge (tgt := 35) hx hb dX12_count_9 (th_eqI rfl) (fun c4 => ?_) (fun c4 => ?_)
      · skip
        refine lv_iload_n hx hb dX12_count_35 rfl (lv_at hl 1 rfl) ?_
        rcases Int.lt_or_le p1.toInt 0 with z5 | z5
        · refine lv_tableOut (tgt := 112) hx hb dX12_count_36 (Or.inl z5) (th_eqI rfl) ?_
          refine lv_aload_n hx hb dX12_count_112 rfl (lv_at hl 0 rfl) ?_
          refine lv_ldc (v := (-1000001)) hx hb hown (hts (.constant RX12 119 (-1000001)) (List.mem_cons_of_mem _ (List.mem_append_left _ (List.mem_of_getElem? (i := 6) rfl)))) dX12_count_113 ?_
          have hA6 := th_Asub (τ := τ) hS
          refine va_calli (va_runV (As := [.int (-1000001)]) (rest := []) ⟨hx, hb, hml, hown, hts⟩ (k_X12_finding l D cA Z τ gi_4 gr _ h0 t_h0 (-1000001) (rg_w rgc_m1000001 (th_leI rfl) (th_leI rfl))) (cwV 1 hts gX12_count_X12_finding rfl rfl rfl hd_X12_finding__1 ⟨Nat.le_of_ble_eq_true rfl, Nat.le_of_ble_eq_true rfl⟩) ⟨th_blind, tr_12 hK hH t_h0, (th_pre hH hK hN hZ hS hA6)⟩ rfl rfl hl.1 rfl (lv_room (Nat.le_of_ble_eq_true rfl)) dX12_count_115 ⟨Nat.le_of_ble_eq_true rfl, Nat.le_of_ble_eq_true rfl⟩) hS (fun q _ h => hA6 q h) hA6 (fun x7 u t H locs ht hvm hw7 hB hz1 hk1 hS => ?_)
          try dsimp only at hw7 hB
          rw [ht] at hB
          have hH := hB
          obtain ⟨gi7, gr7⟩ := u
          try dsimp only at hw7 hH
          obtain rfl : gr = gr7 := (hw7.2.1).symm
          have hM := hM.tr hw7.1 (fun _ h => h) (th_sub rfl)
          have e8 : x3 = gi7 h0 8 := Eq.trans e3 (Eq.symm (hw7.1 h0 8 (th_nzE t_h0 rfl) (th_nmE (key := 1208) t_h0 rfl rfl)).1)
          exact W.iret (v := x7) hx hb hr (fun t ht hW => ⟨⟨x7, (gi7, gr), rfl, ⟨hM, rfl, (hF.trans (by simp only [↓reduceIte, f_X12_count_4, ← e3, eq_true c4, eq_true z5, hw7.2.2.1]))⟩, th_Ht ht hH⟩, hS.F ht⟩) hS.2.2 dX12_count_118
        rcases Int.lt_or_le 6 p1.toInt with y5 | y5
        · refine lv_tableOut (tgt := 112) hx hb dX12_count_36 (Or.inr y5) (th_eqI rfl) ?_
          refine lv_aload_n hx hb dX12_count_112 rfl (lv_at hl 0 rfl) ?_
          refine lv_ldc (v := (-1000001)) hx hb hown (hts (.constant RX12 119 (-1000001)) (List.mem_cons_of_mem _ (List.mem_append_left _ (List.mem_of_getElem? (i := 6) rfl)))) dX12_count_113 ?_
          have hA9 := th_Asub (τ := τ) hS
          refine va_calli (va_runV (As := [.int (-1000001)]) (rest := []) ⟨hx, hb, hml, hown, hts⟩ (k_X12_finding l D cA Z τ gi_4 gr _ h0 t_h0 (-1000001) (rg_w rgc_m1000001 (th_leI rfl) (th_leI rfl))) (cwV 1 hts gX12_count_X12_finding rfl rfl rfl hd_X12_finding__1 ⟨Nat.le_of_ble_eq_true rfl, Nat.le_of_ble_eq_true rfl⟩) ⟨th_blind, tr_12 hK hH t_h0, (th_pre hH hK hN hZ hS hA9)⟩ rfl rfl hl.1 rfl (lv_room (Nat.le_of_ble_eq_true rfl)) dX12_count_115 ⟨Nat.le_of_ble_eq_true rfl, Nat.le_of_ble_eq_true rfl⟩) hS (fun q _ h => hA9 q h) hA9 (fun x10 u t H locs ht hvm hw10 hB hz1 hk1 hS => ?_)
          try dsimp only at hw10 hB
          rw [ht] at hB
          have hH := hB
          obtain ⟨gi10, gr10⟩ := u
          try dsimp only at hw10 hH
          obtain rfl : gr = gr10 := (hw10.2.1).symm
          have hM := hM.tr hw10.1 (fun _ h => h) (th_sub rfl)
          have e11 : x3 = gi10 h0 8 := Eq.trans e3 (Eq.symm (hw10.1 h0 8 (th_nzE t_h0 rfl) (th_nmE (key := 1208) t_h0 rfl rfl)).1)
          exact W.iret (v := x10) hx hb hr (fun t ht hW => ⟨⟨x10, (gi10, gr), rfl, ⟨hM, rfl, (hF.trans (by simp only [↓reduceIte, f_X12_count_4, ← e3, eq_true c4, eq_false (Int.not_lt.mpr z5), eq_true y5, hw10.2.2.1]))⟩, th_Ht ht hH⟩, hS.F ht⟩) hS.2.2 dX12_count_118
        rcases (show p1.toInt = 0 ∨ p1.toInt = 1 ∨ p1.toInt = 2 ∨ p1.toInt = 3 ∨ p1.toInt = 4 ∨ p1.toInt = 5 ∨ p1.toInt = 6 by omega) with w5 | w5 | w5 | w5 | w5 | w5 | w5
        · refine lv_tableIn (tgt := 80) hx hb dX12_count_36 (by omega) (by omega) (by rw [w5]; rfl) (th_eqI rfl) ?_
          have f12 : rg 0 0 p1 := ⟨by omega, by omega⟩
          refine lv_aload_n hx hb dX12_count_80 rfl (lv_at hl 0 rfl) ?_
          obtain ⟨x13, e13⟩ : ∃ y : Int32, y = gi_4 h0 0 := ⟨_, rfl⟩
          refine th_get (ci := 11) (v := .int x13) (T := TX12) (C := RX12) (N := 38) hx hb hts (fun w h => List.mem_cons_of_mem _ (List.mem_append_right _ h)) hown hK hH t_h0 (th_nz rfl) (thE_12 _ _ _) rfl 0 (th_ltN rfl) (hts (.fieldLink RX12 109 "BayMooringsModel" "buoys" "I") (List.mem_cons_of_mem _ (List.mem_append_left _ (List.mem_of_getElem? (i := 2) rfl)))) (fun _ h9 => h9) (th_fI e13 rfl) dX12_count_81 ?_
          have f13 : rg 0 12 x13 := rg_e e13 ((thI_12 hH t_h0).1)
          exact W.iret (v := x13) hx hb hr (fun t ht hW => ⟨⟨x13, (gi_4, gr), rfl, ⟨hM, rfl, (hF.trans (by simp only [↓reduceIte, f_X12_count_4, ← e3, eq_true c4, eq_false (Int.not_lt.mpr z5), eq_false (Int.not_lt.mpr y5), eq_true w5, ← e13]))⟩, th_Ht ht hH⟩, hS.F ht⟩) hS.2.2 dX12_count_84
        · refine lv_tableIn (tgt := 85) hx hb dX12_count_36 (by omega) (by omega) (by rw [w5]; rfl) (th_eqI rfl) ?_
          have f14 : rg 1 1 p1 := ⟨by omega, by omega⟩
          refine lv_aload_n hx hb dX12_count_85 rfl (lv_at hl 0 rfl) ?_
          refine th_get (ci := 11) (v := .int x3) (T := TX12) (C := RX12) (N := 38) hx hb hts (fun w h => List.mem_cons_of_mem _ (List.mem_append_right _ h)) hown hK hH t_h0 (th_nz rfl) (thE_12 _ _ _) rfl 8 (th_ltN rfl) (hts (.fieldLink RX12 116 "BayMooringsModel" "boats" "I") (List.mem_cons_of_mem _ (List.mem_append_left _ (List.mem_of_getElem? (i := 0) rfl)))) (fun _ h9 => h9) (th_fI e3 rfl) dX12_count_86 ?_
          exact W.iret (v := x3) hx hb hr (fun t ht hW => ⟨⟨x3, (gi_4, gr), rfl, ⟨hM, rfl, (hF.trans (by simp only [↓reduceIte, f_X12_count_4, ← e3, eq_true c4, eq_false (Int.not_lt.mpr z5), eq_false (Int.not_lt.mpr y5), eq_false (show ¬ p1.toInt = 0 by omega), eq_true w5]))⟩, th_Ht ht hH⟩, hS.F ht⟩) hS.2.2 dX12_count_89
        · refine lv_tableIn (tgt := 90) hx hb dX12_count_36 (by omega) (by omega) (by rw [w5]; rfl) (th_eqI rfl) ?_
          have f16 : rg 2 2 p1 := ⟨by omega, by omega⟩
          refine lv_iload_n hx hb dX12_count_90 rfl (lv_at hl 2 rfl) ?_
          exact W.iret (v := y4_2) hx hb hr (fun t ht hW => ⟨⟨y4_2, (gi_4, gr), rfl, ⟨hM, rfl, (hF.trans (by simp only [↓reduceIte, f_X12_count_4, ← e3, eq_true c4, eq_false (Int.not_lt.mpr z5), eq_false (Int.not_lt.mpr y5), eq_false (show ¬ p1.toInt = 0 by omega), eq_false (show ¬ p1.toInt = 1 by omega), eq_true w5]))⟩, th_Ht ht hH⟩, hS.F ht⟩) hS.2.2 dX12_count_91
        · refine lv_tableIn (tgt := 92) hx hb dX12_count_36 (by omega) (by omega) (by rw [w5]; rfl) (th_eqI rfl) ?_
          have f17 : rg 3 3 p1 := ⟨by omega, by omega⟩
          refine lv_aload_n hx hb dX12_count_92 rfl (lv_at hl 0 rfl) ?_
          obtain ⟨x18, e18⟩ : ∃ y : Int32, y = gi_4 h0 17 := ⟨_, rfl⟩
          refine th_get (ci := 11) (v := .int x18) (T := TX12) (C := RX12) (N := 38) hx hb hts (fun w h => List.mem_cons_of_mem _ (List.mem_append_right _ h)) hown hK hH t_h0 (th_nz rfl) (thE_12 _ _ _) rfl 17 (th_ltN rfl) (hts (.fieldLink RX12 133 "BayMooringsModel" "waiting" "I") (List.mem_cons_of_mem _ (List.mem_append_left _ (List.mem_of_getElem? (i := 3) rfl)))) (fun _ h9 => h9) (th_fI e18 rfl) dX12_count_93 ?_
          have f18 : rg 0 10 x18 := rg_e e18 ((thI_12 hH t_h0).2.2.2.2.2.2.2.2.2.2.2.2.2.2.2.2.1)
          exact W.iret (v := x18) hx hb hr (fun t ht hW => ⟨⟨x18, (gi_4, gr), rfl, ⟨hM, rfl, (hF.trans (by simp only [↓reduceIte, f_X12_count_4, ← e3, eq_true c4, eq_false (Int.not_lt.mpr z5), eq_false (Int.not_lt.mpr y5), eq_false (show ¬ p1.toInt = 0 by omega), eq_false (show ¬ p1.toInt = 1 by omega), eq_false (show ¬ p1.toInt = 2 by omega), eq_true w5, ← e18]))⟩, th_Ht ht hH⟩, hS.F ht⟩) hS.2.2 dX12_count_96
        · refine lv_tableIn (tgt := 97) hx hb dX12_count_36 (by omega) (by omega) (by rw [w5]; rfl) (th_eqI rfl) ?_
          have f19 : rg 4 4 p1 := ⟨by omega, by omega⟩
          refine lv_aload_n hx hb dX12_count_97 rfl (lv_at hl 0 rfl) ?_
          obtain ⟨x20, e20⟩ : ∃ y : Int32, y = gi_4 h0 24 := ⟨_, rfl⟩
          refine th_get (ci := 11) (v := .int x20) (T := TX12) (C := RX12) (N := 38) hx hb hts (fun w h => List.mem_cons_of_mem _ (List.mem_append_right _ h)) hown hK hH t_h0 (th_nz rfl) (thE_12 _ _ _) rfl 24 (th_ltN rfl) (hts (.fieldLink RX12 243 "BayMooringsModel" "tells" "I") (List.mem_cons_of_mem _ (List.mem_append_left _ (List.mem_of_getElem? (i := 4) rfl)))) (fun _ h9 => h9) (th_fI e20 rfl) dX12_count_98 ?_
          have f20 : rg 0 24 x20 := rg_e e20 ((thI_12 hH t_h0).2.2.2.2.2.2.2.2.2.2.2.2.2.2.2.2.2.2.2.2.2.1)
          exact W.iret (v := x20) hx hb hr (fun t ht hW => ⟨⟨x20, (gi_4, gr), rfl, ⟨hM, rfl, (hF.trans (by simp only [↓reduceIte, f_X12_count_4, ← e3, eq_true c4, eq_false (Int.not_lt.mpr z5), eq_false (Int.not_lt.mpr y5), eq_false (show ¬ p1.toInt = 0 by omega), eq_false (show ¬ p1.toInt = 1 by omega), eq_false (show ¬ p1.toInt = 2 by omega), eq_false (show ¬ p1.toInt = 3 by omega), eq_true w5, ← e20]))⟩, th_Ht ht hH⟩, hS.F ht⟩) hS.2.2 dX12_count_101
        · refine lv_tableIn (tgt := 102) hx hb dX12_count_36 (by omega) (by omega) (by rw [w5]; rfl) (th_eqI rfl) ?_
          have f21 : rg 5 5 p1 := ⟨by omega, by omega⟩
          refine lv_aload_n hx hb dX12_count_102 rfl (lv_at hl 0 rfl) ?_
          have hA22 := th_Asub (τ := τ) hS
          refine va_calli (va_runV (As := []) (rest := []) ⟨hx, hb, hml, hown, hts⟩ (k_X12_partedMany l D cA Z τ gi_4 gr _ h0 t_h0) (cwV 0 hts gX12_count_X12_partedMany rfl rfl rfl hd_X12_partedMany__0 ⟨Nat.le_of_ble_eq_true rfl, Nat.le_of_ble_eq_true rfl⟩) ⟨th_blind, tr_12 hK hH t_h0, (th_pre hH hK hN hZ hS hA22)⟩ rfl rfl hl.1 rfl (lv_room (Nat.le_of_ble_eq_true rfl)) dX12_count_103 ⟨Nat.le_of_ble_eq_true rfl, Nat.le_of_ble_eq_true rfl⟩) hS (fun q _ h => hA22 q h) hA22 (fun x23 u t H locs ht hvm hw23 hB hz1 hk1 hS => ?_)
          try dsimp only at hw23 hB
          rw [ht] at hB
          have hH := hB
          exact W.iret (v := x23) hx hb hr (fun t ht hW => ⟨⟨x23, (gi_4, gr), rfl, ⟨hM, rfl, (hF.trans (by simp only [↓reduceIte, f_X12_count_4, ← e3, eq_true c4, eq_false (Int.not_lt.mpr z5), eq_false (Int.not_lt.mpr y5), eq_false (show ¬ p1.toInt = 0 by omega), eq_false (show ¬ p1.toInt = 1 by omega), eq_false (show ¬ p1.toInt = 2 by omega), eq_false (show ¬ p1.toInt = 3 by omega), eq_false (show ¬ p1.toInt = 4 by omega), eq_true w5, hw23]))⟩, th_Ht ht hH⟩, hS.F ht⟩) hS.2.2 dX12_count_106
        · refine lv_tableIn (tgt := 107) hx hb dX12_count_36 (by omega) (by omega) (by rw [w5]; rfl) (th_eqI rfl) ?_
          have f24 : rg 6 6 p1 := ⟨by omega, by omega⟩
          refine lv_aload_n hx hb dX12_count_107 rfl (lv_at hl 0 rfl) ?_
          obtain ⟨x25, e25⟩ : ∃ y : Int32, y = gi_4 h0 14 := ⟨_, rfl⟩
          refine th_get (ci := 11) (v := .int x25) (T := TX12) (C := RX12) (N := 38) hx hb hts (fun w h => List.mem_cons_of_mem _ (List.mem_append_right _ h)) hown hK hH t_h0 (th_nz rfl) (thE_12 _ _ _) rfl 14 (th_ltN rfl) (hts (.fieldLink RX12 46 "BayMooringsModel" "winds" "I") (List.mem_cons_of_mem _ (List.mem_append_left _ (List.mem_of_getElem? (i := 5) rfl)))) (fun _ h9 => h9) (th_fI e25 rfl) dX12_count_108 ?_
          exact W.iret (v := x25) hx hb hr (fun t ht hW => ⟨⟨x25, (gi_4, gr), rfl, ⟨hM, rfl, (hF.trans (by simp only [↓reduceIte, f_X12_count_4, ← e3, eq_true c4, eq_false (Int.not_lt.mpr z5), eq_false (Int.not_lt.mpr y5), eq_false (show ¬ p1.toInt = 0 by omega), eq_false (show ¬ p1.toInt = 1 by omega), eq_false (show ¬ p1.toInt = 2 by omega), eq_false (show ¬ p1.toInt = 3 by omega), eq_false (show ¬ p1.toInt = 4 by omega), eq_false (show ¬ p1.toInt = 5 by omega), eq_true w5, ← e25]))⟩, th_Ht ht hH⟩, hS.F ht⟩) hS.2.2 dX12_count_111
      · skip
        have f26 : rg 1 16 x3 := rg_w (rg_nle f3 fy4_3 c4).1 (th_leI rfl) (th_leI rfl)
        have f27 : rg 0 15 y4_3 := rg_w (rg_nle f3 fy4_3 c4).2 (th_leI rfl) (th_leI rfl)
        refine lv_iload_n hx hb dX12_count_12 rfl (lv_at hl 2 rfl) ?_
        refine lv_aload_n hx hb dX12_count_13 rfl (lv_at hl 0 rfl) ?_
        obtain ⟨q28, r28, t28⟩ : ∃ q, gr h0 12 = some q ∧ τ q = 50 := (thI_12 hH t_h0).2.2.2.2.2.2.2.2.2.2.2.2.1
        refine th_get (ci := 11) (v := .ref q28) (T := TX12) (C := RX12) (N := 38) hx hb hts (fun w h => List.mem_cons_of_mem _ (List.mem_append_right _ h)) hown hK hH t_h0 (th_nz rfl) (thE_12 _ _ _) rfl 12 (th_ltN rfl) (hts (.fieldLink RX12 40 "BayMooringsModel" "buoyOf" "[I") (List.mem_cons_of_mem _ (List.mem_append_left _ (List.mem_of_getElem? (i := 1) rfl)))) (fun _ h9 => h9) (th_fR r28 rfl) dX12_count_14 ?_
        refine lv_iload_n hx hb dX12_count_17 rfl (lv_at hl 3 rfl) ?_
        refine th_iald hx hb hK hH t28 (th_nz rfl) 0 (thE_50 _ _ _) rfl (rg_in (n := 16) f27 (th_leI rfl) (th_ltI rfl)) dX12_count_18 ?_
        refine lv_topi (fun x29 e29 => ?_)
        have f29 : rg (-1) 11 x29 := rg_e e29 ((thI_50 hH t28) _ (rg_cl (n := 16) f27 (th_leI rfl) (th_ltI rfl)))
        refine lv_if_lt (tgt := 26) hx hb dX12_count_19 (th_eqI rfl) (fun c30 => ?_) (fun c30 => ?_)
        · skip
          have f31 : rg (-1) (-1) x29 := rg_w (rg_lt f29 rgc_0 c30).1 (th_leI rfl) (th_leI rfl)
          refine lv_iconst (v := 0) hx hb dX12_count_26 ic_0 ?_
          exact J27 gi_4 _ _ _ 0 x3 hH hS hM (lv_sub hl [0, 1, 3] rfl) f27 (rg_w rgc_0 (th_leI rfl) (th_leI rfl)) e3 f26 (hF.trans (by simp only [↓reduceIte, f_X12_count_4, ← e3, eq_false c4, r28, Option.getD_some, ← e29, eq_true c30]))
        · skip
          have f32 : rg 0 11 x29 := rg_w (rg_nlt f29 rgc_0 c30).1 (th_leI rfl) (th_leI rfl)
          refine lv_iconst (v := 1) hx hb dX12_count_22 ic_1 ?_
          refine lv_goto (tgt := 27) hx hb dX12_count_23 (th_eqI rfl) ?_
          exact J27 gi_4 _ _ _ 1 x3 hH hS hM (lv_sub hl [0, 1, 3] rfl) f27 (rg_w rgc_1 (th_leI rfl) (th_leI rfl)) e3 f26 (hF.trans (by simp only [↓reduceIte, f_X12_count_4, ← e3, eq_false c4, r28, Option.getD_some, ← e29, eq_false c30]))
  have hS : va_S (th_A τ s.heap.size) s.heap s.heap [] := va_S.rf
  have hl := lv_entry ([.ref h0, .int p1]) (n := 4) (Nat.le_of_ble_eq_true rfl)
  rw [lg_entry_eq]
  generalize (lg_sl ([.ref h0, .int p1]) ++ List.replicate (4 - (lg_sl ([.ref h0, .int p1])).length) Slot.unset).toArray = ls at hl ⊢
  have hl : lv_has ls 4 [(0, .ref h0), (1, .int p1)] := hl
  have hF : F_X12_count τ Z gi gr h0 p1 = F_X12_count τ Z gi gr h0 p1 := rfl
  refine lv_iconst (v := 0) hx hb dX12_count_0 ic_0 ?_
  refine lv_istore_n (i := 2) (lv' := [(2, .int 0), (0, .ref h0), (1, .int p1)]) hx hb dX12_count_1 rfl hl (th_ltN rfl) rfl (fun ls hl => ?_)
  refine lv_iconst (v := 0) hx hb dX12_count_2 ic_0 ?_
  refine lv_istore_n (i := 3) (lv' := [(3, .int 0), (2, .int 0), (0, .ref h0), (1, .int p1)]) hx hb dX12_count_3 rfl hl (th_ltN rfl) rfl (fun ls hl => ?_)
  exact J4 _ gi _ _ _ 0 0 (Nat.lt_add_one _) hH hS hM (lv_sub hl [2, 3, 1, 0] rfl) (rg_w rgc_0 (th_leI rfl) (th_leI rfl)) (hF.trans (by simp only [F_X12_count]))

noncomputable def F_X12_found (τ : th_t) (Z : th_Zt) (gi : th_i) (gr : th_r) (h0 : Nat) (p1 : Int32) : Int32 × th_i :=
  let x2 : Int32 := F_X12_within τ Z gi gr p1 1 5
  if x2 = (0 : Int32) then (
    let u6 : Int32 × th_i := F_X12_finding τ Z gi gr h0 (-1000001)
    let x6 : Int32 := u6.1
    let gi6 : th_i := u6.2
    (x6, gi6)) else (
    let q11 : Nat := (gr h0 26).getD 0
    let x12 : Int32 := gi q11 p1.toNatClampNeg
    (x12, gi))
set_option maxHeartbeats 8000000 in
set_option maxRecDepth 100000 in
theorem k_X12_found (l : Launch) (D : va_G) (cA : Nat → ClassId) (Z : th_Zt) (τ : th_t) (gi : th_i) (gr : th_r) (sz : Nat) (h0 : Nat) (t_h0 : τ h0 = 12) (p1 : Int32) : Met l yX12_found wsX12_found ({ frames := 1, cells := 0, slots := 0, locals := 22 }) (va_Pc [.ref h0, .int p1] (th_Pre D cA Z τ gi gr sz)) (va_Qi (fun (r : Int32) (u : th_i × th_r) => th_Mod [5900] τ gi gr u.1 u.2 ∧ u.2 = gr ∧ (F_X12_found τ Z gi gr h0 p1 = (r, u.1))) (fun (u : th_i × th_r) t => th_H D cA τ u.1 u.2 t.heap) (th_A τ sz)) 0 0 (th_A τ sz) := by
  refine Met.ofW (cc := cX12_found) (maxL := 2) (ret := (some .int)) (by decide) rfl ?_
  intro p e s m args below meth c s₁ B hml hv
  obtain ⟨rfl, hsz, hH, hK, hN, hZ⟩ := hv
  have hx := B.exec
  have hb := B.bytes
  have hr := B.returns
  have hts := atoms_spec (ws := wsX12_found) B.pre
  have hown : s.vm.findClass RX12 = some m.cls := findClass_of_methodNamed B.named
  have hlocks := B.notSynchronized
  subst hsz
  have hM : th_Mod [5900] τ gi gr gi gr := th_Mod.rf
  have hS : va_S (th_A τ s.heap.size) s.heap s.heap [] := va_S.rf
  have hl := lv_entry ([.ref h0, .int p1]) (n := 2) (Nat.le_of_ble_eq_true rfl)
  rw [lg_entry_eq]
  generalize (lg_sl ([.ref h0, .int p1]) ++ List.replicate (2 - (lg_sl ([.ref h0, .int p1])).length) Slot.unset).toArray = ls at hl ⊢
  have hl : lv_has ls 2 [(0, .ref h0), (1, .int p1)] := hl
  have hF : F_X12_found τ Z gi gr h0 p1 = F_X12_found τ Z gi gr h0 p1 := rfl
  refine lv_iload_n hx hb dX12_found_0 rfl (lv_at hl 1 rfl) ?_
  refine lv_iconst (v := 1) hx hb dX12_found_1 ic_1 ?_
  refine lv_iconst (v := 5) hx hb dX12_found_2 ic_5 ?_
  have hA1 := th_Asub (τ := τ) hS
  refine va_calli (va_runS (As := [.int p1, .int 1, .int 5]) (rest := []) ⟨hx, hb, hml, hown, hts⟩ (k_X12_within l D cA Z τ gi gr _ p1 1 5) (va_cwS 3 hts gX12_found_X12_within rfl rfl rfl (by decide +kernel) ⟨Nat.le_of_ble_eq_true rfl, Nat.le_of_ble_eq_true rfl⟩) ⟨th_blind, (th_pre hH hK hN hZ hS hA1)⟩ rfl rfl hl.1 rfl (lv_room (Nat.le_of_ble_eq_true rfl)) dX12_found_3 ⟨Nat.le_of_ble_eq_true rfl, Nat.le_of_ble_eq_true rfl⟩) hS (fun q _ h => hA1 q h) hA1 (fun x2 u t H locs ht hvm hw2 hB hz1 hk1 hS => ?_)
  try dsimp only at hw2 hB
  rw [ht] at hB
  have hH := hB
  refine lv_if_eq (tgt := 18) hx hb dX12_found_6 (th_eqI rfl) (fun c3 => ?_) (fun c3 => ?_)
  · skip
    have f4 : rg 0 0 x2 := rg_w (rg_eq hw2.1 rgc_0 c3).1 (th_leI rfl) (th_leI rfl)
    refine lv_aload_n hx hb dX12_found_18 rfl (lv_at hl 0 rfl) ?_
    refine lv_ldc (v := (-1000001)) hx hb hown (hts (.constant RX12 119 (-1000001)) (List.mem_cons_of_mem _ (List.mem_append_left _ (List.mem_of_getElem? (i := 1) rfl)))) dX12_found_19 ?_
    have hA5 := th_Asub (τ := τ) hS
    refine va_calli (va_runV (As := [.int (-1000001)]) (rest := []) ⟨hx, hb, hml, hown, hts⟩ (k_X12_finding l D cA Z τ gi gr _ h0 t_h0 (-1000001) (rg_w rgc_m1000001 (th_leI rfl) (th_leI rfl))) (cwV 1 hts gX12_found_X12_finding rfl rfl rfl hd_X12_finding__1 ⟨Nat.le_of_ble_eq_true rfl, Nat.le_of_ble_eq_true rfl⟩) ⟨th_blind, tr_12 hK hH t_h0, (th_pre hH hK hN hZ hS hA5)⟩ rfl rfl hl.1 rfl (lv_room (Nat.le_of_ble_eq_true rfl)) dX12_found_21 ⟨Nat.le_of_ble_eq_true rfl, Nat.le_of_ble_eq_true rfl⟩) hS (fun q _ h => hA5 q h) hA5 (fun x6 u t H locs ht hvm hw6 hB hz1 hk1 hS => ?_)
    try dsimp only at hw6 hB
    rw [ht] at hB
    have hH := hB
    obtain ⟨gi6, gr6⟩ := u
    try dsimp only at hw6 hH
    obtain rfl : gr = gr6 := (hw6.2.1).symm
    have hM := hM.tr hw6.1 (fun _ h => h) (th_sub rfl)
    exact W.iret (v := x6) hx hb hr (fun t ht hW => ⟨⟨x6, (gi6, gr), rfl, ⟨hM, rfl, (hF.trans (by simp only [↓reduceIte, F_X12_found, hw2.2.2.1, eq_true c3, hw6.2.2.1]))⟩, th_Ht ht hH⟩, hS.F ht⟩) hS.2.2 dX12_found_24
  · skip
    have f7 : rg 1 1 x2 := rg_w (rg_neL hw2.1 rgc_0 c3) (th_leI rfl) (th_leI rfl)
    have g8 := hw2.2.1 c3
    have f9 : rg 1 2147483647 p1 := rg_w (rg_le rgc_1 (rg_any p1) g8.1).2 (th_leI rfl) (th_leI rfl)
    have f10 : rg 1 5 p1 := rg_w (rg_le f9 rgc_5 g8.2).1 (th_leI rfl) (th_leI rfl)
    refine lv_aload_n hx hb dX12_found_9 rfl (lv_at hl 0 rfl) ?_
    obtain ⟨q11, r11, t11⟩ : ∃ q, gr h0 26 = some q ∧ τ q = 59 := (thI_12 hH t_h0).2.2.2.2.2.2.2.2.2.2.2.2.2.2.2.2.2.2.2.2.2.2.2.1
    refine th_get (ci := 11) (v := .ref q11) (T := TX12) (C := RX12) (N := 38) hx hb hts (fun w h => List.mem_cons_of_mem _ (List.mem_append_right _ h)) hown hK hH t_h0 (th_nz rfl) (thE_12 _ _ _) rfl 26 (th_ltN rfl) (hts (.fieldLink RX12 77 "BayMooringsModel" "findings" "[I") (List.mem_cons_of_mem _ (List.mem_append_left _ (List.mem_of_getElem? (i := 0) rfl)))) (fun _ h9 => h9) (th_fR r11 rfl) dX12_found_10 ?_
    refine lv_iload_n hx hb dX12_found_13 rfl (lv_at hl 1 rfl) ?_
    refine th_iald hx hb hK hH t11 (th_nz rfl) 0 (thE_59 _ _ _) rfl (rg_in (n := 6) f10 (th_leI rfl) (th_ltI rfl)) dX12_found_14 ?_
    refine lv_topi (fun x12 e12 => ?_)
    refine lv_goto (tgt := 24) hx hb dX12_found_15 (th_eqI rfl) ?_
    exact W.iret (v := x12) hx hb hr (fun t ht hW => ⟨⟨x12, (gi, gr), rfl, ⟨hM, rfl, (hF.trans (by simp only [↓reduceIte, F_X12_found, hw2.2.2.1, eq_false c3, r11, Option.getD_some, ← e12]))⟩, th_Ht ht hH⟩, hS.F ht⟩) hS.2.2 dX12_found_24
