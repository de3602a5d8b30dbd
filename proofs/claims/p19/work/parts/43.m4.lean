set_option maxHeartbeats 8000000 in
set_option maxRecDepth 100000 in
theorem k_X12_touchingOf (l : Launch) (D : va_G) (cA : Nat → ClassId) (Z : th_Zt) (τ : th_t) (gi : th_i) (gr : th_r) (sz : Nat) (h0 : Nat) (t_h0 : τ h0 = 12) (p1 : Int32) (f_p1 : rg 0 4 p1) (p2 : Int32) (f_p2 : rg 0 11 p2) (p3 : Int32) (f_p3 : rg 0 4 p3) : Met l yX12_touchingOf wsX12_touchingOf ({ frames := 4, cells := 0, slots := 0, locals := 126 }) (va_Pc [.ref h0, .int p1, .int p2, .int p3] (th_Pre D cA Z τ gi gr sz)) (va_Qi (fun (r : Int32) (_ : Unit) => True) (fun (_ : Unit) t => th_H D cA τ gi gr t.heap) (th_A τ sz)) 0 0 (th_A τ sz) := by
  refine Met.ofW (cc := cX12_touchingOf) (maxL := 7) (ret := (some .int)) (by decide) rfl ?_
  intro p e s m args below meth c s₁ B hml hv
  obtain ⟨rfl, hsz, hH, hK, hN, hZ⟩ := hv
  have hx := B.exec
  have hb := B.bytes
  have hr := B.returns
  have hts := atoms_spec (ws := wsX12_touchingOf) B.pre
  have hown : s.vm.findClass RX12 = some m.cls := findClass_of_methodNamed B.named
  have hlocks := B.notSynchronized
  subst hsz
  have J8 : ∀ (n : Nat) (H : Heap) (locs : List Loc) (ls : Array Slot) (y8_4 : Int32) (y8_5 : Int32), (12 - y8_5.toInt).toNat < n → th_H D cA τ gi gr H → va_S (th_A τ s.heap.size) s.heap H locs → lv_has ls 7 [(0, .ref h0), (1, .int p1), (2, .int p2), (3, .int p3), (4, .int y8_4), (5, .int y8_5)] → rg 0 4 p1 → rg 0 11 p2 → rg 0 4 p3 → rg 0 12 y8_5 → W p l e (headSpec wsX12_touchingOf ({ frames := 4, cells := 0, slots := 0, locals := 126 })).room s m [.ref h0, .int p1, .int p2, .int p3].toArray below meth c H locs 0 0 (MQ below (va_Qi (fun (r : Int32) (_ : Unit) => True) (fun (_ : Unit) t => th_H D cA τ gi gr t.heap) (th_A τ s.heap.size)) [.ref h0, .int p1, .int p2, .int p3].toArray s 0 0 (th_A τ s.heap.size)) (F0 m 8 ls []) := by
    intro n
    induction n with
    | zero =>
      intro H locs ls y8_4 y8_5 hn
      exact absurd hn (Nat.not_lt_zero _)
    | succ n ih8 =>
      intro H locs ls y8_4 y8_5 hn8 hH hS hl fy8_1 fy8_2 fy8_3 fy8_5
      have J82 : ∀ (H : Heap) (locs : List Loc) (ls : Array Slot) (z82_1 : Int32) (w82_0 : Int32), th_H D cA τ gi gr H → va_S (th_A τ s.heap.size) s.heap H locs → lv_has ls 7 [(0, .ref h0), (1, .int p1), (2, .int p2), (3, .int p3), (5, .int y8_5)] → rg 0 4 p1 → rg 0 11 p2 → rg 0 4 p3 → rg 0 11 y8_5 → w82_0 = gi h0 0 → rg 1 12 w82_0 → W p l e (headSpec wsX12_touchingOf ({ frames := 4, cells := 0, slots := 0, locals := 126 })).room s m [.ref h0, .int p1, .int p2, .int p3].toArray below meth c H locs 0 0 (MQ below (va_Qi (fun (r : Int32) (_ : Unit) => True) (fun (_ : Unit) t => th_H D cA τ gi gr t.heap) (th_A τ s.heap.size)) [.ref h0, .int p1, .int p2, .int p3].toArray s 0 0 (th_A τ s.heap.size)) (F0 m 82 ls [.int z82_1, .int y8_4]) := by
        intro H locs ls z82_1 w82_0 hH hS hl fy82_1 fy82_2 fy82_3 fy82_5 ew82_0 fw82_0
        refine lv_ior hx hb dX12_touchingOf_82 ?_
        refine lv_topi (fun x1 e1 => ?_)
        refine lv_istore (i := 4) (lv' := [(4, .int x1), (0, .ref h0), (1, .int p1), (2, .int p2), (3, .int p3), (5, .int y8_5)]) hx hb dX12_touchingOf_83 hl (by decide) rfl (fun ls hl => ?_)
        obtain ⟨x2, e2⟩ : ∃ y : Int32, y = y8_5 + 1 := ⟨_, rfl⟩
        have f2 : rg 1 12 x2 := by rw [e2]; exact rg_w (rg_add fy82_5 (show rg 1 1 (1 : Int32) from ⟨by decide, by decide⟩) (by decide) (by decide)) (by decide) (by decide)
        refine lv_iinc (v := x2) (lv' := [(5, .int x2), (4, .int x1), (0, .ref h0), (1, .int p1), (2, .int p2), (3, .int p3)]) hx hb dX12_touchingOf_85 hl (k := 5) rfl (by rw [e2]; rfl) (by decide) rfl (fun ls hl => ?_)
        refine lv_goto (tgt := 8) hx hb dX12_touchingOf_88 (by decide) ?_
        exact ih8 _ _ _ x1 x2 (th_up (rg_dA e2 fy82_5 (show rg 1 1 (1 : Int32) from ⟨by decide, by decide⟩) (by decide) (by decide)) fy82_5 hn8 (by decide)) hH hS (lv_sub hl [2, 3, 4, 5, 1, 0] rfl) fy82_1 fy82_2 fy82_3 (rg_w f2 (by decide) (by decide))
      have J65 : ∀ (H : Heap) (locs : List Loc) (ls : Array Slot) (z65_0 : Int32) (w65_0 : Int32), th_H D cA τ gi gr H → va_S (th_A τ s.heap.size) s.heap H locs → lv_has ls 7 [(0, .ref h0), (1, .int p1), (2, .int p2), (3, .int p3), (4, .int y8_4), (5, .int y8_5)] → rg 0 4 p1 → rg 0 11 p2 → rg 0 4 p3 → rg 0 11 y8_5 → rg 0 1 z65_0 → w65_0 = gi h0 0 → rg 1 12 w65_0 → W p l e (headSpec wsX12_touchingOf ({ frames := 4, cells := 0, slots := 0, locals := 126 })).room s m [.ref h0, .int p1, .int p2, .int p3].toArray below meth c H locs 0 0 (MQ below (va_Qi (fun (r : Int32) (_ : Unit) => True) (fun (_ : Unit) t => th_H D cA τ gi gr t.heap) (th_A τ s.heap.size)) [.ref h0, .int p1, .int p2, .int p3].toArray s 0 0 (th_A τ s.heap.size)) (F0 m 65 ls [.int z65_0]) := by
        intro H locs ls z65_0 w65_0 hH hS hl fy65_1 fy65_2 fy65_3 fy65_5 fz65_0 ew65_0 fw65_0
        refine lv_istore (i := 6) (lv' := [(6, .int z65_0), (0, .ref h0), (1, .int p1), (2, .int p2), (3, .int p3), (4, .int y8_4), (5, .int y8_5)]) hx hb dX12_touchingOf_65 hl (by decide) rfl (fun ls hl => ?_)
        refine lv_iload hx hb dX12_touchingOf_67 (lv_at hl 5 rfl) ?_
        refine lv_iload hx hb dX12_touchingOf_69 (lv_at hl 0 rfl) ?_
        refine lv_if_eq (tgt := 81) hx hb dX12_touchingOf_71 (by decide) (fun c3 => ?_) (fun c3 => ?_)
        · skip
          have f4 : rg 0 0 z65_0 := rg_w (rg_eq fz65_0 (show rg 0 0 (0 : Int32) from ⟨by decide, by decide⟩) c3).1 (by decide) (by decide)
          refine lv_iconst (v := 0) hx hb dX12_touchingOf_81 (by decide) ?_
          exact J82 _ _ _ 0 w65_0 hH hS (lv_sub hl [1, 2, 3, 4, 6] rfl) fy65_1 fy65_2 fy65_3 fy65_5 ew65_0 fw65_0
        · skip
          have f5 : rg 1 1 z65_0 := rg_w (rg_neL fz65_0 (show rg 0 0 (0 : Int32) from ⟨by decide, by decide⟩) c3) (by decide) (by decide)
          refine lv_iconst (v := 1) hx hb dX12_touchingOf_74 (by decide) ?_
          refine lv_iload hx hb dX12_touchingOf_75 (lv_at hl 6 rfl) ?_
          refine lv_ishl hx hb dX12_touchingOf_77 ?_
          refine lv_topi (fun x6 e6 => ?_)
          refine lv_goto (tgt := 82) hx hb dX12_touchingOf_78 (by decide) ?_
          exact J82 _ _ _ x6 w65_0 hH hS (lv_sub hl [1, 2, 3, 4, 6] rfl) fy65_1 fy65_2 fy65_3 fy65_5 ew65_0 fw65_0
      have J64 : ∀ (H : Heap) (locs : List Loc) (ls : Array Slot) (w64_0 : Int32), th_H D cA τ gi gr H → va_S (th_A τ s.heap.size) s.heap H locs → lv_has ls 7 [(0, .ref h0), (1, .int p1), (2, .int p2), (3, .int p3), (4, .int y8_4), (5, .int y8_5)] → rg 0 4 p1 → rg 0 11 p2 → rg 0 4 p3 → rg 0 11 y8_5 → w64_0 = gi h0 0 → rg 1 12 w64_0 → W p l e (headSpec wsX12_touchingOf ({ frames := 4, cells := 0, slots := 0, locals := 126 })).room s m [.ref h0, .int p1, .int p2, .int p3].toArray below meth c H locs 0 0 (MQ below (va_Qi (fun (r : Int32) (_ : Unit) => True) (fun (_ : Unit) t => th_H D cA τ gi gr t.heap) (th_A τ s.heap.size)) [.ref h0, .int p1, .int p2, .int p3].toArray s 0 0 (th_A τ s.heap.size)) (F0 m 64 ls []) := by
        intro H locs ls w64_0 hH hS hl fy64_1 fy64_2 fy64_3 fy64_5 ew64_0 fw64_0
        refine lv_iconst (v := 0) hx hb dX12_touchingOf_64 (by decide) ?_
        exact J65 _ _ _ 0 w64_0 hH hS (lv_sub hl [0, 1, 2, 3, 4, 5] rfl) fy64_1 fy64_2 fy64_3 fy64_5 (rg_w (show rg 0 0 (0 : Int32) from ⟨by decide, by decide⟩) (by decide) (by decide)) ew64_0 fw64_0
      refine lv_iload hx hb dX12_touchingOf_8 (lv_at hl 5 rfl) ?_
      refine lv_aload_n hx hb dX12_touchingOf_10 rfl (lv_at hl 0 rfl) ?_
      obtain ⟨x7, e7⟩ : ∃ y : Int32, y = gi h0 0 := ⟨_, rfl⟩
      refine th_get (ci := 11) (v := .int x7) (T := TX12) (C := RX12) (N := 38) hx hb hts (fun w h => List.mem_cons_of_mem _ (List.mem_append_right _ h)) hown hK hH t_h0 (by decide) rfl rfl 0 (by decide) (hts (.fieldLink RX12 109 "BayMooringsModel" "buoys" "I") (List.mem_cons_of_mem _ (List.mem_append_left _ (List.mem_append_left _ (List.mem_of_getElem? (i := 0) rfl))))) (fun _ h9 => h9) (by rw [e7]; rfl) dX12_touchingOf_11 ?_
      have f7 : rg 0 12 x7 := by rw [e7]; exact (hH.at t_h0 (by decide)).2.1
      refine lv_icmp_ge (tgt := 91) hx hb dX12_touchingOf_14 (by decide) (fun c8 => ?_) (fun c8 => ?_)
      · skip
        refine lv_iload hx hb dX12_touchingOf_91 (lv_at hl 4 rfl) ?_
        exact W.iret (v := y8_4) hx hb hr (fun t ht hW => ⟨⟨y8_4, (), rfl, trivial, th_Ht ht hH⟩, hS.F ht⟩) hS.2.2 dX12_touchingOf_93
      · skip
        have f9 : rg 1 12 x7 := rg_w (rg_nle f7 fy8_5 c8).1 (by decide) (by decide)
        have f10 : rg 0 11 y8_5 := rg_w (rg_nle f7 fy8_5 c8).2 (by decide) (by decide)
        refine lv_iload hx hb dX12_touchingOf_17 (lv_at hl 5 rfl) ?_
        refine lv_iload_n hx hb dX12_touchingOf_19 rfl (lv_at hl 2 rfl) ?_
        refine lv_icmp_eq (tgt := 64) hx hb dX12_touchingOf_20 (by decide) (fun c11 => ?_) (fun c11 => ?_)
        · skip
          exact J64 _ _ _ x7 hH hS (lv_sub hl [0, 1, 2, 3, 4, 5] rfl) fy8_1 fy8_2 fy8_3 f10 e7 f9
        · skip
          refine lv_aload_n hx hb dX12_touchingOf_23 rfl (lv_at hl 0 rfl) ?_
          obtain ⟨q12, r12, t12⟩ : ∃ q, gr h0 29 = some q ∧ τ q = 61 := (hH.at t_h0 (by decide)).2.2.2.2.2.2.2.2.2.2.2.2.2.2.2.2.2.2.2.2.2.2.2.2.2.2.2.1
          refine th_get (ci := 11) (v := .ref q12) (T := TX12) (C := RX12) (N := 38) hx hb hts (fun w h => List.mem_cons_of_mem _ (List.mem_append_right _ h)) hown hK hH t_h0 (by decide) rfl rfl 29 (by decide) (hts (.fieldLink RX12 83 "BayMooringsModel" "may" "[I") (List.mem_cons_of_mem _ (List.mem_append_left _ (List.mem_append_left _ (List.mem_of_getElem? (i := 1) rfl))))) (fun _ h9 => h9) (by show some (va_rf (gr h0 29)) = _; rw [r12]; rfl) dX12_touchingOf_24 ?_
          refine lv_iload_n hx hb dX12_touchingOf_27 rfl (lv_at hl 3 rfl) ?_
          refine th_iald hx hb hK hH t12 (by decide) 0 rfl rfl (rg_in (n := 5) fy8_3 (by decide) (by decide)) dX12_touchingOf_28 ?_
          refine lv_topi (fun x13 e13 => ?_)
          refine lv_iload hx hb dX12_touchingOf_29 (lv_at hl 5 rfl) ?_
          refine lv_ishr hx hb dX12_touchingOf_31 ?_
          refine lv_topi (fun x14 e14 => ?_)
          refine lv_iconst (v := 1) hx hb dX12_touchingOf_32 (by decide) ?_
          refine lv_iand hx hb dX12_touchingOf_33 ?_
          refine lv_topi (fun x15 e15 => ?_)
          have f15 : rg 0 1 x15 := by rw [e15]; exact rg_and 1 (by decide) (by decide) (by decide)
          refine lv_iconst (v := 1) hx hb dX12_touchingOf_34 (by decide) ?_
          refine lv_icmp_ne (tgt := 64) hx hb dX12_touchingOf_35 (by decide) (fun c16 => ?_) (fun c16 => ?_)
          · skip
            have f17 : rg 0 0 x15 := rg_w (rg_neR f15 (show rg 1 1 (1 : Int32) from ⟨by decide, by decide⟩) c16) (by decide) (by decide)
            exact J64 _ _ _ x7 hH hS (lv_sub hl [0, 1, 2, 3, 4, 5] rfl) fy8_1 fy8_2 fy8_3 f10 e7 f9
          · skip
            have f18 : rg 1 1 x15 := rg_w (rg_eq f15 (show rg 1 1 (1 : Int32) from ⟨by decide, by decide⟩) c16).1 (by decide) (by decide)
            refine lv_aload_n hx hb dX12_touchingOf_38 rfl (lv_at hl 0 rfl) ?_
            refine lv_aload_n hx hb dX12_touchingOf_39 rfl (lv_at hl 0 rfl) ?_
            obtain ⟨q19, r19, t19⟩ : ∃ q, gr h0 28 = some q ∧ τ q = 60 := (hH.at t_h0 (by decide)).2.2.2.2.2.2.2.2.2.2.2.2.2.2.2.2.2.2.2.2.2.2.2.2.2.2.1
            refine th_get (ci := 11) (v := .ref q19) (T := TX12) (C := RX12) (N := 38) hx hb hts (fun w h => List.mem_cons_of_mem _ (List.mem_append_right _ h)) hown hK hH t_h0 (by decide) rfl rfl 28 (by decide) (hts (.fieldLink RX12 80 "BayMooringsModel" "someOf" "[I") (List.mem_cons_of_mem _ (List.mem_append_left _ (List.mem_append_left _ (List.mem_of_getElem? (i := 2) rfl))))) (fun _ h9 => h9) (by show some (va_rf (gr h0 28)) = _; rw [r19]; rfl) dX12_touchingOf_40 ?_
            refine lv_iload_n hx hb dX12_touchingOf_43 rfl (lv_at hl 1 rfl) ?_
            refine th_iald hx hb hK hH t19 (by decide) 0 rfl rfl (rg_in (n := 5) fy8_1 (by decide) (by decide)) dX12_touchingOf_44 ?_
            refine lv_topi (fun x20 e20 => ?_)
            have f20 : rg 0 15 x20 := by rw [e20]; exact (hH.at t19 (by decide)).2 _ (rg_cl (n := 5) fy8_1 (by decide) (by decide))
            refine lv_iload_n hx hb dX12_touchingOf_45 rfl (lv_at hl 2 rfl) ?_
            refine lv_aload_n hx hb dX12_touchingOf_46 rfl (lv_at hl 0 rfl) ?_
            refine th_get (ci := 11) (v := .ref q19) (T := TX12) (C := RX12) (N := 38) hx hb hts (fun w h => List.mem_cons_of_mem _ (List.mem_append_right _ h)) hown hK hH t_h0 (by decide) rfl rfl 28 (by decide) (hts (.fieldLink RX12 80 "BayMooringsModel" "someOf" "[I") (List.mem_cons_of_mem _ (List.mem_append_left _ (List.mem_append_left _ (List.mem_of_getElem? (i := 2) rfl))))) (fun _ h9 => h9) (by show some (va_rf (gr h0 28)) = _; rw [r19]; rfl) dX12_touchingOf_47 ?_
            refine lv_iload_n hx hb dX12_touchingOf_50 rfl (lv_at hl 3 rfl) ?_
            refine th_iald hx hb hK hH t19 (by decide) 0 rfl rfl (rg_in (n := 5) fy8_3 (by decide) (by decide)) dX12_touchingOf_51 ?_
            refine lv_topi (fun x22 e22 => ?_)
            have f22 : rg 0 15 x22 := by rw [e22]; exact (hH.at t19 (by decide)).2 _ (rg_cl (n := 5) fy8_3 (by decide) (by decide))
            refine lv_iload hx hb dX12_touchingOf_52 (lv_at hl 5 rfl) ?_
            have hA23 := th_Asub (τ := τ) hS
            refine va_calli (va_runV (As := [.int x20, .int p2, .int x22, .int y8_5]) (rest := []) ⟨hx, hb, hml, hown, hts⟩ (k_X12_firstTouch l D cA Z τ gi gr _ h0 t_h0 x20 f20 p2 fy8_2 x22 f22 y8_5 f10) (cwV 4 hts gX12_touchingOf_X12_firstTouch rfl rfl rfl (by decide +kernel) ⟨Nat.le_of_ble_eq_true rfl, Nat.le_of_ble_eq_true rfl⟩) ⟨th_blind, th_recv hK hH t_h0 (ci := 11) (by decide) rfl rfl, (th_pre hH hK hN hZ hS hA23)⟩ rfl rfl hl.1 rfl (lv_room (Nat.le_of_ble_eq_true rfl)) dX12_touchingOf_54 ⟨Nat.le_of_ble_eq_true rfl, Nat.le_of_ble_eq_true rfl⟩) hS (fun q _ h => hA23 q h) hA23 (fun x24 u t H locs ht hvm hw24 hB hz1 hk1 hS => ?_)
            try dsimp only at hw24 hB
            rw [ht] at hB
            have hH := hB
            refine lv_if_lt (tgt := 64) hx hb dX12_touchingOf_57 (by decide) (fun c25 => ?_) (fun c25 => ?_)
            · skip
              have f26 : rg (-2147483648) (-1) x24 := rg_w (rg_lt (rg_any x24) (show rg 0 0 (0 : Int32) from ⟨by decide, by decide⟩) c25).1 (by decide) (by decide)
              exact J64 _ _ _ x7 hH hS (lv_sub hl [0, 1, 2, 3, 4, 5] rfl) fy8_1 fy8_2 fy8_3 f10 e7 f9
            · skip
              have f27 : rg 0 2147483647 x24 := rg_w (rg_nlt (rg_any x24) (show rg 0 0 (0 : Int32) from ⟨by decide, by decide⟩) c25).1 (by decide) (by decide)
              refine lv_iconst (v := 1) hx hb dX12_touchingOf_60 (by decide) ?_
              refine lv_goto (tgt := 65) hx hb dX12_touchingOf_61 (by decide) ?_
              exact J65 _ _ _ 1 x7 hH hS (lv_sub hl [0, 1, 2, 3, 4, 5] rfl) fy8_1 fy8_2 fy8_3 f10 (rg_w (show rg 1 1 (1 : Int32) from ⟨by decide, by decide⟩) (by decide) (by decide)) e7 f9
  have hS : va_S (th_A τ s.heap.size) s.heap s.heap [] := va_S.rf
  have hl := lv_entry ([.ref h0, .int p1, .int p2, .int p3]) (n := 7) (Nat.le_of_ble_eq_true rfl)
  rw [lg_entry_eq]
  generalize (lg_sl ([.ref h0, .int p1, .int p2, .int p3]) ++ List.replicate (7 - (lg_sl ([.ref h0, .int p1, .int p2, .int p3])).length) Slot.unset).toArray = ls at hl ⊢
  have hl : lv_has ls 7 [(0, .ref h0), (1, .int p1), (2, .int p2), (3, .int p3)] := hl
  refine lv_iconst (v := 1) hx hb dX12_touchingOf_0 (by decide) ?_
  refine lv_iload_n hx hb dX12_touchingOf_1 rfl (lv_at hl 2 rfl) ?_
  refine lv_ishl hx hb dX12_touchingOf_2 ?_
  refine lv_topi (fun x28 e28 => ?_)
  refine lv_istore (i := 4) (lv' := [(4, .int x28), (0, .ref h0), (1, .int p1), (2, .int p2), (3, .int p3)]) hx hb dX12_touchingOf_3 hl (by decide) rfl (fun ls hl => ?_)
  refine lv_iconst (v := 0) hx hb dX12_touchingOf_5 (by decide) ?_
  refine lv_istore (i := 5) (lv' := [(5, .int 0), (4, .int x28), (0, .ref h0), (1, .int p1), (2, .int p2), (3, .int p3)]) hx hb dX12_touchingOf_6 hl (by decide) rfl (fun ls hl => ?_)
  exact J8 _ _ _ _ x28 0 (Nat.lt_succ_self _) hH hS (lv_sub hl [2, 3, 4, 5, 1, 0] rfl) f_p1 f_p2 f_p3 (rg_w (show rg 0 0 (0 : Int32) from ⟨by decide, by decide⟩) (by decide) (by decide))

set_option maxHeartbeats 8000000 in
set_option maxRecDepth 100000 in
theorem k_X12_findMay (l : Launch) (D : va_G) (cA : Nat → ClassId) (Z : th_Zt) (τ : th_t) (gi : th_i) (gr : th_r) (sz : Nat) (h0 : Nat) (t_h0 : τ h0 = 12) : Met l yX12_findMay wsX12_findMay ({ frames := 5, cells := 0, slots := 0, locals := 152 }) (va_Pc [.ref h0] (th_Pre D cA Z τ gi gr sz)) (va_Qv (fun (u : th_i × th_r) => th_Mod [6100, 6400] τ gi gr u.1 u.2) (fun (u : th_i × th_r) t => th_H D cA τ u.1 u.2 t.heap) (th_A τ sz)) 0 0 (th_A τ sz) := by
  refine Met.ofW (cc := cX12_findMay) (maxL := 4) (ret := none) (by decide) rfl ?_
  intro p e s m args below meth c s₁ B hml hv
  obtain ⟨rfl, hsz, hH, hK, hN, hZ⟩ := hv
  have hx := B.exec
  have hb := B.bytes
  have hr := B.returns
  have hts := atoms_spec (ws := wsX12_findMay) B.pre
  have hown : s.vm.findClass RX12 = some m.cls := findClass_of_methodNamed B.named
  have hlocks := B.notSynchronized
  subst hsz
  have hM : th_Mod [6100, 6400] τ gi gr gi gr := th_Mod.rf
  have J84 : ∀ (n : Nat) (gi_84 : th_i) (gr_84 : th_r) (H : Heap) (locs : List Loc) (ls : Array Slot) (y84_1 : Int32) (w84_0 : Int32), (5 - y84_1.toInt).toNat < n → th_H D cA τ gi_84 gr_84 H → va_S (th_A τ s.heap.size) s.heap H locs → th_Mod [6100, 6400] τ gi gr gi_84 gr_84 → lv_has ls 4 [(0, .ref h0), (1, .int y84_1)] → rg 0 5 y84_1 → w84_0 = gi_84 h0 27 → rg 0 5 w84_0 → W p l e (headSpec wsX12_findMay ({ frames := 5, cells := 0, slots := 0, locals := 152 })).room s m [.ref h0].toArray below meth c H locs 0 0 (MQ below (va_Qv (fun (u : th_i × th_r) => th_Mod [6100, 6400] τ gi gr u.1 u.2) (fun (u : th_i × th_r) t => th_H D cA τ u.1 u.2 t.heap) (th_A τ s.heap.size)) [.ref h0].toArray s 0 0 (th_A τ s.heap.size)) (F0 m 84 ls []) := by
    intro n
    induction n with
    | zero =>
      intro gi_84 gr_84 H locs ls y84_1 w84_0 hn
      exact absurd hn (Nat.not_lt_zero _)
    | succ n ih84 =>
      intro gi_84 gr_84 H locs ls y84_1 w84_0 hn84 hH hS hM hl fy84_1 ew84_0 fw84_0
      have J94 : ∀ (n : Nat) (gi_94 : th_i) (gr_94 : th_r) (H : Heap) (locs : List Loc) (ls : Array Slot) (y94_2 : Int32) (w94_0 : Int32), (12 - y94_2.toInt).toNat < n → th_H D cA τ gi_94 gr_94 H → va_S (th_A τ s.heap.size) s.heap H locs → th_Mod [6100, 6400] τ gi gr gi_94 gr_94 → lv_has ls 4 [(0, .ref h0), (1, .int y84_1), (2, .int y94_2)] → rg 0 4 y84_1 → rg 0 12 y94_2 → w94_0 = gi_94 h0 27 → rg 1 5 w94_0 → W p l e (headSpec wsX12_findMay ({ frames := 5, cells := 0, slots := 0, locals := 152 })).room s m [.ref h0].toArray below meth c H locs 0 0 (MQ below (va_Qv (fun (u : th_i × th_r) => th_Mod [6100, 6400] τ gi gr u.1 u.2) (fun (u : th_i × th_r) t => th_H D cA τ u.1 u.2 t.heap) (th_A τ s.heap.size)) [.ref h0].toArray s 0 0 (th_A τ s.heap.size)) (F0 m 94 ls []) := by
        intro n
        induction n with
        | zero =>
          intro gi_94 gr_94 H locs ls y94_2 w94_0 hn
          exact absurd hn (Nat.not_lt_zero _)
        | succ n ih94 =>
          intro gi_94 gr_94 H locs ls y94_2 w94_0 hn94 hH hS hM hl fy94_1 fy94_2 ew94_0 fw94_0
          have J104 : ∀ (n : Nat) (gi_104 : th_i) (gr_104 : th_r) (H : Heap) (locs : List Loc) (ls : Array Slot) (y104_3 : Int32) (w104_0 : Int32) (w104_1 : Int32), (4 - y104_3.toInt).toNat < n → th_H D cA τ gi_104 gr_104 H → va_S (th_A τ s.heap.size) s.heap H locs → th_Mod [6100, 6400] τ gi gr gi_104 gr_104 → lv_has ls 4 [(0, .ref h0), (1, .int y84_1), (2, .int y94_2), (3, .int y104_3)] → rg 0 4 y84_1 → rg 0 11 y94_2 → rg 0 4 y104_3 → w104_0 = gi_104 h0 0 → rg 1 12 w104_0 → w104_1 = gi_104 h0 27 → rg 1 5 w104_1 → W p l e (headSpec wsX12_findMay ({ frames := 5, cells := 0, slots := 0, locals := 152 })).room s m [.ref h0].toArray below meth c H locs 0 0 (MQ below (va_Qv (fun (u : th_i × th_r) => th_Mod [6100, 6400] τ gi gr u.1 u.2) (fun (u : th_i × th_r) t => th_H D cA τ u.1 u.2 t.heap) (th_A τ s.heap.size)) [.ref h0].toArray s 0 0 (th_A τ s.heap.size)) (F0 m 104 ls []) := by
            intro n
            induction n with
            | zero =>
              intro gi_104 gr_104 H locs ls y104_3 w104_0 w104_1 hn
              exact absurd hn (Nat.not_lt_zero _)
            | succ n ih104 =>
              intro gi_104 gr_104 H locs ls y104_3 w104_0 w104_1 hn104 hH hS hM hl fy104_1 fy104_2 fy104_3 ew104_0 fw104_0 ew104_1 fw104_1
              have J148 : ∀ (gi_148 : th_i) (gr_148 : th_r) (H : Heap) (locs : List Loc) (ls : Array Slot) (z148_0 : Nat) (z148_1 : Int32) (z148_2 : Int32) (w148_0 : Int32) (w148_1 : Int32), th_H D cA τ gi_148 gr_148 H → va_S (th_A τ s.heap.size) s.heap H locs → th_Mod [6100, 6400] τ gi gr gi_148 gr_148 → lv_has ls 4 [(0, .ref h0), (1, .int y84_1), (2, .int y94_2), (3, .int y104_3)] → rg 1 4 y84_1 → rg 0 11 y94_2 → rg 0 3 y104_3 → (τ z148_0 = 64) → rg 60 298 z148_1 → w148_0 = gi_148 h0 0 → rg 1 12 w148_0 → w148_1 = gi_148 h0 27 → rg 1 5 w148_1 → W p l e (headSpec wsX12_findMay ({ frames := 5, cells := 0, slots := 0, locals := 152 })).room s m [.ref h0].toArray below meth c H locs 0 0 (MQ below (va_Qv (fun (u : th_i × th_r) => th_Mod [6100, 6400] τ gi gr u.1 u.2) (fun (u : th_i × th_r) t => th_H D cA τ u.1 u.2 t.heap) (th_A τ s.heap.size)) [.ref h0].toArray s 0 0 (th_A τ s.heap.size)) (F0 m 148 ls [.int z148_2, .int z148_1, .ref z148_0]) := by
                intro gi_148 gr_148 H locs ls z148_0 z148_1 z148_2 w148_0 w148_1 hH hS hM hl fy148_1 fy148_2 fy148_3 tz148_0 fz148_1 ew148_0 fw148_0 ew148_1 fw148_1
                refine th_iast hx hb hK hH hS tz148_0 (by decide) (Or.inl (by rw [tz148_0]; decide)) 0 (fun _ => rfl) rfl (rg_in (n := 300) fz148_1 (by decide) (by decide)) (trivial) dX12_findMay_148 (fun gi1 H locs hu1 ho1 hH hS => ?_)
                have e2 : w148_0 = gi1 h0 0 := by rw [ho1 _ _ (Or.inl (th_ne t_h0 tz148_0 (by decide)))]; exact ew148_0
                have e3 : w148_1 = gi1 h0 27 := by rw [ho1 _ _ (Or.inl (th_ne t_h0 tz148_0 (by decide)))]; exact ew148_1
                have hM := hM.i tz148_0 (by show (6400 : Nat) ∈ _; decide) ho1
                obtain ⟨x4, e4⟩ : ∃ y : Int32, y = y104_3 + 1 := ⟨_, rfl⟩
                have f4 : rg 1 4 x4 := by rw [e4]; exact rg_w (rg_add fy148_3 (show rg 1 1 (1 : Int32) from ⟨by decide, by decide⟩) (by decide) (by decide)) (by decide) (by decide)
                refine lv_iinc (v := x4) (lv' := [(3, .int x4), (0, .ref h0), (1, .int y84_1), (2, .int y94_2)]) hx hb dX12_findMay_149 hl (k := 3) rfl (by rw [e4]; rfl) (by decide) rfl (fun ls hl => ?_)
                refine lv_goto (tgt := 104) hx hb dX12_findMay_152 (by decide) ?_
                exact ih104 gi1 gr_148 _ _ _ x4 w148_0 w148_1 (th_up (rg_dA e4 fy148_3 (show rg 1 1 (1 : Int32) from ⟨by decide, by decide⟩) (by decide) (by decide)) fy148_3 hn104 (by decide)) hH hS hM (lv_sub hl [1, 2, 3, 0] rfl) (rg_w fy148_1 (by decide) (by decide)) fy148_2 (rg_w f4 (by decide) (by decide)) e2 fw148_0 e3 fw148_1
              refine lv_iload_n hx hb dX12_findMay_104 rfl (lv_at hl 3 rfl) ?_
              refine lv_iload_n hx hb dX12_findMay_105 rfl (lv_at hl 1 rfl) ?_
              refine lv_icmp_ge (tgt := 155) hx hb dX12_findMay_106 (by decide) (fun c5 => ?_) (fun c5 => ?_)
              · skip
                obtain ⟨x6, e6⟩ : ∃ y : Int32, y = y94_2 + 1 := ⟨_, rfl⟩
                have f6 : rg 1 12 x6 := by rw [e6]; exact rg_w (rg_add fy104_2 (show rg 1 1 (1 : Int32) from ⟨by decide, by decide⟩) (by decide) (by decide)) (by decide) (by decide)
                refine lv_iinc (v := x6) (lv' := [(2, .int x6), (0, .ref h0), (1, .int y84_1), (3, .int y104_3)]) hx hb dX12_findMay_155 hl (k := 2) rfl (by rw [e6]; rfl) (by decide) rfl (fun ls hl => ?_)
                refine lv_goto (tgt := 94) hx hb dX12_findMay_158 (by decide) ?_
                exact ih94 gi_104 gr_104 _ _ _ x6 w104_1 (th_up (rg_dA e6 fy104_2 (show rg 1 1 (1 : Int32) from ⟨by decide, by decide⟩) (by decide) (by decide)) fy104_2 hn94 (by decide)) hH hS hM (lv_sub hl [1, 2, 0] rfl) fy104_1 (rg_w f6 (by decide) (by decide)) ew104_1 fw104_1
              · skip
                have f7 : rg 1 4 y84_1 := rg_w (rg_nle fy104_1 fy104_3 c5).1 (by decide) (by decide)
                have f8 : rg 0 3 y104_3 := rg_w (rg_nle fy104_1 fy104_3 c5).2 (by decide) (by decide)
                refine lv_aload_n hx hb dX12_findMay_109 rfl (lv_at hl 0 rfl) ?_
                obtain ⟨q9, r9, t9⟩ : ∃ q, gr_104 h0 32 = some q ∧ τ q = 64 := (hH.at t_h0 (by decide)).2.2.2.2.2.2.2.2.2.2.2.2.2.2.2.2.2.2.2.2.2.2.2.2.2.2.2.2.2.2.1
                refine th_get (ci := 11) (v := .ref q9) (T := TX12) (C := RX12) (N := 38) hx hb hts (fun w h => List.mem_cons_of_mem _ (List.mem_append_right _ h)) hown hK hH t_h0 (by decide) rfl rfl 32 (by decide) (hts (.fieldLink RX12 92 "BayMooringsModel" "touching" "[I") (List.mem_cons_of_mem _ (List.mem_append_left _ (List.mem_append_left _ (List.mem_of_getElem? (i := 6) rfl))))) (fun _ h9 => h9) (by show some (va_rf (gr_104 h0 32)) = _; rw [r9]; rfl) dX12_findMay_110 ?_
                refine lv_iconst (v := 5) hx hb dX12_findMay_113 (by decide) ?_
                refine lv_bipush (v := 12) hx hb dX12_findMay_114 (by decide) ?_
                refine lv_iload_n hx hb dX12_findMay_116 rfl (lv_at hl 1 rfl) ?_
                refine lv_imul hx hb dX12_findMay_117 ?_
                refine lv_topi (fun x10 e10 => ?_)
                have f10 : rg 12 48 x10 := by rw [e10]; exact rg_w (rg_mul (show rg 12 12 (12 : Int32) from ⟨by decide, by decide⟩) f7 (by decide) (by decide) (by decide)) (by decide) (by decide)
                refine lv_iload_n hx hb dX12_findMay_118 rfl (lv_at hl 2 rfl) ?_
                refine lv_iadd hx hb dX12_findMay_119 ?_
                refine lv_topi (fun x11 e11 => ?_)
                have f11 : rg 12 59 x11 := by rw [e11]; exact rg_w (rg_add f10 fy104_2 (by decide) (by decide)) (by decide) (by decide)
                refine lv_imul hx hb dX12_findMay_120 ?_
                refine lv_topi (fun x12 e12 => ?_)
                have f12 : rg 60 295 x12 := by rw [e12]; exact rg_w (rg_mul (show rg 5 5 (5 : Int32) from ⟨by decide, by decide⟩) f11 (by decide) (by decide) (by decide)) (by decide) (by decide)
                refine lv_iload_n hx hb dX12_findMay_121 rfl (lv_at hl 3 rfl) ?_
                refine lv_iadd hx hb dX12_findMay_122 ?_
                refine lv_topi (fun x13 e13 => ?_)
                have f13 : rg 60 298 x13 := by rw [e13]; exact rg_w (rg_add f12 f8 (by decide) (by decide)) (by decide) (by decide)
                refine lv_aload_n hx hb dX12_findMay_123 rfl (lv_at hl 0 rfl) ?_
                obtain ⟨q14, r14, t14⟩ : ∃ q, gr_104 h0 29 = some q ∧ τ q = 61 := (hH.at t_h0 (by decide)).2.2.2.2.2.2.2.2.2.2.2.2.2.2.2.2.2.2.2.2.2.2.2.2.2.2.2.1
                refine th_get (ci := 11) (v := .ref q14) (T := TX12) (C := RX12) (N := 38) hx hb hts (fun w h => List.mem_cons_of_mem _ (List.mem_append_right _ h)) hown hK hH t_h0 (by decide) rfl rfl 29 (by decide) (hts (.fieldLink RX12 83 "BayMooringsModel" "may" "[I") (List.mem_cons_of_mem _ (List.mem_append_left _ (List.mem_append_left _ (List.mem_of_getElem? (i := 1) rfl))))) (fun _ h9 => h9) (by show some (va_rf (gr_104 h0 29)) = _; rw [r14]; rfl) dX12_findMay_124 ?_
                refine lv_iload_n hx hb dX12_findMay_127 rfl (lv_at hl 1 rfl) ?_
                refine th_iald hx hb hK hH t14 (by decide) 0 rfl rfl (rg_in (n := 5) f7 (by decide) (by decide)) dX12_findMay_128 ?_
                refine lv_topi (fun x15 e15 => ?_)
                refine lv_iload_n hx hb dX12_findMay_129 rfl (lv_at hl 2 rfl) ?_
                refine lv_ishr hx hb dX12_findMay_130 ?_
                refine lv_topi (fun x16 e16 => ?_)
                refine lv_iconst (v := 1) hx hb dX12_findMay_131 (by decide) ?_
                refine lv_iand hx hb dX12_findMay_132 ?_
                refine lv_topi (fun x17 e17 => ?_)
                have f17 : rg 0 1 x17 := by rw [e17]; exact rg_and 1 (by decide) (by decide) (by decide)
                refine lv_iconst (v := 1) hx hb dX12_findMay_133 (by decide) ?_
                refine lv_icmp_ne (tgt := 147) hx hb dX12_findMay_134 (by decide) (fun c18 => ?_) (fun c18 => ?_)
                · skip
                  have f19 : rg 0 0 x17 := rg_w (rg_neR f17 (show rg 1 1 (1 : Int32) from ⟨by decide, by decide⟩) c18) (by decide) (by decide)
                  refine lv_iconst (v := 0) hx hb dX12_findMay_147 (by decide) ?_
                  exact J148 gi_104 gr_104 _ _ _ q9 x13 0 w104_0 w104_1 hH hS hM (lv_sub hl [0, 1, 2, 3] rfl) f7 fy104_2 f8 t9 f13 ew104_0 fw104_0 ew104_1 fw104_1
                · skip
                  have f20 : rg 1 1 x17 := rg_w (rg_eq f17 (show rg 1 1 (1 : Int32) from ⟨by decide, by decide⟩) c18).1 (by decide) (by decide)
                  refine lv_aload_n hx hb dX12_findMay_137 rfl (lv_at hl 0 rfl) ?_
                  refine lv_iload_n hx hb dX12_findMay_138 rfl (lv_at hl 1 rfl) ?_
                  refine lv_iload_n hx hb dX12_findMay_139 rfl (lv_at hl 2 rfl) ?_
                  refine lv_iload_n hx hb dX12_findMay_140 rfl (lv_at hl 3 rfl) ?_
                  have hA21 := th_Asub (τ := τ) hS
                  refine va_calli (va_runV (As := [.int y84_1, .int y94_2, .int y104_3]) (rest := [.int x13, .ref q9]) ⟨hx, hb, hml, hown, hts⟩ (k_X12_touchingOf l D cA Z τ gi_104 gr_104 _ h0 t_h0 y84_1 (rg_w f7 (by decide) (by decide)) y94_2 fy104_2 y104_3 (rg_w f8 (by decide) (by decide))) (cwV 3 hts gX12_findMay_X12_touchingOf rfl rfl rfl (by decide +kernel) ⟨Nat.le_of_ble_eq_true rfl, Nat.le_of_ble_eq_true rfl⟩) ⟨th_blind, th_recv hK hH t_h0 (ci := 11) (by decide) rfl rfl, (th_pre hH hK hN hZ hS hA21)⟩ rfl rfl hl.1 rfl (lv_room (Nat.le_of_ble_eq_true rfl)) dX12_findMay_141 ⟨Nat.le_of_ble_eq_true rfl, Nat.le_of_ble_eq_true rfl⟩) hS (fun q _ h => hA21 q h) hA21 (fun x22 u t H locs ht hvm hw22 hB hz1 hk1 hS => ?_)
                  try dsimp only at hw22 hB
                  rw [ht] at hB
                  have hH := hB
                  refine lv_goto (tgt := 148) hx hb dX12_findMay_144 (by decide) ?_
                  exact J148 gi_104 gr_104 _ _ _ q9 x13 x22 w104_0 w104_1 hH hS hM (lv_sub hl [0, 1, 2, 3] rfl) f7 fy104_2 f8 t9 f13 ew104_0 fw104_0 ew104_1 fw104_1
          refine lv_iload_n hx hb dX12_findMay_94 rfl (lv_at hl 2 rfl) ?_
          refine lv_aload_n hx hb dX12_findMay_95 rfl (lv_at hl 0 rfl) ?_
          obtain ⟨x23, e23⟩ : ∃ y : Int32, y = gi_94 h0 0 := ⟨_, rfl⟩
          refine th_get (ci := 11) (v := .int x23) (T := TX12) (C := RX12) (N := 38) hx hb hts (fun w h => List.mem_cons_of_mem _ (List.mem_append_right _ h)) hown hK hH t_h0 (by decide) rfl rfl 0 (by decide) (hts (.fieldLink RX12 109 "BayMooringsModel" "buoys" "I") (List.mem_cons_of_mem _ (List.mem_append_left _ (List.mem_append_left _ (List.mem_of_getElem? (i := 2) rfl))))) (fun _ h9 => h9) (by rw [e23]; rfl) dX12_findMay_96 ?_
          have f23 : rg 0 12 x23 := by rw [e23]; exact (hH.at t_h0 (by decide)).2.1
          refine lv_icmp_ge (tgt := 161) hx hb dX12_findMay_99 (by decide) (fun c24 => ?_) (fun c24 => ?_)
          · skip
            obtain ⟨x25, e25⟩ : ∃ y : Int32, y = y84_1 + 1 := ⟨_, rfl⟩
            have f25 : rg 1 5 x25 := by rw [e25]; exact rg_w (rg_add fy94_1 (show rg 1 1 (1 : Int32) from ⟨by decide, by decide⟩) (by decide) (by decide)) (by decide) (by decide)
            refine lv_iinc (v := x25) (lv' := [(1, .int x25), (0, .ref h0), (2, .int y94_2)]) hx hb dX12_findMay_161 hl (k := 1) rfl (by rw [e25]; rfl) (by decide) rfl (fun ls hl => ?_)
            refine lv_goto (tgt := 84) hx hb dX12_findMay_164 (by decide) ?_
            exact ih84 gi_94 gr_94 _ _ _ x25 w94_0 (th_up (rg_dA e25 fy94_1 (show rg 1 1 (1 : Int32) from ⟨by decide, by decide⟩) (by decide) (by decide)) fy94_1 hn84 (by decide)) hH hS hM (lv_sub hl [1, 0] rfl) (rg_w f25 (by decide) (by decide)) ew94_0 (rg_w fw94_0 (by decide) (by decide))
          · skip
            have f26 : rg 1 12 x23 := rg_w (rg_nle f23 fy94_2 c24).1 (by decide) (by decide)
            have f27 : rg 0 11 y94_2 := rg_w (rg_nle f23 fy94_2 c24).2 (by decide) (by decide)
            refine lv_iconst (v := 0) hx hb dX12_findMay_102 (by decide) ?_
            refine lv_istore_n (i := 3) (lv' := [(3, .int 0), (0, .ref h0), (1, .int y84_1), (2, .int y94_2)]) hx hb dX12_findMay_103 rfl hl (by decide) rfl (fun ls hl => ?_)
            exact J104 _ gi_94 gr_94 _ _ _ 0 x23 w94_0 (Nat.lt_succ_self _) hH hS hM (lv_sub hl [1, 2, 3, 0] rfl) fy94_1 f27 (rg_w (show rg 0 0 (0 : Int32) from ⟨by decide, by decide⟩) (by decide) (by decide)) e23 f26 ew94_0 fw94_0
      refine lv_iload_n hx hb dX12_findMay_84 rfl (lv_at hl 1 rfl) ?_
      refine lv_aload_n hx hb dX12_findMay_85 rfl (lv_at hl 0 rfl) ?_
      refine th_get (ci := 11) (v := .int w84_0) (T := TX12) (C := RX12) (N := 38) hx hb hts (fun w h => List.mem_cons_of_mem _ (List.mem_append_right _ h)) hown hK hH t_h0 (by decide) rfl rfl 27 (by decide) (hts (.fieldLink RX12 200 "BayMooringsModel" "some" "I") (List.mem_cons_of_mem _ (List.mem_append_left _ (List.mem_append_left _ (List.mem_of_getElem? (i := 0) rfl))))) (fun _ h9 => h9) (by rw [ew84_0]; rfl) dX12_findMay_86 ?_
      refine lv_icmp_ge (tgt := 167) hx hb dX12_findMay_89 (by decide) (fun c29 => ?_) (fun c29 => ?_)
      · skip
        exact W.vret hx hb hr (fun t ht hW => ⟨⟨(gi_84, gr_84), rfl, hM, th_Ht ht hH⟩, hS.F ht⟩) hS.2.2 dX12_findMay_167
      · skip
        have f30 : rg 1 5 w84_0 := rg_w (rg_nle fw84_0 fy84_1 c29).1 (by decide) (by decide)
        have f31 : rg 0 4 y84_1 := rg_w (rg_nle fw84_0 fy84_1 c29).2 (by decide) (by decide)
        refine lv_iconst (v := 0) hx hb dX12_findMay_92 (by decide) ?_
        refine lv_istore_n (i := 2) (lv' := [(2, .int 0), (0, .ref h0), (1, .int y84_1)]) hx hb dX12_findMay_93 rfl hl (by decide) rfl (fun ls hl => ?_)
        exact J94 _ gi_84 gr_84 _ _ _ 0 w84_0 (Nat.lt_succ_self _) hH hS hM (lv_sub hl [1, 2, 0] rfl) f31 (rg_w (show rg 0 0 (0 : Int32) from ⟨by decide, by decide⟩) (by decide) (by decide)) ew84_0 f30
  have J2 : ∀ (n : Nat) (gi_2 : th_i) (gr_2 : th_r) (H : Heap) (locs : List Loc) (ls : Array Slot) (y2_1 : Int32), (5 - y2_1.toInt).toNat < n → th_H D cA τ gi_2 gr_2 H → va_S (th_A τ s.heap.size) s.heap H locs → th_Mod [6100, 6400] τ gi gr gi_2 gr_2 → lv_has ls 4 [(0, .ref h0), (1, .int y2_1)] → rg 0 5 y2_1 → W p l e (headSpec wsX12_findMay ({ frames := 5, cells := 0, slots := 0, locals := 152 })).room s m [.ref h0].toArray below meth c H locs 0 0 (MQ below (va_Qv (fun (u : th_i × th_r) => th_Mod [6100, 6400] τ gi gr u.1 u.2) (fun (u : th_i × th_r) t => th_H D cA τ u.1 u.2 t.heap) (th_A τ s.heap.size)) [.ref h0].toArray s 0 0 (th_A τ s.heap.size)) (F0 m 2 ls []) := by
    intro n
    induction n with
    | zero =>
      intro gi_2 gr_2 H locs ls y2_1 hn
      exact absurd hn (Nat.not_lt_zero _)
    | succ n ih2 =>
      intro gi_2 gr_2 H locs ls y2_1 hn2 hH hS hM hl fy2_1
      have J19 : ∀ (n : Nat) (gi_19 : th_i) (gr_19 : th_r) (H : Heap) (locs : List Loc) (ls : Array Slot) (y19_2 : Int32) (w19_0 : Int32), (12 - y19_2.toInt).toNat < n → th_H D cA τ gi_19 gr_19 H → va_S (th_A τ s.heap.size) s.heap H locs → th_Mod [6100, 6400] τ gi gr gi_19 gr_19 → lv_has ls 4 [(0, .ref h0), (1, .int y2_1), (2, .int y19_2)] → rg 0 4 y2_1 → rg 0 12 y19_2 → w19_0 = gi_19 h0 27 → rg 1 5 w19_0 → W p l e (headSpec wsX12_findMay ({ frames := 5, cells := 0, slots := 0, locals := 152 })).room s m [.ref h0].toArray below meth c H locs 0 0 (MQ below (va_Qv (fun (u : th_i × th_r) => th_Mod [6100, 6400] τ gi gr u.1 u.2) (fun (u : th_i × th_r) t => th_H D cA τ u.1 u.2 t.heap) (th_A τ s.heap.size)) [.ref h0].toArray s 0 0 (th_A τ s.heap.size)) (F0 m 19 ls []) := by
        intro n
        induction n with
        | zero =>
          intro gi_19 gr_19 H locs ls y19_2 w19_0 hn
          exact absurd hn (Nat.not_lt_zero _)
        | succ n ih19 =>
          intro gi_19 gr_19 H locs ls y19_2 w19_0 hn19 hH hS hM hl fy19_1 fy19_2 ew19_0 fw19_0
          have J68 : ∀ (gi_68 : th_i) (gr_68 : th_r) (H : Heap) (locs : List Loc) (ls : Array Slot) (z68_0 : Nat) (z68_2 : Int32) (z68_3 : Int32) (w68_0 : Int32) (w68_1 : Int32), th_H D cA τ gi_68 gr_68 H → va_S (th_A τ s.heap.size) s.heap H locs → th_Mod [6100, 6400] τ gi gr gi_68 gr_68 → lv_has ls 4 [(0, .ref h0), (1, .int y2_1), (2, .int y19_2)] → rg 0 4 y2_1 → rg 0 11 y19_2 → (τ z68_0 = 61) → rg 0 4 y2_1 → w68_0 = gi_68 h0 0 → rg 1 12 w68_0 → w68_1 = gi_68 h0 27 → rg 1 5 w68_1 → W p l e (headSpec wsX12_findMay ({ frames := 5, cells := 0, slots := 0, locals := 152 })).room s m [.ref h0].toArray below meth c H locs 0 0 (MQ below (va_Qv (fun (u : th_i × th_r) => th_Mod [6100, 6400] τ gi gr u.1 u.2) (fun (u : th_i × th_r) t => th_H D cA τ u.1 u.2 t.heap) (th_A τ s.heap.size)) [.ref h0].toArray s 0 0 (th_A τ s.heap.size)) (F0 m 68 ls [.int z68_3, .int z68_2, .int y2_1, .ref z68_0]) := by
            intro gi_68 gr_68 H locs ls z68_0 z68_2 z68_3 w68_0 w68_1 hH hS hM hl fy68_1 fy68_2 tz68_0 fz68_1 ew68_0 fw68_0 ew68_1 fw68_1
            refine lv_ior hx hb dX12_findMay_68 ?_
            refine lv_topi (fun x32 e32 => ?_)
            refine th_iast hx hb hK hH hS tz68_0 (by decide) (Or.inl (by rw [tz68_0]; decide)) 0 (fun _ => rfl) rfl (rg_in (n := 5) fz68_1 (by decide) (by decide)) (trivial) dX12_findMay_69 (fun gi33 H locs hu33 ho33 hH hS => ?_)
            have e34 : w68_0 = gi33 h0 0 := by rw [ho33 _ _ (Or.inl (th_ne t_h0 tz68_0 (by decide)))]; exact ew68_0
            have e35 : w68_1 = gi33 h0 27 := by rw [ho33 _ _ (Or.inl (th_ne t_h0 tz68_0 (by decide)))]; exact ew68_1
            have hM := hM.i tz68_0 (by show (6100 : Nat) ∈ _; decide) ho33
            obtain ⟨x36, e36⟩ : ∃ y : Int32, y = y19_2 + 1 := ⟨_, rfl⟩
            have f36 : rg 1 12 x36 := by rw [e36]; exact rg_w (rg_add fy68_2 (show rg 1 1 (1 : Int32) from ⟨by decide, by decide⟩) (by decide) (by decide)) (by decide) (by decide)
            refine lv_iinc (v := x36) (lv' := [(2, .int x36), (0, .ref h0), (1, .int y2_1)]) hx hb dX12_findMay_70 hl (k := 2) rfl (by rw [e36]; rfl) (by decide) rfl (fun ls hl => ?_)
            refine lv_goto (tgt := 19) hx hb dX12_findMay_73 (by decide) ?_
            exact ih19 gi33 gr_68 _ _ _ x36 w68_1 (th_up (rg_dA e36 fy68_2 (show rg 1 1 (1 : Int32) from ⟨by decide, by decide⟩) (by decide) (by decide)) fy68_2 hn19 (by decide)) hH hS hM (lv_sub hl [1, 2, 0] rfl) fz68_1 (rg_w f36 (by decide) (by decide)) e35 fw68_1
          have J67 : ∀ (gi_67 : th_i) (gr_67 : th_r) (H : Heap) (locs : List Loc) (ls : Array Slot) (z67_0 : Nat) (z67_2 : Int32) (w67_0 : Int32) (w67_1 : Int32), th_H D cA τ gi_67 gr_67 H → va_S (th_A τ s.heap.size) s.heap H locs → th_Mod [6100, 6400] τ gi gr gi_67 gr_67 → lv_has ls 4 [(0, .ref h0), (1, .int y2_1), (2, .int y19_2)] → rg 0 4 y2_1 → rg 0 11 y19_2 → (τ z67_0 = 61) → rg 0 4 y2_1 → w67_0 = gi_67 h0 0 → rg 1 12 w67_0 → w67_1 = gi_67 h0 27 → rg 1 5 w67_1 → W p l e (headSpec wsX12_findMay ({ frames := 5, cells := 0, slots := 0, locals := 152 })).room s m [.ref h0].toArray below meth c H locs 0 0 (MQ below (va_Qv (fun (u : th_i × th_r) => th_Mod [6100, 6400] τ gi gr u.1 u.2) (fun (u : th_i × th_r) t => th_H D cA τ u.1 u.2 t.heap) (th_A τ s.heap.size)) [.ref h0].toArray s 0 0 (th_A τ s.heap.size)) (F0 m 67 ls [.int z67_2, .int y2_1, .ref z67_0]) := by
            intro gi_67 gr_67 H locs ls z67_0 z67_2 w67_0 w67_1 hH hS hM hl fy67_1 fy67_2 tz67_0 fz67_1 ew67_0 fw67_0 ew67_1 fw67_1
            refine lv_iconst (v := 0) hx hb dX12_findMay_67 (by decide) ?_
            exact J68 gi_67 gr_67 _ _ _ z67_0 z67_2 0 w67_0 w67_1 hH hS hM (lv_sub hl [0, 1, 2] rfl) fz67_1 fy67_2 tz67_0 fz67_1 ew67_0 fw67_0 ew67_1 fw67_1
          refine lv_iload_n hx hb dX12_findMay_19 rfl (lv_at hl 2 rfl) ?_
          refine lv_aload_n hx hb dX12_findMay_20 rfl (lv_at hl 0 rfl) ?_
          obtain ⟨x37, e37⟩ : ∃ y : Int32, y = gi_19 h0 0 := ⟨_, rfl⟩
          refine th_get (ci := 11) (v := .int x37) (T := TX12) (C := RX12) (N := 38) hx hb hts (fun w h => List.mem_cons_of_mem _ (List.mem_append_right _ h)) hown hK hH t_h0 (by decide) rfl rfl 0 (by decide) (hts (.fieldLink RX12 109 "BayMooringsModel" "buoys" "I") (List.mem_cons_of_mem _ (List.mem_append_left _ (List.mem_append_left _ (List.mem_of_getElem? (i := 2) rfl))))) (fun _ h9 => h9) (by rw [e37]; rfl) dX12_findMay_21 ?_
          have f37 : rg 0 12 x37 := by rw [e37]; exact (hH.at t_h0 (by decide)).2.1
          refine lv_icmp_ge (tgt := 76) hx hb dX12_findMay_24 (by decide) (fun c38 => ?_) (fun c38 => ?_)
          · skip
            obtain ⟨x39, e39⟩ : ∃ y : Int32, y = y2_1 + 1 := ⟨_, rfl⟩
            have f39 : rg 1 5 x39 := by rw [e39]; exact rg_w (rg_add fy19_1 (show rg 1 1 (1 : Int32) from ⟨by decide, by decide⟩) (by decide) (by decide)) (by decide) (by decide)
            refine lv_iinc (v := x39) (lv' := [(1, .int x39), (0, .ref h0), (2, .int y19_2)]) hx hb dX12_findMay_76 hl (k := 1) rfl (by rw [e39]; rfl) (by decide) rfl (fun ls hl => ?_)
            refine lv_goto (tgt := 2) hx hb dX12_findMay_79 (by decide) ?_
            exact ih2 gi_19 gr_19 _ _ _ x39 (th_up (rg_dA e39 fy19_1 (show rg 1 1 (1 : Int32) from ⟨by decide, by decide⟩) (by decide) (by decide)) fy19_1 hn2 (by decide)) hH hS hM (lv_sub hl [1, 0] rfl) (rg_w f39 (by decide) (by decide))
          · skip
            have f40 : rg 1 12 x37 := rg_w (rg_nle f37 fy19_2 c38).1 (by decide) (by decide)
            have f41 : rg 0 11 y19_2 := rg_w (rg_nle f37 fy19_2 c38).2 (by decide) (by decide)
            refine lv_aload_n hx hb dX12_findMay_27 rfl (lv_at hl 0 rfl) ?_
            obtain ⟨q42, r42, t42⟩ : ∃ q, gr_19 h0 29 = some q ∧ τ q = 61 := (hH.at t_h0 (by decide)).2.2.2.2.2.2.2.2.2.2.2.2.2.2.2.2.2.2.2.2.2.2.2.2.2.2.2.1
            refine th_get (ci := 11) (v := .ref q42) (T := TX12) (C := RX12) (N := 38) hx hb hts (fun w h => List.mem_cons_of_mem _ (List.mem_append_right _ h)) hown hK hH t_h0 (by decide) rfl rfl 29 (by decide) (hts (.fieldLink RX12 83 "BayMooringsModel" "may" "[I") (List.mem_cons_of_mem _ (List.mem_append_left _ (List.mem_append_left _ (List.mem_of_getElem? (i := 1) rfl))))) (fun _ h9 => h9) (by show some (va_rf (gr_19 h0 29)) = _; rw [r42]; rfl) dX12_findMay_28 ?_
            refine lv_iload_n hx hb dX12_findMay_31 rfl (lv_at hl 1 rfl) ?_
            refine lv_dup2_11 hx hb dX12_findMay_32 rfl rfl ?_
            refine th_iald hx hb hK hH t42 (by decide) 0 rfl rfl (rg_in (n := 5) fy19_1 (by decide) (by decide)) dX12_findMay_33 ?_
            refine lv_topi (fun x43 e43 => ?_)
            refine lv_aload_n hx hb dX12_findMay_34 rfl (lv_at hl 0 rfl) ?_
            obtain ⟨q44, r44, t44⟩ : ∃ q, gr_19 h0 7 = some q ∧ τ q = 46 := (hH.at t_h0 (by decide)).2.2.2.2.2.2.2.2.1
            refine th_get (ci := 11) (v := .ref q44) (T := TX12) (C := RX12) (N := 38) hx hb hts (fun w h => List.mem_cons_of_mem _ (List.mem_append_right _ h)) hown hK hH t_h0 (by decide) rfl rfl 7 (by decide) (hts (.fieldLink RX12 28 "BayMooringsModel" "boatAt" "[I") (List.mem_cons_of_mem _ (List.mem_append_left _ (List.mem_append_left _ (List.mem_of_getElem? (i := 3) rfl))))) (fun _ h9 => h9) (by show some (va_rf (gr_19 h0 7)) = _; rw [r44]; rfl) dX12_findMay_35 ?_
            refine lv_iload_n hx hb dX12_findMay_38 rfl (lv_at hl 2 rfl) ?_
            refine th_iald hx hb hK hH t44 (by decide) 0 rfl rfl (rg_in (n := 12) f41 (by decide) (by decide)) dX12_findMay_39 ?_
            refine lv_topi (fun x45 e45 => ?_)
            have f45 : rg (-1) 15 x45 := by rw [e45]; exact (hH.at t44 (by decide)).2 _ (rg_cl (n := 12) f41 (by decide) (by decide))
            refine lv_if_ge (tgt := 67) hx hb dX12_findMay_40 (by decide) (fun c46 => ?_) (fun c46 => ?_)
            · skip
              have f47 : rg 0 15 x45 := rg_w (rg_le (show rg 0 0 (0 : Int32) from ⟨by decide, by decide⟩) f45 c46).2 (by decide) (by decide)
              exact J67 gi_19 gr_19 _ _ _ q42 x43 x37 w19_0 hH hS hM (lv_sub hl [0, 1, 2] rfl) fy19_1 f41 t42 fy19_1 e37 f40 ew19_0 fw19_0
            · skip
              have f48 : rg (-1) (-1) x45 := rg_w (rg_nle (show rg 0 0 (0 : Int32) from ⟨by decide, by decide⟩) f45 c46).2 (by decide) (by decide)
              refine lv_aload_n hx hb dX12_findMay_43 rfl (lv_at hl 0 rfl) ?_
              refine lv_aload_n hx hb dX12_findMay_44 rfl (lv_at hl 0 rfl) ?_
              obtain ⟨q49, r49, t49⟩ : ∃ q, gr_19 h0 28 = some q ∧ τ q = 60 := (hH.at t_h0 (by decide)).2.2.2.2.2.2.2.2.2.2.2.2.2.2.2.2.2.2.2.2.2.2.2.2.2.2.1
              refine th_get (ci := 11) (v := .ref q49) (T := TX12) (C := RX12) (N := 38) hx hb hts (fun w h => List.mem_cons_of_mem _ (List.mem_append_right _ h)) hown hK hH t_h0 (by decide) rfl rfl 28 (by decide) (hts (.fieldLink RX12 80 "BayMooringsModel" "someOf" "[I") (List.mem_cons_of_mem _ (List.mem_append_left _ (List.mem_append_left _ (List.mem_of_getElem? (i := 4) rfl))))) (fun _ h9 => h9) (by show some (va_rf (gr_19 h0 28)) = _; rw [r49]; rfl) dX12_findMay_45 ?_
              refine lv_iload_n hx hb dX12_findMay_48 rfl (lv_at hl 1 rfl) ?_
              refine th_iald hx hb hK hH t49 (by decide) 0 rfl rfl (rg_in (n := 5) fy19_1 (by decide) (by decide)) dX12_findMay_49 ?_
              refine lv_topi (fun x50 e50 => ?_)
              have f50 : rg 0 15 x50 := by rw [e50]; exact (hH.at t49 (by decide)).2 _ (rg_cl (n := 5) fy19_1 (by decide) (by decide))
              refine lv_iload_n hx hb dX12_findMay_50 rfl (lv_at hl 2 rfl) ?_
              refine lv_aload_n hx hb dX12_findMay_51 rfl (lv_at hl 0 rfl) ?_
              obtain ⟨q51, r51, t51⟩ : ∃ q, gr_19 h0 12 = some q ∧ τ q = 50 := (hH.at t_h0 (by decide)).2.2.2.2.2.2.2.2.2.2.2.2.2.1
              refine th_get (ci := 11) (v := .ref q51) (T := TX12) (C := RX12) (N := 38) hx hb hts (fun w h => List.mem_cons_of_mem _ (List.mem_append_right _ h)) hown hK hH t_h0 (by decide) rfl rfl 12 (by decide) (hts (.fieldLink RX12 40 "BayMooringsModel" "buoyOf" "[I") (List.mem_cons_of_mem _ (List.mem_append_left _ (List.mem_append_left _ (List.mem_of_getElem? (i := 5) rfl))))) (fun _ h9 => h9) (by show some (va_rf (gr_19 h0 12)) = _; rw [r51]; rfl) dX12_findMay_52 ?_
              have hA52 := th_Asub (τ := τ) hS
              refine va_calli (va_runV (As := [.int x50, .int y19_2, .ref q51]) (rest := [.int x43, .int y2_1, .ref q42]) ⟨hx, hb, hml, hown, hts⟩ (k_X12_mayLie l D cA Z τ gi_19 gr_19 _ h0 t_h0 x50 f50 y19_2 f41 q51 (Or.inl t51)) (cwV 3 hts gX12_findMay_X12_mayLie rfl rfl rfl (by decide +kernel) ⟨Nat.le_of_ble_eq_true rfl, Nat.le_of_ble_eq_true rfl⟩) ⟨th_blind, th_recv hK hH t_h0 (ci := 11) (by decide) rfl rfl, (th_pre hH hK hN hZ hS hA52)⟩ rfl rfl hl.1 rfl (lv_room (Nat.le_of_ble_eq_true rfl)) dX12_findMay_55 ⟨Nat.le_of_ble_eq_true rfl, Nat.le_of_ble_eq_true rfl⟩) hS (fun q _ h => hA52 q h) hA52 (fun x53 u t H locs ht hvm hw53 hB hz1 hk1 hS => ?_)
              try dsimp only at hw53 hB
              rw [ht] at hB
              have hH := hB
              refine lv_if_eq (tgt := 67) hx hb dX12_findMay_58 (by decide) (fun c54 => ?_) (fun c54 => ?_)
              · skip
                have f55 : rg 0 0 x53 := rg_w (rg_eq hw53 (show rg 0 0 (0 : Int32) from ⟨by decide, by decide⟩) c54).1 (by decide) (by decide)
                exact J67 gi_19 gr_19 _ _ _ q42 x43 x37 w19_0 hH hS hM (lv_sub hl [0, 1, 2] rfl) fy19_1 f41 t42 fy19_1 e37 f40 ew19_0 fw19_0
              · skip
                have f56 : rg 1 1 x53 := rg_w (rg_neL hw53 (show rg 0 0 (0 : Int32) from ⟨by decide, by decide⟩) c54) (by decide) (by decide)
                refine lv_iconst (v := 1) hx hb dX12_findMay_61 (by decide) ?_
                refine lv_iload_n hx hb dX12_findMay_62 rfl (lv_at hl 2 rfl) ?_
                refine lv_ishl hx hb dX12_findMay_63 ?_
                refine lv_topi (fun x57 e57 => ?_)
                refine lv_goto (tgt := 68) hx hb dX12_findMay_64 (by decide) ?_
                exact J68 gi_19 gr_19 _ _ _ q42 x43 x57 x37 w19_0 hH hS hM (lv_sub hl [0, 1, 2] rfl) fy19_1 f41 t42 fy19_1 e37 f40 ew19_0 fw19_0
      refine lv_iload_n hx hb dX12_findMay_2 rfl (lv_at hl 1 rfl) ?_
      refine lv_aload_n hx hb dX12_findMay_3 rfl (lv_at hl 0 rfl) ?_
      obtain ⟨x58, e58⟩ : ∃ y : Int32, y = gi_2 h0 27 := ⟨_, rfl⟩
      refine th_get (ci := 11) (v := .int x58) (T := TX12) (C := RX12) (N := 38) hx hb hts (fun w h => List.mem_cons_of_mem _ (List.mem_append_right _ h)) hown hK hH t_h0 (by decide) rfl rfl 27 (by decide) (hts (.fieldLink RX12 200 "BayMooringsModel" "some" "I") (List.mem_cons_of_mem _ (List.mem_append_left _ (List.mem_append_left _ (List.mem_of_getElem? (i := 0) rfl))))) (fun _ h9 => h9) (by rw [e58]; rfl) dX12_findMay_4 ?_
      have f58 : rg 0 5 x58 := by rw [e58]; exact (hH.at t_h0 (by decide)).2.2.2.2.2.2.2.2.2.2.2.2.2.2.2.2.2.2.2.2.2.2.2.2.2.1
      refine lv_icmp_ge (tgt := 82) hx hb dX12_findMay_7 (by decide) (fun c59 => ?_) (fun c59 => ?_)
      · skip
        refine lv_iconst (v := 0) hx hb dX12_findMay_82 (by decide) ?_
        refine lv_istore_n (i := 1) (lv' := [(1, .int 0), (0, .ref h0)]) hx hb dX12_findMay_83 rfl hl (by decide) rfl (fun ls hl => ?_)
        exact J84 _ gi_2 gr_2 _ _ _ 0 x58 (Nat.lt_succ_self _) hH hS hM (lv_sub hl [1, 0] rfl) (rg_w (show rg 0 0 (0 : Int32) from ⟨by decide, by decide⟩) (by decide) (by decide)) e58 f58
      · skip
        have f60 : rg 1 5 x58 := rg_w (rg_nle f58 fy2_1 c59).1 (by decide) (by decide)
        have f61 : rg 0 4 y2_1 := rg_w (rg_nle f58 fy2_1 c59).2 (by decide) (by decide)
        refine lv_aload_n hx hb dX12_findMay_10 rfl (lv_at hl 0 rfl) ?_
        obtain ⟨q62, r62, t62⟩ : ∃ q, gr_2 h0 29 = some q ∧ τ q = 61 := (hH.at t_h0 (by decide)).2.2.2.2.2.2.2.2.2.2.2.2.2.2.2.2.2.2.2.2.2.2.2.2.2.2.2.1
        refine th_get (ci := 11) (v := .ref q62) (T := TX12) (C := RX12) (N := 38) hx hb hts (fun w h => List.mem_cons_of_mem _ (List.mem_append_right _ h)) hown hK hH t_h0 (by decide) rfl rfl 29 (by decide) (hts (.fieldLink RX12 83 "BayMooringsModel" "may" "[I") (List.mem_cons_of_mem _ (List.mem_append_left _ (List.mem_append_left _ (List.mem_of_getElem? (i := 1) rfl))))) (fun _ h9 => h9) (by show some (va_rf (gr_2 h0 29)) = _; rw [r62]; rfl) dX12_findMay_11 ?_
        refine lv_iload_n hx hb dX12_findMay_14 rfl (lv_at hl 1 rfl) ?_
        refine lv_iconst (v := 0) hx hb dX12_findMay_15 (by decide) ?_
        refine th_iast hx hb hK hH hS t62 (by decide) (Or.inl (by rw [t62]; decide)) 0 (fun _ => rfl) rfl (rg_in (n := 5) f61 (by decide) (by decide)) (trivial) dX12_findMay_16 (fun gi63 H locs hu63 ho63 hH hS => ?_)
        have e64 : x58 = gi63 h0 27 := by rw [ho63 _ _ (Or.inl (th_ne t_h0 t62 (by decide)))]; exact e58
        have hM := hM.i t62 (by show (6100 : Nat) ∈ _; decide) ho63
        refine lv_iconst (v := 0) hx hb dX12_findMay_17 (by decide) ?_
        refine lv_istore_n (i := 2) (lv' := [(2, .int 0), (0, .ref h0), (1, .int y2_1)]) hx hb dX12_findMay_18 rfl hl (by decide) rfl (fun ls hl => ?_)
        exact J19 _ gi63 gr_2 _ _ _ 0 x58 (Nat.lt_succ_self _) hH hS hM (lv_sub hl [1, 2, 0] rfl) f61 (rg_w (show rg 0 0 (0 : Int32) from ⟨by decide, by decide⟩) (by decide) (by decide)) e64 f60
  have hS : va_S (th_A τ s.heap.size) s.heap s.heap [] := va_S.rf
  have hl := lv_entry ([.ref h0]) (n := 4) (Nat.le_of_ble_eq_true rfl)
  rw [lg_entry_eq]
  generalize (lg_sl ([.ref h0]) ++ List.replicate (4 - (lg_sl ([.ref h0])).length) Slot.unset).toArray = ls at hl ⊢
  have hl : lv_has ls 4 [(0, .ref h0)] := hl
  refine lv_iconst (v := 0) hx hb dX12_findMay_0 (by decide) ?_
  refine lv_istore_n (i := 1) (lv' := [(1, .int 0), (0, .ref h0)]) hx hb dX12_findMay_1 rfl hl (by decide) rfl (fun ls hl => ?_)
  exact J2 _ gi gr _ _ _ 0 (Nat.lt_succ_self _) hH hS hM (lv_sub hl [1, 0] rfl) (rg_w (show rg 0 0 (0 : Int32) from ⟨by decide, by decide⟩) (by decide) (by decide))

set_option maxHeartbeats 8000000 in
set_option maxRecDepth 100000 in
theorem k_X12_canHave (l : Launch) (D : va_G) (cA : Nat → ClassId) (Z : th_Zt) (τ : th_t) (gi : th_i) (gr : th_r) (sz : Nat) (h0 : Nat) (t_h0 : τ h0 = 12) (p1 : Int32) (f_p1 : rg 0 4 p1) (p2 : Int32) (f_p2 : rg 0 11 p2) : Met l yX12_canHave wsX12_canHave ({ frames := 0, cells := 0, slots := 0, locals := 0 }) (va_Pc [.ref h0, .int p1, .int p2] (th_Pre D cA Z τ gi gr sz)) (va_Qi (fun (r : Int32) (_ : Unit) => rg 0 1 r) (fun (_ : Unit) t => th_H D cA τ gi gr t.heap) (th_A τ sz)) 0 0 (th_A τ sz) := by
  refine Met.ofW (cc := cX12_canHave) (maxL := 5) (ret := (some .boolean)) (by decide) rfl ?_
  intro p e s m args below meth c s₁ B hml hv
  obtain ⟨rfl, hsz, hH, hK, hN, hZ⟩ := hv
  have hx := B.exec
  have hb := B.bytes
  have hr := B.returns
  have hts := atoms_spec (ws := wsX12_canHave) B.pre
  have hown : s.vm.findClass RX12 = some m.cls := findClass_of_methodNamed B.named
  have hlocks := B.notSynchronized
  subst hsz
  have J23 : ∀ (n : Nat) (H : Heap) (locs : List Loc) (ls : Array Slot) (y23_3 : Int32) (y23_4 : Int32), (4 - y23_4.toInt).toNat < n → th_H D cA τ gi gr H → va_S (th_A τ s.heap.size) s.heap H locs → lv_has ls 5 [(0, .ref h0), (1, .int p1), (2, .int p2), (3, .int y23_3), (4, .int y23_4)] → rg 0 4 p1 → rg 0 11 p2 → rg 0 1 y23_3 → rg 0 4 y23_4 → W p l e (headSpec wsX12_canHave ({ frames := 0, cells := 0, slots := 0, locals := 0 })).room s m [.ref h0, .int p1, .int p2].toArray below meth c H locs 0 0 (MQ below (va_Qi (fun (r : Int32) (_ : Unit) => rg 0 1 r) (fun (_ : Unit) t => th_H D cA τ gi gr t.heap) (th_A τ s.heap.size)) [.ref h0, .int p1, .int p2].toArray s 0 0 (th_A τ s.heap.size)) (F0 m 23 ls []) := by
    intro n
    induction n with
    | zero =>
      intro H locs ls y23_3 y23_4 hn
      exact absurd hn (Nat.not_lt_zero _)
    | succ n ih23 =>
      intro H locs ls y23_3 y23_4 hn23 hH hS hl fy23_1 fy23_2 fy23_3 fy23_4
      have J79 : ∀ (H : Heap) (locs : List Loc) (ls : Array Slot) (z79_0 : Int32), th_H D cA τ gi gr H → va_S (th_A τ s.heap.size) s.heap H locs → lv_has ls 5 [(0, .ref h0), (1, .int p1), (2, .int p2), (4, .int y23_4)] → rg 1 4 p1 → rg 0 11 p2 → rg 0 3 y23_4 → rg 0 1 z79_0 → W p l e (headSpec wsX12_canHave ({ frames := 0, cells := 0, slots := 0, locals := 0 })).room s m [.ref h0, .int p1, .int p2].toArray below meth c H locs 0 0 (MQ below (va_Qi (fun (r : Int32) (_ : Unit) => rg 0 1 r) (fun (_ : Unit) t => th_H D cA τ gi gr t.heap) (th_A τ s.heap.size)) [.ref h0, .int p1, .int p2].toArray s 0 0 (th_A τ s.heap.size)) (F0 m 79 ls [.int z79_0]) := by
        intro H locs ls z79_0 hH hS hl fy79_1 fy79_2 fy79_4 fz79_0
        refine lv_istore_n (i := 3) (lv' := [(3, .int z79_0), (0, .ref h0), (1, .int p1), (2, .int p2), (4, .int y23_4)]) hx hb dX12_canHave_79 rfl hl (by decide) rfl (fun ls hl => ?_)
        obtain ⟨x1, e1⟩ : ∃ y : Int32, y = y23_4 + 1 := ⟨_, rfl⟩
        have f1 : rg 1 4 x1 := by rw [e1]; exact rg_w (rg_add fy79_4 (show rg 1 1 (1 : Int32) from ⟨by decide, by decide⟩) (by decide) (by decide)) (by decide) (by decide)
        refine lv_iinc (v := x1) (lv' := [(4, .int x1), (3, .int z79_0), (0, .ref h0), (1, .int p1), (2, .int p2)]) hx hb dX12_canHave_80 hl (k := 4) rfl (by rw [e1]; rfl) (by decide) rfl (fun ls hl => ?_)
        refine lv_goto (tgt := 23) hx hb dX12_canHave_83 (by decide) ?_
        exact ih23 _ _ _ z79_0 x1 (th_up (rg_dA e1 fy79_4 (show rg 1 1 (1 : Int32) from ⟨by decide, by decide⟩) (by decide) (by decide)) fy79_4 hn23 (by decide)) hH hS (lv_sub hl [2, 3, 4, 1, 0] rfl) (rg_w fy79_1 (by decide) (by decide)) fy79_2 fz79_0 (rg_w f1 (by decide) (by decide))
      have J74 : ∀ (H : Heap) (locs : List Loc) (ls : Array Slot), th_H D cA τ gi gr H → va_S (th_A τ s.heap.size) s.heap H locs → lv_has ls 5 [(0, .ref h0), (1, .int p1), (2, .int p2), (4, .int y23_4)] → rg 1 4 p1 → rg 0 11 p2 → rg 0 3 y23_4 → W p l e (headSpec wsX12_canHave ({ frames := 0, cells := 0, slots := 0, locals := 0 })).room s m [.ref h0, .int p1, .int p2].toArray below meth c H locs 0 0 (MQ below (va_Qi (fun (r : Int32) (_ : Unit) => rg 0 1 r) (fun (_ : Unit) t => th_H D cA τ gi gr t.heap) (th_A τ s.heap.size)) [.ref h0, .int p1, .int p2].toArray s 0 0 (th_A τ s.heap.size)) (F0 m 74 ls []) := by
        intro H locs ls hH hS hl fy74_1 fy74_2 fy74_4
        refine lv_iconst (v := 1) hx hb dX12_canHave_74 (by decide) ?_
        refine lv_goto (tgt := 79) hx hb dX12_canHave_75 (by decide) ?_
        exact J79 _ _ _ 1 hH hS (lv_sub hl [0, 1, 2, 3] rfl) fy74_1 fy74_2 fy74_4 (rg_w (show rg 1 1 (1 : Int32) from ⟨by decide, by decide⟩) (by decide) (by decide))
      refine lv_iload hx hb dX12_canHave_23 (lv_at hl 4 rfl) ?_
      refine lv_iload_n hx hb dX12_canHave_25 rfl (lv_at hl 1 rfl) ?_
      refine lv_icmp_ge (tgt := 86) hx hb dX12_canHave_26 (by decide) (fun c2 => ?_) (fun c2 => ?_)
      · skip
        refine lv_iload_n hx hb dX12_canHave_86 rfl (lv_at hl 3 rfl) ?_
        exact W.zret (v := y23_3) hx hb hr (rg_nb fy23_3) (fun t ht hW => ⟨⟨y23_3, (), rfl, fy23_3, th_Ht ht hH⟩, hS.F ht⟩) hS.2.2 dX12_canHave_87
      · skip
        have f3 : rg 1 4 p1 := rg_w (rg_nle fy23_1 fy23_4 c2).1 (by decide) (by decide)
        have f4 : rg 0 3 y23_4 := rg_w (rg_nle fy23_1 fy23_4 c2).2 (by decide) (by decide)
        refine lv_iload_n hx hb dX12_canHave_29 rfl (lv_at hl 3 rfl) ?_
        refine lv_if_eq (tgt := 86) hx hb dX12_canHave_30 (by decide) (fun c5 => ?_) (fun c5 => ?_)
        · skip
          have f6 : rg 0 0 y23_3 := rg_w (rg_eq fy23_3 (show rg 0 0 (0 : Int32) from ⟨by decide, by decide⟩) c5).1 (by decide) (by decide)
          refine lv_iload_n hx hb dX12_canHave_86 rfl (lv_at hl 3 rfl) ?_
          exact W.zret (v := y23_3) hx hb hr (rg_nb (rg_w f6 (by decide) (by decide))) (fun t ht hW => ⟨⟨y23_3, (), rfl, (rg_w f6 (by decide) (by decide)), th_Ht ht hH⟩, hS.F ht⟩) hS.2.2 dX12_canHave_87
        · skip
          have f7 : rg 1 1 y23_3 := rg_w (rg_neL fy23_3 (show rg 0 0 (0 : Int32) from ⟨by decide, by decide⟩) c5) (by decide) (by decide)
          refine lv_aload_n hx hb dX12_canHave_33 rfl (lv_at hl 0 rfl) ?_
          obtain ⟨q8, r8, t8⟩ : ∃ q, gr h0 30 = some q ∧ τ q = 62 := (hH.at t_h0 (by decide)).2.2.2.2.2.2.2.2.2.2.2.2.2.2.2.2.2.2.2.2.2.2.2.2.2.2.2.2.1
          refine th_get (ci := 11) (v := .ref q8) (T := TX12) (C := RX12) (N := 38) hx hb hts (fun w h => List.mem_cons_of_mem _ (List.mem_append_right _ h)) hown hK hH t_h0 (by decide) rfl rfl 30 (by decide) (hts (.fieldLink RX12 86 "BayMooringsModel" "tried" "[I") (List.mem_cons_of_mem _ (List.mem_append_left _ (List.mem_of_getElem? (i := 1) rfl)))) (fun _ h9 => h9) (by show some (va_rf (gr h0 30)) = _; rw [r8]; rfl) dX12_canHave_34 ?_
          refine lv_iload hx hb dX12_canHave_37 (lv_at hl 4 rfl) ?_
          refine th_iald hx hb hK hH t8 (by decide) 0 rfl rfl (rg_in (n := 6) f4 (by decide) (by decide)) dX12_canHave_39 ?_
          refine lv_topi (fun x9 e9 => ?_)
          have f9 : rg (-1) 13 x9 := by rw [e9]; exact (hH.at t8 (by decide)).2 _ (rg_cl (n := 6) f4 (by decide) (by decide))
          refine lv_bipush (v := 12) hx hb dX12_canHave_40 (by decide) ?_
          refine lv_icmp_eq (tgt := 74) hx hb dX12_canHave_42 (by decide) (fun c10 => ?_) (fun c10 => ?_)
          · skip
            have f11 : rg 12 12 x9 := rg_w (rg_eq f9 (show rg 12 12 (12 : Int32) from ⟨by decide, by decide⟩) c10).1 (by decide) (by decide)
            exact J74 _ _ _ hH hS (lv_sub hl [0, 1, 2, 4] rfl) f3 fy23_2 f4
          · skip
            refine lv_aload_n hx hb dX12_canHave_45 rfl (lv_at hl 0 rfl) ?_
            obtain ⟨q12, r12, t12⟩ : ∃ q, gr h0 32 = some q ∧ τ q = 64 := (hH.at t_h0 (by decide)).2.2.2.2.2.2.2.2.2.2.2.2.2.2.2.2.2.2.2.2.2.2.2.2.2.2.2.2.2.2.1
            refine th_get (ci := 11) (v := .ref q12) (T := TX12) (C := RX12) (N := 38) hx hb hts (fun w h => List.mem_cons_of_mem _ (List.mem_append_right _ h)) hown hK hH t_h0 (by decide) rfl rfl 32 (by decide) (hts (.fieldLink RX12 92 "BayMooringsModel" "touching" "[I") (List.mem_cons_of_mem _ (List.mem_append_left _ (List.mem_of_getElem? (i := 2) rfl)))) (fun _ h9 => h9) (by show some (va_rf (gr h0 32)) = _; rw [r12]; rfl) dX12_canHave_46 ?_
            refine lv_iconst (v := 5) hx hb dX12_canHave_49 (by decide) ?_
            refine lv_bipush (v := 12) hx hb dX12_canHave_50 (by decide) ?_
            refine lv_iload_n hx hb dX12_canHave_52 rfl (lv_at hl 1 rfl) ?_
            refine lv_imul hx hb dX12_canHave_53 ?_
            refine lv_topi (fun x13 e13 => ?_)
            have f13 : rg 12 48 x13 := by rw [e13]; exact rg_w (rg_mul (show rg 12 12 (12 : Int32) from ⟨by decide, by decide⟩) f3 (by decide) (by decide) (by decide)) (by decide) (by decide)
            refine lv_iload_n hx hb dX12_canHave_54 rfl (lv_at hl 2 rfl) ?_
            refine lv_iadd hx hb dX12_canHave_55 ?_
            refine lv_topi (fun x14 e14 => ?_)
            have f14 : rg 12 59 x14 := by rw [e14]; exact rg_w (rg_add f13 fy23_2 (by decide) (by decide)) (by decide) (by decide)
            refine lv_imul hx hb dX12_canHave_56 ?_
            refine lv_topi (fun x15 e15 => ?_)
            have f15 : rg 60 295 x15 := by rw [e15]; exact rg_w (rg_mul (show rg 5 5 (5 : Int32) from ⟨by decide, by decide⟩) f14 (by decide) (by decide) (by decide)) (by decide) (by decide)
            refine lv_iload hx hb dX12_canHave_57 (lv_at hl 4 rfl) ?_
            refine lv_iadd hx hb dX12_canHave_59 ?_
            refine lv_topi (fun x16 e16 => ?_)
            have f16 : rg 60 298 x16 := by rw [e16]; exact rg_w (rg_add f15 f4 (by decide) (by decide)) (by decide) (by decide)
            refine th_iald hx hb hK hH t12 (by decide) 0 rfl rfl (rg_in (n := 300) f16 (by decide) (by decide)) dX12_canHave_60 ?_
            refine lv_topi (fun x17 e17 => ?_)
            refine lv_aload_n hx hb dX12_canHave_61 rfl (lv_at hl 0 rfl) ?_
            refine th_get (ci := 11) (v := .ref q8) (T := TX12) (C := RX12) (N := 38) hx hb hts (fun w h => List.mem_cons_of_mem _ (List.mem_append_right _ h)) hown hK hH t_h0 (by decide) rfl rfl 30 (by decide) (hts (.fieldLink RX12 86 "BayMooringsModel" "tried" "[I") (List.mem_cons_of_mem _ (List.mem_append_left _ (List.mem_of_getElem? (i := 1) rfl)))) (fun _ h9 => h9) (by show some (va_rf (gr h0 30)) = _; rw [r8]; rfl) dX12_canHave_62 ?_
            refine lv_iload hx hb dX12_canHave_65 (lv_at hl 4 rfl) ?_
            refine th_iald hx hb hK hH t8 (by decide) 0 rfl rfl (rg_in (n := 6) f4 (by decide) (by decide)) dX12_canHave_67 ?_
            rw [← e9]
            refine lv_ishr hx hb dX12_canHave_68 ?_
            refine lv_topi (fun x20 e20 => ?_)
            refine lv_iconst (v := 1) hx hb dX12_canHave_69 (by decide) ?_
            refine lv_iand hx hb dX12_canHave_70 ?_
            refine lv_topi (fun x21 e21 => ?_)
            have f21 : rg 0 1 x21 := by rw [e21]; exact rg_and 1 (by decide) (by decide) (by decide)
            refine lv_if_ne (tgt := 78) hx hb dX12_canHave_71 (by decide) (fun c22 => ?_) (fun c22 => ?_)
            · skip
              have f23 : rg 1 1 x21 := rg_w (rg_neL f21 (show rg 0 0 (0 : Int32) from ⟨by decide, by decide⟩) c22) (by decide) (by decide)
              refine lv_iconst (v := 0) hx hb dX12_canHave_78 (by decide) ?_
              exact J79 _ _ _ 0 hH hS (lv_sub hl [0, 1, 2, 4] rfl) f3 fy23_2 f4 (rg_w (show rg 0 0 (0 : Int32) from ⟨by decide, by decide⟩) (by decide) (by decide))
            · skip
              have f24 : rg 0 0 x21 := rg_w (rg_eq f21 (show rg 0 0 (0 : Int32) from ⟨by decide, by decide⟩) c22).1 (by decide) (by decide)
              exact J74 _ _ _ hH hS (lv_sub hl [0, 1, 2, 4] rfl) f3 fy23_2 f4
  have J19 : ∀ (H : Heap) (locs : List Loc) (ls : Array Slot) (z19_0 : Int32), th_H D cA τ gi gr H → va_S (th_A τ s.heap.size) s.heap H locs → lv_has ls 5 [(0, .ref h0), (1, .int p1), (2, .int p2)] → rg 0 4 p1 → rg 0 11 p2 → rg 0 1 z19_0 → W p l e (headSpec wsX12_canHave ({ frames := 0, cells := 0, slots := 0, locals := 0 })).room s m [.ref h0, .int p1, .int p2].toArray below meth c H locs 0 0 (MQ below (va_Qi (fun (r : Int32) (_ : Unit) => rg 0 1 r) (fun (_ : Unit) t => th_H D cA τ gi gr t.heap) (th_A τ s.heap.size)) [.ref h0, .int p1, .int p2].toArray s 0 0 (th_A τ s.heap.size)) (F0 m 19 ls [.int z19_0]) := by
    intro H locs ls z19_0 hH hS hl fy19_1 fy19_2 fz19_0
    refine lv_istore_n (i := 3) (lv' := [(3, .int z19_0), (0, .ref h0), (1, .int p1), (2, .int p2)]) hx hb dX12_canHave_19 rfl hl (by decide) rfl (fun ls hl => ?_)
    refine lv_iconst (v := 0) hx hb dX12_canHave_20 (by decide) ?_
    refine lv_istore (i := 4) (lv' := [(4, .int 0), (3, .int z19_0), (0, .ref h0), (1, .int p1), (2, .int p2)]) hx hb dX12_canHave_21 hl (by decide) rfl (fun ls hl => ?_)
    exact J23 _ _ _ _ z19_0 0 (Nat.lt_succ_self _) hH hS (lv_sub hl [2, 3, 4, 1, 0] rfl) fy19_1 fy19_2 fz19_0 (rg_w (show rg 0 0 (0 : Int32) from ⟨by decide, by decide⟩) (by decide) (by decide))
  have hS : va_S (th_A τ s.heap.size) s.heap s.heap [] := va_S.rf
  have hl := lv_entry ([.ref h0, .int p1, .int p2]) (n := 5) (Nat.le_of_ble_eq_true rfl)
  rw [lg_entry_eq]
  generalize (lg_sl ([.ref h0, .int p1, .int p2]) ++ List.replicate (5 - (lg_sl ([.ref h0, .int p1, .int p2])).length) Slot.unset).toArray = ls at hl ⊢
  have hl : lv_has ls 5 [(0, .ref h0), (1, .int p1), (2, .int p2)] := hl
  refine lv_aload_n hx hb dX12_canHave_0 rfl (lv_at hl 0 rfl) ?_
  obtain ⟨q25, r25, t25⟩ : ∃ q, gr h0 29 = some q ∧ τ q = 61 := (hH.at t_h0 (by decide)).2.2.2.2.2.2.2.2.2.2.2.2.2.2.2.2.2.2.2.2.2.2.2.2.2.2.2.1
  refine th_get (ci := 11) (v := .ref q25) (T := TX12) (C := RX12) (N := 38) hx hb hts (fun w h => List.mem_cons_of_mem _ (List.mem_append_right _ h)) hown hK hH t_h0 (by decide) rfl rfl 29 (by decide) (hts (.fieldLink RX12 83 "BayMooringsModel" "may" "[I") (List.mem_cons_of_mem _ (List.mem_append_left _ (List.mem_of_getElem? (i := 0) rfl)))) (fun _ h9 => h9) (by show some (va_rf (gr h0 29)) = _; rw [r25]; rfl) dX12_canHave_1 ?_
  refine lv_iload_n hx hb dX12_canHave_4 rfl (lv_at hl 1 rfl) ?_
  refine th_iald hx hb hK hH t25 (by decide) 0 rfl rfl (rg_in (n := 5) f_p1 (by decide) (by decide)) dX12_canHave_5 ?_
  refine lv_topi (fun x26 e26 => ?_)
  refine lv_iload_n hx hb dX12_canHave_6 rfl (lv_at hl 2 rfl) ?_
  refine lv_ishr hx hb dX12_canHave_7 ?_
  refine lv_topi (fun x27 e27 => ?_)
  refine lv_iconst (v := 1) hx hb dX12_canHave_8 (by decide) ?_
  refine lv_iand hx hb dX12_canHave_9 ?_
  refine lv_topi (fun x28 e28 => ?_)
  have f28 : rg 0 1 x28 := by rw [e28]; exact rg_and 1 (by decide) (by decide) (by decide)
  refine lv_iconst (v := 1) hx hb dX12_canHave_10 (by decide) ?_
  refine lv_icmp_ne (tgt := 18) hx hb dX12_canHave_11 (by decide) (fun c29 => ?_) (fun c29 => ?_)
  · skip
    have f30 : rg 0 0 x28 := rg_w (rg_neR f28 (show rg 1 1 (1 : Int32) from ⟨by decide, by decide⟩) c29) (by decide) (by decide)
    refine lv_iconst (v := 0) hx hb dX12_canHave_18 (by decide) ?_
    exact J19 _ _ _ 0 hH hS (lv_sub hl [0, 1, 2] rfl) f_p1 f_p2 (rg_w (show rg 0 0 (0 : Int32) from ⟨by decide, by decide⟩) (by decide) (by decide))
  · skip
    have f31 : rg 1 1 x28 := rg_w (rg_eq f28 (show rg 1 1 (1 : Int32) from ⟨by decide, by decide⟩) c29).1 (by decide) (by decide)
    refine lv_iconst (v := 1) hx hb dX12_canHave_14 (by decide) ?_
    refine lv_goto (tgt := 19) hx hb dX12_canHave_15 (by decide) ?_
    exact J19 _ _ _ 1 hH hS (lv_sub hl [0, 1, 2] rfl) f_p1 f_p2 (rg_w (show rg 1 1 (1 : Int32) from ⟨by decide, by decide⟩) (by decide) (by decide))
