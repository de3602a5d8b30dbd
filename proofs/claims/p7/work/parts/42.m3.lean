noncomputable def F_X12_lies (τ : th_t) (Z : th_Zt) (gi : th_i) (gr : th_r) (h0 : Nat) (p1 : Int32) (p2 : Int32) : th_i :=
  let q1 : Nat := (gr h0 12).getD 0
  let gi2 : th_i := va_up gi q1 (upd (gi q1) p1.toNatClampNeg p2)
  let q3 : Nat := (gr h0 7).getD 0
  let gi4 : th_i := va_up gi2 q3 (upd (gi2 q3) p2.toNatClampNeg p1)
  (gi4)
set_option maxHeartbeats 8000000 in
set_option maxRecDepth 100000 in
theorem k_X12_lies (l : Launch) (D : va_G) (cA : Nat → ClassId) (Z : th_Zt) (τ : th_t) (gi : th_i) (gr : th_r) (sz : Nat) (h0 : Nat) (t_h0 : τ h0 = 12) (p1 : Int32) (f_p1 : rg 0 15 p1) (p2 : Int32) (f_p2 : rg 0 11 p2) : Met l yX12_lies wsX12_lies ({ frames := 0, cells := 0, slots := 0, locals := 0 }) (va_Pc [.ref h0, .int p1, .int p2] (th_Pre D cA Z τ gi gr sz)) (va_Qv (fun (u : th_i × th_r) => th_Mod [4600, 5000] τ gi gr u.1 u.2 ∧ u.2 = gr ∧ (F_X12_lies τ Z gi gr h0 p1 p2 = u.1)) (fun (u : th_i × th_r) t => th_H D cA τ u.1 u.2 t.heap) (th_A τ sz)) 0 0 (th_A τ sz) := by
  refine Met.ofW (cc := cX12_lies) (maxL := 3) (ret := none) (by decide) rfl ?_
  intro p e s m args below meth c s₁ B hml hv
  obtain ⟨rfl, hsz, hH, hK, hN, hZ⟩ := hv
  have hx := B.exec
  have hb := B.bytes
  have hr := B.returns
  have hts := atoms_spec (ws := wsX12_lies) B.pre
  have hown : s.vm.findClass RX12 = some m.cls := findClass_of_methodNamed B.named
  have hlocks := B.notSynchronized
  subst hsz
  have hM : th_Mod [4600, 5000] τ gi gr gi gr := th_Mod.rf
  have hS : va_S (th_A τ s.heap.size) s.heap s.heap [] := va_S.rf
  have hl := lv_entry ([.ref h0, .int p1, .int p2]) (n := 3) (Nat.le_of_ble_eq_true rfl)
  rw [lg_entry_eq]
  generalize (lg_sl ([.ref h0, .int p1, .int p2]) ++ List.replicate (3 - (lg_sl ([.ref h0, .int p1, .int p2])).length) Slot.unset).toArray = ls at hl ⊢
  have hl : lv_has ls 3 [(0, .ref h0), (1, .int p1), (2, .int p2)] := hl
  have hF : F_X12_lies τ Z gi gr h0 p1 p2 = F_X12_lies τ Z gi gr h0 p1 p2 := rfl
  refine lv_aload_n hx hb dX12_lies_0 rfl (lv_at hl 0 rfl) ?_
  obtain ⟨q1, r1, t1⟩ : ∃ q, gr h0 12 = some q ∧ τ q = 50 := (thI_12 hH t_h0).2.2.2.2.2.2.2.2.2.2.2.2.1
  refine th_get (ci := 11) (v := .ref q1) (T := TX12) (C := RX12) (N := 38) hx hb hts (fun w h => List.mem_cons_of_mem _ (List.mem_append_right _ h)) hown hK hH t_h0 (th_nz rfl) (thE_12 _ _ _) rfl 12 (th_ltN rfl) (hts (.fieldLink RX12 40 "BayMooringsModel" "buoyOf" "[I") (List.mem_cons_of_mem _ (List.mem_append_left _ (List.mem_of_getElem? (i := 0) rfl)))) (fun _ h9 => h9) (th_fR r1 rfl) dX12_lies_1 ?_
  refine lv_iload_n hx hb dX12_lies_4 rfl (lv_at hl 1 rfl) ?_
  refine lv_iload_n hx hb dX12_lies_5 rfl (lv_at hl 2 rfl) ?_
  refine th_iast hx hb hK hH hS t1 (th_nz rfl) (Or.inl (th_nzE t1 rfl)) 0 (fun _ => thE_50 _ _ _) rfl (rg_in (n := 16) f_p1 (th_leI rfl) (th_ltI rfl)) (th_ai (P := rg (-1) 11) (thI_50 hH t1) (rg_w f_p2 (th_leI rfl) (th_leI rfl))) dX12_lies_6 (fun gi2 H locs hu2 ho2 hH hS => ?_)
  have eg2 : gi2 = va_up gi q1 (upd (gi q1) p1.toNatClampNeg p2) := th_upE hu2 ho2
  have hM := hM.i t1 (th_mem (a := 5000) rfl) ho2
  refine lv_aload_n hx hb dX12_lies_7 rfl (lv_at hl 0 rfl) ?_
  obtain ⟨q3, r3, t3⟩ : ∃ q, gr h0 7 = some q ∧ τ q = 46 := (thI_12 hH t_h0).2.2.2.2.2.2.2.1
  refine th_get (ci := 11) (v := .ref q3) (T := TX12) (C := RX12) (N := 38) hx hb hts (fun w h => List.mem_cons_of_mem _ (List.mem_append_right _ h)) hown hK hH t_h0 (th_nz rfl) (thE_12 _ _ _) rfl 7 (th_ltN rfl) (hts (.fieldLink RX12 28 "BayMooringsModel" "boatAt" "[I") (List.mem_cons_of_mem _ (List.mem_append_left _ (List.mem_of_getElem? (i := 1) rfl)))) (fun _ h9 => h9) (th_fR r3 rfl) dX12_lies_8 ?_
  refine lv_iload_n hx hb dX12_lies_11 rfl (lv_at hl 2 rfl) ?_
  refine lv_iload_n hx hb dX12_lies_12 rfl (lv_at hl 1 rfl) ?_
  refine th_iast hx hb hK hH hS t3 (th_nz rfl) (Or.inl (th_nzE t3 rfl)) 0 (fun _ => thE_46 _ _ _) rfl (rg_in (n := 12) f_p2 (th_leI rfl) (th_ltI rfl)) (th_ai (P := rg (-1) 15) (thI_46 hH t3) (rg_w f_p1 (th_leI rfl) (th_leI rfl))) dX12_lies_13 (fun gi4 H locs hu4 ho4 hH hS => ?_)
  have eg4 : gi4 = va_up gi2 q3 (upd (gi2 q3) p2.toNatClampNeg p1) := th_upE hu4 ho4
  have e5 : p2 = gi4 q1 (p1.toNatClampNeg) := Eq.trans hu2.symm (Eq.symm (ho4 _ _ (Or.inl (th_ne t1 t3 (th_nz rfl)))))
  have hM := hM.i t3 (th_mem (a := 4600) rfl) ho4
  exact W.vret hx hb hr (fun t ht hW => ⟨⟨(gi4, gr), rfl, ⟨hM, rfl, (hF.trans (by simp only [F_X12_lies, r1, Option.getD_some, ← eg2, r3, ← eg4]))⟩, th_Ht ht hH⟩, hS.F ht⟩) hS.2.2 dX12_lies_14

noncomputable def f_X12_goesOff_12 (τ : th_t) (Z : th_Zt) (gi : th_i) (gr : th_r) (h0 : Nat) (p1 : Int32) : Nat → th_i → Int32 → th_i
  | 0, gi_12, y12_2 => (gi_12)
  | n12 + 1, gi_12, y12_2 =>
    let w12_0 : Int32 := gi_12 h0 17
    if w12_0 ≤ y12_2 then (
      (gi_12)) else (
      let q5 : Nat := (gr h0 18).getD 0
      let x7 : Int32 := y12_2 + 1
      let x8 : Int32 := gi_12 q5 x7.toNatClampNeg
      let gi9 : th_i := va_up gi_12 q5 (upd (gi_12 q5) y12_2.toNatClampNeg x8)
      (f_X12_goesOff_12 τ Z gi gr h0 p1 n12) gi9 x7)
noncomputable def F_X12_goesOff (τ : th_t) (Z : th_Zt) (gi : th_i) (gr : th_r) (h0 : Nat) (p1 : Int32) : th_i :=
  let w_0 : Int32 := gi h0 17
  let x14 : Int32 := w_0 - 1
  let gi15 : th_i := va_up gi h0 (upd (gi h0) 17 x14)
  f_X12_goesOff_12 τ Z gi gr h0 p1 ((9 - p1.toInt).toNat + 1) gi15 p1
set_option maxHeartbeats 8000000 in
set_option maxRecDepth 100000 in
theorem k_X12_goesOff (l : Launch) (D : va_G) (cA : Nat → ClassId) (Z : th_Zt) (τ : th_t) (gi : th_i) (gr : th_r) (sz : Nat) (h0 : Nat) (t_h0 : τ h0 = 12) (p1 : Int32) (f_p1 : rg 0 9 p1) (m_0 : rg 1 10 (gi h0 17)) : Met l yX12_goesOff wsX12_goesOff ({ frames := 0, cells := 0, slots := 0, locals := 0 }) (va_Pc [.ref h0, .int p1] (th_Pre D cA Z τ gi gr sz)) (va_Qv (fun (u : th_i × th_r) => th_Mod [1217, 5400] τ gi gr u.1 u.2 ∧ u.2 = gr ∧ (F_X12_goesOff τ Z gi gr h0 p1 = u.1) ∧ (rg 0 9 (u.1 h0 17))) (fun (u : th_i × th_r) t => th_H D cA τ u.1 u.2 t.heap) (th_A τ sz)) 0 0 (th_A τ sz) := by
  refine Met.ofW (cc := cX12_goesOff) (maxL := 3) (ret := none) (by decide) rfl ?_
  intro p e s m args below meth c s₁ B hml hv
  obtain ⟨rfl, hsz, hH, hK, hN, hZ⟩ := hv
  have hx := B.exec
  have hb := B.bytes
  have hr := B.returns
  have hts := atoms_spec (ws := wsX12_goesOff) B.pre
  have hown : s.vm.findClass RX12 = some m.cls := findClass_of_methodNamed B.named
  have hlocks := B.notSynchronized
  subst hsz
  have hM : th_Mod [1217, 5400] τ gi gr gi gr := th_Mod.rf
  have J12 : ∀ (n12 : Nat) (gi_12 : th_i) (H : Heap) (locs : List Loc) (ls : Array Slot) (y12_2 : Int32) (w12_0 : Int32), (9 - y12_2.toInt).toNat < n12 → th_H D cA τ gi_12 gr H → va_S (th_A τ s.heap.size) s.heap H locs → th_Mod [1217, 5400] τ gi gr gi_12 gr → lv_has ls 3 [(0, .ref h0), (2, .int y12_2)] → rg 0 9 y12_2 → w12_0 = gi_12 h0 17 → rg 0 9 w12_0 → F_X12_goesOff τ Z gi gr h0 p1 = f_X12_goesOff_12 τ Z gi gr h0 p1 n12 gi_12 y12_2 → W p l e (headSpec wsX12_goesOff ({ frames := 0, cells := 0, slots := 0, locals := 0 })).room s m [.ref h0, .int p1].toArray below meth c H locs 0 0 (MQ below (va_Qv (fun (u : th_i × th_r) => th_Mod [1217, 5400] τ gi gr u.1 u.2 ∧ u.2 = gr ∧ (F_X12_goesOff τ Z gi gr h0 p1 = u.1) ∧ (rg 0 9 (u.1 h0 17))) (fun (u : th_i × th_r) t => th_H D cA τ u.1 u.2 t.heap) (th_A τ s.heap.size)) [.ref h0, .int p1].toArray s 0 0 (th_A τ s.heap.size)) (F0 m 12 ls []) := by
    intro n12
    induction n12 with
    | zero =>
      intro gi_12 H locs ls y12_2 w12_0 hn
      exact absurd hn (Nat.not_lt_zero _)
    | succ n12 ih12 =>
      intro gi_12 H locs ls y12_2 w12_0 hn12 hH hS hM hl fy12_2 ew12_0 fw12_0 hF
      refine lv_iload_n hx hb dX12_goesOff_12 rfl (lv_at hl 1 rfl) ?_
      refine lv_aload_n hx hb dX12_goesOff_13 rfl (lv_at hl 0 rfl) ?_
      refine th_get (ci := 11) (v := .int w12_0) (T := TX12) (C := RX12) (N := 38) hx hb hts (fun w h => List.mem_cons_of_mem _ (List.mem_append_right _ h)) hown hK hH t_h0 (th_nz rfl) (thE_12 _ _ _) rfl 17 (th_ltN rfl) (hts (.fieldLink RX12 133 "BayMooringsModel" "waiting" "I") (List.mem_cons_of_mem _ (List.mem_append_left _ (List.mem_of_getElem? (i := 0) rfl)))) (fun _ h9 => h9) (th_fI ew12_0 rfl) dX12_goesOff_14 ?_
      refine lv_icmp_ge (tgt := 40) hx hb dX12_goesOff_17 (th_eqI rfl) (fun c2 => ?_) (fun c2 => ?_)
      · skip
        exact W.vret hx hb hr (fun t ht hW => ⟨⟨(gi_12, gr), rfl, ⟨hM, rfl, (hF.trans (by simp only [↓reduceIte, f_X12_goesOff_12, ← ew12_0, eq_true c2])), (by show rg 0 9 (gi_12 h0 17); rw [← ew12_0]; exact fw12_0)⟩, th_Ht ht hH⟩, hS.F ht⟩) hS.2.2 dX12_goesOff_40
      · skip
        have f3 : rg 1 9 w12_0 := rg_w (rg_nle fw12_0 fy12_2 c2).1 (th_leI rfl) (th_leI rfl)
        have f4 : rg 0 8 y12_2 := rg_w (rg_nle fw12_0 fy12_2 c2).2 (th_leI rfl) (th_leI rfl)
        refine lv_aload_n hx hb dX12_goesOff_20 rfl (lv_at hl 0 rfl) ?_
        obtain ⟨q5, r5, t5⟩ : ∃ q, gr h0 18 = some q ∧ τ q = 54 := (thI_12 hH t_h0).2.2.2.2.2.2.2.2.2.2.2.2.2.2.2.2.2.1
        refine th_get (ci := 11) (v := .ref q5) (T := TX12) (C := RX12) (N := 38) hx hb hts (fun w h => List.mem_cons_of_mem _ (List.mem_append_right _ h)) hown hK hH t_h0 (th_nz rfl) (thE_12 _ _ _) rfl 18 (th_ltN rfl) (hts (.fieldLink RX12 56 "BayMooringsModel" "list" "[I") (List.mem_cons_of_mem _ (List.mem_append_left _ (List.mem_of_getElem? (i := 1) rfl)))) (fun _ h9 => h9) (th_fR r5 rfl) dX12_goesOff_21 ?_
        refine lv_iload_n hx hb dX12_goesOff_24 rfl (lv_at hl 1 rfl) ?_
        refine lv_aload_n hx hb dX12_goesOff_25 rfl (lv_at hl 0 rfl) ?_
        refine th_get (ci := 11) (v := .ref q5) (T := TX12) (C := RX12) (N := 38) hx hb hts (fun w h => List.mem_cons_of_mem _ (List.mem_append_right _ h)) hown hK hH t_h0 (th_nz rfl) (thE_12 _ _ _) rfl 18 (th_ltN rfl) (hts (.fieldLink RX12 56 "BayMooringsModel" "list" "[I") (List.mem_cons_of_mem _ (List.mem_append_left _ (List.mem_of_getElem? (i := 1) rfl)))) (fun _ h9 => h9) (th_fR r5 rfl) dX12_goesOff_26 ?_
        refine lv_iload_n hx hb dX12_goesOff_29 rfl (lv_at hl 1 rfl) ?_
        refine lv_iconst (v := 1) hx hb dX12_goesOff_30 ic_1 ?_
        refine lv_iadd hx hb dX12_goesOff_31 ?_
        refine lv_topi (fun x7 e7 => ?_)
        have f7 : rg 1 9 x7 := rg_e e7 (rg_w (rg_add f4 rgc_1 (th_leI rfl) (th_leI rfl)) (th_leI rfl) (th_leI rfl))
        refine th_iald hx hb hK hH t5 (th_nz rfl) 0 (thE_54 _ _ _) rfl (rg_in (n := 10) f7 (th_leI rfl) (th_ltI rfl)) dX12_goesOff_32 ?_
        refine lv_topi (fun x8 e8 => ?_)
        have f8 : rg 0 15 x8 := rg_e e8 ((thI_54 hH t5) _ (rg_cl (n := 10) f7 (th_leI rfl) (th_ltI rfl)))
        refine th_iast hx hb hK hH hS t5 (th_nz rfl) (Or.inl (th_nzE t5 rfl)) 0 (fun _ => thE_54 _ _ _) rfl (rg_in (n := 10) f4 (th_leI rfl) (th_ltI rfl)) (th_ai (P := rg 0 15) (thI_54 hH t5) f8) dX12_goesOff_33 (fun gi9 H locs hu9 ho9 hH hS => ?_)
        have eg9 : gi9 = va_up gi_12 q5 (upd (gi_12 q5) y12_2.toNatClampNeg x8) := th_upE hu9 ho9
        have e10 : w12_0 = gi9 h0 17 := Eq.trans ew12_0 (Eq.symm (ho9 _ _ (Or.inl (th_ne t_h0 t5 (th_nz rfl)))))
        have hM := hM.i t5 (th_mem (a := 5400) rfl) ho9
        refine lv_iinc (v := x7) (lv' := [(2, .int x7), (0, .ref h0)]) hx hb dX12_goesOff_34 hl (k := 1) rfl (by rw [e7]; rfl) (th_ltN rfl) rfl (fun ls hl => ?_)
        refine lv_goto (tgt := 12) hx hb dX12_goesOff_37 (th_eqI rfl) ?_
        exact ih12 gi9 _ _ _ x7 w12_0 (th_up (rg_dA e7 f4 rgc_1 (th_leI rfl) (th_leI rfl)) f4 hn12 (th_ltI rfl)) hH hS hM (lv_sub hl [1, 0] rfl) (rg_w f7 (th_leI rfl) (th_leI rfl)) e10 (rg_w f3 (th_leI rfl) (th_leI rfl)) (hF.trans (by simp only [↓reduceIte, f_X12_goesOff_12, ← ew12_0, eq_false c2, r5, Option.getD_some, ← e7, ← e8, ← eg9]))
  have hS : va_S (th_A τ s.heap.size) s.heap s.heap [] := va_S.rf
  have hl := lv_entry ([.ref h0, .int p1]) (n := 3) (Nat.le_of_ble_eq_true rfl)
  rw [lg_entry_eq]
  generalize (lg_sl ([.ref h0, .int p1]) ++ List.replicate (3 - (lg_sl ([.ref h0, .int p1])).length) Slot.unset).toArray = ls at hl ⊢
  have hl : lv_has ls 3 [(0, .ref h0), (1, .int p1)] := hl
  obtain ⟨w_0, ew_0⟩ : ∃ y : Int32, y = gi h0 17 := ⟨_, rfl⟩
  have fw_0 : rg 1 10 w_0 := rg_e ew_0 m_0
  have hF : F_X12_goesOff τ Z gi gr h0 p1 = F_X12_goesOff τ Z gi gr h0 p1 := rfl
  refine lv_aload_n hx hb dX12_goesOff_0 rfl (lv_at hl 0 rfl) ?_
  refine lv_dup hx hb dX12_goesOff_1 rfl ?_
  refine th_get (ci := 11) (v := .int w_0) (T := TX12) (C := RX12) (N := 38) hx hb hts (fun w h => List.mem_cons_of_mem _ (List.mem_append_right _ h)) hown hK hH t_h0 (th_nz rfl) (thE_12 _ _ _) rfl 17 (th_ltN rfl) (hts (.fieldLink RX12 133 "BayMooringsModel" "waiting" "I") (List.mem_cons_of_mem _ (List.mem_append_left _ (List.mem_of_getElem? (i := 0) rfl)))) (fun _ h9 => h9) (th_fI ew_0 rfl) dX12_goesOff_2 ?_
  refine lv_iconst (v := 1) hx hb dX12_goesOff_5 ic_1 ?_
  refine lv_isub hx hb dX12_goesOff_6 ?_
  refine lv_topi (fun x14 e14 => ?_)
  have f14 : rg 0 9 x14 := rg_e e14 (rg_w (rg_sub fw_0 rgc_1 (th_leI rfl) (th_leI rfl)) (th_leI rfl) (th_leI rfl))
  refine th_put (ci := 11) (v := .int x14) (T := TX12) (C := RX12) (N := 38) (ty := .int) (gi' := va_up gi h0 (upd (gi h0) 17 x14)) (gr' := gr) hx hb hts (fun w h => List.mem_cons_of_mem _ (List.mem_append_right _ h)) tyX12 tyX12_ok nmX12 hown hK hH hS t_h0 (th_nz rfl) (Or.inl (th_nzE t_h0 rfl)) rfl rfl 17 (th_ltN rfl) (hts (.fieldLink RX12 133 "BayMooringsModel" "waiting" "I") (List.mem_cons_of_mem _ (List.mem_append_left _ (List.mem_of_getElem? (i := 0) rfl)))) (fun _ h9 => h9) rfl (by decide +kernel) rfl rfl (Nat.le_of_ble_eq_true rfl) (by rw [va_up_self]; rfl) (by rw [va_up_self]; show rg 0 12 (gi h0 0) ∧ (∃ q, gr h0 1 = some q ∧ τ q = 40) ∧ (∃ q, gr h0 2 = some q ∧ τ q = 41) ∧ (∃ q, gr h0 3 = some q ∧ τ q = 42) ∧ (∃ q, gr h0 4 = some q ∧ τ q = 43) ∧ (∃ q, gr h0 5 = some q ∧ τ q = 44) ∧ (∃ q, gr h0 6 = some q ∧ τ q = 45) ∧ (∃ q, gr h0 7 = some q ∧ τ q = 46) ∧ rg 0 16 (gi h0 8) ∧ (∃ q, gr h0 9 = some q ∧ τ q = 47) ∧ (∃ q, gr h0 10 = some q ∧ τ q = 48) ∧ (∃ q, gr h0 11 = some q ∧ τ q = 49) ∧ (∃ q, gr h0 12 = some q ∧ τ q = 50) ∧ (∃ q, gr h0 13 = some q ∧ τ q = 51) ∧ (∃ q, gr h0 15 = some q ∧ τ q = 52) ∧ (∃ q, gr h0 16 = some q ∧ τ q = 53) ∧ rg 0 10 x14 ∧ (∃ q, gr h0 18 = some q ∧ τ q = 54) ∧ (∃ q, gr h0 19 = some q ∧ τ q = 55) ∧ (∃ q, gr h0 21 = some q ∧ τ q = 56) ∧ (∃ q, gr h0 22 = some q ∧ τ q = 57) ∧ rg 0 24 (gi h0 24) ∧ (∃ q, gr h0 25 = some q ∧ τ q = 58) ∧ (∃ q, gr h0 26 = some q ∧ τ q = 59) ∧ rg 0 5 (gi h0 27) ∧ (∃ q, gr h0 28 = some q ∧ τ q = 60) ∧ (∃ q, gr h0 29 = some q ∧ τ q = 61) ∧ (∃ q, gr h0 30 = some q ∧ τ q = 62) ∧ (∃ q, gr h0 31 = some q ∧ τ q = 63) ∧ (∃ q, gr h0 32 = some q ∧ τ q = 64) ∧ (∃ q, gr h0 34 = some q ∧ τ q = 65) ∧ (∃ q, gr h0 35 = some q ∧ τ q = 66) ∧ (∃ q, gr h0 36 = some q ∧ τ q = 67) ∧ (∃ q, gr h0 37 = some q ∧ τ q = 68); exact ⟨(thI_12 hH t_h0).1, (thI_12 hH t_h0).2.1, (thI_12 hH t_h0).2.2.1, (thI_12 hH t_h0).2.2.2.1, (thI_12 hH t_h0).2.2.2.2.1, (thI_12 hH t_h0).2.2.2.2.2.1, (thI_12 hH t_h0).2.2.2.2.2.2.1, (thI_12 hH t_h0).2.2.2.2.2.2.2.1, (thI_12 hH t_h0).2.2.2.2.2.2.2.2.1, (thI_12 hH t_h0).2.2.2.2.2.2.2.2.2.1, (thI_12 hH t_h0).2.2.2.2.2.2.2.2.2.2.1, (thI_12 hH t_h0).2.2.2.2.2.2.2.2.2.2.2.1, (thI_12 hH t_h0).2.2.2.2.2.2.2.2.2.2.2.2.1, (thI_12 hH t_h0).2.2.2.2.2.2.2.2.2.2.2.2.2.1, (thI_12 hH t_h0).2.2.2.2.2.2.2.2.2.2.2.2.2.2.1, (thI_12 hH t_h0).2.2.2.2.2.2.2.2.2.2.2.2.2.2.2.1, (rg_w f14 (th_leI rfl) (th_leI rfl)), (thI_12 hH t_h0).2.2.2.2.2.2.2.2.2.2.2.2.2.2.2.2.2.1, (thI_12 hH t_h0).2.2.2.2.2.2.2.2.2.2.2.2.2.2.2.2.2.2.1, (thI_12 hH t_h0).2.2.2.2.2.2.2.2.2.2.2.2.2.2.2.2.2.2.2.1, (thI_12 hH t_h0).2.2.2.2.2.2.2.2.2.2.2.2.2.2.2.2.2.2.2.2.1, (thI_12 hH t_h0).2.2.2.2.2.2.2.2.2.2.2.2.2.2.2.2.2.2.2.2.2.1, (thI_12 hH t_h0).2.2.2.2.2.2.2.2.2.2.2.2.2.2.2.2.2.2.2.2.2.2.1, (thI_12 hH t_h0).2.2.2.2.2.2.2.2.2.2.2.2.2.2.2.2.2.2.2.2.2.2.2.1, (thI_12 hH t_h0).2.2.2.2.2.2.2.2.2.2.2.2.2.2.2.2.2.2.2.2.2.2.2.2.1, (thI_12 hH t_h0).2.2.2.2.2.2.2.2.2.2.2.2.2.2.2.2.2.2.2.2.2.2.2.2.2.1, (thI_12 hH t_h0).2.2.2.2.2.2.2.2.2.2.2.2.2.2.2.2.2.2.2.2.2.2.2.2.2.2.1, (thI_12 hH t_h0).2.2.2.2.2.2.2.2.2.2.2.2.2.2.2.2.2.2.2.2.2.2.2.2.2.2.2.1, (thI_12 hH t_h0).2.2.2.2.2.2.2.2.2.2.2.2.2.2.2.2.2.2.2.2.2.2.2.2.2.2.2.2.1, (thI_12 hH t_h0).2.2.2.2.2.2.2.2.2.2.2.2.2.2.2.2.2.2.2.2.2.2.2.2.2.2.2.2.2.1, (thI_12 hH t_h0).2.2.2.2.2.2.2.2.2.2.2.2.2.2.2.2.2.2.2.2.2.2.2.2.2.2.2.2.2.2.1, (thI_12 hH t_h0).2.2.2.2.2.2.2.2.2.2.2.2.2.2.2.2.2.2.2.2.2.2.2.2.2.2.2.2.2.2.2.1, (thI_12 hH t_h0).2.2.2.2.2.2.2.2.2.2.2.2.2.2.2.2.2.2.2.2.2.2.2.2.2.2.2.2.2.2.2.2.1, (thI_12 hH t_h0).2.2.2.2.2.2.2.2.2.2.2.2.2.2.2.2.2.2.2.2.2.2.2.2.2.2.2.2.2.2.2.2.2⟩) (fun b hb => ⟨va_up_ne _ _ hb, rfl⟩) dX12_goesOff_7 (fun H locs hH hS => ?_)
  obtain ⟨gi15, eg15⟩ : ∃ g, g = va_up gi h0 (upd (gi h0) 17 x14) := ⟨_, rfl⟩
  rw [← eg15] at hH
  have hu15 : gi15 h0 17 = x14 := (th_uI eg15).1
  have ho15 : ∀ b j, b ≠ h0 ∨ j ≠ 17 → gi15 b j = gi b j := (th_uI eg15).2
  have hM := hM.i t_h0 (th_mem (a := 1217) rfl) ho15
  refine lv_iload_n hx hb dX12_goesOff_10 rfl (lv_at hl 1 rfl) ?_
  refine lv_istore_n (i := 2) (lv' := [(2, .int p1), (0, .ref h0), (1, .int p1)]) hx hb dX12_goesOff_11 rfl hl (th_ltN rfl) rfl (fun ls hl => ?_)
  exact J12 _ gi15 _ _ _ p1 x14 (Nat.lt_add_one _) hH hS hM (lv_sub hl [1, 0] rfl) f_p1 hu15.symm f14 (hF.trans (by simp only [F_X12_goesOff, ← ew_0, ← e14, ← eg15]))

noncomputable def f_X12_moor_16 (τ : th_t) (Z : th_Zt) (gi : th_i) (gr : th_r) (h0 : Nat) (p1 : Int32) (p2 : Int32) (gi_16 : th_i) : Int32 × th_i :=
  let u4 : Int32 × th_i := F_X12_finding τ Z gi_16 gr h0 (-1000001)
  let x4 : Int32 := u4.1
  let gi4 : th_i := u4.2
  (x4, gi4)
noncomputable def f_X12_moor_41 (τ : th_t) (Z : th_Zt) (gi : th_i) (gr : th_r) (h0 : Nat) (p1 : Int32) (p2 : Int32) (gi_41 : th_i) : Int32 × th_i :=
  let u2 : Int32 × th_i := F_X12_finding τ Z gi_41 gr h0 (-1000003)
  let x2 : Int32 := u2.1
  let gi2 : th_i := u2.2
  (x2, gi2)
noncomputable def F_X12_moor (τ : th_t) (Z : th_Zt) (gi : th_i) (gr : th_r) (h0 : Nat) (p1 : Int32) (p2 : Int32) : Int32 × th_i :=
  let x6 : Int32 := F_X12_isBoat τ Z gi gr h0 p1
  if x6 = (0 : Int32) then (
    f_X12_moor_16 τ Z gi gr h0 p1 p2 gi) else (
    let x12 : Int32 := F_X12_isBuoy τ Z gi gr h0 p2
    if x12 = (0 : Int32) then (
      f_X12_moor_16 τ Z gi gr h0 p1 p2 gi) else (
      let q16 : Nat := (gr h0 12).getD 0
      let x17 : Int32 := gi q16 p1.toNatClampNeg
      if (0 : Int32) ≤ x17 then (
        f_X12_moor_41 τ Z gi gr h0 p1 p2 gi) else (
        let q21 : Nat := (gr h0 7).getD 0
        let x22 : Int32 := gi q21 p2.toNatClampNeg
        if x22 < (0 : Int32) then (
          let x27 : Int32 := F_X12_mayLie τ Z gi gr h0 p1 p2 q16
          if x27 = (0 : Int32) then (
            let u45 : Int32 × th_i := F_X12_finding τ Z gi gr h0 (-1000002)
            let x45 : Int32 := u45.1
            let gi45 : th_i := u45.2
            (x45, gi45)) else (
            let gi31 : th_i := F_X12_lies τ Z gi gr h0 p1 p2
            let x33 : Int32 := F_X12_placeOnList τ Z gi31 gr h0 p1
            if x33 < (0 : Int32) then (
              (1, gi31)) else (
              let x40 : Int32 := gi31 h0 17
              let gi41 : th_i := F_X12_goesOff τ Z gi31 gr h0 x33
              let x42 : Int32 := gi41 h0 17
              (1, gi41)))) else (
          f_X12_moor_41 τ Z gi gr h0 p1 p2 gi))))
set_option maxHeartbeats 8000000 in
set_option maxRecDepth 100000 in
theorem k_X12_moor (l : Launch) (D : va_G) (cA : Nat → ClassId) (Z : th_Zt) (τ : th_t) (gi : th_i) (gr : th_r) (sz : Nat) (h0 : Nat) (t_h0 : τ h0 = 12) (p1 : Int32) (p2 : Int32) : Met l yX12_moor wsX12_moor ({ frames := 5, cells := 0, slots := 0, locals := 150 }) (va_Pc [.ref h0, .int p1, .int p2] (th_Pre D cA Z τ gi gr sz)) (va_Qi (fun (r : Int32) (u : th_i × th_r) => th_Mod [1217, 4600, 5000, 5400, 5900] τ gi gr u.1 u.2 ∧ u.2 = gr ∧ (F_X12_moor τ Z gi gr h0 p1 p2 = (r, u.1))) (fun (u : th_i × th_r) t => th_H D cA τ u.1 u.2 t.heap) (th_A τ sz)) 0 0 (th_A τ sz) := by
  refine Met.ofW (cc := cX12_moor) (maxL := 3) (ret := (some .int)) (by decide) rfl ?_
  intro p e s m args below meth c s₁ B hml hv
  obtain ⟨rfl, hsz, hH, hK, hN, hZ⟩ := hv
  have hx := B.exec
  have hb := B.bytes
  have hr := B.returns
  have hts := atoms_spec (ws := wsX12_moor) B.pre
  have hown : s.vm.findClass RX12 = some m.cls := findClass_of_methodNamed B.named
  have hlocks := B.notSynchronized
  subst hsz
  have hM : th_Mod [1217, 4600, 5000, 5400, 5900] τ gi gr gi gr := th_Mod.rf
  have J41 : ∀ (gi_41 : th_i) (H : Heap) (locs : List Loc) (ls : Array Slot), th_H D cA τ gi_41 gr H → va_S (th_A τ s.heap.size) s.heap H locs → th_Mod [1217, 4600, 5000, 5400, 5900] τ gi gr gi_41 gr → lv_has ls 3 [(0, .ref h0)] → F_X12_moor τ Z gi gr h0 p1 p2 = f_X12_moor_41 τ Z gi gr h0 p1 p2 gi_41 → W p l e (headSpec wsX12_moor ({ frames := 5, cells := 0, slots := 0, locals := 150 })).room s m [.ref h0, .int p1, .int p2].toArray below meth c H locs 0 0 (MQ below (va_Qi (fun (r : Int32) (u : th_i × th_r) => th_Mod [1217, 4600, 5000, 5400, 5900] τ gi gr u.1 u.2 ∧ u.2 = gr ∧ (F_X12_moor τ Z gi gr h0 p1 p2 = (r, u.1))) (fun (u : th_i × th_r) t => th_H D cA τ u.1 u.2 t.heap) (th_A τ s.heap.size)) [.ref h0, .int p1, .int p2].toArray s 0 0 (th_A τ s.heap.size)) (F0 m 41 ls []) := by
    intro gi_41 H locs ls hH hS hM hl hF
    refine lv_aload_n hx hb dX12_moor_41 rfl (lv_at hl 0 rfl) ?_
    refine lv_ldc (v := (-1000003)) hx hb hown (hts (.constant RX12 186 (-1000003)) (List.mem_cons_of_mem _ (List.mem_append_left _ (List.mem_append_left _ (List.mem_of_getElem? (i := 3) rfl))))) dX12_moor_42 ?_
    have hA1 := th_Asub (τ := τ) hS
    refine va_calli (va_runV (As := [.int (-1000003)]) (rest := []) ⟨hx, hb, hml, hown, hts⟩ (k_X12_finding l D cA Z τ gi_41 gr _ h0 t_h0 (-1000003) (rg_w rgc_m1000003 (th_leI rfl) (th_leI rfl))) (cwV 1 hts gX12_moor_X12_finding rfl rfl rfl hd_X12_finding__1 ⟨Nat.le_of_ble_eq_true rfl, Nat.le_of_ble_eq_true rfl⟩) ⟨th_blind, tr_12 hK hH t_h0, (th_pre hH hK hN hZ hS hA1)⟩ rfl rfl hl.1 rfl (lv_room (Nat.le_of_ble_eq_true rfl)) dX12_moor_44 ⟨Nat.le_of_ble_eq_true rfl, Nat.le_of_ble_eq_true rfl⟩) hS (fun q _ h => hA1 q h) hA1 (fun x2 u t H locs ht hvm hw2 hB hz1 hk1 hS => ?_)
    try dsimp only at hw2 hB
    rw [ht] at hB
    have hH := hB
    obtain ⟨gi2, gr2⟩ := u
    try dsimp only at hw2 hH
    obtain rfl : gr = gr2 := (hw2.2.1).symm
    have hM := hM.tr hw2.1 (fun _ h => h) (th_sub rfl)
    exact W.iret (v := x2) hx hb hr (fun t ht hW => ⟨⟨x2, (gi2, gr), rfl, ⟨hM, rfl, (hF.trans (by simp only [f_X12_moor_41, hw2.2.2.1]))⟩, th_Ht ht hH⟩, hS.F ht⟩) hS.2.2 dX12_moor_47
  have J16 : ∀ (gi_16 : th_i) (H : Heap) (locs : List Loc) (ls : Array Slot), th_H D cA τ gi_16 gr H → va_S (th_A τ s.heap.size) s.heap H locs → th_Mod [1217, 4600, 5000, 5400, 5900] τ gi gr gi_16 gr → lv_has ls 3 [(0, .ref h0)] → F_X12_moor τ Z gi gr h0 p1 p2 = f_X12_moor_16 τ Z gi gr h0 p1 p2 gi_16 → W p l e (headSpec wsX12_moor ({ frames := 5, cells := 0, slots := 0, locals := 150 })).room s m [.ref h0, .int p1, .int p2].toArray below meth c H locs 0 0 (MQ below (va_Qi (fun (r : Int32) (u : th_i × th_r) => th_Mod [1217, 4600, 5000, 5400, 5900] τ gi gr u.1 u.2 ∧ u.2 = gr ∧ (F_X12_moor τ Z gi gr h0 p1 p2 = (r, u.1))) (fun (u : th_i × th_r) t => th_H D cA τ u.1 u.2 t.heap) (th_A τ s.heap.size)) [.ref h0, .int p1, .int p2].toArray s 0 0 (th_A τ s.heap.size)) (F0 m 16 ls []) := by
    intro gi_16 H locs ls hH hS hM hl hF
    refine lv_aload_n hx hb dX12_moor_16 rfl (lv_at hl 0 rfl) ?_
    refine lv_ldc (v := (-1000001)) hx hb hown (hts (.constant RX12 119 (-1000001)) (List.mem_cons_of_mem _ (List.mem_append_left _ (List.mem_append_left _ (List.mem_of_getElem? (i := 0) rfl))))) dX12_moor_17 ?_
    have hA3 := th_Asub (τ := τ) hS
    refine va_calli (va_runV (As := [.int (-1000001)]) (rest := []) ⟨hx, hb, hml, hown, hts⟩ (k_X12_finding l D cA Z τ gi_16 gr _ h0 t_h0 (-1000001) (rg_w rgc_m1000001 (th_leI rfl) (th_leI rfl))) (cwV 1 hts gX12_moor_X12_finding rfl rfl rfl hd_X12_finding__1 ⟨Nat.le_of_ble_eq_true rfl, Nat.le_of_ble_eq_true rfl⟩) ⟨th_blind, tr_12 hK hH t_h0, (th_pre hH hK hN hZ hS hA3)⟩ rfl rfl hl.1 rfl (lv_room (Nat.le_of_ble_eq_true rfl)) dX12_moor_19 ⟨Nat.le_of_ble_eq_true rfl, Nat.le_of_ble_eq_true rfl⟩) hS (fun q _ h => hA3 q h) hA3 (fun x4 u t H locs ht hvm hw4 hB hz1 hk1 hS => ?_)
    try dsimp only at hw4 hB
    rw [ht] at hB
    have hH := hB
    obtain ⟨gi4, gr4⟩ := u
    try dsimp only at hw4 hH
    obtain rfl : gr = gr4 := (hw4.2.1).symm
    have hM := hM.tr hw4.1 (fun _ h => h) (th_sub rfl)
    exact W.iret (v := x4) hx hb hr (fun t ht hW => ⟨⟨x4, (gi4, gr), rfl, ⟨hM, rfl, (hF.trans (by simp only [f_X12_moor_16, hw4.2.2.1]))⟩, th_Ht ht hH⟩, hS.F ht⟩) hS.2.2 dX12_moor_22
  have hS : va_S (th_A τ s.heap.size) s.heap s.heap [] := va_S.rf
  have hl := lv_entry ([.ref h0, .int p1, .int p2]) (n := 3) (Nat.le_of_ble_eq_true rfl)
  rw [lg_entry_eq]
  generalize (lg_sl ([.ref h0, .int p1, .int p2]) ++ List.replicate (3 - (lg_sl ([.ref h0, .int p1, .int p2])).length) Slot.unset).toArray = ls at hl ⊢
  have hl : lv_has ls 3 [(0, .ref h0), (1, .int p1), (2, .int p2)] := hl
  have hF : F_X12_moor τ Z gi gr h0 p1 p2 = F_X12_moor τ Z gi gr h0 p1 p2 := rfl
  refine lv_aload_n hx hb dX12_moor_0 rfl (lv_at hl 0 rfl) ?_
  refine lv_iload_n hx hb dX12_moor_1 rfl (lv_at hl 1 rfl) ?_
  have hA5 := th_Asub (τ := τ) hS
  refine va_calli (va_runV (As := [.int p1]) (rest := []) ⟨hx, hb, hml, hown, hts⟩ (k_X12_isBoat l D cA Z τ gi gr _ h0 t_h0 p1) (cwV 1 hts gX12_moor_X12_isBoat rfl rfl rfl hd_X12_isBoat__1 ⟨Nat.le_of_ble_eq_true rfl, Nat.le_of_ble_eq_true rfl⟩) ⟨th_blind, tr_12 hK hH t_h0, (th_pre hH hK hN hZ hS hA5)⟩ rfl rfl hl.1 rfl (lv_room (Nat.le_of_ble_eq_true rfl)) dX12_moor_2 ⟨Nat.le_of_ble_eq_true rfl, Nat.le_of_ble_eq_true rfl⟩) hS (fun q _ h => hA5 q h) hA5 (fun x6 u t H locs ht hvm hw6 hB hz1 hk1 hS => ?_)
  try dsimp only at hw6 hB
  rw [ht] at hB
  have hH := hB
  refine lv_if_eq (tgt := 16) hx hb dX12_moor_5 (th_eqI rfl) (fun c7 => ?_) (fun c7 => ?_)
  · skip
    have f8 : rg 0 0 x6 := rg_w (rg_eq hw6.1 rgc_0 c7).1 (th_leI rfl) (th_leI rfl)
    exact J16 gi _ _ _ hH hS hM (lv_sub hl [0] rfl) (hF.trans (by simp only [↓reduceIte, F_X12_moor, hw6.2.2, eq_true c7]))
  · skip
    have f9 : rg 1 1 x6 := rg_w (rg_neL hw6.1 rgc_0 c7) (th_leI rfl) (th_leI rfl)
    have f10 : rg 0 15 p1 := rg_w (hw6.2.1 c7) (th_leI rfl) (th_leI rfl)
    refine lv_aload_n hx hb dX12_moor_8 rfl (lv_at hl 0 rfl) ?_
    refine lv_iload_n hx hb dX12_moor_9 rfl (lv_at hl 2 rfl) ?_
    have hA11 := th_Asub (τ := τ) hS
    refine va_calli (va_runV (As := [.int p2]) (rest := []) ⟨hx, hb, hml, hown, hts⟩ (k_X12_isBuoy l D cA Z τ gi gr _ h0 t_h0 p2) (cwV 1 hts gX12_moor_X12_isBuoy rfl rfl rfl hd_X12_isBuoy__1 ⟨Nat.le_of_ble_eq_true rfl, Nat.le_of_ble_eq_true rfl⟩) ⟨th_blind, tr_12 hK hH t_h0, (th_pre hH hK hN hZ hS hA11)⟩ rfl rfl hl.1 rfl (lv_room (Nat.le_of_ble_eq_true rfl)) dX12_moor_10 ⟨Nat.le_of_ble_eq_true rfl, Nat.le_of_ble_eq_true rfl⟩) hS (fun q _ h => hA11 q h) hA11 (fun x12 u t H locs ht hvm hw12 hB hz1 hk1 hS => ?_)
    try dsimp only at hw12 hB
    rw [ht] at hB
    have hH := hB
    refine lv_if_ne (tgt := 23) hx hb dX12_moor_13 (th_eqI rfl) (fun c13 => ?_) (fun c13 => ?_)
    · skip
      have f14 : rg 1 1 x12 := rg_w (rg_neL hw12.1 rgc_0 c13) (th_leI rfl) (th_leI rfl)
      have f15 : rg 0 11 p2 := rg_w (hw12.2.1 c13) (th_leI rfl) (th_leI rfl)
      refine lv_aload_n hx hb dX12_moor_23 rfl (lv_at hl 0 rfl) ?_
      obtain ⟨q16, r16, t16⟩ : ∃ q, gr h0 12 = some q ∧ τ q = 50 := (thI_12 hH t_h0).2.2.2.2.2.2.2.2.2.2.2.2.1
      refine th_get (ci := 11) (v := .ref q16) (T := TX12) (C := RX12) (N := 38) hx hb hts (fun w h => List.mem_cons_of_mem _ (List.mem_append_right _ h)) hown hK hH t_h0 (th_nz rfl) (thE_12 _ _ _) rfl 12 (th_ltN rfl) (hts (.fieldLink RX12 40 "BayMooringsModel" "buoyOf" "[I") (List.mem_cons_of_mem _ (List.mem_append_left _ (List.mem_append_left _ (List.mem_of_getElem? (i := 1) rfl))))) (fun _ h9 => h9) (th_fR r16 rfl) dX12_moor_24 ?_
      refine lv_iload_n hx hb dX12_moor_27 rfl (lv_at hl 1 rfl) ?_
      refine th_iald hx hb hK hH t16 (th_nz rfl) 0 (thE_50 _ _ _) rfl (rg_in (n := 16) f10 (th_leI rfl) (th_ltI rfl)) dX12_moor_28 ?_
      refine lv_topi (fun x17 e17 => ?_)
      have f17 : rg (-1) 11 x17 := rg_e e17 ((thI_50 hH t16) _ (rg_cl (n := 16) f10 (th_leI rfl) (th_ltI rfl)))
      refine lv_if_ge (tgt := 41) hx hb dX12_moor_29 (th_eqI rfl) (fun c18 => ?_) (fun c18 => ?_)
      · skip
        have f19 : rg 0 11 x17 := rg_w (rg_le rgc_0 f17 c18).2 (th_leI rfl) (th_leI rfl)
        exact J41 gi _ _ _ hH hS hM (lv_sub hl [0] rfl) (hF.trans (by simp only [↓reduceIte, F_X12_moor, hw6.2.2, eq_false c7, hw12.2.2, eq_false c13, r16, Option.getD_some, ← e17, eq_true c18]))
      · skip
        have f20 : rg (-1) (-1) x17 := rg_w (rg_nle rgc_0 f17 c18).2 (th_leI rfl) (th_leI rfl)
        refine lv_aload_n hx hb dX12_moor_32 rfl (lv_at hl 0 rfl) ?_
        obtain ⟨q21, r21, t21⟩ : ∃ q, gr h0 7 = some q ∧ τ q = 46 := (thI_12 hH t_h0).2.2.2.2.2.2.2.1
        refine th_get (ci := 11) (v := .ref q21) (T := TX12) (C := RX12) (N := 38) hx hb hts (fun w h => List.mem_cons_of_mem _ (List.mem_append_right _ h)) hown hK hH t_h0 (th_nz rfl) (thE_12 _ _ _) rfl 7 (th_ltN rfl) (hts (.fieldLink RX12 28 "BayMooringsModel" "boatAt" "[I") (List.mem_cons_of_mem _ (List.mem_append_left _ (List.mem_append_left _ (List.mem_of_getElem? (i := 2) rfl))))) (fun _ h9 => h9) (th_fR r21 rfl) dX12_moor_33 ?_
        refine lv_iload_n hx hb dX12_moor_36 rfl (lv_at hl 2 rfl) ?_
        refine th_iald hx hb hK hH t21 (th_nz rfl) 0 (thE_46 _ _ _) rfl (rg_in (n := 12) f15 (th_leI rfl) (th_ltI rfl)) dX12_moor_37 ?_
        refine lv_topi (fun x22 e22 => ?_)
        have f22 : rg (-1) 15 x22 := rg_e e22 ((thI_46 hH t21) _ (rg_cl (n := 12) f15 (th_leI rfl) (th_ltI rfl)))
        refine lv_if_lt (tgt := 48) hx hb dX12_moor_38 (th_eqI rfl) (fun c23 => ?_) (fun c23 => ?_)
        · skip
          have f24 : rg (-1) (-1) x22 := rg_w (rg_lt f22 rgc_0 c23).1 (th_leI rfl) (th_leI rfl)
          refine lv_aload_n hx hb dX12_moor_48 rfl (lv_at hl 0 rfl) ?_
          refine lv_iload_n hx hb dX12_moor_49 rfl (lv_at hl 1 rfl) ?_
          refine lv_iload_n hx hb dX12_moor_50 rfl (lv_at hl 2 rfl) ?_
          refine lv_aload_n hx hb dX12_moor_51 rfl (lv_at hl 0 rfl) ?_
          refine th_get (ci := 11) (v := .ref q16) (T := TX12) (C := RX12) (N := 38) hx hb hts (fun w h => List.mem_cons_of_mem _ (List.mem_append_right _ h)) hown hK hH t_h0 (th_nz rfl) (thE_12 _ _ _) rfl 12 (th_ltN rfl) (hts (.fieldLink RX12 40 "BayMooringsModel" "buoyOf" "[I") (List.mem_cons_of_mem _ (List.mem_append_left _ (List.mem_append_left _ (List.mem_of_getElem? (i := 1) rfl))))) (fun _ h9 => h9) (th_fR r16 rfl) dX12_moor_52 ?_
          have hA26 := th_Asub (τ := τ) hS
          refine va_calli (va_runV (As := [.int p1, .int p2, .ref q16]) (rest := []) ⟨hx, hb, hml, hown, hts⟩ (k_X12_mayLie l D cA Z τ gi gr _ h0 t_h0 p1 f10 p2 f15 q16 (Or.inl t16)) (cwV 3 hts gX12_moor_X12_mayLie rfl rfl rfl hd_X12_mayLie__3 ⟨Nat.le_of_ble_eq_true rfl, Nat.le_of_ble_eq_true rfl⟩) ⟨th_blind, tr_12 hK hH t_h0, (th_pre hH hK hN hZ hS hA26)⟩ rfl rfl hl.1 rfl (lv_room (Nat.le_of_ble_eq_true rfl)) dX12_moor_55 ⟨Nat.le_of_ble_eq_true rfl, Nat.le_of_ble_eq_true rfl⟩) hS (fun q _ h => hA26 q h) hA26 (fun x27 u t H locs ht hvm hw27 hB hz1 hk1 hS => ?_)
          try dsimp only at hw27 hB
          rw [ht] at hB
          have hH := hB
          refine lv_if_ne (tgt := 68) hx hb dX12_moor_58 (th_eqI rfl) (fun c28 => ?_) (fun c28 => ?_)
          · skip
            have f29 : rg 1 1 x27 := rg_w (rg_neL hw27.1 rgc_0 c28) (th_leI rfl) (th_leI rfl)
            refine lv_aload_n hx hb dX12_moor_68 rfl (lv_at hl 0 rfl) ?_
            refine lv_iload_n hx hb dX12_moor_69 rfl (lv_at hl 1 rfl) ?_
            refine lv_iload_n hx hb dX12_moor_70 rfl (lv_at hl 2 rfl) ?_
            have hA30 := th_Asub (τ := τ) hS
            refine va_callv (va_runV (As := [.int p1, .int p2]) (rest := []) ⟨hx, hb, hml, hown, hts⟩ (k_X12_lies l D cA Z τ gi gr _ h0 t_h0 p1 f10 p2 f15) (cwV 2 hts gX12_moor_X12_lies rfl rfl rfl hd_X12_lies__2 ⟨Nat.le_of_ble_eq_true rfl, Nat.le_of_ble_eq_true rfl⟩) ⟨th_blind, tr_12 hK hH t_h0, (th_pre hH hK hN hZ hS hA30)⟩ rfl rfl hl.1 rfl (lv_room (Nat.le_of_ble_eq_true rfl)) dX12_moor_71 ⟨Nat.le_of_ble_eq_true rfl, Nat.le_of_ble_eq_true rfl⟩) hS (fun q _ h => hA30 q h) hA30 (fun  u t H locs ht hvm hw31 hB hz1 hk1 hS => ?_)
            try dsimp only at hw31 hB
            rw [ht] at hB
            have hH := hB
            obtain ⟨gi31, gr31⟩ := u
            try dsimp only at hw31 hH
            obtain rfl : gr = gr31 := (hw31.2.1).symm
            have hM := hM.tr hw31.1 (fun _ h => h) (th_sub rfl)
            refine lv_aload_n hx hb dX12_moor_74 rfl (lv_at hl 0 rfl) ?_
            refine lv_iload_n hx hb dX12_moor_75 rfl (lv_at hl 1 rfl) ?_
            have hA32 := th_Asub (τ := τ) hS
            refine va_calli (va_runV (As := [.int p1]) (rest := []) ⟨hx, hb, hml, hown, hts⟩ (k_X12_placeOnList l D cA Z τ gi31 gr _ h0 t_h0 p1) (cwV 1 hts gX12_moor_X12_placeOnList rfl rfl rfl hd_X12_placeOnList__1 ⟨Nat.le_of_ble_eq_true rfl, Nat.le_of_ble_eq_true rfl⟩) ⟨th_blind, tr_12 hK hH t_h0, (th_pre hH hK hN hZ hS hA32)⟩ rfl rfl hl.1 rfl (lv_room (Nat.le_of_ble_eq_true rfl)) dX12_moor_76 ⟨Nat.le_of_ble_eq_true rfl, Nat.le_of_ble_eq_true rfl⟩) hS (fun q _ h => hA32 q h) hA32 (fun x33 u t H locs ht hvm hw33 hB hz1 hk1 hS => ?_)
            try dsimp only at hw33 hB
            rw [ht] at hB
            have hH := hB
            refine lv_if_lt (tgt := 91) hx hb dX12_moor_79 (th_eqI rfl) (fun c34 => ?_) (fun c34 => ?_)
            · skip
              have f35 : rg (-1) (-1) x33 := rg_w (rg_lt hw33.1 rgc_0 c34).1 (th_leI rfl) (th_leI rfl)
              refine lv_iconst (v := 1) hx hb dX12_moor_91 ic_1 ?_
              exact W.iret (v := 1) hx hb hr (fun t ht hW => ⟨⟨1, (gi31, gr), rfl, ⟨hM, rfl, (hF.trans (by simp only [↓reduceIte, F_X12_moor, hw6.2.2, eq_false c7, hw12.2.2, eq_false c13, r16, Option.getD_some, ← e17, eq_false c18, r21, ← e22, eq_true c23, hw27.2, eq_false c28, hw31.2.2, hw33.2.1, eq_true c34]))⟩, th_Ht ht hH⟩, hS.F ht⟩) hS.2.2 dX12_moor_92
            · skip
              have f36 : rg 0 9 x33 := rg_w (rg_nlt hw33.1 rgc_0 c34).1 (th_leI rfl) (th_leI rfl)
              refine lv_aload_n hx hb dX12_moor_82 rfl (lv_at hl 0 rfl) ?_
              refine lv_aload_n hx hb dX12_moor_83 rfl (lv_at hl 0 rfl) ?_
              refine lv_iload_n hx hb dX12_moor_84 rfl (lv_at hl 1 rfl) ?_
              have hA37 := th_Asub (τ := τ) hS
              refine va_calli (va_runV (As := [.int p1]) (rest := [.ref h0]) ⟨hx, hb, hml, hown, hts⟩ (k_X12_placeOnList l D cA Z τ gi31 gr _ h0 t_h0 p1) (cwV 1 hts gX12_moor_X12_placeOnList rfl rfl rfl hd_X12_placeOnList__1 ⟨Nat.le_of_ble_eq_true rfl, Nat.le_of_ble_eq_true rfl⟩) ⟨th_blind, tr_12 hK hH t_h0, (th_pre hH hK hN hZ hS hA37)⟩ rfl rfl hl.1 rfl (lv_room (Nat.le_of_ble_eq_true rfl)) dX12_moor_85 ⟨Nat.le_of_ble_eq_true rfl, Nat.le_of_ble_eq_true rfl⟩) hS (fun q _ h => hA37 q h) hA37 (fun x38 u t H locs ht hvm hw38 hB hz1 hk1 hS => ?_)
              try dsimp only at hw38 hB
              rw [ht] at hB
              have hH := hB
              obtain rfl : x33 = x38 := hw33.2.1.symm.trans hw38.2.1
              have hA39 := th_Asub (τ := τ) hS
              obtain ⟨x40, e40⟩ : ∃ y : Int32, y = gi31 h0 17 := ⟨_, rfl⟩
              have fw40 : rg 1 10 x40 := by rw [e40]; exact pl_wait hw33.2.2 f36 (hH.at t_h0 (by decide)).2.2.2.2.2.2.2.2.2.2.2.2.2.2.2.2.2.1 (by decide)
              refine va_callv (va_runV (As := [.int x33]) (rest := []) ⟨hx, hb, hml, hown, hts⟩ (k_X12_goesOff l D cA Z τ gi31 gr _ h0 t_h0 x33 f36 (by rw [← e40]; exact fw40)) (cwV 1 hts gX12_moor_X12_goesOff rfl rfl rfl hd_X12_goesOff__1 ⟨Nat.le_of_ble_eq_true rfl, Nat.le_of_ble_eq_true rfl⟩) ⟨th_blind, tr_12 hK hH t_h0, (th_pre hH hK hN hZ hS hA39)⟩ rfl rfl hl.1 rfl (lv_room (Nat.le_of_ble_eq_true rfl)) dX12_moor_88 ⟨Nat.le_of_ble_eq_true rfl, Nat.le_of_ble_eq_true rfl⟩) hS (fun q _ h => hA39 q h) hA39 (fun  u t H locs ht hvm hw41 hB hz1 hk1 hS => ?_)
              try dsimp only at hw41 hB
              rw [ht] at hB
              have hH := hB
              obtain ⟨gi41, gr41⟩ := u
              try dsimp only at hw41 hH
              obtain rfl : gr = gr41 := (hw41.2.1).symm
              have hM := hM.tr hw41.1 (fun _ h => h) (th_sub rfl)
              obtain ⟨x42, e42⟩ : ∃ y : Int32, y = gi41 h0 17 := ⟨_, rfl⟩
              have f42 : rg 0 9 x42 := by rw [e42]; exact hw41.2.2.2
              refine lv_iconst (v := 1) hx hb dX12_moor_91 ic_1 ?_
              exact W.iret (v := 1) hx hb hr (fun t ht hW => ⟨⟨1, (gi41, gr), rfl, ⟨hM, rfl, (hF.trans (by simp only [↓reduceIte, F_X12_moor, hw6.2.2, eq_false c7, hw12.2.2, eq_false c13, r16, Option.getD_some, ← e17, eq_false c18, r21, ← e22, eq_true c23, hw27.2, eq_false c28, hw31.2.2, hw33.2.1, eq_false c34, ← e40, hw41.2.2.1, ← e42]))⟩, th_Ht ht hH⟩, hS.F ht⟩) hS.2.2 dX12_moor_92
          · skip
            have f43 : rg 0 0 x27 := rg_w (rg_eq hw27.1 rgc_0 c28).1 (th_leI rfl) (th_leI rfl)
            refine lv_aload_n hx hb dX12_moor_61 rfl (lv_at hl 0 rfl) ?_
            refine lv_ldc (v := (-1000002)) hx hb hown (hts (.constant RX12 191 (-1000002)) (List.mem_cons_of_mem _ (List.mem_append_left _ (List.mem_append_left _ (List.mem_of_getElem? (i := 4) rfl))))) dX12_moor_62 ?_
            have hA44 := th_Asub (τ := τ) hS
            refine va_calli (va_runV (As := [.int (-1000002)]) (rest := []) ⟨hx, hb, hml, hown, hts⟩ (k_X12_finding l D cA Z τ gi gr _ h0 t_h0 (-1000002) (rg_w rgc_m1000002 (th_leI rfl) (th_leI rfl))) (cwV 1 hts gX12_moor_X12_finding rfl rfl rfl hd_X12_finding__1 ⟨Nat.le_of_ble_eq_true rfl, Nat.le_of_ble_eq_true rfl⟩) ⟨th_blind, tr_12 hK hH t_h0, (th_pre hH hK hN hZ hS hA44)⟩ rfl rfl hl.1 rfl (lv_room (Nat.le_of_ble_eq_true rfl)) dX12_moor_64 ⟨Nat.le_of_ble_eq_true rfl, Nat.le_of_ble_eq_true rfl⟩) hS (fun q _ h => hA44 q h) hA44 (fun x45 u t H locs ht hvm hw45 hB hz1 hk1 hS => ?_)
            try dsimp only at hw45 hB
            rw [ht] at hB
            have hH := hB
            obtain ⟨gi45, gr45⟩ := u
            try dsimp only at hw45 hH
            obtain rfl : gr = gr45 := (hw45.2.1).symm
            have hM := hM.tr hw45.1 (fun _ h => h) (th_sub rfl)
            have e46 : x17 = gi45 q16 (p1.toNatClampNeg) := Eq.trans e17 (Eq.symm (hw45.1 q16 (p1.toNatClampNeg) (th_nzE t16 rfl) (th_nmE (key := 5000) t16 rfl rfl)).1)
            have e47 : x22 = gi45 q21 (p2.toNatClampNeg) := Eq.trans e22 (Eq.symm (hw45.1 q21 (p2.toNatClampNeg) (th_nzE t21 rfl) (th_nmE (key := 4600) t21 rfl rfl)).1)
            exact W.iret (v := x45) hx hb hr (fun t ht hW => ⟨⟨x45, (gi45, gr), rfl, ⟨hM, rfl, (hF.trans (by simp only [↓reduceIte, F_X12_moor, hw6.2.2, eq_false c7, hw12.2.2, eq_false c13, r16, Option.getD_some, ← e17, eq_false c18, r21, ← e22, eq_true c23, hw27.2, eq_true c28, hw45.2.2.1]))⟩, th_Ht ht hH⟩, hS.F ht⟩) hS.2.2 dX12_moor_67
        · skip
          have f48 : rg 0 15 x22 := rg_w (rg_nlt f22 rgc_0 c23).1 (th_leI rfl) (th_leI rfl)
          exact J41 gi _ _ _ hH hS hM (lv_sub hl [0] rfl) (hF.trans (by simp only [↓reduceIte, F_X12_moor, hw6.2.2, eq_false c7, hw12.2.2, eq_false c13, r16, Option.getD_some, ← e17, eq_false c18, r21, ← e22, eq_false c23]))
    · skip
      have f49 : rg 0 0 x12 := rg_w (rg_eq hw12.1 rgc_0 c13).1 (th_leI rfl) (th_leI rfl)
      exact J16 gi _ _ _ hH hS hM (lv_sub hl [0] rfl) (hF.trans (by simp only [↓reduceIte, F_X12_moor, hw6.2.2, eq_false c7, hw12.2.2, eq_true c13]))

noncomputable def F_X12_leave (τ : th_t) (Z : th_Zt) (gi : th_i) (gr : th_r) (h0 : Nat) (p1 : Int32) : Int32 × th_i :=
  let x2 : Int32 := F_X12_isBoat τ Z gi gr h0 p1
  if x2 = (0 : Int32) then (
    let u24 : Int32 × th_i := F_X12_finding τ Z gi gr h0 (-1000001)
    let x24 : Int32 := u24.1
    let gi24 : th_i := u24.2
    (x24, gi24)) else (
    let q6 : Nat := (gr h0 12).getD 0
    let x7 : Int32 := gi q6 p1.toNatClampNeg
    if (0 : Int32) ≤ x7 then (
      let gi13 : th_i := va_up gi q6 (upd (gi q6) p1.toNatClampNeg (-1))
      let q15 : Nat := (gr h0 7).getD 0
      let gi16 : th_i := va_up gi13 q15 (upd (gi13 q15) x7.toNatClampNeg (-1))
      (x7, gi16)) else (
      let u20 : Int32 × th_i := F_X12_finding τ Z gi gr h0 (-1000003)
      let x20 : Int32 := u20.1
      let gi20 : th_i := u20.2
      (x20, gi20)))
set_option maxHeartbeats 8000000 in
set_option maxRecDepth 100000 in
theorem k_X12_leave (l : Launch) (D : va_G) (cA : Nat → ClassId) (Z : th_Zt) (τ : th_t) (gi : th_i) (gr : th_r) (sz : Nat) (h0 : Nat) (t_h0 : τ h0 = 12) (p1 : Int32) : Met l yX12_leave wsX12_leave ({ frames := 2, cells := 0, slots := 0, locals := 43 }) (va_Pc [.ref h0, .int p1] (th_Pre D cA Z τ gi gr sz)) (va_Qi (fun (r : Int32) (u : th_i × th_r) => th_Mod [4600, 5000, 5900] τ gi gr u.1 u.2 ∧ u.2 = gr ∧ (F_X12_leave τ Z gi gr h0 p1 = (r, u.1))) (fun (u : th_i × th_r) t => th_H D cA τ u.1 u.2 t.heap) (th_A τ sz)) 0 0 (th_A τ sz) := by
  refine Met.ofW (cc := cX12_leave) (maxL := 3) (ret := (some .int)) (by decide) rfl ?_
  intro p e s m args below meth c s₁ B hml hv
  obtain ⟨rfl, hsz, hH, hK, hN, hZ⟩ := hv
  have hx := B.exec
  have hb := B.bytes
  have hr := B.returns
  have hts := atoms_spec (ws := wsX12_leave) B.pre
  have hown : s.vm.findClass RX12 = some m.cls := findClass_of_methodNamed B.named
  have hlocks := B.notSynchronized
  subst hsz
  have hM : th_Mod [4600, 5000, 5900] τ gi gr gi gr := th_Mod.rf
  have hS : va_S (th_A τ s.heap.size) s.heap s.heap [] := va_S.rf
  have hl := lv_entry ([.ref h0, .int p1]) (n := 3) (Nat.le_of_ble_eq_true rfl)
  rw [lg_entry_eq]
  generalize (lg_sl ([.ref h0, .int p1]) ++ List.replicate (3 - (lg_sl ([.ref h0, .int p1])).length) Slot.unset).toArray = ls at hl ⊢
  have hl : lv_has ls 3 [(0, .ref h0), (1, .int p1)] := hl
  have hF : F_X12_leave τ Z gi gr h0 p1 = F_X12_leave τ Z gi gr h0 p1 := rfl
  refine lv_aload_n hx hb dX12_leave_0 rfl (lv_at hl 0 rfl) ?_
  refine lv_iload_n hx hb dX12_leave_1 rfl (lv_at hl 1 rfl) ?_
  have hA1 := th_Asub (τ := τ) hS
  refine va_calli (va_runV (As := [.int p1]) (rest := []) ⟨hx, hb, hml, hown, hts⟩ (k_X12_isBoat l D cA Z τ gi gr _ h0 t_h0 p1) (cwV 1 hts gX12_leave_X12_isBoat rfl rfl rfl hd_X12_isBoat__1 ⟨Nat.le_of_ble_eq_true rfl, Nat.le_of_ble_eq_true rfl⟩) ⟨th_blind, tr_12 hK hH t_h0, (th_pre hH hK hN hZ hS hA1)⟩ rfl rfl hl.1 rfl (lv_room (Nat.le_of_ble_eq_true rfl)) dX12_leave_2 ⟨Nat.le_of_ble_eq_true rfl, Nat.le_of_ble_eq_true rfl⟩) hS (fun q _ h => hA1 q h) hA1 (fun x2 u t H locs ht hvm hw2 hB hz1 hk1 hS => ?_)
  try dsimp only at hw2 hB
  rw [ht] at hB
  have hH := hB
  refine lv_if_ne (tgt := 15) hx hb dX12_leave_5 (th_eqI rfl) (fun c3 => ?_) (fun c3 => ?_)
  · skip
    have f4 : rg 1 1 x2 := rg_w (rg_neL hw2.1 rgc_0 c3) (th_leI rfl) (th_leI rfl)
    have f5 : rg 0 15 p1 := rg_w (hw2.2.1 c3) (th_leI rfl) (th_leI rfl)
    refine lv_aload_n hx hb dX12_leave_15 rfl (lv_at hl 0 rfl) ?_
    obtain ⟨q6, r6, t6⟩ : ∃ q, gr h0 12 = some q ∧ τ q = 50 := (thI_12 hH t_h0).2.2.2.2.2.2.2.2.2.2.2.2.1
    refine th_get (ci := 11) (v := .ref q6) (T := TX12) (C := RX12) (N := 38) hx hb hts (fun w h => List.mem_cons_of_mem _ (List.mem_append_right _ h)) hown hK hH t_h0 (th_nz rfl) (thE_12 _ _ _) rfl 12 (th_ltN rfl) (hts (.fieldLink RX12 40 "BayMooringsModel" "buoyOf" "[I") (List.mem_cons_of_mem _ (List.mem_append_left _ (List.mem_of_getElem? (i := 1) rfl)))) (fun _ h9 => h9) (th_fR r6 rfl) dX12_leave_16 ?_
    refine lv_iload_n hx hb dX12_leave_19 rfl (lv_at hl 1 rfl) ?_
    refine th_iald hx hb hK hH t6 (th_nz rfl) 0 (thE_50 _ _ _) rfl (rg_in (n := 16) f5 (th_leI rfl) (th_ltI rfl)) dX12_leave_20 ?_
    refine lv_topi (fun x7 e7 => ?_)
    have f7 : rg (-1) 11 x7 := rg_e e7 ((thI_50 hH t6) _ (rg_cl (n := 16) f5 (th_leI rfl) (th_ltI rfl)))
    refine lv_if_ge (tgt := 31) hx hb dX12_leave_21 (th_eqI rfl) (fun c8 => ?_) (fun c8 => ?_)
    · skip
      have f9 : rg 0 11 x7 := rg_w (rg_le rgc_0 f7 c8).2 (th_leI rfl) (th_leI rfl)
      refine lv_aload_n hx hb dX12_leave_31 rfl (lv_at hl 0 rfl) ?_
      refine th_get (ci := 11) (v := .ref q6) (T := TX12) (C := RX12) (N := 38) hx hb hts (fun w h => List.mem_cons_of_mem _ (List.mem_append_right _ h)) hown hK hH t_h0 (th_nz rfl) (thE_12 _ _ _) rfl 12 (th_ltN rfl) (hts (.fieldLink RX12 40 "BayMooringsModel" "buoyOf" "[I") (List.mem_cons_of_mem _ (List.mem_append_left _ (List.mem_of_getElem? (i := 1) rfl)))) (fun _ h9 => h9) (th_fR r6 rfl) dX12_leave_32 ?_
      refine lv_iload_n hx hb dX12_leave_35 rfl (lv_at hl 1 rfl) ?_
      refine th_iald hx hb hK hH t6 (th_nz rfl) 0 (thE_50 _ _ _) rfl (rg_in (n := 16) f5 (th_leI rfl) (th_ltI rfl)) dX12_leave_36 ?_
      rw [← e7]
      refine lv_istore_n (i := 2) (lv' := [(2, .int x7), (0, .ref h0), (1, .int p1)]) hx hb dX12_leave_37 rfl hl (th_ltN rfl) rfl (fun ls hl => ?_)
      refine lv_aload_n hx hb dX12_leave_38 rfl (lv_at hl 1 rfl) ?_
      refine th_get (ci := 11) (v := .ref q6) (T := TX12) (C := RX12) (N := 38) hx hb hts (fun w h => List.mem_cons_of_mem _ (List.mem_append_right _ h)) hown hK hH t_h0 (th_nz rfl) (thE_12 _ _ _) rfl 12 (th_ltN rfl) (hts (.fieldLink RX12 40 "BayMooringsModel" "buoyOf" "[I") (List.mem_cons_of_mem _ (List.mem_append_left _ (List.mem_of_getElem? (i := 1) rfl)))) (fun _ h9 => h9) (th_fR r6 rfl) dX12_leave_39 ?_
      refine lv_iload_n hx hb dX12_leave_42 rfl (lv_at hl 2 rfl) ?_
      refine lv_iconst (v := (-1)) hx hb dX12_leave_43 ic_m1 ?_
      refine th_iast hx hb hK hH hS t6 (th_nz rfl) (Or.inl (th_nzE t6 rfl)) 0 (fun _ => thE_50 _ _ _) rfl (rg_in (n := 16) f5 (th_leI rfl) (th_ltI rfl)) (th_ai (P := rg (-1) 11) (thI_50 hH t6) (rg_w rgc_m1 (th_leI rfl) (th_leI rfl))) dX12_leave_44 (fun gi13 H locs hu13 ho13 hH hS => ?_)
      have eg13 : gi13 = va_up gi q6 (upd (gi q6) p1.toNatClampNeg (-1)) := th_upE hu13 ho13
      have hM := hM.i t6 (th_mem (a := 5000) rfl) ho13
      refine lv_aload_n hx hb dX12_leave_45 rfl (lv_at hl 1 rfl) ?_
      obtain ⟨q15, r15, t15⟩ : ∃ q, gr h0 7 = some q ∧ τ q = 46 := (thI_12 hH t_h0).2.2.2.2.2.2.2.1
      refine th_get (ci := 11) (v := .ref q15) (T := TX12) (C := RX12) (N := 38) hx hb hts (fun w h => List.mem_cons_of_mem _ (List.mem_append_right _ h)) hown hK hH t_h0 (th_nz rfl) (thE_12 _ _ _) rfl 7 (th_ltN rfl) (hts (.fieldLink RX12 28 "BayMooringsModel" "boatAt" "[I") (List.mem_cons_of_mem _ (List.mem_append_left _ (List.mem_of_getElem? (i := 3) rfl)))) (fun _ h9 => h9) (th_fR r15 rfl) dX12_leave_46 ?_
      refine lv_iload_n hx hb dX12_leave_49 rfl (lv_at hl 0 rfl) ?_
      refine lv_iconst (v := (-1)) hx hb dX12_leave_50 ic_m1 ?_
      refine th_iast hx hb hK hH hS t15 (th_nz rfl) (Or.inl (th_nzE t15 rfl)) 0 (fun _ => thE_46 _ _ _) rfl (rg_in (n := 12) f9 (th_leI rfl) (th_ltI rfl)) (th_ai (P := rg (-1) 15) (thI_46 hH t15) (rg_w rgc_m1 (th_leI rfl) (th_leI rfl))) dX12_leave_51 (fun gi16 H locs hu16 ho16 hH hS => ?_)
      have eg16 : gi16 = va_up gi13 q15 (upd (gi13 q15) x7.toNatClampNeg (-1)) := th_upE hu16 ho16
      have e17 : (-1) = gi16 q6 (p1.toNatClampNeg) := Eq.trans hu13.symm (Eq.symm (ho16 _ _ (Or.inl (th_ne t6 t15 (th_nz rfl)))))
      have hM := hM.i t15 (th_mem (a := 4600) rfl) ho16
      refine lv_iload_n hx hb dX12_leave_52 rfl (lv_at hl 0 rfl) ?_
      exact W.iret (v := x7) hx hb hr (fun t ht hW => ⟨⟨x7, (gi16, gr), rfl, ⟨hM, rfl, (hF.trans (by simp only [↓reduceIte, F_X12_leave, hw2.2.2, eq_false c3, r6, Option.getD_some, ← e7, eq_true c8, ← eg13, r15, ← eg16]))⟩, th_Ht ht hH⟩, hS.F ht⟩) hS.2.2 dX12_leave_53
    · skip
      have f18 : rg (-1) (-1) x7 := rg_w (rg_nle rgc_0 f7 c8).2 (th_leI rfl) (th_leI rfl)
      refine lv_aload_n hx hb dX12_leave_24 rfl (lv_at hl 0 rfl) ?_
      refine lv_ldc (v := (-1000003)) hx hb hown (hts (.constant RX12 186 (-1000003)) (List.mem_cons_of_mem _ (List.mem_append_left _ (List.mem_of_getElem? (i := 2) rfl)))) dX12_leave_25 ?_
      have hA19 := th_Asub (τ := τ) hS
      refine va_calli (va_runV (As := [.int (-1000003)]) (rest := []) ⟨hx, hb, hml, hown, hts⟩ (k_X12_finding l D cA Z τ gi gr _ h0 t_h0 (-1000003) (rg_w rgc_m1000003 (th_leI rfl) (th_leI rfl))) (cwV 1 hts gX12_leave_X12_finding rfl rfl rfl hd_X12_finding__1 ⟨Nat.le_of_ble_eq_true rfl, Nat.le_of_ble_eq_true rfl⟩) ⟨th_blind, tr_12 hK hH t_h0, (th_pre hH hK hN hZ hS hA19)⟩ rfl rfl hl.1 rfl (lv_room (Nat.le_of_ble_eq_true rfl)) dX12_leave_27 ⟨Nat.le_of_ble_eq_true rfl, Nat.le_of_ble_eq_true rfl⟩) hS (fun q _ h => hA19 q h) hA19 (fun x20 u t H locs ht hvm hw20 hB hz1 hk1 hS => ?_)
      try dsimp only at hw20 hB
      rw [ht] at hB
      have hH := hB
      obtain ⟨gi20, gr20⟩ := u
      try dsimp only at hw20 hH
      obtain rfl : gr = gr20 := (hw20.2.1).symm
      have hM := hM.tr hw20.1 (fun _ h => h) (th_sub rfl)
      have e21 : x7 = gi20 q6 (p1.toNatClampNeg) := Eq.trans e7 (Eq.symm (hw20.1 q6 (p1.toNatClampNeg) (th_nzE t6 rfl) (th_nmE (key := 5000) t6 rfl rfl)).1)
      exact W.iret (v := x20) hx hb hr (fun t ht hW => ⟨⟨x20, (gi20, gr), rfl, ⟨hM, rfl, (hF.trans (by simp only [↓reduceIte, F_X12_leave, hw2.2.2, eq_false c3, r6, Option.getD_some, ← e7, eq_false c8, hw20.2.2.1]))⟩, th_Ht ht hH⟩, hS.F ht⟩) hS.2.2 dX12_leave_30
  · skip
    have f22 : rg 0 0 x2 := rg_w (rg_eq hw2.1 rgc_0 c3).1 (th_leI rfl) (th_leI rfl)
    refine lv_aload_n hx hb dX12_leave_8 rfl (lv_at hl 0 rfl) ?_
    refine lv_ldc (v := (-1000001)) hx hb hown (hts (.constant RX12 119 (-1000001)) (List.mem_cons_of_mem _ (List.mem_append_left _ (List.mem_of_getElem? (i := 0) rfl)))) dX12_leave_9 ?_
    have hA23 := th_Asub (τ := τ) hS
    refine va_calli (va_runV (As := [.int (-1000001)]) (rest := []) ⟨hx, hb, hml, hown, hts⟩ (k_X12_finding l D cA Z τ gi gr _ h0 t_h0 (-1000001) (rg_w rgc_m1000001 (th_leI rfl) (th_leI rfl))) (cwV 1 hts gX12_leave_X12_finding rfl rfl rfl hd_X12_finding__1 ⟨Nat.le_of_ble_eq_true rfl, Nat.le_of_ble_eq_true rfl⟩) ⟨th_blind, tr_12 hK hH t_h0, (th_pre hH hK hN hZ hS hA23)⟩ rfl rfl hl.1 rfl (lv_room (Nat.le_of_ble_eq_true rfl)) dX12_leave_11 ⟨Nat.le_of_ble_eq_true rfl, Nat.le_of_ble_eq_true rfl⟩) hS (fun q _ h => hA23 q h) hA23 (fun x24 u t H locs ht hvm hw24 hB hz1 hk1 hS => ?_)
    try dsimp only at hw24 hB
    rw [ht] at hB
    have hH := hB
    obtain ⟨gi24, gr24⟩ := u
    try dsimp only at hw24 hH
    obtain rfl : gr = gr24 := (hw24.2.1).symm
    have hM := hM.tr hw24.1 (fun _ h => h) (th_sub rfl)
    exact W.iret (v := x24) hx hb hr (fun t ht hW => ⟨⟨x24, (gi24, gr), rfl, ⟨hM, rfl, (hF.trans (by simp only [↓reduceIte, F_X12_leave, hw2.2.2, eq_true c3, hw24.2.2.1]))⟩, th_Ht ht hH⟩, hS.F ht⟩) hS.2.2 dX12_leave_14

noncomputable def f_X12_wait_32 (τ : th_t) (Z : th_Zt) (gi : th_i) (gr : th_r) (h0 : Nat) (p1 : Int32) (gi_32 : th_i) : Int32 × th_i :=
  let u2 : Int32 × th_i := F_X12_finding τ Z gi_32 gr h0 (-1000003)
  let x2 : Int32 := u2.1
  let gi2 : th_i := u2.2
  (x2, gi2)
noncomputable def F_X12_wait (τ : th_t) (Z : th_Zt) (gi : th_i) (gr : th_r) (h0 : Nat) (p1 : Int32) : Int32 × th_i :=
  let x4 : Int32 := F_X12_isBoat τ Z gi gr h0 p1
  if x4 = (0 : Int32) then (
    let u46 : Int32 × th_i := F_X12_finding τ Z gi gr h0 (-1000001)
    let x46 : Int32 := u46.1
    let gi46 : th_i := u46.2
    (x46, gi46)) else (
    let q8 : Nat := (gr h0 12).getD 0
    let x9 : Int32 := gi q8 p1.toNatClampNeg
    if (0 : Int32) ≤ x9 then (
      f_X12_wait_32 τ Z gi gr h0 p1 gi) else (
      let x14 : Int32 := F_X12_placeOnList τ Z gi gr h0 p1
      if x14 < (0 : Int32) then (
        let x17 : Int32 := gi h0 17
        if x17 = (10 : Int32) then (
          let u40 : Int32 × th_i := F_X12_finding τ Z gi gr h0 (-1000004)
          let x40 : Int32 := u40.1
          let gi40 : th_i := u40.2
          (x40, gi40)) else (
          let q20 : Nat := (gr h0 18).getD 0
          let gi22 : th_i := va_up gi q20 (upd (gi q20) x17.toNatClampNeg p1)
          let q25 : Nat := (gr h0 19).getD 0
          let gi26 : th_i := va_up gi22 q25 (upd (gi22 q25) p1.toNatClampNeg 0)
          let x31 : Int32 := x17 + 1
          let gi32 : th_i := va_up gi26 h0 (upd (gi26 h0) 17 x31)
          (x31, gi32))) else (
        f_X12_wait_32 τ Z gi gr h0 p1 gi)))
set_option maxHeartbeats 8000000 in
set_option maxRecDepth 100000 in
theorem k_X12_wait (l : Launch) (D : va_G) (cA : Nat → ClassId) (Z : th_Zt) (τ : th_t) (gi : th_i) (gr : th_r) (sz : Nat) (h0 : Nat) (t_h0 : τ h0 = 12) (p1 : Int32) : Met l yX12_wait wsX12_wait ({ frames := 2, cells := 0, slots := 0, locals := 43 }) (va_Pc [.ref h0, .int p1] (th_Pre D cA Z τ gi gr sz)) (va_Qi (fun (r : Int32) (u : th_i × th_r) => th_Mod [1217, 5400, 5500, 5900] τ gi gr u.1 u.2 ∧ u.2 = gr ∧ (F_X12_wait τ Z gi gr h0 p1 = (r, u.1))) (fun (u : th_i × th_r) t => th_H D cA τ u.1 u.2 t.heap) (th_A τ sz)) 0 0 (th_A τ sz) := by
  refine Met.ofW (cc := cX12_wait) (maxL := 2) (ret := (some .int)) (by decide) rfl ?_
  intro p e s m args below meth c s₁ B hml hv
  obtain ⟨rfl, hsz, hH, hK, hN, hZ⟩ := hv
  have hx := B.exec
  have hb := B.bytes
  have hr := B.returns
  have hts := atoms_spec (ws := wsX12_wait) B.pre
  have hown : s.vm.findClass RX12 = some m.cls := findClass_of_methodNamed B.named
  have hlocks := B.notSynchronized
  subst hsz
  have hM : th_Mod [1217, 5400, 5500, 5900] τ gi gr gi gr := th_Mod.rf
  have J32 : ∀ (gi_32 : th_i) (H : Heap) (locs : List Loc) (ls : Array Slot), th_H D cA τ gi_32 gr H → va_S (th_A τ s.heap.size) s.heap H locs → th_Mod [1217, 5400, 5500, 5900] τ gi gr gi_32 gr → lv_has ls 2 [(0, .ref h0)] → F_X12_wait τ Z gi gr h0 p1 = f_X12_wait_32 τ Z gi gr h0 p1 gi_32 → W p l e (headSpec wsX12_wait ({ frames := 2, cells := 0, slots := 0, locals := 43 })).room s m [.ref h0, .int p1].toArray below meth c H locs 0 0 (MQ below (va_Qi (fun (r : Int32) (u : th_i × th_r) => th_Mod [1217, 5400, 5500, 5900] τ gi gr u.1 u.2 ∧ u.2 = gr ∧ (F_X12_wait τ Z gi gr h0 p1 = (r, u.1))) (fun (u : th_i × th_r) t => th_H D cA τ u.1 u.2 t.heap) (th_A τ s.heap.size)) [.ref h0, .int p1].toArray s 0 0 (th_A τ s.heap.size)) (F0 m 32 ls []) := by
    intro gi_32 H locs ls hH hS hM hl hF
    refine lv_aload_n hx hb dX12_wait_32 rfl (lv_at hl 0 rfl) ?_
    refine lv_ldc (v := (-1000003)) hx hb hown (hts (.constant RX12 186 (-1000003)) (List.mem_cons_of_mem _ (List.mem_append_left _ (List.mem_append_left _ (List.mem_of_getElem? (i := 2) rfl))))) dX12_wait_33 ?_
    have hA1 := th_Asub (τ := τ) hS
    refine va_calli (va_runV (As := [.int (-1000003)]) (rest := []) ⟨hx, hb, hml, hown, hts⟩ (k_X12_finding l D cA Z τ gi_32 gr _ h0 t_h0 (-1000003) (rg_w rgc_m1000003 (th_leI rfl) (th_leI rfl))) (cwV 1 hts gX12_wait_X12_finding rfl rfl rfl hd_X12_finding__1 ⟨Nat.le_of_ble_eq_true rfl, Nat.le_of_ble_eq_true rfl⟩) ⟨th_blind, tr_12 hK hH t_h0, (th_pre hH hK hN hZ hS hA1)⟩ rfl rfl hl.1 rfl (lv_room (Nat.le_of_ble_eq_true rfl)) dX12_wait_35 ⟨Nat.le_of_ble_eq_true rfl, Nat.le_of_ble_eq_true rfl⟩) hS (fun q _ h => hA1 q h) hA1 (fun x2 u t H locs ht hvm hw2 hB hz1 hk1 hS => ?_)
    try dsimp only at hw2 hB
    rw [ht] at hB
    have hH := hB
    obtain ⟨gi2, gr2⟩ := u
    try dsimp only at hw2 hH
    obtain rfl : gr = gr2 := (hw2.2.1).symm
    have hM := hM.tr hw2.1 (fun _ h => h) (th_sub rfl)
    exact W.iret (v := x2) hx hb hr (fun t ht hW => ⟨⟨x2, (gi2, gr), rfl, ⟨hM, rfl, (hF.trans (by simp only [f_X12_wait_32, hw2.2.2.1]))⟩, th_Ht ht hH⟩, hS.F ht⟩) hS.2.2 dX12_wait_38
  have hS : va_S (th_A τ s.heap.size) s.heap s.heap [] := va_S.rf
  have hl := lv_entry ([.ref h0, .int p1]) (n := 2) (Nat.le_of_ble_eq_true rfl)
  rw [lg_entry_eq]
  generalize (lg_sl ([.ref h0, .int p1]) ++ List.replicate (2 - (lg_sl ([.ref h0, .int p1])).length) Slot.unset).toArray = ls at hl ⊢
  have hl : lv_has ls 2 [(0, .ref h0), (1, .int p1)] := hl
  have hF : F_X12_wait τ Z gi gr h0 p1 = F_X12_wait τ Z gi gr h0 p1 := rfl
  refine lv_aload_n hx hb dX12_wait_0 rfl (lv_at hl 0 rfl) ?_
  refine lv_iload_n hx hb dX12_wait_1 rfl (lv_at hl 1 rfl) ?_
  have hA3 := th_Asub (τ := τ) hS
  refine va_calli (va_runV (As := [.int p1]) (rest := []) ⟨hx, hb, hml, hown, hts⟩ (k_X12_isBoat l D cA Z τ gi gr _ h0 t_h0 p1) (cwV 1 hts gX12_wait_X12_isBoat rfl rfl rfl hd_X12_isBoat__1 ⟨Nat.le_of_ble_eq_true rfl, Nat.le_of_ble_eq_true rfl⟩) ⟨th_blind, tr_12 hK hH t_h0, (th_pre hH hK hN hZ hS hA3)⟩ rfl rfl hl.1 rfl (lv_room (Nat.le_of_ble_eq_true rfl)) dX12_wait_2 ⟨Nat.le_of_ble_eq_true rfl, Nat.le_of_ble_eq_true rfl⟩) hS (fun q _ h => hA3 q h) hA3 (fun x4 u t H locs ht hvm hw4 hB hz1 hk1 hS => ?_)
  try dsimp only at hw4 hB
  rw [ht] at hB
  have hH := hB
  refine lv_if_ne (tgt := 15) hx hb dX12_wait_5 (th_eqI rfl) (fun c5 => ?_) (fun c5 => ?_)
  · skip
    have f6 : rg 1 1 x4 := rg_w (rg_neL hw4.1 rgc_0 c5) (th_leI rfl) (th_leI rfl)
    have f7 : rg 0 15 p1 := rg_w (hw4.2.1 c5) (th_leI rfl) (th_leI rfl)
    refine lv_aload_n hx hb dX12_wait_15 rfl (lv_at hl 0 rfl) ?_
    obtain ⟨q8, r8, t8⟩ : ∃ q, gr h0 12 = some q ∧ τ q = 50 := (thI_12 hH t_h0).2.2.2.2.2.2.2.2.2.2.2.2.1
    refine th_get (ci := 11) (v := .ref q8) (T := TX12) (C := RX12) (N := 38) hx hb hts (fun w h => List.mem_cons_of_mem _ (List.mem_append_right _ h)) hown hK hH t_h0 (th_nz rfl) (thE_12 _ _ _) rfl 12 (th_ltN rfl) (hts (.fieldLink RX12 40 "BayMooringsModel" "buoyOf" "[I") (List.mem_cons_of_mem _ (List.mem_append_left _ (List.mem_append_left _ (List.mem_of_getElem? (i := 1) rfl))))) (fun _ h9 => h9) (th_fR r8 rfl) dX12_wait_16 ?_
    refine lv_iload_n hx hb dX12_wait_19 rfl (lv_at hl 1 rfl) ?_
    refine th_iald hx hb hK hH t8 (th_nz rfl) 0 (thE_50 _ _ _) rfl (rg_in (n := 16) f7 (th_leI rfl) (th_ltI rfl)) dX12_wait_20 ?_
    refine lv_topi (fun x9 e9 => ?_)
    have f9 : rg (-1) 11 x9 := rg_e e9 ((thI_50 hH t8) _ (rg_cl (n := 16) f7 (th_leI rfl) (th_ltI rfl)))
    refine lv_if_ge (tgt := 32) hx hb dX12_wait_21 (th_eqI rfl) (fun c10 => ?_) (fun c10 => ?_)
    · skip
      have f11 : rg 0 11 x9 := rg_w (rg_le rgc_0 f9 c10).2 (th_leI rfl) (th_leI rfl)
      exact J32 gi _ _ _ hH hS hM (lv_sub hl [0] rfl) (hF.trans (by simp only [↓reduceIte, F_X12_wait, hw4.2.2, eq_false c5, r8, Option.getD_some, ← e9, eq_true c10]))
    · skip
      have f12 : rg (-1) (-1) x9 := rg_w (rg_nle rgc_0 f9 c10).2 (th_leI rfl) (th_leI rfl)
      refine lv_aload_n hx hb dX12_wait_24 rfl (lv_at hl 0 rfl) ?_
      refine lv_iload_n hx hb dX12_wait_25 rfl (lv_at hl 1 rfl) ?_
      have hA13 := th_Asub (τ := τ) hS
      refine va_calli (va_runV (As := [.int p1]) (rest := []) ⟨hx, hb, hml, hown, hts⟩ (k_X12_placeOnList l D cA Z τ gi gr _ h0 t_h0 p1) (cwV 1 hts gX12_wait_X12_placeOnList rfl rfl rfl hd_X12_placeOnList__1 ⟨Nat.le_of_ble_eq_true rfl, Nat.le_of_ble_eq_true rfl⟩) ⟨th_blind, tr_12 hK hH t_h0, (th_pre hH hK hN hZ hS hA13)⟩ rfl rfl hl.1 rfl (lv_room (Nat.le_of_ble_eq_true rfl)) dX12_wait_26 ⟨Nat.le_of_ble_eq_true rfl, Nat.le_of_ble_eq_true rfl⟩) hS (fun q _ h => hA13 q h) hA13 (fun x14 u t H locs ht hvm hw14 hB hz1 hk1 hS => ?_)
      try dsimp only at hw14 hB
      rw [ht] at hB
      have hH := hB
      refine lv_if_lt (tgt := 39) hx hb dX12_wait_29 (th_eqI rfl) (fun c15 => ?_) (fun c15 => ?_)
      · skip
        have f16 : rg (-1) (-1) x14 := rg_w (rg_lt hw14.1 rgc_0 c15).1 (th_leI rfl) (th_leI rfl)
        refine lv_aload_n hx hb dX12_wait_39 rfl (lv_at hl 0 rfl) ?_
        obtain ⟨x17, e17⟩ : ∃ y : Int32, y = gi h0 17 := ⟨_, rfl⟩
        refine th_get (ci := 11) (v := .int x17) (T := TX12) (C := RX12) (N := 38) hx hb hts (fun w h => List.mem_cons_of_mem _ (List.mem_append_right _ h)) hown hK hH t_h0 (th_nz rfl) (thE_12 _ _ _) rfl 17 (th_ltN rfl) (hts (.fieldLink RX12 133 "BayMooringsModel" "waiting" "I") (List.mem_cons_of_mem _ (List.mem_append_left _ (List.mem_append_left _ (List.mem_of_getElem? (i := 3) rfl))))) (fun _ h9 => h9) (th_fI e17 rfl) dX12_wait_40 ?_
        have f17 : rg 0 10 x17 := rg_e e17 ((thI_12 hH t_h0).2.2.2.2.2.2.2.2.2.2.2.2.2.2.2.2.1)
        refine lv_bipush (v := 10) hx hb dX12_wait_43 bp_10 ?_
        refine lv_icmp_ne (tgt := 55) hx hb dX12_wait_45 (th_eqI rfl) (fun c18 => ?_) (fun c18 => ?_)
        · skip
          have f19 : rg 0 9 x17 := rg_w (rg_neR f17 rgc_10 c18) (th_leI rfl) (th_leI rfl)
          refine lv_aload_n hx hb dX12_wait_55 rfl (lv_at hl 0 rfl) ?_
          obtain ⟨q20, r20, t20⟩ : ∃ q, gr h0 18 = some q ∧ τ q = 54 := (thI_12 hH t_h0).2.2.2.2.2.2.2.2.2.2.2.2.2.2.2.2.2.1
          refine th_get (ci := 11) (v := .ref q20) (T := TX12) (C := RX12) (N := 38) hx hb hts (fun w h => List.mem_cons_of_mem _ (List.mem_append_right _ h)) hown hK hH t_h0 (th_nz rfl) (thE_12 _ _ _) rfl 18 (th_ltN rfl) (hts (.fieldLink RX12 56 "BayMooringsModel" "list" "[I") (List.mem_cons_of_mem _ (List.mem_append_left _ (List.mem_append_left _ (List.mem_of_getElem? (i := 5) rfl))))) (fun _ h9 => h9) (th_fR r20 rfl) dX12_wait_56 ?_
          refine lv_aload_n hx hb dX12_wait_59 rfl (lv_at hl 0 rfl) ?_
          refine th_get (ci := 11) (v := .int x17) (T := TX12) (C := RX12) (N := 38) hx hb hts (fun w h => List.mem_cons_of_mem _ (List.mem_append_right _ h)) hown hK hH t_h0 (th_nz rfl) (thE_12 _ _ _) rfl 17 (th_ltN rfl) (hts (.fieldLink RX12 133 "BayMooringsModel" "waiting" "I") (List.mem_cons_of_mem _ (List.mem_append_left _ (List.mem_append_left _ (List.mem_of_getElem? (i := 3) rfl))))) (fun _ h9 => h9) (th_fI e17 rfl) dX12_wait_60 ?_
          refine lv_iload_n hx hb dX12_wait_63 rfl (lv_at hl 1 rfl) ?_
          refine th_iast hx hb hK hH hS t20 (th_nz rfl) (Or.inl (th_nzE t20 rfl)) 0 (fun _ => thE_54 _ _ _) rfl (rg_in (n := 10) f19 (th_leI rfl) (th_ltI rfl)) (th_ai (P := rg 0 15) (thI_54 hH t20) f7) dX12_wait_64 (fun gi22 H locs hu22 ho22 hH hS => ?_)
          have eg22 : gi22 = va_up gi q20 (upd (gi q20) x17.toNatClampNeg p1) := th_upE hu22 ho22
          have e23 : x9 = gi22 q8 (p1.toNatClampNeg) := Eq.trans e9 (Eq.symm (ho22 _ _ (Or.inl (th_ne t8 t20 (th_nz rfl)))))
          have e24 : x17 = gi22 h0 17 := Eq.trans e17 (Eq.symm (ho22 _ _ (Or.inl (th_ne t_h0 t20 (th_nz rfl)))))
          have hM := hM.i t20 (th_mem (a := 5400) rfl) ho22
          refine lv_aload_n hx hb dX12_wait_65 rfl (lv_at hl 0 rfl) ?_
          obtain ⟨q25, r25, t25⟩ : ∃ q, gr h0 19 = some q ∧ τ q = 55 := (thI_12 hH t_h0).2.2.2.2.2.2.2.2.2.2.2.2.2.2.2.2.2.2.1
          refine th_get (ci := 11) (v := .ref q25) (T := TX12) (C := RX12) (N := 38) hx hb hts (fun w h => List.mem_cons_of_mem _ (List.mem_append_right _ h)) hown hK hH t_h0 (th_nz rfl) (thE_12 _ _ _) rfl 19 (th_ltN rfl) (hts (.fieldLink RX12 59 "BayMooringsModel" "refused" "[I") (List.mem_cons_of_mem _ (List.mem_append_left _ (List.mem_append_left _ (List.mem_of_getElem? (i := 6) rfl))))) (fun _ h9 => h9) (th_fR r25 rfl) dX12_wait_66 ?_
          refine lv_iload_n hx hb dX12_wait_69 rfl (lv_at hl 1 rfl) ?_
          refine lv_iconst (v := 0) hx hb dX12_wait_70 ic_0 ?_
          refine th_iast hx hb hK hH hS t25 (th_nz rfl) (Or.inl (th_nzE t25 rfl)) 0 (fun _ => thE_55 _ _ _) rfl (rg_in (n := 16) f7 (th_leI rfl) (th_ltI rfl)) (trivial) dX12_wait_71 (fun gi26 H locs hu26 ho26 hH hS => ?_)
          have eg26 : gi26 = va_up gi22 q25 (upd (gi22 q25) p1.toNatClampNeg 0) := th_upE hu26 ho26
          have e27 : x9 = gi26 q8 (p1.toNatClampNeg) := Eq.trans e23 (Eq.symm (ho26 _ _ (Or.inl (th_ne t8 t25 (th_nz rfl)))))
          have e28 : x17 = gi26 h0 17 := Eq.trans e24 (Eq.symm (ho26 _ _ (Or.inl (th_ne t_h0 t25 (th_nz rfl)))))
          have e29 : p1 = gi26 q20 (x17.toNatClampNeg) := Eq.trans hu22.symm (Eq.symm (ho26 _ _ (Or.inl (th_ne t20 t25 (th_nz rfl)))))
          have hM := hM.i t25 (th_mem (a := 5500) rfl) ho26
          refine lv_aload_n hx hb dX12_wait_72 rfl (lv_at hl 0 rfl) ?_
          refine lv_dup hx hb dX12_wait_73 rfl ?_
          refine th_get (ci := 11) (v := .int x17) (T := TX12) (C := RX12) (N := 38) hx hb hts (fun w h => List.mem_cons_of_mem _ (List.mem_append_right _ h)) hown hK hH t_h0 (th_nz rfl) (thE_12 _ _ _) rfl 17 (th_ltN rfl) (hts (.fieldLink RX12 133 "BayMooringsModel" "waiting" "I") (List.mem_cons_of_mem _ (List.mem_append_left _ (List.mem_append_left _ (List.mem_of_getElem? (i := 3) rfl))))) (fun _ h9 => h9) (th_fI e28 rfl) dX12_wait_74 ?_
          refine lv_iconst (v := 1) hx hb dX12_wait_77 ic_1 ?_
          refine lv_iadd hx hb dX12_wait_78 ?_
          refine lv_topi (fun x31 e31 => ?_)
          have f31 : rg 1 10 x31 := rg_e e31 (rg_w (rg_add f19 rgc_1 (th_leI rfl) (th_leI rfl)) (th_leI rfl) (th_leI rfl))
          refine th_put (ci := 11) (v := .int x31) (T := TX12) (C := RX12) (N := 38) (ty := .int) (gi' := va_up gi26 h0 (upd (gi26 h0) 17 x31)) (gr' := gr) hx hb hts (fun w h => List.mem_cons_of_mem _ (List.mem_append_right _ h)) tyX12 tyX12_ok nmX12 hown hK hH hS t_h0 (th_nz rfl) (Or.inl (th_nzE t_h0 rfl)) rfl rfl 17 (th_ltN rfl) (hts (.fieldLink RX12 133 "BayMooringsModel" "waiting" "I") (List.mem_cons_of_mem _ (List.mem_append_left _ (List.mem_append_left _ (List.mem_of_getElem? (i := 3) rfl))))) (fun _ h9 => h9) rfl (by decide +kernel) rfl rfl (Nat.le_of_ble_eq_true rfl) (by rw [va_up_self]; rfl) (by rw [va_up_self]; show rg 0 12 (gi26 h0 0) ∧ (∃ q, gr h0 1 = some q ∧ τ q = 40) ∧ (∃ q, gr h0 2 = some q ∧ τ q = 41) ∧ (∃ q, gr h0 3 = some q ∧ τ q = 42) ∧ (∃ q, gr h0 4 = some q ∧ τ q = 43) ∧ (∃ q, gr h0 5 = some q ∧ τ q = 44) ∧ (∃ q, gr h0 6 = some q ∧ τ q = 45) ∧ (∃ q, gr h0 7 = some q ∧ τ q = 46) ∧ rg 0 16 (gi26 h0 8) ∧ (∃ q, gr h0 9 = some q ∧ τ q = 47) ∧ (∃ q, gr h0 10 = some q ∧ τ q = 48) ∧ (∃ q, gr h0 11 = some q ∧ τ q = 49) ∧ (∃ q, gr h0 12 = some q ∧ τ q = 50) ∧ (∃ q, gr h0 13 = some q ∧ τ q = 51) ∧ (∃ q, gr h0 15 = some q ∧ τ q = 52) ∧ (∃ q, gr h0 16 = some q ∧ τ q = 53) ∧ rg 0 10 x31 ∧ (∃ q, gr h0 18 = some q ∧ τ q = 54) ∧ (∃ q, gr h0 19 = some q ∧ τ q = 55) ∧ (∃ q, gr h0 21 = some q ∧ τ q = 56) ∧ (∃ q, gr h0 22 = some q ∧ τ q = 57) ∧ rg 0 24 (gi26 h0 24) ∧ (∃ q, gr h0 25 = some q ∧ τ q = 58) ∧ (∃ q, gr h0 26 = some q ∧ τ q = 59) ∧ rg 0 5 (gi26 h0 27) ∧ (∃ q, gr h0 28 = some q ∧ τ q = 60) ∧ (∃ q, gr h0 29 = some q ∧ τ q = 61) ∧ (∃ q, gr h0 30 = some q ∧ τ q = 62) ∧ (∃ q, gr h0 31 = some q ∧ τ q = 63) ∧ (∃ q, gr h0 32 = some q ∧ τ q = 64) ∧ (∃ q, gr h0 34 = some q ∧ τ q = 65) ∧ (∃ q, gr h0 35 = some q ∧ τ q = 66) ∧ (∃ q, gr h0 36 = some q ∧ τ q = 67) ∧ (∃ q, gr h0 37 = some q ∧ τ q = 68); exact ⟨(thI_12 hH t_h0).1, (thI_12 hH t_h0).2.1, (thI_12 hH t_h0).2.2.1, (thI_12 hH t_h0).2.2.2.1, (thI_12 hH t_h0).2.2.2.2.1, (thI_12 hH t_h0).2.2.2.2.2.1, (thI_12 hH t_h0).2.2.2.2.2.2.1, (thI_12 hH t_h0).2.2.2.2.2.2.2.1, (thI_12 hH t_h0).2.2.2.2.2.2.2.2.1, (thI_12 hH t_h0).2.2.2.2.2.2.2.2.2.1, (thI_12 hH t_h0).2.2.2.2.2.2.2.2.2.2.1, (thI_12 hH t_h0).2.2.2.2.2.2.2.2.2.2.2.1, (thI_12 hH t_h0).2.2.2.2.2.2.2.2.2.2.2.2.1, (thI_12 hH t_h0).2.2.2.2.2.2.2.2.2.2.2.2.2.1, (thI_12 hH t_h0).2.2.2.2.2.2.2.2.2.2.2.2.2.2.1, (thI_12 hH t_h0).2.2.2.2.2.2.2.2.2.2.2.2.2.2.2.1, (rg_w f31 (th_leI rfl) (th_leI rfl)), (thI_12 hH t_h0).2.2.2.2.2.2.2.2.2.2.2.2.2.2.2.2.2.1, (thI_12 hH t_h0).2.2.2.2.2.2.2.2.2.2.2.2.2.2.2.2.2.2.1, (thI_12 hH t_h0).2.2.2.2.2.2.2.2.2.2.2.2.2.2.2.2.2.2.2.1, (thI_12 hH t_h0).2.2.2.2.2.2.2.2.2.2.2.2.2.2.2.2.2.2.2.2.1, (thI_12 hH t_h0).2.2.2.2.2.2.2.2.2.2.2.2.2.2.2.2.2.2.2.2.2.1, (thI_12 hH t_h0).2.2.2.2.2.2.2.2.2.2.2.2.2.2.2.2.2.2.2.2.2.2.1, (thI_12 hH t_h0).2.2.2.2.2.2.2.2.2.2.2.2.2.2.2.2.2.2.2.2.2.2.2.1, (thI_12 hH t_h0).2.2.2.2.2.2.2.2.2.2.2.2.2.2.2.2.2.2.2.2.2.2.2.2.1, (thI_12 hH t_h0).2.2.2.2.2.2.2.2.2.2.2.2.2.2.2.2.2.2.2.2.2.2.2.2.2.1, (thI_12 hH t_h0).2.2.2.2.2.2.2.2.2.2.2.2.2.2.2.2.2.2.2.2.2.2.2.2.2.2.1, (thI_12 hH t_h0).2.2.2.2.2.2.2.2.2.2.2.2.2.2.2.2.2.2.2.2.2.2.2.2.2.2.2.1, (thI_12 hH t_h0).2.2.2.2.2.2.2.2.2.2.2.2.2.2.2.2.2.2.2.2.2.2.2.2.2.2.2.2.1, (thI_12 hH t_h0).2.2.2.2.2.2.2.2.2.2.2.2.2.2.2.2.2.2.2.2.2.2.2.2.2.2.2.2.2.1, (thI_12 hH t_h0).2.2.2.2.2.2.2.2.2.2.2.2.2.2.2.2.2.2.2.2.2.2.2.2.2.2.2.2.2.2.1, (thI_12 hH t_h0).2.2.2.2.2.2.2.2.2.2.2.2.2.2.2.2.2.2.2.2.2.2.2.2.2.2.2.2.2.2.2.1, (thI_12 hH t_h0).2.2.2.2.2.2.2.2.2.2.2.2.2.2.2.2.2.2.2.2.2.2.2.2.2.2.2.2.2.2.2.2.1, (thI_12 hH t_h0).2.2.2.2.2.2.2.2.2.2.2.2.2.2.2.2.2.2.2.2.2.2.2.2.2.2.2.2.2.2.2.2.2⟩) (fun b hb => ⟨va_up_ne _ _ hb, rfl⟩) dX12_wait_79 (fun H locs hH hS => ?_)
          obtain ⟨gi32, eg32⟩ : ∃ g, g = va_up gi26 h0 (upd (gi26 h0) 17 x31) := ⟨_, rfl⟩
          rw [← eg32] at hH
          have hu32 : gi32 h0 17 = x31 := (th_uI eg32).1
          have ho32 : ∀ b j, b ≠ h0 ∨ j ≠ 17 → gi32 b j = gi26 b j := (th_uI eg32).2
          have e33 : x9 = gi32 q8 (p1.toNatClampNeg) := Eq.trans e27 (Eq.symm (ho32 _ _ (Or.inl (th_ne t8 t_h0 (th_nz rfl)))))
          have e35 : p1 = gi32 q20 (x17.toNatClampNeg) := Eq.trans e29 (Eq.symm (ho32 _ _ (Or.inl (th_ne t20 t_h0 (th_nz rfl)))))
          have e36 : 0 = gi32 q25 (p1.toNatClampNeg) := Eq.trans hu26.symm (Eq.symm (ho32 _ _ (Or.inl (th_ne t25 t_h0 (th_nz rfl)))))
          have hM := hM.i t_h0 (th_mem (a := 1217) rfl) ho32
          refine lv_aload_n hx hb dX12_wait_82 rfl (lv_at hl 0 rfl) ?_
          refine th_get (ci := 11) (v := .int x31) (T := TX12) (C := RX12) (N := 38) hx hb hts (fun w h => List.mem_cons_of_mem _ (List.mem_append_right _ h)) hown hK hH t_h0 (th_nz rfl) (thE_12 _ _ _) rfl 17 (th_ltN rfl) (hts (.fieldLink RX12 133 "BayMooringsModel" "waiting" "I") (List.mem_cons_of_mem _ (List.mem_append_left _ (List.mem_append_left _ (List.mem_of_getElem? (i := 3) rfl))))) (fun _ h9 => h9) (th_fI hu32.symm rfl) dX12_wait_83 ?_
          exact W.iret (v := x31) hx hb hr (fun t ht hW => ⟨⟨x31, (gi32, gr), rfl, ⟨hM, rfl, (hF.trans (by simp only [↓reduceIte, F_X12_wait, hw4.2.2, eq_false c5, r8, Option.getD_some, ← e9, eq_false c10, hw14.2.1, eq_true c15, ← e17, eq_false c18, r20, ← eg22, r25, ← eg26, ← e31, ← eg32]))⟩, th_Ht ht hH⟩, hS.F ht⟩) hS.2.2 dX12_wait_86
        · skip
          have f38 : rg 10 10 x17 := rg_w (rg_eq f17 rgc_10 c18).1 (th_leI rfl) (th_leI rfl)
          refine lv_aload_n hx hb dX12_wait_48 rfl (lv_at hl 0 rfl) ?_
          refine lv_ldc (v := (-1000004)) hx hb hown (hts (.constant RX12 124 (-1000004)) (List.mem_cons_of_mem _ (List.mem_append_left _ (List.mem_append_left _ (List.mem_of_getElem? (i := 4) rfl))))) dX12_wait_49 ?_
          have hA39 := th_Asub (τ := τ) hS
          refine va_calli (va_runV (As := [.int (-1000004)]) (rest := []) ⟨hx, hb, hml, hown, hts⟩ (k_X12_finding l D cA Z τ gi gr _ h0 t_h0 (-1000004) (rg_w rgc_m1000004 (th_leI rfl) (th_leI rfl))) (cwV 1 hts gX12_wait_X12_finding rfl rfl rfl hd_X12_finding__1 ⟨Nat.le_of_ble_eq_true rfl, Nat.le_of_ble_eq_true rfl⟩) ⟨th_blind, tr_12 hK hH t_h0, (th_pre hH hK hN hZ hS hA39)⟩ rfl rfl hl.1 rfl (lv_room (Nat.le_of_ble_eq_true rfl)) dX12_wait_51 ⟨Nat.le_of_ble_eq_true rfl, Nat.le_of_ble_eq_true rfl⟩) hS (fun q _ h => hA39 q h) hA39 (fun x40 u t H locs ht hvm hw40 hB hz1 hk1 hS => ?_)
          try dsimp only at hw40 hB
          rw [ht] at hB
          have hH := hB
          obtain ⟨gi40, gr40⟩ := u
          try dsimp only at hw40 hH
          obtain rfl : gr = gr40 := (hw40.2.1).symm
          have hM := hM.tr hw40.1 (fun _ h => h) (th_sub rfl)
          have e41 : x9 = gi40 q8 (p1.toNatClampNeg) := Eq.trans e9 (Eq.symm (hw40.1 q8 (p1.toNatClampNeg) (th_nzE t8 rfl) (th_nmE (key := 5000) t8 rfl rfl)).1)
          have e42 : x17 = gi40 h0 17 := Eq.trans e17 (Eq.symm (hw40.1 h0 17 (th_nzE t_h0 rfl) (th_nmE (key := 1217) t_h0 rfl rfl)).1)
          exact W.iret (v := x40) hx hb hr (fun t ht hW => ⟨⟨x40, (gi40, gr), rfl, ⟨hM, rfl, (hF.trans (by simp only [↓reduceIte, F_X12_wait, hw4.2.2, eq_false c5, r8, Option.getD_some, ← e9, eq_false c10, hw14.2.1, eq_true c15, ← e17, eq_true c18, hw40.2.2.1]))⟩, th_Ht ht hH⟩, hS.F ht⟩) hS.2.2 dX12_wait_54
      · skip
        have f43 : rg 0 9 x14 := rg_w (rg_nlt hw14.1 rgc_0 c15).1 (th_leI rfl) (th_leI rfl)
        exact J32 gi _ _ _ hH hS hM (lv_sub hl [0] rfl) (hF.trans (by simp only [↓reduceIte, F_X12_wait, hw4.2.2, eq_false c5, r8, Option.getD_some, ← e9, eq_false c10, hw14.2.1, eq_false c15]))
  · skip
    have f44 : rg 0 0 x4 := rg_w (rg_eq hw4.1 rgc_0 c5).1 (th_leI rfl) (th_leI rfl)
    refine lv_aload_n hx hb dX12_wait_8 rfl (lv_at hl 0 rfl) ?_
    refine lv_ldc (v := (-1000001)) hx hb hown (hts (.constant RX12 119 (-1000001)) (List.mem_cons_of_mem _ (List.mem_append_left _ (List.mem_append_left _ (List.mem_of_getElem? (i := 0) rfl))))) dX12_wait_9 ?_
    have hA45 := th_Asub (τ := τ) hS
    refine va_calli (va_runV (As := [.int (-1000001)]) (rest := []) ⟨hx, hb, hml, hown, hts⟩ (k_X12_finding l D cA Z τ gi gr _ h0 t_h0 (-1000001) (rg_w rgc_m1000001 (th_leI rfl) (th_leI rfl))) (cwV 1 hts gX12_wait_X12_finding rfl rfl rfl hd_X12_finding__1 ⟨Nat.le_of_ble_eq_true rfl, Nat.le_of_ble_eq_true rfl⟩) ⟨th_blind, tr_12 hK hH t_h0, (th_pre hH hK hN hZ hS hA45)⟩ rfl rfl hl.1 rfl (lv_room (Nat.le_of_ble_eq_true rfl)) dX12_wait_11 ⟨Nat.le_of_ble_eq_true rfl, Nat.le_of_ble_eq_true rfl⟩) hS (fun q _ h => hA45 q h) hA45 (fun x46 u t H locs ht hvm hw46 hB hz1 hk1 hS => ?_)
    try dsimp only at hw46 hB
    rw [ht] at hB
    have hH := hB
    obtain ⟨gi46, gr46⟩ := u
    try dsimp only at hw46 hH
    obtain rfl : gr = gr46 := (hw46.2.1).symm
    have hM := hM.tr hw46.1 (fun _ h => h) (th_sub rfl)
    exact W.iret (v := x46) hx hb hr (fun t ht hW => ⟨⟨x46, (gi46, gr), rfl, ⟨hM, rfl, (hF.trans (by simp only [↓reduceIte, F_X12_wait, hw4.2.2, eq_true c5, hw46.2.2.1]))⟩, th_Ht ht hH⟩, hS.F ht⟩) hS.2.2 dX12_wait_14

noncomputable def F_X12_away (τ : th_t) (Z : th_Zt) (gi : th_i) (gr : th_r) (h0 : Nat) (p1 : Int32) : Int32 × th_i :=
  let x2 : Int32 := F_X12_isBoat τ Z gi gr h0 p1
  if x2 = (0 : Int32) then (
    let u19 : Int32 × th_i := F_X12_finding τ Z gi gr h0 (-1000001)
    let x19 : Int32 := u19.1
    let gi19 : th_i := u19.2
    (x19, gi19)) else (
    let x7 : Int32 := F_X12_placeOnList τ Z gi gr h0 p1
    if (0 : Int32) ≤ x7 then (
      let x11 : Int32 := gi h0 17
      let gi12 : th_i := F_X12_goesOff τ Z gi gr h0 x7
      let x13 : Int32 := gi12 h0 17
      (x7, gi12)) else (
      let u16 : Int32 × th_i := F_X12_finding τ Z gi gr h0 (-1000003)
      let x16 : Int32 := u16.1
      let gi16 : th_i := u16.2
      (x16, gi16)))
set_option maxHeartbeats 8000000 in
set_option maxRecDepth 100000 in
theorem k_X12_away (l : Launch) (D : va_G) (cA : Nat → ClassId) (Z : th_Zt) (τ : th_t) (gi : th_i) (gr : th_r) (sz : Nat) (h0 : Nat) (t_h0 : τ h0 = 12) (p1 : Int32) : Met l yX12_away wsX12_away ({ frames := 2, cells := 0, slots := 0, locals := 43 }) (va_Pc [.ref h0, .int p1] (th_Pre D cA Z τ gi gr sz)) (va_Qi (fun (r : Int32) (u : th_i × th_r) => th_Mod [1217, 5400, 5900] τ gi gr u.1 u.2 ∧ u.2 = gr ∧ (F_X12_away τ Z gi gr h0 p1 = (r, u.1))) (fun (u : th_i × th_r) t => th_H D cA τ u.1 u.2 t.heap) (th_A τ sz)) 0 0 (th_A τ sz) := by
  refine Met.ofW (cc := cX12_away) (maxL := 3) (ret := (some .int)) (by decide) rfl ?_
  intro p e s m args below meth c s₁ B hml hv
  obtain ⟨rfl, hsz, hH, hK, hN, hZ⟩ := hv
  have hx := B.exec
  have hb := B.bytes
  have hr := B.returns
  have hts := atoms_spec (ws := wsX12_away) B.pre
  have hown : s.vm.findClass RX12 = some m.cls := findClass_of_methodNamed B.named
  have hlocks := B.notSynchronized
  subst hsz
  have hM : th_Mod [1217, 5400, 5900] τ gi gr gi gr := th_Mod.rf
  have hS : va_S (th_A τ s.heap.size) s.heap s.heap [] := va_S.rf
  have hl := lv_entry ([.ref h0, .int p1]) (n := 3) (Nat.le_of_ble_eq_true rfl)
  rw [lg_entry_eq]
  generalize (lg_sl ([.ref h0, .int p1]) ++ List.replicate (3 - (lg_sl ([.ref h0, .int p1])).length) Slot.unset).toArray = ls at hl ⊢
  have hl : lv_has ls 3 [(0, .ref h0), (1, .int p1)] := hl
  have hF : F_X12_away τ Z gi gr h0 p1 = F_X12_away τ Z gi gr h0 p1 := rfl
  refine lv_aload_n hx hb dX12_away_0 rfl (lv_at hl 0 rfl) ?_
  refine lv_iload_n hx hb dX12_away_1 rfl (lv_at hl 1 rfl) ?_
  have hA1 := th_Asub (τ := τ) hS
  refine va_calli (va_runV (As := [.int p1]) (rest := []) ⟨hx, hb, hml, hown, hts⟩ (k_X12_isBoat l D cA Z τ gi gr _ h0 t_h0 p1) (cwV 1 hts gX12_away_X12_isBoat rfl rfl rfl hd_X12_isBoat__1 ⟨Nat.le_of_ble_eq_true rfl, Nat.le_of_ble_eq_true rfl⟩) ⟨th_blind, tr_12 hK hH t_h0, (th_pre hH hK hN hZ hS hA1)⟩ rfl rfl hl.1 rfl (lv_room (Nat.le_of_ble_eq_true rfl)) dX12_away_2 ⟨Nat.le_of_ble_eq_true rfl, Nat.le_of_ble_eq_true rfl⟩) hS (fun q _ h => hA1 q h) hA1 (fun x2 u t H locs ht hvm hw2 hB hz1 hk1 hS => ?_)
  try dsimp only at hw2 hB
  rw [ht] at hB
  have hH := hB
  refine lv_if_ne (tgt := 15) hx hb dX12_away_5 (th_eqI rfl) (fun c3 => ?_) (fun c3 => ?_)
  · skip
    have f4 : rg 1 1 x2 := rg_w (rg_neL hw2.1 rgc_0 c3) (th_leI rfl) (th_leI rfl)
    have f5 : rg 0 15 p1 := rg_w (hw2.2.1 c3) (th_leI rfl) (th_leI rfl)
    refine lv_aload_n hx hb dX12_away_15 rfl (lv_at hl 0 rfl) ?_
    refine lv_iload_n hx hb dX12_away_16 rfl (lv_at hl 1 rfl) ?_
    have hA6 := th_Asub (τ := τ) hS
    refine va_calli (va_runV (As := [.int p1]) (rest := []) ⟨hx, hb, hml, hown, hts⟩ (k_X12_placeOnList l D cA Z τ gi gr _ h0 t_h0 p1) (cwV 1 hts gX12_away_X12_placeOnList rfl rfl rfl hd_X12_placeOnList__1 ⟨Nat.le_of_ble_eq_true rfl, Nat.le_of_ble_eq_true rfl⟩) ⟨th_blind, tr_12 hK hH t_h0, (th_pre hH hK hN hZ hS hA6)⟩ rfl rfl hl.1 rfl (lv_room (Nat.le_of_ble_eq_true rfl)) dX12_away_17 ⟨Nat.le_of_ble_eq_true rfl, Nat.le_of_ble_eq_true rfl⟩) hS (fun q _ h => hA6 q h) hA6 (fun x7 u t H locs ht hvm hw7 hB hz1 hk1 hS => ?_)
    try dsimp only at hw7 hB
    rw [ht] at hB
    have hH := hB
    refine lv_istore_n (i := 2) (lv' := [(2, .int x7), (0, .ref h0), (1, .int p1)]) hx hb dX12_away_20 rfl hl (th_ltN rfl) rfl (fun ls hl => ?_)
    refine lv_iload_n hx hb dX12_away_21 rfl (lv_at hl 0 rfl) ?_
    refine lv_if_ge (tgt := 32) hx hb dX12_away_22 (th_eqI rfl) (fun c8 => ?_) (fun c8 => ?_)
    · skip
      have f9 : rg 0 9 x7 := rg_w (rg_le rgc_0 hw7.1 c8).2 (th_leI rfl) (th_leI rfl)
      refine lv_aload_n hx hb dX12_away_32 rfl (lv_at hl 1 rfl) ?_
      refine lv_iload_n hx hb dX12_away_33 rfl (lv_at hl 0 rfl) ?_
      have hA10 := th_Asub (τ := τ) hS
      obtain ⟨x11, e11⟩ : ∃ y : Int32, y = gi h0 17 := ⟨_, rfl⟩
      have fw11 : rg 1 10 x11 := by rw [e11]; exact pl_wait hw7.2.2 f9 (hH.at t_h0 (by decide)).2.2.2.2.2.2.2.2.2.2.2.2.2.2.2.2.2.1 (by decide)
      refine va_callv (va_runV (As := [.int x7]) (rest := []) ⟨hx, hb, hml, hown, hts⟩ (k_X12_goesOff l D cA Z τ gi gr _ h0 t_h0 x7 f9 (by rw [← e11]; exact fw11)) (cwV 1 hts gX12_away_X12_goesOff rfl rfl rfl hd_X12_goesOff__1 ⟨Nat.le_of_ble_eq_true rfl, Nat.le_of_ble_eq_true rfl⟩) ⟨th_blind, tr_12 hK hH t_h0, (th_pre hH hK hN hZ hS hA10)⟩ rfl rfl hl.1 rfl (lv_room (Nat.le_of_ble_eq_true rfl)) dX12_away_34 ⟨Nat.le_of_ble_eq_true rfl, Nat.le_of_ble_eq_true rfl⟩) hS (fun q _ h => hA10 q h) hA10 (fun  u t H locs ht hvm hw12 hB hz1 hk1 hS => ?_)
      try dsimp only at hw12 hB
      rw [ht] at hB
      have hH := hB
      obtain ⟨gi12, gr12⟩ := u
      try dsimp only at hw12 hH
      obtain rfl : gr = gr12 := (hw12.2.1).symm
      have hM := hM.tr hw12.1 (fun _ h => h) (th_sub rfl)
      obtain ⟨x13, e13⟩ : ∃ y : Int32, y = gi12 h0 17 := ⟨_, rfl⟩
      have f13 : rg 0 9 x13 := by rw [e13]; exact hw12.2.2.2
      refine lv_iload_n hx hb dX12_away_37 rfl (lv_at hl 0 rfl) ?_
      exact W.iret (v := x7) hx hb hr (fun t ht hW => ⟨⟨x7, (gi12, gr), rfl, ⟨hM, rfl, (hF.trans (by simp only [↓reduceIte, F_X12_away, hw2.2.2, eq_false c3, hw7.2.1, eq_true c8, ← e11, hw12.2.2.1, ← e13]))⟩, th_Ht ht hH⟩, hS.F ht⟩) hS.2.2 dX12_away_38
    · skip
      have f14 : rg (-1) (-1) x7 := rg_w (rg_nle rgc_0 hw7.1 c8).2 (th_leI rfl) (th_leI rfl)
      refine lv_aload_n hx hb dX12_away_25 rfl (lv_at hl 1 rfl) ?_
      refine lv_ldc (v := (-1000003)) hx hb hown (hts (.constant RX12 186 (-1000003)) (List.mem_cons_of_mem _ (List.mem_append_left _ (List.mem_append_left _ (List.mem_of_getElem? (i := 1) rfl))))) dX12_away_26 ?_
      have hA15 := th_Asub (τ := τ) hS
      refine va_calli (va_runV (As := [.int (-1000003)]) (rest := []) ⟨hx, hb, hml, hown, hts⟩ (k_X12_finding l D cA Z τ gi gr _ h0 t_h0 (-1000003) (rg_w rgc_m1000003 (th_leI rfl) (th_leI rfl))) (cwV 1 hts gX12_away_X12_finding rfl rfl rfl hd_X12_finding__1 ⟨Nat.le_of_ble_eq_true rfl, Nat.le_of_ble_eq_true rfl⟩) ⟨th_blind, tr_12 hK hH t_h0, (th_pre hH hK hN hZ hS hA15)⟩ rfl rfl hl.1 rfl (lv_room (Nat.le_of_ble_eq_true rfl)) dX12_away_28 ⟨Nat.le_of_ble_eq_true rfl, Nat.le_of_ble_eq_true rfl⟩) hS (fun q _ h => hA15 q h) hA15 (fun x16 u t H locs ht hvm hw16 hB hz1 hk1 hS => ?_)
      try dsimp only at hw16 hB
      rw [ht] at hB
      have hH := hB
      obtain ⟨gi16, gr16⟩ := u
      try dsimp only at hw16 hH
      obtain rfl : gr = gr16 := (hw16.2.1).symm
      have hM := hM.tr hw16.1 (fun _ h => h) (th_sub rfl)
      exact W.iret (v := x16) hx hb hr (fun t ht hW => ⟨⟨x16, (gi16, gr), rfl, ⟨hM, rfl, (hF.trans (by simp only [↓reduceIte, F_X12_away, hw2.2.2, eq_false c3, hw7.2.1, eq_false c8, hw16.2.2.1]))⟩, th_Ht ht hH⟩, hS.F ht⟩) hS.2.2 dX12_away_31
  · skip
    have f17 : rg 0 0 x2 := rg_w (rg_eq hw2.1 rgc_0 c3).1 (th_leI rfl) (th_leI rfl)
    refine lv_aload_n hx hb dX12_away_8 rfl (lv_at hl 0 rfl) ?_
    refine lv_ldc (v := (-1000001)) hx hb hown (hts (.constant RX12 119 (-1000001)) (List.mem_cons_of_mem _ (List.mem_append_left _ (List.mem_append_left _ (List.mem_of_getElem? (i := 0) rfl))))) dX12_away_9 ?_
    have hA18 := th_Asub (τ := τ) hS
    refine va_calli (va_runV (As := [.int (-1000001)]) (rest := []) ⟨hx, hb, hml, hown, hts⟩ (k_X12_finding l D cA Z τ gi gr _ h0 t_h0 (-1000001) (rg_w rgc_m1000001 (th_leI rfl) (th_leI rfl))) (cwV 1 hts gX12_away_X12_finding rfl rfl rfl hd_X12_finding__1 ⟨Nat.le_of_ble_eq_true rfl, Nat.le_of_ble_eq_true rfl⟩) ⟨th_blind, tr_12 hK hH t_h0, (th_pre hH hK hN hZ hS hA18)⟩ rfl rfl hl.1 rfl (lv_room (Nat.le_of_ble_eq_true rfl)) dX12_away_11 ⟨Nat.le_of_ble_eq_true rfl, Nat.le_of_ble_eq_true rfl⟩) hS (fun q _ h => hA18 q h) hA18 (fun x19 u t H locs ht hvm hw19 hB hz1 hk1 hS => ?_)
    try dsimp only at hw19 hB
    rw [ht] at hB
    have hH := hB
    obtain ⟨gi19, gr19⟩ := u
    try dsimp only at hw19 hH
    obtain rfl : gr = gr19 := (hw19.2.1).symm
    have hM := hM.tr hw19.1 (fun _ h => h) (th_sub rfl)
    exact W.iret (v := x19) hx hb hr (fun t ht hW => ⟨⟨x19, (gi19, gr), rfl, ⟨hM, rfl, (hF.trans (by simp only [↓reduceIte, F_X12_away, hw2.2.2, eq_true c3, hw19.2.2.1]))⟩, th_Ht ht hH⟩, hS.F ht⟩) hS.2.2 dX12_away_14

noncomputable def f_X12_offeredTo_48 (τ : th_t) (Z : th_Zt) (gi : th_i) (gr : th_r) (h0 : Nat) (p1 : Int32) (y2_2 : Int32) (k_2 : Int32 → Int32) : Int32 :=
  let w48_0 : Int32 := gi h0 17
  let x1 : Int32 := y2_2 + 1
  k_2 x1
noncomputable def f_X12_offeredTo_2 (τ : th_t) (Z : th_Zt) (gi : th_i) (gr : th_r) (h0 : Nat) (p1 : Int32) : Nat → Int32 → Int32
  | 0, y2_2 => 0
  | n2 + 1, y2_2 =>
    let x2 : Int32 := gi h0 17
    if x2 ≤ y2_2 then (
      (-1)) else (
      let q6 : Nat := (gr h0 19).getD 0
      let q7 : Nat := (gr h0 18).getD 0
      let x8 : Int32 := gi q7 y2_2.toNatClampNeg
      let x9 : Int32 := gi q6 x8.toNatClampNeg
      let x10 : Int32 := x9 >>> (p1 &&& 31)
      let x11 : Int32 := x10 &&& 1
      if x11 = (0 : Int32) then (
        let q17 : Nat := (gr h0 12).getD 0
        let x19 : Int32 := F_X12_mayLie τ Z gi gr h0 x8 p1 q17
        if x19 = (0 : Int32) then (
          f_X12_offeredTo_48 τ Z gi gr h0 p1 y2_2 (f_X12_offeredTo_2 τ Z gi gr h0 p1 n2) ) else (
          y2_2)) else (
        f_X12_offeredTo_48 τ Z gi gr h0 p1 y2_2 (f_X12_offeredTo_2 τ Z gi gr h0 p1 n2) ))
noncomputable def F_X12_offeredTo (τ : th_t) (Z : th_Zt) (gi : th_i) (gr : th_r) (h0 : Nat) (p1 : Int32) : Int32 :=
  f_X12_offeredTo_2 τ Z gi gr h0 p1 ((10 - (0 : Int32).toInt).toNat + 1) 0
set_option maxHeartbeats 8000000 in
set_option maxRecDepth 100000 in
theorem k_X12_offeredTo (l : Launch) (D : va_G) (cA : Nat → ClassId) (Z : th_Zt) (τ : th_t) (gi : th_i) (gr : th_r) (sz : Nat) (h0 : Nat) (t_h0 : τ h0 = 12) (p1 : Int32) (f_p1 : rg 0 11 p1) : Met l yX12_offeredTo wsX12_offeredTo ({ frames := 5, cells := 0, slots := 0, locals := 150 }) (va_Pc [.ref h0, .int p1] (th_Pre D cA Z τ gi gr sz)) (va_Qi (fun (r : Int32) (_ : Unit) => rg (-1) 9 r ∧ (F_X12_offeredTo τ Z gi gr h0 p1 = r) ∧ (0 ≤ r.toInt → r.toInt < (gi h0 17).toInt)) (fun (_ : Unit) t => th_H D cA τ gi gr t.heap) (th_A τ sz)) 0 0 (th_A τ sz) := by
  refine Met.ofW (cc := cX12_offeredTo) (maxL := 3) (ret := (some .int)) (by decide) rfl ?_
  intro p e s m args below meth c s₁ B hml hv
  obtain ⟨rfl, hsz, hH, hK, hN, hZ⟩ := hv
  have hx := B.exec
  have hb := B.bytes
  have hr := B.returns
  have hts := atoms_spec (ws := wsX12_offeredTo) B.pre
  have hown : s.vm.findClass RX12 = some m.cls := findClass_of_methodNamed B.named
  have hlocks := B.notSynchronized
  subst hsz
  have J2 : ∀ (n2 : Nat) (H : Heap) (locs : List Loc) (ls : Array Slot) (y2_2 : Int32), (10 - y2_2.toInt).toNat < n2 → th_H D cA τ gi gr H → va_S (th_A τ s.heap.size) s.heap H locs → lv_has ls 3 [(0, .ref h0), (1, .int p1), (2, .int y2_2)] → rg 0 11 p1 → rg 0 10 y2_2 → F_X12_offeredTo τ Z gi gr h0 p1 = f_X12_offeredTo_2 τ Z gi gr h0 p1 n2 y2_2 → W p l e (headSpec wsX12_offeredTo ({ frames := 5, cells := 0, slots := 0, locals := 150 })).room s m [.ref h0, .int p1].toArray below meth c H locs 0 0 (MQ below (va_Qi (fun (r : Int32) (_ : Unit) => rg (-1) 9 r ∧ (F_X12_offeredTo τ Z gi gr h0 p1 = r) ∧ (0 ≤ r.toInt → r.toInt < (gi h0 17).toInt)) (fun (_ : Unit) t => th_H D cA τ gi gr t.heap) (th_A τ s.heap.size)) [.ref h0, .int p1].toArray s 0 0 (th_A τ s.heap.size)) (F0 m 2 ls []) := by
    intro n2
    induction n2 with
    | zero =>
      intro H locs ls y2_2 hn
      exact absurd hn (Nat.not_lt_zero _)
    | succ n2 ih2 =>
      intro H locs ls y2_2 hn2 hH hS hl fy2_1 fy2_2 hF
      have J48 : ∀ (H : Heap) (locs : List Loc) (ls : Array Slot) (w48_0 : Int32), th_H D cA τ gi gr H → va_S (th_A τ s.heap.size) s.heap H locs → lv_has ls 3 [(0, .ref h0), (1, .int p1), (2, .int y2_2)] → rg 0 11 p1 → rg 0 9 y2_2 → w48_0 = gi h0 17 → rg 1 10 w48_0 → F_X12_offeredTo τ Z gi gr h0 p1 = f_X12_offeredTo_48 τ Z gi gr h0 p1 y2_2 (f_X12_offeredTo_2 τ Z gi gr h0 p1 n2) → W p l e (headSpec wsX12_offeredTo ({ frames := 5, cells := 0, slots := 0, locals := 150 })).room s m [.ref h0, .int p1].toArray below meth c H locs 0 0 (MQ below (va_Qi (fun (r : Int32) (_ : Unit) => rg (-1) 9 r ∧ (F_X12_offeredTo τ Z gi gr h0 p1 = r) ∧ (0 ≤ r.toInt → r.toInt < (gi h0 17).toInt)) (fun (_ : Unit) t => th_H D cA τ gi gr t.heap) (th_A τ s.heap.size)) [.ref h0, .int p1].toArray s 0 0 (th_A τ s.heap.size)) (F0 m 48 ls []) := by
        intro H locs ls w48_0 hH hS hl fy48_1 fy48_2 ew48_0 fw48_0 hF
        obtain ⟨x1, e1⟩ : ∃ y : Int32, y = y2_2 + 1 := ⟨_, rfl⟩
        have f1 : rg 1 10 x1 := rg_e e1 (rg_w (rg_add fy48_2 rgc_1 (th_leI rfl) (th_leI rfl)) (th_leI rfl) (th_leI rfl))
        refine lv_iinc (v := x1) (lv' := [(2, .int x1), (0, .ref h0), (1, .int p1)]) hx hb dX12_offeredTo_48 hl (k := 2) rfl (by rw [e1]; rfl) (th_ltN rfl) rfl (fun ls hl => ?_)
        refine lv_goto (tgt := 2) hx hb dX12_offeredTo_51 (th_eqI rfl) ?_
        exact ih2 _ _ _ x1 (th_up (rg_dA e1 fy48_2 rgc_1 (th_leI rfl) (th_leI rfl)) fy48_2 hn2 (th_ltI rfl)) hH hS (lv_sub hl [1, 2, 0] rfl) fy48_1 (rg_w f1 (th_leI rfl) (th_leI rfl)) (hF.trans (by simp only [f_X12_offeredTo_48, ← ew48_0, ← e1]))
      refine lv_iload_n hx hb dX12_offeredTo_2 rfl (lv_at hl 2 rfl) ?_
      refine lv_aload_n hx hb dX12_offeredTo_3 rfl (lv_at hl 0 rfl) ?_
      obtain ⟨x2, e2⟩ : ∃ y : Int32, y = gi h0 17 := ⟨_, rfl⟩
      refine th_get (ci := 11) (v := .int x2) (T := TX12) (C := RX12) (N := 38) hx hb hts (fun w h => List.mem_cons_of_mem _ (List.mem_append_right _ h)) hown hK hH t_h0 (th_nz rfl) (thE_12 _ _ _) rfl 17 (th_ltN rfl) (hts (.fieldLink RX12 133 "BayMooringsModel" "waiting" "I") (List.mem_cons_of_mem _ (List.mem_append_left _ (List.mem_append_left _ (List.mem_of_getElem? (i := 0) rfl))))) (fun _ h9 => h9) (th_fI e2 rfl) dX12_offeredTo_4 ?_
      have f2 : rg 0 10 x2 := rg_e e2 ((thI_12 hH t_h0).2.2.2.2.2.2.2.2.2.2.2.2.2.2.2.2.1)
      refine lv_icmp_ge (tgt := 54) hx hb dX12_offeredTo_7 (th_eqI rfl) (fun c3 => ?_) (fun c3 => ?_)
      · skip
        refine lv_iconst (v := (-1)) hx hb dX12_offeredTo_54 ic_m1 ?_
        exact W.iret (v := (-1)) hx hb hr (fun t ht hW => ⟨⟨(-1), (), rfl, ⟨(rg_w rgc_m1 (th_leI rfl) (th_leI rfl)), (hF.trans (by simp only [↓reduceIte, f_X12_offeredTo_2, ← e2, eq_true c3])), (fun h9 => absurd h9 (by decide))⟩, th_Ht ht hH⟩, hS.F ht⟩) hS.2.2 dX12_offeredTo_55
      · skip
        have f4 : rg 1 10 x2 := rg_w (rg_nle f2 fy2_2 c3).1 (th_leI rfl) (th_leI rfl)
        have f5 : rg 0 9 y2_2 := rg_w (rg_nle f2 fy2_2 c3).2 (th_leI rfl) (th_leI rfl)
        refine lv_aload_n hx hb dX12_offeredTo_10 rfl (lv_at hl 0 rfl) ?_
        obtain ⟨q6, r6, t6⟩ : ∃ q, gr h0 19 = some q ∧ τ q = 55 := (thI_12 hH t_h0).2.2.2.2.2.2.2.2.2.2.2.2.2.2.2.2.2.2.1
        refine th_get (ci := 11) (v := .ref q6) (T := TX12) (C := RX12) (N := 38) hx hb hts (fun w h => List.mem_cons_of_mem _ (List.mem_append_right _ h)) hown hK hH t_h0 (th_nz rfl) (thE_12 _ _ _) rfl 19 (th_ltN rfl) (hts (.fieldLink RX12 59 "BayMooringsModel" "refused" "[I") (List.mem_cons_of_mem _ (List.mem_append_left _ (List.mem_append_left _ (List.mem_of_getElem? (i := 1) rfl))))) (fun _ h9 => h9) (th_fR r6 rfl) dX12_offeredTo_11 ?_
        refine lv_aload_n hx hb dX12_offeredTo_14 rfl (lv_at hl 0 rfl) ?_
        obtain ⟨q7, r7, t7⟩ : ∃ q, gr h0 18 = some q ∧ τ q = 54 := (thI_12 hH t_h0).2.2.2.2.2.2.2.2.2.2.2.2.2.2.2.2.2.1
        refine th_get (ci := 11) (v := .ref q7) (T := TX12) (C := RX12) (N := 38) hx hb hts (fun w h => List.mem_cons_of_mem _ (List.mem_append_right _ h)) hown hK hH t_h0 (th_nz rfl) (thE_12 _ _ _) rfl 18 (th_ltN rfl) (hts (.fieldLink RX12 56 "BayMooringsModel" "list" "[I") (List.mem_cons_of_mem _ (List.mem_append_left _ (List.mem_append_left _ (List.mem_of_getElem? (i := 2) rfl))))) (fun _ h9 => h9) (th_fR r7 rfl) dX12_offeredTo_15 ?_
        refine lv_iload_n hx hb dX12_offeredTo_18 rfl (lv_at hl 2 rfl) ?_
        refine th_iald hx hb hK hH t7 (th_nz rfl) 0 (thE_54 _ _ _) rfl (rg_in (n := 10) f5 (th_leI rfl) (th_ltI rfl)) dX12_offeredTo_19 ?_
        refine lv_topi (fun x8 e8 => ?_)
        have f8 : rg 0 15 x8 := rg_e e8 ((thI_54 hH t7) _ (rg_cl (n := 10) f5 (th_leI rfl) (th_ltI rfl)))
        refine th_iald hx hb hK hH t6 (th_nz rfl) 0 (thE_55 _ _ _) rfl (rg_in (n := 16) f8 (th_leI rfl) (th_ltI rfl)) dX12_offeredTo_20 ?_
        refine lv_topi (fun x9 e9 => ?_)
        refine lv_iload_n hx hb dX12_offeredTo_21 rfl (lv_at hl 1 rfl) ?_
        refine lv_ishr hx hb dX12_offeredTo_22 ?_
        refine lv_topi (fun x10 e10 => ?_)
        refine lv_iconst (v := 1) hx hb dX12_offeredTo_23 ic_1 ?_
        refine lv_iand hx hb dX12_offeredTo_24 ?_
        refine lv_topi (fun x11 e11 => ?_)
        have f11 : rg 0 1 x11 := rg_e e11 (rg_and 1 (by decide) (th_leN rfl) (th_eqI rfl))
        refine lv_if_ne (tgt := 48) hx hb dX12_offeredTo_25 (th_eqI rfl) (fun c12 => ?_) (fun c12 => ?_)
        · skip
          have f13 : rg 1 1 x11 := rg_w (rg_neL f11 rgc_0 c12) (th_leI rfl) (th_leI rfl)
          exact J48 _ _ _ x2 hH hS (lv_sub hl [0, 1, 2] rfl) fy2_1 f5 e2 f4 (hF.trans (by simp only [↓reduceIte, f_X12_offeredTo_2, ← e2, eq_false c3, r6, Option.getD_some, r7, ← e8, ← e9, ← e10, ← e11, eq_false c12]))
        · skip
          have f14 : rg 0 0 x11 := rg_w (rg_eq f11 rgc_0 c12).1 (th_leI rfl) (th_leI rfl)
          refine lv_aload_n hx hb dX12_offeredTo_28 rfl (lv_at hl 0 rfl) ?_
          refine lv_aload_n hx hb dX12_offeredTo_29 rfl (lv_at hl 0 rfl) ?_
          refine th_get (ci := 11) (v := .ref q7) (T := TX12) (C := RX12) (N := 38) hx hb hts (fun w h => List.mem_cons_of_mem _ (List.mem_append_right _ h)) hown hK hH t_h0 (th_nz rfl) (thE_12 _ _ _) rfl 18 (th_ltN rfl) (hts (.fieldLink RX12 56 "BayMooringsModel" "list" "[I") (List.mem_cons_of_mem _ (List.mem_append_left _ (List.mem_append_left _ (List.mem_of_getElem? (i := 2) rfl))))) (fun _ h9 => h9) (th_fR r7 rfl) dX12_offeredTo_30 ?_
          refine lv_iload_n hx hb dX12_offeredTo_33 rfl (lv_at hl 2 rfl) ?_
          refine th_iald hx hb hK hH t7 (th_nz rfl) 0 (thE_54 _ _ _) rfl (rg_in (n := 10) f5 (th_leI rfl) (th_ltI rfl)) dX12_offeredTo_34 ?_
          rw [← e8]
          refine lv_iload_n hx hb dX12_offeredTo_35 rfl (lv_at hl 1 rfl) ?_
          refine lv_aload_n hx hb dX12_offeredTo_36 rfl (lv_at hl 0 rfl) ?_
          obtain ⟨q17, r17, t17⟩ : ∃ q, gr h0 12 = some q ∧ τ q = 50 := (thI_12 hH t_h0).2.2.2.2.2.2.2.2.2.2.2.2.1
          refine th_get (ci := 11) (v := .ref q17) (T := TX12) (C := RX12) (N := 38) hx hb hts (fun w h => List.mem_cons_of_mem _ (List.mem_append_right _ h)) hown hK hH t_h0 (th_nz rfl) (thE_12 _ _ _) rfl 12 (th_ltN rfl) (hts (.fieldLink RX12 40 "BayMooringsModel" "buoyOf" "[I") (List.mem_cons_of_mem _ (List.mem_append_left _ (List.mem_append_left _ (List.mem_of_getElem? (i := 3) rfl))))) (fun _ h9 => h9) (th_fR r17 rfl) dX12_offeredTo_37 ?_
          have hA18 := th_Asub (τ := τ) hS
          refine va_calli (va_runV (As := [.int x8, .int p1, .ref q17]) (rest := []) ⟨hx, hb, hml, hown, hts⟩ (k_X12_mayLie l D cA Z τ gi gr _ h0 t_h0 x8 f8 p1 fy2_1 q17 (Or.inl t17)) (cwV 3 hts gX12_offeredTo_X12_mayLie rfl rfl rfl hd_X12_mayLie__3 ⟨Nat.le_of_ble_eq_true rfl, Nat.le_of_ble_eq_true rfl⟩) ⟨th_blind, tr_12 hK hH t_h0, (th_pre hH hK hN hZ hS hA18)⟩ rfl rfl hl.1 rfl (lv_room (Nat.le_of_ble_eq_true rfl)) dX12_offeredTo_40 ⟨Nat.le_of_ble_eq_true rfl, Nat.le_of_ble_eq_true rfl⟩) hS (fun q _ h => hA18 q h) hA18 (fun x19 u t H locs ht hvm hw19 hB hz1 hk1 hS => ?_)
          try dsimp only at hw19 hB
          rw [ht] at hB
          have hH := hB
          refine lv_if_eq (tgt := 48) hx hb dX12_offeredTo_43 (th_eqI rfl) (fun c20 => ?_) (fun c20 => ?_)
          · skip
            have f21 : rg 0 0 x19 := rg_w (rg_eq hw19.1 rgc_0 c20).1 (th_leI rfl) (th_leI rfl)
            exact J48 _ _ _ x2 hH hS (lv_sub hl [0, 1, 2] rfl) fy2_1 f5 e2 f4 (hF.trans (by simp only [↓reduceIte, f_X12_offeredTo_2, ← e2, eq_false c3, r6, Option.getD_some, r7, ← e8, ← e9, ← e10, ← e11, eq_true c12, r17, hw19.2, eq_true c20]))
          · skip
            have f22 : rg 1 1 x19 := rg_w (rg_neL hw19.1 rgc_0 c20) (th_leI rfl) (th_leI rfl)
            refine lv_iload_n hx hb dX12_offeredTo_46 rfl (lv_at hl 2 rfl) ?_
            exact W.iret (v := y2_2) hx hb hr (fun t ht hW => ⟨⟨y2_2, (), rfl, ⟨(rg_w f5 (th_leI rfl) (th_leI rfl)), (hF.trans (by simp only [↓reduceIte, f_X12_offeredTo_2, ← e2, eq_false c3, r6, Option.getD_some, r7, ← e8, ← e9, ← e10, ← e11, eq_true c12, r17, hw19.2, eq_false c20])), (fun _ => of_lt e2 c3)⟩, th_Ht ht hH⟩, hS.F ht⟩) hS.2.2 dX12_offeredTo_47
  have hS : va_S (th_A τ s.heap.size) s.heap s.heap [] := va_S.rf
  have hl := lv_entry ([.ref h0, .int p1]) (n := 3) (Nat.le_of_ble_eq_true rfl)
  rw [lg_entry_eq]
  generalize (lg_sl ([.ref h0, .int p1]) ++ List.replicate (3 - (lg_sl ([.ref h0, .int p1])).length) Slot.unset).toArray = ls at hl ⊢
  have hl : lv_has ls 3 [(0, .ref h0), (1, .int p1)] := hl
  have hF : F_X12_offeredTo τ Z gi gr h0 p1 = F_X12_offeredTo τ Z gi gr h0 p1 := rfl
  refine lv_iconst (v := 0) hx hb dX12_offeredTo_0 ic_0 ?_
  refine lv_istore_n (i := 2) (lv' := [(2, .int 0), (0, .ref h0), (1, .int p1)]) hx hb dX12_offeredTo_1 rfl hl (th_ltN rfl) rfl (fun ls hl => ?_)
  exact J2 _ _ _ _ 0 (Nat.lt_add_one _) hH hS (lv_sub hl [1, 2, 0] rfl) f_p1 (rg_w rgc_0 (th_leI rfl) (th_leI rfl)) (hF.trans (by simp only [F_X12_offeredTo]))

noncomputable def F_X12_offer (τ : th_t) (Z : th_Zt) (gi : th_i) (gr : th_r) (h0 : Nat) (p1 : Int32) : Int32 × th_i :=
  let x2 : Int32 := F_X12_isBuoy τ Z gi gr h0 p1
  if x2 = (0 : Int32) then (
    let u28 : Int32 × th_i := F_X12_finding τ Z gi gr h0 (-1000001)
    let x28 : Int32 := u28.1
    let gi28 : th_i := u28.2
    (x28, gi28)) else (
    let q6 : Nat := (gr h0 7).getD 0
    let x7 : Int32 := gi q6 p1.toNatClampNeg
    if x7 < (0 : Int32) then (
      let x11 : Int32 := F_X12_offeredTo τ Z gi gr h0 p1
      let x12 : Int32 := gi h0 17
      if (0 : Int32) ≤ x11 then (
        let q15 : Nat := (gr h0 18).getD 0
        let x16 : Int32 := gi q15 x11.toNatClampNeg
        (x16, gi)) else (
        let u19 : Int32 × th_i := F_X12_finding τ Z gi gr h0 (-1000002)
        let x19 : Int32 := u19.1
        let gi19 : th_i := u19.2
        (x19, gi19))) else (
      let u24 : Int32 × th_i := F_X12_finding τ Z gi gr h0 (-1000003)
      let x24 : Int32 := u24.1
      let gi24 : th_i := u24.2
      (x24, gi24)))
set_option maxHeartbeats 8000000 in
set_option maxRecDepth 100000 in
theorem k_X12_offer (l : Launch) (D : va_G) (cA : Nat → ClassId) (Z : th_Zt) (τ : th_t) (gi : th_i) (gr : th_r) (sz : Nat) (h0 : Nat) (t_h0 : τ h0 = 12) (p1 : Int32) : Met l yX12_offer wsX12_offer ({ frames := 6, cells := 0, slots := 0, locals := 172 }) (va_Pc [.ref h0, .int p1] (th_Pre D cA Z τ gi gr sz)) (va_Qi (fun (r : Int32) (u : th_i × th_r) => th_Mod [5900] τ gi gr u.1 u.2 ∧ u.2 = gr ∧ (F_X12_offer τ Z gi gr h0 p1 = (r, u.1))) (fun (u : th_i × th_r) t => th_H D cA τ u.1 u.2 t.heap) (th_A τ sz)) 0 0 (th_A τ sz) := by
  refine Met.ofW (cc := cX12_offer) (maxL := 3) (ret := (some .int)) (by decide) rfl ?_
  intro p e s m args below meth c s₁ B hml hv
  obtain ⟨rfl, hsz, hH, hK, hN, hZ⟩ := hv
  have hx := B.exec
  have hb := B.bytes
  have hr := B.returns
  have hts := atoms_spec (ws := wsX12_offer) B.pre
  have hown : s.vm.findClass RX12 = some m.cls := findClass_of_methodNamed B.named
  have hlocks := B.notSynchronized
  subst hsz
  have hM : th_Mod [5900] τ gi gr gi gr := th_Mod.rf
  have hS : va_S (th_A τ s.heap.size) s.heap s.heap [] := va_S.rf
  have hl := lv_entry ([.ref h0, .int p1]) (n := 3) (Nat.le_of_ble_eq_true rfl)
  rw [lg_entry_eq]
  generalize (lg_sl ([.ref h0, .int p1]) ++ List.replicate (3 - (lg_sl ([.ref h0, .int p1])).length) Slot.unset).toArray = ls at hl ⊢
  have hl : lv_has ls 3 [(0, .ref h0), (1, .int p1)] := hl
  have hF : F_X12_offer τ Z gi gr h0 p1 = F_X12_offer τ Z gi gr h0 p1 := rfl
  refine lv_aload_n hx hb dX12_offer_0 rfl (lv_at hl 0 rfl) ?_
  refine lv_iload_n hx hb dX12_offer_1 rfl (lv_at hl 1 rfl) ?_
  have hA1 := th_Asub (τ := τ) hS
  refine va_calli (va_runV (As := [.int p1]) (rest := []) ⟨hx, hb, hml, hown, hts⟩ (k_X12_isBuoy l D cA Z τ gi gr _ h0 t_h0 p1) (cwV 1 hts gX12_offer_X12_isBuoy rfl rfl rfl hd_X12_isBuoy__1 ⟨Nat.le_of_ble_eq_true rfl, Nat.le_of_ble_eq_true rfl⟩) ⟨th_blind, tr_12 hK hH t_h0, (th_pre hH hK hN hZ hS hA1)⟩ rfl rfl hl.1 rfl (lv_room (Nat.le_of_ble_eq_true rfl)) dX12_offer_2 ⟨Nat.le_of_ble_eq_true rfl, Nat.le_of_ble_eq_true rfl⟩) hS (fun q _ h => hA1 q h) hA1 (fun x2 u t H locs ht hvm hw2 hB hz1 hk1 hS => ?_)
  try dsimp only at hw2 hB
  rw [ht] at hB
  have hH := hB
  refine lv_if_ne (tgt := 15) hx hb dX12_offer_5 (th_eqI rfl) (fun c3 => ?_) (fun c3 => ?_)
  · skip
    have f4 : rg 1 1 x2 := rg_w (rg_neL hw2.1 rgc_0 c3) (th_leI rfl) (th_leI rfl)
    have f5 : rg 0 11 p1 := rg_w (hw2.2.1 c3) (th_leI rfl) (th_leI rfl)
    refine lv_aload_n hx hb dX12_offer_15 rfl (lv_at hl 0 rfl) ?_
    obtain ⟨q6, r6, t6⟩ : ∃ q, gr h0 7 = some q ∧ τ q = 46 := (thI_12 hH t_h0).2.2.2.2.2.2.2.1
    refine th_get (ci := 11) (v := .ref q6) (T := TX12) (C := RX12) (N := 38) hx hb hts (fun w h => List.mem_cons_of_mem _ (List.mem_append_right _ h)) hown hK hH t_h0 (th_nz rfl) (thE_12 _ _ _) rfl 7 (th_ltN rfl) (hts (.fieldLink RX12 28 "BayMooringsModel" "boatAt" "[I") (List.mem_cons_of_mem _ (List.mem_append_left _ (List.mem_append_left _ (List.mem_of_getElem? (i := 1) rfl))))) (fun _ h9 => h9) (th_fR r6 rfl) dX12_offer_16 ?_
    refine lv_iload_n hx hb dX12_offer_19 rfl (lv_at hl 1 rfl) ?_
    refine th_iald hx hb hK hH t6 (th_nz rfl) 0 (thE_46 _ _ _) rfl (rg_in (n := 12) f5 (th_leI rfl) (th_ltI rfl)) dX12_offer_20 ?_
    refine lv_topi (fun x7 e7 => ?_)
    have f7 : rg (-1) 15 x7 := rg_e e7 ((thI_46 hH t6) _ (rg_cl (n := 12) f5 (th_leI rfl) (th_ltI rfl)))
    refine lv_if_lt (tgt := 31) hx hb dX12_offer_21 (th_eqI rfl) (fun c8 => ?_) (fun c8 => ?_)
    · skip
      have f9 : rg (-1) (-1) x7 := rg_w (rg_lt f7 rgc_0 c8).1 (th_leI rfl) (th_leI rfl)
      refine lv_aload_n hx hb dX12_offer_31 rfl (lv_at hl 0 rfl) ?_
      refine lv_iload_n hx hb dX12_offer_32 rfl (lv_at hl 1 rfl) ?_
      have hA10 := th_Asub (τ := τ) hS
      refine va_calli (va_runV (As := [.int p1]) (rest := []) ⟨hx, hb, hml, hown, hts⟩ (k_X12_offeredTo l D cA Z τ gi gr _ h0 t_h0 p1 f5) (cwV 1 hts gX12_offer_X12_offeredTo rfl rfl rfl hd_X12_offeredTo__1 ⟨Nat.le_of_ble_eq_true rfl, Nat.le_of_ble_eq_true rfl⟩) ⟨th_blind, tr_12 hK hH t_h0, (th_pre hH hK hN hZ hS hA10)⟩ rfl rfl hl.1 rfl (lv_room (Nat.le_of_ble_eq_true rfl)) dX12_offer_33 ⟨Nat.le_of_ble_eq_true rfl, Nat.le_of_ble_eq_true rfl⟩) hS (fun q _ h => hA10 q h) hA10 (fun x11 u t H locs ht hvm hw11 hB hz1 hk1 hS => ?_)
      try dsimp only at hw11 hB
      rw [ht] at hB
      have hH := hB
      obtain ⟨x12, e12⟩ : ∃ y : Int32, y = gi h0 17 := ⟨_, rfl⟩
      have f12 : rg 0 10 x12 := by rw [e12]; exact (hH.at t_h0 (by decide)).2.2.2.2.2.2.2.2.2.2.2.2.2.2.2.2.2.1
      refine lv_istore_n (i := 2) (lv' := [(2, .int x11), (0, .ref h0), (1, .int p1)]) hx hb dX12_offer_36 rfl hl (th_ltN rfl) rfl (fun ls hl => ?_)
      refine lv_iload_n hx hb dX12_offer_37 rfl (lv_at hl 0 rfl) ?_
      refine lv_if_ge (tgt := 50) hx hb dX12_offer_38 (th_eqI rfl) (fun c13 => ?_) (fun c13 => ?_)
      · skip
        have f14 : rg 0 9 x11 := rg_w (rg_le rgc_0 hw11.1 c13).2 (th_leI rfl) (th_leI rfl)
        refine lv_aload_n hx hb dX12_offer_50 rfl (lv_at hl 1 rfl) ?_
        obtain ⟨q15, r15, t15⟩ : ∃ q, gr h0 18 = some q ∧ τ q = 54 := (thI_12 hH t_h0).2.2.2.2.2.2.2.2.2.2.2.2.2.2.2.2.2.1
        refine th_get (ci := 11) (v := .ref q15) (T := TX12) (C := RX12) (N := 38) hx hb hts (fun w h => List.mem_cons_of_mem _ (List.mem_append_right _ h)) hown hK hH t_h0 (th_nz rfl) (thE_12 _ _ _) rfl 18 (th_ltN rfl) (hts (.fieldLink RX12 56 "BayMooringsModel" "list" "[I") (List.mem_cons_of_mem _ (List.mem_append_left _ (List.mem_append_left _ (List.mem_of_getElem? (i := 4) rfl))))) (fun _ h9 => h9) (th_fR r15 rfl) dX12_offer_51 ?_
        refine lv_iload_n hx hb dX12_offer_54 rfl (lv_at hl 0 rfl) ?_
        refine th_iald hx hb hK hH t15 (th_nz rfl) 0 (thE_54 _ _ _) rfl (rg_in (n := 10) f14 (th_leI rfl) (th_ltI rfl)) dX12_offer_55 ?_
        refine lv_topi (fun x16 e16 => ?_)
        have f16 : rg 0 15 x16 := rg_e e16 ((thI_54 hH t15) _ (rg_cl (n := 10) f14 (th_leI rfl) (th_ltI rfl)))
        exact W.iret (v := x16) hx hb hr (fun t ht hW => ⟨⟨x16, (gi, gr), rfl, ⟨hM, rfl, (hF.trans (by simp only [↓reduceIte, F_X12_offer, hw2.2.2, eq_false c3, r6, Option.getD_some, ← e7, eq_true c8, hw11.2.1, ← e12, eq_true c13, r15, ← e16]))⟩, th_Ht ht hH⟩, hS.F ht⟩) hS.2.2 dX12_offer_56
      · skip
        have f17 : rg (-1) (-1) x11 := rg_w (rg_nle rgc_0 hw11.1 c13).2 (th_leI rfl) (th_leI rfl)
        refine lv_aload_n hx hb dX12_offer_41 rfl (lv_at hl 1 rfl) ?_
        refine lv_ldc (v := (-1000002)) hx hb hown (hts (.constant RX12 191 (-1000002)) (List.mem_cons_of_mem _ (List.mem_append_left _ (List.mem_append_left _ (List.mem_of_getElem? (i := 3) rfl))))) dX12_offer_42 ?_
        have hA18 := th_Asub (τ := τ) hS
        refine va_calli (va_runV (As := [.int (-1000002)]) (rest := []) ⟨hx, hb, hml, hown, hts⟩ (k_X12_finding l D cA Z τ gi gr _ h0 t_h0 (-1000002) (rg_w rgc_m1000002 (th_leI rfl) (th_leI rfl))) (cwV 1 hts gX12_offer_X12_finding rfl rfl rfl hd_X12_finding__1 ⟨Nat.le_of_ble_eq_true rfl, Nat.le_of_ble_eq_true rfl⟩) ⟨th_blind, tr_12 hK hH t_h0, (th_pre hH hK hN hZ hS hA18)⟩ rfl rfl hl.1 rfl (lv_room (Nat.le_of_ble_eq_true rfl)) dX12_offer_44 ⟨Nat.le_of_ble_eq_true rfl, Nat.le_of_ble_eq_true rfl⟩) hS (fun q _ h => hA18 q h) hA18 (fun x19 u t H locs ht hvm hw19 hB hz1 hk1 hS => ?_)
        try dsimp only at hw19 hB
        rw [ht] at hB
        have hH := hB
        obtain ⟨gi19, gr19⟩ := u
        try dsimp only at hw19 hH
        obtain rfl : gr = gr19 := (hw19.2.1).symm
        have hM := hM.tr hw19.1 (fun _ h => h) (th_sub rfl)
        have e20 : x7 = gi19 q6 (p1.toNatClampNeg) := Eq.trans e7 (Eq.symm (hw19.1 q6 (p1.toNatClampNeg) (th_nzE t6 rfl) (th_nmE (key := 4600) t6 rfl rfl)).1)
        have e21 : x12 = gi19 h0 17 := Eq.trans e12 (Eq.symm (hw19.1 h0 17 (th_nzE t_h0 rfl) (th_nmE (key := 1217) t_h0 rfl rfl)).1)
        refine lv_goto (tgt := 56) hx hb dX12_offer_47 (th_eqI rfl) ?_
        exact W.iret (v := x19) hx hb hr (fun t ht hW => ⟨⟨x19, (gi19, gr), rfl, ⟨hM, rfl, (hF.trans (by simp only [↓reduceIte, F_X12_offer, hw2.2.2, eq_false c3, r6, Option.getD_some, ← e7, eq_true c8, hw11.2.1, ← e12, eq_false c13, hw19.2.2.1]))⟩, th_Ht ht hH⟩, hS.F ht⟩) hS.2.2 dX12_offer_56
    · skip
      have f22 : rg 0 15 x7 := rg_w (rg_nlt f7 rgc_0 c8).1 (th_leI rfl) (th_leI rfl)
      refine lv_aload_n hx hb dX12_offer_24 rfl (lv_at hl 0 rfl) ?_
      refine lv_ldc (v := (-1000003)) hx hb hown (hts (.constant RX12 186 (-1000003)) (List.mem_cons_of_mem _ (List.mem_append_left _ (List.mem_append_left _ (List.mem_of_getElem? (i := 2) rfl))))) dX12_offer_25 ?_
      have hA23 := th_Asub (τ := τ) hS
      refine va_calli (va_runV (As := [.int (-1000003)]) (rest := []) ⟨hx, hb, hml, hown, hts⟩ (k_X12_finding l D cA Z τ gi gr _ h0 t_h0 (-1000003) (rg_w rgc_m1000003 (th_leI rfl) (th_leI rfl))) (cwV 1 hts gX12_offer_X12_finding rfl rfl rfl hd_X12_finding__1 ⟨Nat.le_of_ble_eq_true rfl, Nat.le_of_ble_eq_true rfl⟩) ⟨th_blind, tr_12 hK hH t_h0, (th_pre hH hK hN hZ hS hA23)⟩ rfl rfl hl.1 rfl (lv_room (Nat.le_of_ble_eq_true rfl)) dX12_offer_27 ⟨Nat.le_of_ble_eq_true rfl, Nat.le_of_ble_eq_true rfl⟩) hS (fun q _ h => hA23 q h) hA23 (fun x24 u t H locs ht hvm hw24 hB hz1 hk1 hS => ?_)
      try dsimp only at hw24 hB
      rw [ht] at hB
      have hH := hB
      obtain ⟨gi24, gr24⟩ := u
      try dsimp only at hw24 hH
      obtain rfl : gr = gr24 := (hw24.2.1).symm
      have hM := hM.tr hw24.1 (fun _ h => h) (th_sub rfl)
      have e25 : x7 = gi24 q6 (p1.toNatClampNeg) := Eq.trans e7 (Eq.symm (hw24.1 q6 (p1.toNatClampNeg) (th_nzE t6 rfl) (th_nmE (key := 4600) t6 rfl rfl)).1)
      exact W.iret (v := x24) hx hb hr (fun t ht hW => ⟨⟨x24, (gi24, gr), rfl, ⟨hM, rfl, (hF.trans (by simp only [↓reduceIte, F_X12_offer, hw2.2.2, eq_false c3, r6, Option.getD_some, ← e7, eq_false c8, hw24.2.2.1]))⟩, th_Ht ht hH⟩, hS.F ht⟩) hS.2.2 dX12_offer_30
  · skip
    have f26 : rg 0 0 x2 := rg_w (rg_eq hw2.1 rgc_0 c3).1 (th_leI rfl) (th_leI rfl)
    refine lv_aload_n hx hb dX12_offer_8 rfl (lv_at hl 0 rfl) ?_
    refine lv_ldc (v := (-1000001)) hx hb hown (hts (.constant RX12 119 (-1000001)) (List.mem_cons_of_mem _ (List.mem_append_left _ (List.mem_append_left _ (List.mem_of_getElem? (i := 0) rfl))))) dX12_offer_9 ?_
    have hA27 := th_Asub (τ := τ) hS
    refine va_calli (va_runV (As := [.int (-1000001)]) (rest := []) ⟨hx, hb, hml, hown, hts⟩ (k_X12_finding l D cA Z τ gi gr _ h0 t_h0 (-1000001) (rg_w rgc_m1000001 (th_leI rfl) (th_leI rfl))) (cwV 1 hts gX12_offer_X12_finding rfl rfl rfl hd_X12_finding__1 ⟨Nat.le_of_ble_eq_true rfl, Nat.le_of_ble_eq_true rfl⟩) ⟨th_blind, tr_12 hK hH t_h0, (th_pre hH hK hN hZ hS hA27)⟩ rfl rfl hl.1 rfl (lv_room (Nat.le_of_ble_eq_true rfl)) dX12_offer_11 ⟨Nat.le_of_ble_eq_true rfl, Nat.le_of_ble_eq_true rfl⟩) hS (fun q _ h => hA27 q h) hA27 (fun x28 u t H locs ht hvm hw28 hB hz1 hk1 hS => ?_)
    try dsimp only at hw28 hB
    rw [ht] at hB
    have hH := hB
    obtain ⟨gi28, gr28⟩ := u
    try dsimp only at hw28 hH
    obtain rfl : gr = gr28 := (hw28.2.1).symm
    have hM := hM.tr hw28.1 (fun _ h => h) (th_sub rfl)
    exact W.iret (v := x28) hx hb hr (fun t ht hW => ⟨⟨x28, (gi28, gr), rfl, ⟨hM, rfl, (hF.trans (by simp only [↓reduceIte, F_X12_offer, hw2.2.2, eq_true c3, hw28.2.2.1]))⟩, th_Ht ht hH⟩, hS.F ht⟩) hS.2.2 dX12_offer_14

noncomputable def f_X12_answer_17 (τ : th_t) (Z : th_Zt) (gi : th_i) (gr : th_r) (h0 : Nat) (p1 : Int32) (p2 : Int32) (gi_17 : th_i) : Int32 × th_i :=
  let u2 : Int32 × th_i := F_X12_finding τ Z gi_17 gr h0 (-1000001)
  let x2 : Int32 := u2.1
  let gi2 : th_i := u2.2
  (x2, gi2)
noncomputable def F_X12_answer (τ : th_t) (Z : th_Zt) (gi : th_i) (gr : th_r) (h0 : Nat) (p1 : Int32) (p2 : Int32) : Int32 × th_i :=
  let x4 : Int32 := F_X12_isBuoy τ Z gi gr h0 p1
  if x4 = (0 : Int32) then (
    f_X12_answer_17 τ Z gi gr h0 p1 p2 gi) else (
    let x10 : Int32 := F_X12_within τ Z gi gr p2 0 1
    if x10 = (0 : Int32) then (
      f_X12_answer_17 τ Z gi gr h0 p1 p2 gi) else (
      let q16 : Nat := (gr h0 7).getD 0
      let x17 : Int32 := gi q16 p1.toNatClampNeg
      if x17 < (0 : Int32) then (
        let x21 : Int32 := F_X12_offeredTo τ Z gi gr h0 p1
        let x22 : Int32 := gi h0 17
        if (0 : Int32) ≤ x21 then (
          let q25 : Nat := (gr h0 18).getD 0
          let x26 : Int32 := gi q25 x21.toNatClampNeg
          if p2 = (1 : Int32) then (
            let gi66 : th_i := F_X12_goesOff τ Z gi gr h0 x21
            let x68 : Int32 := gi66 h0 17
            let gi70 : th_i := F_X12_lies τ Z gi66 gr h0 x26 p1
            (x26, gi70)) else (
            let q29 : Nat := (gr h0 19).getD 0
            let x30 : Int32 := gi q29 x26.toNatClampNeg
            let x31 : Int32 := 1 <<< (p1 &&& 31)
            let x32 : Int32 := x30 ||| x31
            let gi33 : th_i := va_up gi q29 (upd (gi q29) x26.toNatClampNeg x32)
            let x38 : Int32 := gi33 h0 20
            if x38 = (0 : Int32) then (
              let gi43 : th_i := F_X12_goesOff τ Z gi33 gr h0 x21
              let x47 : Int32 := gi43 h0 17
              let gi50 : th_i := va_up gi43 q25 (upd (gi43 q25) x47.toNatClampNeg x26)
              let x56 : Int32 := x47 + 1
              let gi57 : th_i := va_up gi50 h0 (upd (gi50 h0) 17 x56)
              (x26, gi57)) else (
              (x26, gi33)))) else (
          let u74 : Int32 × th_i := F_X12_finding τ Z gi gr h0 (-1000002)
          let x74 : Int32 := u74.1
          let gi74 : th_i := u74.2
          (x74, gi74))) else (
        let u79 : Int32 × th_i := F_X12_finding τ Z gi gr h0 (-1000003)
        let x79 : Int32 := u79.1
        let gi79 : th_i := u79.2
        (x79, gi79))))
set_option maxHeartbeats 8000000 in
set_option maxRecDepth 100000 in
theorem k_X12_answer (l : Launch) (D : va_G) (cA : Nat → ClassId) (Z : th_Zt) (τ : th_t) (gi : th_i) (gr : th_r) (sz : Nat) (h0 : Nat) (t_h0 : τ h0 = 12) (p1 : Int32) (p2 : Int32) : Met l yX12_answer wsX12_answer ({ frames := 6, cells := 0, slots := 0, locals := 172 }) (va_Pc [.ref h0, .int p1, .int p2] (th_Pre D cA Z τ gi gr sz)) (va_Qi (fun (r : Int32) (u : th_i × th_r) => th_Mod [1217, 4600, 5000, 5400, 5500, 5900] τ gi gr u.1 u.2 ∧ u.2 = gr ∧ (F_X12_answer τ Z gi gr h0 p1 p2 = (r, u.1))) (fun (u : th_i × th_r) t => th_H D cA τ u.1 u.2 t.heap) (th_A τ sz)) 0 0 (th_A τ sz) := by
  refine Met.ofW (cc := cX12_answer) (maxL := 5) (ret := (some .int)) (by decide) rfl ?_
  intro p e s m args below meth c s₁ B hml hv
  obtain ⟨rfl, hsz, hH, hK, hN, hZ⟩ := hv
  have hx := B.exec
  have hb := B.bytes
  have hr := B.returns
  have hts := atoms_spec (ws := wsX12_answer) B.pre
  have hown : s.vm.findClass RX12 = some m.cls := findClass_of_methodNamed B.named
  have hlocks := B.notSynchronized
  subst hsz
  have hM : th_Mod [1217, 4600, 5000, 5400, 5500, 5900] τ gi gr gi gr := th_Mod.rf
  have J17 : ∀ (gi_17 : th_i) (H : Heap) (locs : List Loc) (ls : Array Slot), th_H D cA τ gi_17 gr H → va_S (th_A τ s.heap.size) s.heap H locs → th_Mod [1217, 4600, 5000, 5400, 5500, 5900] τ gi gr gi_17 gr → lv_has ls 5 [(0, .ref h0)] → F_X12_answer τ Z gi gr h0 p1 p2 = f_X12_answer_17 τ Z gi gr h0 p1 p2 gi_17 → W p l e (headSpec wsX12_answer ({ frames := 6, cells := 0, slots := 0, locals := 172 })).room s m [.ref h0, .int p1, .int p2].toArray below meth c H locs 0 0 (MQ below (va_Qi (fun (r : Int32) (u : th_i × th_r) => th_Mod [1217, 4600, 5000, 5400, 5500, 5900] τ gi gr u.1 u.2 ∧ u.2 = gr ∧ (F_X12_answer τ Z gi gr h0 p1 p2 = (r, u.1))) (fun (u : th_i × th_r) t => th_H D cA τ u.1 u.2 t.heap) (th_A τ s.heap.size)) [.ref h0, .int p1, .int p2].toArray s 0 0 (th_A τ s.heap.size)) (F0 m 17 ls []) := by
    intro gi_17 H locs ls hH hS hM hl hF
    refine lv_aload_n hx hb dX12_answer_17 rfl (lv_at hl 0 rfl) ?_
    refine lv_ldc (v := (-1000001)) hx hb hown (hts (.constant RX12 119 (-1000001)) (List.mem_cons_of_mem _ (List.mem_append_left _ (List.mem_append_left _ (List.mem_of_getElem? (i := 0) rfl))))) dX12_answer_18 ?_
    have hA1 := th_Asub (τ := τ) hS
    refine va_calli (va_runV (As := [.int (-1000001)]) (rest := []) ⟨hx, hb, hml, hown, hts⟩ (k_X12_finding l D cA Z τ gi_17 gr _ h0 t_h0 (-1000001) (rg_w rgc_m1000001 (th_leI rfl) (th_leI rfl))) (cwV 1 hts gX12_answer_X12_finding rfl rfl rfl hd_X12_finding__1 ⟨Nat.le_of_ble_eq_true rfl, Nat.le_of_ble_eq_true rfl⟩) ⟨th_blind, tr_12 hK hH t_h0, (th_pre hH hK hN hZ hS hA1)⟩ rfl rfl hl.1 rfl (lv_room (Nat.le_of_ble_eq_true rfl)) dX12_answer_20 ⟨Nat.le_of_ble_eq_true rfl, Nat.le_of_ble_eq_true rfl⟩) hS (fun q _ h => hA1 q h) hA1 (fun x2 u t H locs ht hvm hw2 hB hz1 hk1 hS => ?_)
    try dsimp only at hw2 hB
    rw [ht] at hB
    have hH := hB
    obtain ⟨gi2, gr2⟩ := u
    try dsimp only at hw2 hH
    obtain rfl : gr = gr2 := (hw2.2.1).symm
    have hM := hM.tr hw2.1 (fun _ h => h) (th_sub rfl)
    exact W.iret (v := x2) hx hb hr (fun t ht hW => ⟨⟨x2, (gi2, gr), rfl, ⟨hM, rfl, (hF.trans (by simp only [f_X12_answer_17, hw2.2.2.1]))⟩, th_Ht ht hH⟩, hS.F ht⟩) hS.2.2 dX12_answer_23
  have hS : va_S (th_A τ s.heap.size) s.heap s.heap [] := va_S.rf
  have hl := lv_entry ([.ref h0, .int p1, .int p2]) (n := 5) (Nat.le_of_ble_eq_true rfl)
  rw [lg_entry_eq]
  generalize (lg_sl ([.ref h0, .int p1, .int p2]) ++ List.replicate (5 - (lg_sl ([.ref h0, .int p1, .int p2])).length) Slot.unset).toArray = ls at hl ⊢
  have hl : lv_has ls 5 [(0, .ref h0), (1, .int p1), (2, .int p2)] := hl
  have hF : F_X12_answer τ Z gi gr h0 p1 p2 = F_X12_answer τ Z gi gr h0 p1 p2 := rfl
  refine lv_aload_n hx hb dX12_answer_0 rfl (lv_at hl 0 rfl) ?_
  refine lv_iload_n hx hb dX12_answer_1 rfl (lv_at hl 1 rfl) ?_
  have hA3 := th_Asub (τ := τ) hS
  refine va_calli (va_runV (As := [.int p1]) (rest := []) ⟨hx, hb, hml, hown, hts⟩ (k_X12_isBuoy l D cA Z τ gi gr _ h0 t_h0 p1) (cwV 1 hts gX12_answer_X12_isBuoy rfl rfl rfl hd_X12_isBuoy__1 ⟨Nat.le_of_ble_eq_true rfl, Nat.le_of_ble_eq_true rfl⟩) ⟨th_blind, tr_12 hK hH t_h0, (th_pre hH hK hN hZ hS hA3)⟩ rfl rfl hl.1 rfl (lv_room (Nat.le_of_ble_eq_true rfl)) dX12_answer_2 ⟨Nat.le_of_ble_eq_true rfl, Nat.le_of_ble_eq_true rfl⟩) hS (fun q _ h => hA3 q h) hA3 (fun x4 u t H locs ht hvm hw4 hB hz1 hk1 hS => ?_)
  try dsimp only at hw4 hB
  rw [ht] at hB
  have hH := hB
  refine lv_if_eq (tgt := 17) hx hb dX12_answer_5 (th_eqI rfl) (fun c5 => ?_) (fun c5 => ?_)
  · skip
    have f6 : rg 0 0 x4 := rg_w (rg_eq hw4.1 rgc_0 c5).1 (th_leI rfl) (th_leI rfl)
    exact J17 gi _ _ _ hH hS hM (lv_sub hl [0] rfl) (hF.trans (by simp only [↓reduceIte, F_X12_answer, hw4.2.2, eq_true c5]))
  · skip
    have f7 : rg 1 1 x4 := rg_w (rg_neL hw4.1 rgc_0 c5) (th_leI rfl) (th_leI rfl)
    have f8 : rg 0 11 p1 := rg_w (hw4.2.1 c5) (th_leI rfl) (th_leI rfl)
    refine lv_iload_n hx hb dX12_answer_8 rfl (lv_at hl 2 rfl) ?_
    refine lv_iconst (v := 0) hx hb dX12_answer_9 ic_0 ?_
    refine lv_iconst (v := 1) hx hb dX12_answer_10 ic_1 ?_
    have hA9 := th_Asub (τ := τ) hS
    refine va_calli (va_runS (As := [.int p2, .int 0, .int 1]) (rest := []) ⟨hx, hb, hml, hown, hts⟩ (k_X12_within l D cA Z τ gi gr _ p2 0 1) (va_cwS 3 hts gX12_answer_X12_within rfl rfl rfl (by decide +kernel) ⟨Nat.le_of_ble_eq_true rfl, Nat.le_of_ble_eq_true rfl⟩) ⟨th_blind, (th_pre hH hK hN hZ hS hA9)⟩ rfl rfl hl.1 rfl (lv_room (Nat.le_of_ble_eq_true rfl)) dX12_answer_11 ⟨Nat.le_of_ble_eq_true rfl, Nat.le_of_ble_eq_true rfl⟩) hS (fun q _ h => hA9 q h) hA9 (fun x10 u t H locs ht hvm hw10 hB hz1 hk1 hS => ?_)
    try dsimp only at hw10 hB
    rw [ht] at hB
    have hH := hB
    refine lv_if_ne (tgt := 24) hx hb dX12_answer_14 (th_eqI rfl) (fun c11 => ?_) (fun c11 => ?_)
    · skip
      have f12 : rg 1 1 x10 := rg_w (rg_neL hw10.1 rgc_0 c11) (th_leI rfl) (th_leI rfl)
      have g13 := hw10.2.1 c11
      have f14 : rg 0 2147483647 p2 := rg_w (rg_le rgc_0 (rg_any p2) g13.1).2 (th_leI rfl) (th_leI rfl)
      have f15 : rg 0 1 p2 := rg_w (rg_le f14 rgc_1 g13.2).1 (th_leI rfl) (th_leI rfl)
      refine lv_aload_n hx hb dX12_answer_24 rfl (lv_at hl 0 rfl) ?_
      obtain ⟨q16, r16, t16⟩ : ∃ q, gr h0 7 = some q ∧ τ q = 46 := (thI_12 hH t_h0).2.2.2.2.2.2.2.1
      refine th_get (ci := 11) (v := .ref q16) (T := TX12) (C := RX12) (N := 38) hx hb hts (fun w h => List.mem_cons_of_mem _ (List.mem_append_right _ h)) hown hK hH t_h0 (th_nz rfl) (thE_12 _ _ _) rfl 7 (th_ltN rfl) (hts (.fieldLink RX12 28 "BayMooringsModel" "boatAt" "[I") (List.mem_cons_of_mem _ (List.mem_append_left _ (List.mem_append_left _ (List.mem_of_getElem? (i := 1) rfl))))) (fun _ h9 => h9) (th_fR r16 rfl) dX12_answer_25 ?_
      refine lv_iload_n hx hb dX12_answer_28 rfl (lv_at hl 1 rfl) ?_
      refine th_iald hx hb hK hH t16 (th_nz rfl) 0 (thE_46 _ _ _) rfl (rg_in (n := 12) f8 (th_leI rfl) (th_ltI rfl)) dX12_answer_29 ?_
      refine lv_topi (fun x17 e17 => ?_)
      have f17 : rg (-1) 15 x17 := rg_e e17 ((thI_46 hH t16) _ (rg_cl (n := 12) f8 (th_leI rfl) (th_ltI rfl)))
      refine lv_if_lt (tgt := 40) hx hb dX12_answer_30 (th_eqI rfl) (fun c18 => ?_) (fun c18 => ?_)
      · skip
        have f19 : rg (-1) (-1) x17 := rg_w (rg_lt f17 rgc_0 c18).1 (th_leI rfl) (th_leI rfl)
        refine lv_aload_n hx hb dX12_answer_40 rfl (lv_at hl 0 rfl) ?_
        refine lv_iload_n hx hb dX12_answer_41 rfl (lv_at hl 1 rfl) ?_
        have hA20 := th_Asub (τ := τ) hS
        refine va_calli (va_runV (As := [.int p1]) (rest := []) ⟨hx, hb, hml, hown, hts⟩ (k_X12_offeredTo l D cA Z τ gi gr _ h0 t_h0 p1 f8) (cwV 1 hts gX12_answer_X12_offeredTo rfl rfl rfl hd_X12_offeredTo__1 ⟨Nat.le_of_ble_eq_true rfl, Nat.le_of_ble_eq_true rfl⟩) ⟨th_blind, tr_12 hK hH t_h0, (th_pre hH hK hN hZ hS hA20)⟩ rfl rfl hl.1 rfl (lv_room (Nat.le_of_ble_eq_true rfl)) dX12_answer_42 ⟨Nat.le_of_ble_eq_true rfl, Nat.le_of_ble_eq_true rfl⟩) hS (fun q _ h => hA20 q h) hA20 (fun x21 u t H locs ht hvm hw21 hB hz1 hk1 hS => ?_)
        try dsimp only at hw21 hB
        rw [ht] at hB
        have hH := hB
        obtain ⟨x22, e22⟩ : ∃ y : Int32, y = gi h0 17 := ⟨_, rfl⟩
        have f22 : rg 0 10 x22 := by rw [e22]; exact (hH.at t_h0 (by decide)).2.2.2.2.2.2.2.2.2.2.2.2.2.2.2.2.2.1
        refine lv_istore_n (i := 3) (lv' := [(3, .int x21), (0, .ref h0), (1, .int p1), (2, .int p2)]) hx hb dX12_answer_45 rfl hl (th_ltN rfl) rfl (fun ls hl => ?_)
        refine lv_iload_n hx hb dX12_answer_46 rfl (lv_at hl 0 rfl) ?_
        refine lv_if_ge (tgt := 57) hx hb dX12_answer_47 (th_eqI rfl) (fun c23 => ?_) (fun c23 => ?_)
        · skip
          have f24 : rg 0 9 x21 := rg_w (rg_le rgc_0 hw21.1 c23).2 (th_leI rfl) (th_leI rfl)
          refine lv_aload_n hx hb dX12_answer_57 rfl (lv_at hl 1 rfl) ?_
          obtain ⟨q25, r25, t25⟩ : ∃ q, gr h0 18 = some q ∧ τ q = 54 := (thI_12 hH t_h0).2.2.2.2.2.2.2.2.2.2.2.2.2.2.2.2.2.1
          refine th_get (ci := 11) (v := .ref q25) (T := TX12) (C := RX12) (N := 38) hx hb hts (fun w h => List.mem_cons_of_mem _ (List.mem_append_right _ h)) hown hK hH t_h0 (th_nz rfl) (thE_12 _ _ _) rfl 18 (th_ltN rfl) (hts (.fieldLink RX12 56 "BayMooringsModel" "list" "[I") (List.mem_cons_of_mem _ (List.mem_append_left _ (List.mem_append_left _ (List.mem_of_getElem? (i := 4) rfl))))) (fun _ h9 => h9) (th_fR r25 rfl) dX12_answer_58 ?_
          refine lv_iload_n hx hb dX12_answer_61 rfl (lv_at hl 0 rfl) ?_
          refine th_iald hx hb hK hH t25 (th_nz rfl) 0 (thE_54 _ _ _) rfl (rg_in (n := 10) f24 (th_leI rfl) (th_ltI rfl)) dX12_answer_62 ?_
          refine lv_topi (fun x26 e26 => ?_)
          have f26 : rg 0 15 x26 := rg_e e26 ((thI_54 hH t25) _ (rg_cl (n := 10) f24 (th_leI rfl) (th_ltI rfl)))
          refine lv_istore (i := 4) (lv' := [(4, .int x26), (3, .int x21), (0, .ref h0), (1, .int p1), (2, .int p2)]) hx hb dX12_answer_63 hl (th_ltN rfl) rfl (fun ls hl => ?_)
          refine lv_iload_n hx hb dX12_answer_65 rfl (lv_at hl 4 rfl) ?_
          refine lv_iconst (v := 1) hx hb dX12_answer_66 ic_1 ?_
          refine lv_icmp_ne (tgt := 85) hx hb dX12_answer_67 (th_eqI rfl) (fun c27 => ?_) (fun c27 => ?_)
          · skip
            have f28 : rg 0 0 p2 := rg_w (rg_neR f15 rgc_1 c27) (th_leI rfl) (th_leI rfl)
            refine lv_aload_n hx hb dX12_answer_85 rfl (lv_at hl 2 rfl) ?_
            obtain ⟨q29, r29, t29⟩ : ∃ q, gr h0 19 = some q ∧ τ q = 55 := (thI_12 hH t_h0).2.2.2.2.2.2.2.2.2.2.2.2.2.2.2.2.2.2.1
            refine th_get (ci := 11) (v := .ref q29) (T := TX12) (C := RX12) (N := 38) hx hb hts (fun w h => List.mem_cons_of_mem _ (List.mem_append_right _ h)) hown hK hH t_h0 (th_nz rfl) (thE_12 _ _ _) rfl 19 (th_ltN rfl) (hts (.fieldLink RX12 59 "BayMooringsModel" "refused" "[I") (List.mem_cons_of_mem _ (List.mem_append_left _ (List.mem_append_left _ (List.mem_of_getElem? (i := 5) rfl))))) (fun _ h9 => h9) (th_fR r29 rfl) dX12_answer_86 ?_
            refine lv_iload hx hb dX12_answer_89 (lv_at hl 0 rfl) ?_
            refine lv_dup2_11 hx hb dX12_answer_91 rfl rfl ?_
            refine th_iald hx hb hK hH t29 (th_nz rfl) 0 (thE_55 _ _ _) rfl (rg_in (n := 16) f26 (th_leI rfl) (th_ltI rfl)) dX12_answer_92 ?_
            refine lv_topi (fun x30 e30 => ?_)
            refine lv_iconst (v := 1) hx hb dX12_answer_93 ic_1 ?_
            refine lv_iload_n hx hb dX12_answer_94 rfl (lv_at hl 3 rfl) ?_
            refine lv_ishl hx hb dX12_answer_95 ?_
            refine lv_topi (fun x31 e31 => ?_)
            refine lv_ior hx hb dX12_answer_96 ?_
            refine lv_topi (fun x32 e32 => ?_)
            refine th_iast hx hb hK hH hS t29 (th_nz rfl) (Or.inl (th_nzE t29 rfl)) 0 (fun _ => thE_55 _ _ _) rfl (rg_in (n := 16) f26 (th_leI rfl) (th_ltI rfl)) (trivial) dX12_answer_97 (fun gi33 H locs hu33 ho33 hH hS => ?_)
            have eg33 : gi33 = va_up gi q29 (upd (gi q29) x26.toNatClampNeg x32) := th_upE hu33 ho33
            have e34 : x17 = gi33 q16 (p1.toNatClampNeg) := Eq.trans e17 (Eq.symm (ho33 _ _ (Or.inl (th_ne t16 t29 (th_nz rfl)))))
            have e35 : x22 = gi33 h0 17 := Eq.trans e22 (Eq.symm (ho33 _ _ (Or.inl (th_ne t_h0 t29 (th_nz rfl)))))
            have e36 : x26 = gi33 q25 (x21.toNatClampNeg) := Eq.trans e26 (Eq.symm (ho33 _ _ (Or.inl (th_ne t25 t29 (th_nz rfl)))))
            have hM := hM.i t29 (th_mem (a := 5500) rfl) ho33
            refine lv_aload_n hx hb dX12_answer_98 rfl (lv_at hl 2 rfl) ?_
            obtain ⟨x38, e38⟩ : ∃ y : Int32, y = gi33 h0 20 := ⟨_, rfl⟩
            refine th_get (ci := 11) (v := .int x38) (T := TX12) (C := RX12) (N := 38) hx hb hts (fun w h => List.mem_cons_of_mem _ (List.mem_append_right _ h)) hown hK hH t_h0 (th_nz rfl) (thE_12 _ _ _) rfl 20 (th_ltN rfl) (hts (.fieldLink RX12 62 "BayMooringsModel" "stays" "I") (List.mem_cons_of_mem _ (List.mem_append_left _ (List.mem_append_left _ (List.mem_of_getElem? (i := 6) rfl))))) (fun _ h9 => h9) (th_fI e38 rfl) dX12_answer_99 ?_
            refine lv_if_ne (tgt := 131) hx hb dX12_answer_102 (th_eqI rfl) (fun c39 => ?_) (fun c39 => ?_)
            · skip
              refine lv_iload hx hb dX12_answer_131 (lv_at hl 0 rfl) ?_
              exact W.iret (v := x26) hx hb hr (fun t ht hW => ⟨⟨x26, (gi33, gr), rfl, ⟨hM, rfl, (hF.trans (by simp only [↓reduceIte, F_X12_answer, hw4.2.2, eq_false c5, hw10.2.2.1, eq_false c11, r16, Option.getD_some, ← e17, eq_true c18, hw21.2.1, ← e22, eq_true c23, r25, ← e26, eq_false c27, r29, ← e30, ← e31, ← e32, ← eg33, ← e38, eq_false c39]))⟩, th_Ht ht hH⟩, hS.F ht⟩) hS.2.2 dX12_answer_133
            · skip
              have f40 : rg 0 0 x38 := rg_w (rg_eq (rg_any x38) rgc_0 c39).1 (th_leI rfl) (th_leI rfl)
              refine lv_aload_n hx hb dX12_answer_105 rfl (lv_at hl 2 rfl) ?_
              refine lv_iload_n hx hb dX12_answer_106 rfl (lv_at hl 1 rfl) ?_
              have hA41 := th_Asub (τ := τ) hS
              have fw42 : rg 1 10 x22 := by rw [e22]; exact of_wait hw21.2.2 f24 (by rw [← e22]; exact f22) (by decide)
              refine va_callv (va_runV (As := [.int x21]) (rest := []) ⟨hx, hb, hml, hown, hts⟩ (k_X12_goesOff l D cA Z τ gi33 gr _ h0 t_h0 x21 f24 (by rw [← e35]; exact fw42)) (cwV 1 hts gX12_answer_X12_goesOff rfl rfl rfl hd_X12_goesOff__1 ⟨Nat.le_of_ble_eq_true rfl, Nat.le_of_ble_eq_true rfl⟩) ⟨th_blind, tr_12 hK hH t_h0, (th_pre hH hK hN hZ hS hA41)⟩ rfl rfl hl.1 rfl (lv_room (Nat.le_of_ble_eq_true rfl)) dX12_answer_107 ⟨Nat.le_of_ble_eq_true rfl, Nat.le_of_ble_eq_true rfl⟩) hS (fun q _ h => hA41 q h) hA41 (fun  u t H locs ht hvm hw43 hB hz1 hk1 hS => ?_)
              try dsimp only at hw43 hB
              rw [ht] at hB
              have hH := hB
              obtain ⟨gi43, gr43⟩ := u
              try dsimp only at hw43 hH
              obtain rfl : gr = gr43 := (hw43.2.1).symm
              have hM := hM.tr hw43.1 (fun _ h => h) (th_sub rfl)
              have e44 : x17 = gi43 q16 (p1.toNatClampNeg) := Eq.trans e34 (Eq.symm (hw43.1 q16 (p1.toNatClampNeg) (th_nzE t16 rfl) (th_nmE (key := 4600) t16 rfl rfl)).1)
              have e45 : x32 = gi43 q29 (x26.toNatClampNeg) := Eq.trans hu33.symm (Eq.symm (hw43.1 q29 (x26.toNatClampNeg) (th_nzE t29 rfl) (th_nmE (key := 5500) t29 rfl rfl)).1)
              have e46 : x38 = gi43 h0 20 := Eq.trans e38 (Eq.symm (hw43.1 h0 20 (th_nzE t_h0 rfl) (th_nmE (key := 1220) t_h0 rfl rfl)).1)
              obtain ⟨x47, e47⟩ : ∃ y : Int32, y = gi43 h0 17 := ⟨_, rfl⟩
              have f47 : rg 0 9 x47 := by rw [e47]; exact hw43.2.2.2
              refine lv_aload_n hx hb dX12_answer_110 rfl (lv_at hl 2 rfl) ?_
              refine th_get (ci := 11) (v := .ref q25) (T := TX12) (C := RX12) (N := 38) hx hb hts (fun w h => List.mem_cons_of_mem _ (List.mem_append_right _ h)) hown hK hH t_h0 (th_nz rfl) (thE_12 _ _ _) rfl 18 (th_ltN rfl) (hts (.fieldLink RX12 56 "BayMooringsModel" "list" "[I") (List.mem_cons_of_mem _ (List.mem_append_left _ (List.mem_append_left _ (List.mem_of_getElem? (i := 4) rfl))))) (fun _ h9 => h9) (th_fR r25 rfl) dX12_answer_111 ?_
              refine lv_aload_n hx hb dX12_answer_114 rfl (lv_at hl 2 rfl) ?_
              refine th_get (ci := 11) (v := .int x47) (T := TX12) (C := RX12) (N := 38) hx hb hts (fun w h => List.mem_cons_of_mem _ (List.mem_append_right _ h)) hown hK hH t_h0 (th_nz rfl) (thE_12 _ _ _) rfl 17 (th_ltN rfl) (hts (.fieldLink RX12 133 "BayMooringsModel" "waiting" "I") (List.mem_cons_of_mem _ (List.mem_append_left _ (List.mem_append_left _ (List.mem_of_getElem? (i := 7) rfl))))) (fun _ h9 => h9) (th_fI e47 rfl) dX12_answer_115 ?_
              refine lv_iload hx hb dX12_answer_118 (lv_at hl 0 rfl) ?_
              refine th_iast hx hb hK hH hS t25 (th_nz rfl) (Or.inl (th_nzE t25 rfl)) 0 (fun _ => thE_54 _ _ _) rfl (rg_in (n := 10) f47 (th_leI rfl) (th_ltI rfl)) (th_ai (P := rg 0 15) (thI_54 hH t25) f26) dX12_answer_120 (fun gi50 H locs hu50 ho50 hH hS => ?_)
              have eg50 : gi50 = va_up gi43 q25 (upd (gi43 q25) x47.toNatClampNeg x26) := th_upE hu50 ho50
              have e51 : x17 = gi50 q16 (p1.toNatClampNeg) := Eq.trans e44 (Eq.symm (ho50 _ _ (Or.inl (th_ne t16 t25 (th_nz rfl)))))
              have e52 : x32 = gi50 q29 (x26.toNatClampNeg) := Eq.trans e45 (Eq.symm (ho50 _ _ (Or.inl (th_ne t29 t25 (th_nz rfl)))))
              have e53 : x38 = gi50 h0 20 := Eq.trans e46 (Eq.symm (ho50 _ _ (Or.inl (th_ne t_h0 t25 (th_nz rfl)))))
              have e54 : x47 = gi50 h0 17 := Eq.trans e47 (Eq.symm (ho50 _ _ (Or.inl (th_ne t_h0 t25 (th_nz rfl)))))
              have hM := hM.i t25 (th_mem (a := 5400) rfl) ho50
              refine lv_aload_n hx hb dX12_answer_121 rfl (lv_at hl 2 rfl) ?_
              refine lv_dup hx hb dX12_answer_122 rfl ?_
              refine th_get (ci := 11) (v := .int x47) (T := TX12) (C := RX12) (N := 38) hx hb hts (fun w h => List.mem_cons_of_mem _ (List.mem_append_right _ h)) hown hK hH t_h0 (th_nz rfl) (thE_12 _ _ _) rfl 17 (th_ltN rfl) (hts (.fieldLink RX12 133 "BayMooringsModel" "waiting" "I") (List.mem_cons_of_mem _ (List.mem_append_left _ (List.mem_append_left _ (List.mem_of_getElem? (i := 7) rfl))))) (fun _ h9 => h9) (th_fI e54 rfl) dX12_answer_123 ?_
              refine lv_iconst (v := 1) hx hb dX12_answer_126 ic_1 ?_
              refine lv_iadd hx hb dX12_answer_127 ?_
              refine lv_topi (fun x56 e56 => ?_)
              have f56 : rg 1 10 x56 := rg_e e56 (rg_w (rg_add f47 rgc_1 (th_leI rfl) (th_leI rfl)) (th_leI rfl) (th_leI rfl))
              refine th_put (ci := 11) (v := .int x56) (T := TX12) (C := RX12) (N := 38) (ty := .int) (gi' := va_up gi50 h0 (upd (gi50 h0) 17 x56)) (gr' := gr) hx hb hts (fun w h => List.mem_cons_of_mem _ (List.mem_append_right _ h)) tyX12 tyX12_ok nmX12 hown hK hH hS t_h0 (th_nz rfl) (Or.inl (th_nzE t_h0 rfl)) rfl rfl 17 (th_ltN rfl) (hts (.fieldLink RX12 133 "BayMooringsModel" "waiting" "I") (List.mem_cons_of_mem _ (List.mem_append_left _ (List.mem_append_left _ (List.mem_of_getElem? (i := 7) rfl))))) (fun _ h9 => h9) rfl (by decide +kernel) rfl rfl (Nat.le_of_ble_eq_true rfl) (by rw [va_up_self]; rfl) (by rw [va_up_self]; show rg 0 12 (gi50 h0 0) ∧ (∃ q, gr h0 1 = some q ∧ τ q = 40) ∧ (∃ q, gr h0 2 = some q ∧ τ q = 41) ∧ (∃ q, gr h0 3 = some q ∧ τ q = 42) ∧ (∃ q, gr h0 4 = some q ∧ τ q = 43) ∧ (∃ q, gr h0 5 = some q ∧ τ q = 44) ∧ (∃ q, gr h0 6 = some q ∧ τ q = 45) ∧ (∃ q, gr h0 7 = some q ∧ τ q = 46) ∧ rg 0 16 (gi50 h0 8) ∧ (∃ q, gr h0 9 = some q ∧ τ q = 47) ∧ (∃ q, gr h0 10 = some q ∧ τ q = 48) ∧ (∃ q, gr h0 11 = some q ∧ τ q = 49) ∧ (∃ q, gr h0 12 = some q ∧ τ q = 50) ∧ (∃ q, gr h0 13 = some q ∧ τ q = 51) ∧ (∃ q, gr h0 15 = some q ∧ τ q = 52) ∧ (∃ q, gr h0 16 = some q ∧ τ q = 53) ∧ rg 0 10 x56 ∧ (∃ q, gr h0 18 = some q ∧ τ q = 54) ∧ (∃ q, gr h0 19 = some q ∧ τ q = 55) ∧ (∃ q, gr h0 21 = some q ∧ τ q = 56) ∧ (∃ q, gr h0 22 = some q ∧ τ q = 57) ∧ rg 0 24 (gi50 h0 24) ∧ (∃ q, gr h0 25 = some q ∧ τ q = 58) ∧ (∃ q, gr h0 26 = some q ∧ τ q = 59) ∧ rg 0 5 (gi50 h0 27) ∧ (∃ q, gr h0 28 = some q ∧ τ q = 60) ∧ (∃ q, gr h0 29 = some q ∧ τ q = 61) ∧ (∃ q, gr h0 30 = some q ∧ τ q = 62) ∧ (∃ q, gr h0 31 = some q ∧ τ q = 63) ∧ (∃ q, gr h0 32 = some q ∧ τ q = 64) ∧ (∃ q, gr h0 34 = some q ∧ τ q = 65) ∧ (∃ q, gr h0 35 = some q ∧ τ q = 66) ∧ (∃ q, gr h0 36 = some q ∧ τ q = 67) ∧ (∃ q, gr h0 37 = some q ∧ τ q = 68); exact ⟨(thI_12 hH t_h0).1, (thI_12 hH t_h0).2.1, (thI_12 hH t_h0).2.2.1, (thI_12 hH t_h0).2.2.2.1, (thI_12 hH t_h0).2.2.2.2.1, (thI_12 hH t_h0).2.2.2.2.2.1, (thI_12 hH t_h0).2.2.2.2.2.2.1, (thI_12 hH t_h0).2.2.2.2.2.2.2.1, (thI_12 hH t_h0).2.2.2.2.2.2.2.2.1, (thI_12 hH t_h0).2.2.2.2.2.2.2.2.2.1, (thI_12 hH t_h0).2.2.2.2.2.2.2.2.2.2.1, (thI_12 hH t_h0).2.2.2.2.2.2.2.2.2.2.2.1, (thI_12 hH t_h0).2.2.2.2.2.2.2.2.2.2.2.2.1, (thI_12 hH t_h0).2.2.2.2.2.2.2.2.2.2.2.2.2.1, (thI_12 hH t_h0).2.2.2.2.2.2.2.2.2.2.2.2.2.2.1, (thI_12 hH t_h0).2.2.2.2.2.2.2.2.2.2.2.2.2.2.2.1, (rg_w f56 (th_leI rfl) (th_leI rfl)), (thI_12 hH t_h0).2.2.2.2.2.2.2.2.2.2.2.2.2.2.2.2.2.1, (thI_12 hH t_h0).2.2.2.2.2.2.2.2.2.2.2.2.2.2.2.2.2.2.1, (thI_12 hH t_h0).2.2.2.2.2.2.2.2.2.2.2.2.2.2.2.2.2.2.2.1, (thI_12 hH t_h0).2.2.2.2.2.2.2.2.2.2.2.2.2.2.2.2.2.2.2.2.1, (thI_12 hH t_h0).2.2.2.2.2.2.2.2.2.2.2.2.2.2.2.2.2.2.2.2.2.1, (thI_12 hH t_h0).2.2.2.2.2.2.2.2.2.2.2.2.2.2.2.2.2.2.2.2.2.2.1, (thI_12 hH t_h0).2.2.2.2.2.2.2.2.2.2.2.2.2.2.2.2.2.2.2.2.2.2.2.1, (thI_12 hH t_h0).2.2.2.2.2.2.2.2.2.2.2.2.2.2.2.2.2.2.2.2.2.2.2.2.1, (thI_12 hH t_h0).2.2.2.2.2.2.2.2.2.2.2.2.2.2.2.2.2.2.2.2.2.2.2.2.2.1, (thI_12 hH t_h0).2.2.2.2.2.2.2.2.2.2.2.2.2.2.2.2.2.2.2.2.2.2.2.2.2.2.1, (thI_12 hH t_h0).2.2.2.2.2.2.2.2.2.2.2.2.2.2.2.2.2.2.2.2.2.2.2.2.2.2.2.1, (thI_12 hH t_h0).2.2.2.2.2.2.2.2.2.2.2.2.2.2.2.2.2.2.2.2.2.2.2.2.2.2.2.2.1, (thI_12 hH t_h0).2.2.2.2.2.2.2.2.2.2.2.2.2.2.2.2.2.2.2.2.2.2.2.2.2.2.2.2.2.1, (thI_12 hH t_h0).2.2.2.2.2.2.2.2.2.2.2.2.2.2.2.2.2.2.2.2.2.2.2.2.2.2.2.2.2.2.1, (thI_12 hH t_h0).2.2.2.2.2.2.2.2.2.2.2.2.2.2.2.2.2.2.2.2.2.2.2.2.2.2.2.2.2.2.2.1, (thI_12 hH t_h0).2.2.2.2.2.2.2.2.2.2.2.2.2.2.2.2.2.2.2.2.2.2.2.2.2.2.2.2.2.2.2.2.1, (thI_12 hH t_h0).2.2.2.2.2.2.2.2.2.2.2.2.2.2.2.2.2.2.2.2.2.2.2.2.2.2.2.2.2.2.2.2.2⟩) (fun b hb => ⟨va_up_ne _ _ hb, rfl⟩) dX12_answer_128 (fun H locs hH hS => ?_)
              obtain ⟨gi57, eg57⟩ : ∃ g, g = va_up gi50 h0 (upd (gi50 h0) 17 x56) := ⟨_, rfl⟩
              rw [← eg57] at hH
              have hu57 : gi57 h0 17 = x56 := (th_uI eg57).1
              have ho57 : ∀ b j, b ≠ h0 ∨ j ≠ 17 → gi57 b j = gi50 b j := (th_uI eg57).2
              have e58 : x17 = gi57 q16 (p1.toNatClampNeg) := Eq.trans e51 (Eq.symm (ho57 _ _ (Or.inl (th_ne t16 t_h0 (th_nz rfl)))))
              have e59 : x32 = gi57 q29 (x26.toNatClampNeg) := Eq.trans e52 (Eq.symm (ho57 _ _ (Or.inl (th_ne t29 t_h0 (th_nz rfl)))))
              have e60 : x38 = gi57 h0 20 := Eq.trans e53 (Eq.symm (ho57 _ _ (Or.inr (th_nz rfl))))
              have e62 : x26 = gi57 q25 (x47.toNatClampNeg) := Eq.trans hu50.symm (Eq.symm (ho57 _ _ (Or.inl (th_ne t25 t_h0 (th_nz rfl)))))
              have hM := hM.i t_h0 (th_mem (a := 1217) rfl) ho57
              refine lv_iload hx hb dX12_answer_131 (lv_at hl 0 rfl) ?_
              exact W.iret (v := x26) hx hb hr (fun t ht hW => ⟨⟨x26, (gi57, gr), rfl, ⟨hM, rfl, (hF.trans (by simp only [↓reduceIte, F_X12_answer, hw4.2.2, eq_false c5, hw10.2.2.1, eq_false c11, r16, Option.getD_some, ← e17, eq_true c18, hw21.2.1, ← e22, eq_true c23, r25, ← e26, eq_false c27, r29, ← e30, ← e31, ← e32, ← eg33, ← e38, eq_true c39, hw43.2.2.1, ← e47, ← eg50, ← e56, ← eg57]))⟩, th_Ht ht hH⟩, hS.F ht⟩) hS.2.2 dX12_answer_133
          · skip
            have f63 : rg 1 1 p2 := rg_w (rg_eq f15 rgc_1 c27).1 (th_leI rfl) (th_leI rfl)
            refine lv_aload_n hx hb dX12_answer_70 rfl (lv_at hl 2 rfl) ?_
            refine lv_iload_n hx hb dX12_answer_71 rfl (lv_at hl 1 rfl) ?_
            have hA64 := th_Asub (τ := τ) hS
            have fw65 : rg 1 10 x22 := by rw [e22]; exact of_wait hw21.2.2 f24 (by rw [← e22]; exact f22) (by decide)
            refine va_callv (va_runV (As := [.int x21]) (rest := []) ⟨hx, hb, hml, hown, hts⟩ (k_X12_goesOff l D cA Z τ gi gr _ h0 t_h0 x21 f24 (by rw [← e22]; exact fw65)) (cwV 1 hts gX12_answer_X12_goesOff rfl rfl rfl hd_X12_goesOff__1 ⟨Nat.le_of_ble_eq_true rfl, Nat.le_of_ble_eq_true rfl⟩) ⟨th_blind, tr_12 hK hH t_h0, (th_pre hH hK hN hZ hS hA64)⟩ rfl rfl hl.1 rfl (lv_room (Nat.le_of_ble_eq_true rfl)) dX12_answer_72 ⟨Nat.le_of_ble_eq_true rfl, Nat.le_of_ble_eq_true rfl⟩) hS (fun q _ h => hA64 q h) hA64 (fun  u t H locs ht hvm hw66 hB hz1 hk1 hS => ?_)
            try dsimp only at hw66 hB
            rw [ht] at hB
            have hH := hB
            obtain ⟨gi66, gr66⟩ := u
            try dsimp only at hw66 hH
            obtain rfl : gr = gr66 := (hw66.2.1).symm
            have hM := hM.tr hw66.1 (fun _ h => h) (th_sub rfl)
            have e67 : x17 = gi66 q16 (p1.toNatClampNeg) := Eq.trans e17 (Eq.symm (hw66.1 q16 (p1.toNatClampNeg) (th_nzE t16 rfl) (th_nmE (key := 4600) t16 rfl rfl)).1)
            obtain ⟨x68, e68⟩ : ∃ y : Int32, y = gi66 h0 17 := ⟨_, rfl⟩
            have f68 : rg 0 9 x68 := by rw [e68]; exact hw66.2.2.2
            refine lv_aload_n hx hb dX12_answer_75 rfl (lv_at hl 2 rfl) ?_
            refine lv_iload hx hb dX12_answer_76 (lv_at hl 0 rfl) ?_
            refine lv_iload_n hx hb dX12_answer_78 rfl (lv_at hl 3 rfl) ?_
            have hA69 := th_Asub (τ := τ) hS
            refine va_callv (va_runV (As := [.int x26, .int p1]) (rest := []) ⟨hx, hb, hml, hown, hts⟩ (k_X12_lies l D cA Z τ gi66 gr _ h0 t_h0 x26 f26 p1 f8) (cwV 2 hts gX12_answer_X12_lies rfl rfl rfl hd_X12_lies__2 ⟨Nat.le_of_ble_eq_true rfl, Nat.le_of_ble_eq_true rfl⟩) ⟨th_blind, tr_12 hK hH t_h0, (th_pre hH hK hN hZ hS hA69)⟩ rfl rfl hl.1 rfl (lv_room (Nat.le_of_ble_eq_true rfl)) dX12_answer_79 ⟨Nat.le_of_ble_eq_true rfl, Nat.le_of_ble_eq_true rfl⟩) hS (fun q _ h => hA69 q h) hA69 (fun  u t H locs ht hvm hw70 hB hz1 hk1 hS => ?_)
            try dsimp only at hw70 hB
            rw [ht] at hB
            have hH := hB
            obtain ⟨gi70, gr70⟩ := u
            try dsimp only at hw70 hH
            obtain rfl : gr = gr70 := (hw70.2.1).symm
            have hM := hM.tr hw70.1 (fun _ h => h) (th_sub rfl)
            have e71 : x68 = gi70 h0 17 := Eq.trans e68 (Eq.symm (hw70.1 h0 17 (th_nzE t_h0 rfl) (th_nmE (key := 1217) t_h0 rfl rfl)).1)
            refine lv_iload hx hb dX12_answer_82 (lv_at hl 0 rfl) ?_
            exact W.iret (v := x26) hx hb hr (fun t ht hW => ⟨⟨x26, (gi70, gr), rfl, ⟨hM, rfl, (hF.trans (by simp only [↓reduceIte, F_X12_answer, hw4.2.2, eq_false c5, hw10.2.2.1, eq_false c11, r16, Option.getD_some, ← e17, eq_true c18, hw21.2.1, ← e22, eq_true c23, r25, ← e26, eq_true c27, hw66.2.2.1, ← e68, hw70.2.2]))⟩, th_Ht ht hH⟩, hS.F ht⟩) hS.2.2 dX12_answer_84
        · skip
          have f72 : rg (-1) (-1) x21 := rg_w (rg_nle rgc_0 hw21.1 c23).2 (th_leI rfl) (th_leI rfl)
          refine lv_aload_n hx hb dX12_answer_50 rfl (lv_at hl 1 rfl) ?_
          refine lv_ldc (v := (-1000002)) hx hb hown (hts (.constant RX12 191 (-1000002)) (List.mem_cons_of_mem _ (List.mem_append_left _ (List.mem_append_left _ (List.mem_of_getElem? (i := 3) rfl))))) dX12_answer_51 ?_
          have hA73 := th_Asub (τ := τ) hS
          refine va_calli (va_runV (As := [.int (-1000002)]) (rest := []) ⟨hx, hb, hml, hown, hts⟩ (k_X12_finding l D cA Z τ gi gr _ h0 t_h0 (-1000002) (rg_w rgc_m1000002 (th_leI rfl) (th_leI rfl))) (cwV 1 hts gX12_answer_X12_finding rfl rfl rfl hd_X12_finding__1 ⟨Nat.le_of_ble_eq_true rfl, Nat.le_of_ble_eq_true rfl⟩) ⟨th_blind, tr_12 hK hH t_h0, (th_pre hH hK hN hZ hS hA73)⟩ rfl rfl hl.1 rfl (lv_room (Nat.le_of_ble_eq_true rfl)) dX12_answer_53 ⟨Nat.le_of_ble_eq_true rfl, Nat.le_of_ble_eq_true rfl⟩) hS (fun q _ h => hA73 q h) hA73 (fun x74 u t H locs ht hvm hw74 hB hz1 hk1 hS => ?_)
          try dsimp only at hw74 hB
          rw [ht] at hB
          have hH := hB
          obtain ⟨gi74, gr74⟩ := u
          try dsimp only at hw74 hH
          obtain rfl : gr = gr74 := (hw74.2.1).symm
          have hM := hM.tr hw74.1 (fun _ h => h) (th_sub rfl)
          have e75 : x17 = gi74 q16 (p1.toNatClampNeg) := Eq.trans e17 (Eq.symm (hw74.1 q16 (p1.toNatClampNeg) (th_nzE t16 rfl) (th_nmE (key := 4600) t16 rfl rfl)).1)
          have e76 : x22 = gi74 h0 17 := Eq.trans e22 (Eq.symm (hw74.1 h0 17 (th_nzE t_h0 rfl) (th_nmE (key := 1217) t_h0 rfl rfl)).1)
          exact W.iret (v := x74) hx hb hr (fun t ht hW => ⟨⟨x74, (gi74, gr), rfl, ⟨hM, rfl, (hF.trans (by simp only [↓reduceIte, F_X12_answer, hw4.2.2, eq_false c5, hw10.2.2.1, eq_false c11, r16, Option.getD_some, ← e17, eq_true c18, hw21.2.1, ← e22, eq_false c23, hw74.2.2.1]))⟩, th_Ht ht hH⟩, hS.F ht⟩) hS.2.2 dX12_answer_56
      · skip
        have f77 : rg 0 15 x17 := rg_w (rg_nlt f17 rgc_0 c18).1 (th_leI rfl) (th_leI rfl)
        refine lv_aload_n hx hb dX12_answer_33 rfl (lv_at hl 0 rfl) ?_
        refine lv_ldc (v := (-1000003)) hx hb hown (hts (.constant RX12 186 (-1000003)) (List.mem_cons_of_mem _ (List.mem_append_left _ (List.mem_append_left _ (List.mem_of_getElem? (i := 2) rfl))))) dX12_answer_34 ?_
        have hA78 := th_Asub (τ := τ) hS
        refine va_calli (va_runV (As := [.int (-1000003)]) (rest := []) ⟨hx, hb, hml, hown, hts⟩ (k_X12_finding l D cA Z τ gi gr _ h0 t_h0 (-1000003) (rg_w rgc_m1000003 (th_leI rfl) (th_leI rfl))) (cwV 1 hts gX12_answer_X12_finding rfl rfl rfl hd_X12_finding__1 ⟨Nat.le_of_ble_eq_true rfl, Nat.le_of_ble_eq_true rfl⟩) ⟨th_blind, tr_12 hK hH t_h0, (th_pre hH hK hN hZ hS hA78)⟩ rfl rfl hl.1 rfl (lv_room (Nat.le_of_ble_eq_true rfl)) dX12_answer_36 ⟨Nat.le_of_ble_eq_true rfl, Nat.le_of_ble_eq_true rfl⟩) hS (fun q _ h => hA78 q h) hA78 (fun x79 u t H locs ht hvm hw79 hB hz1 hk1 hS => ?_)
        try dsimp only at hw79 hB
        rw [ht] at hB
        have hH := hB
        obtain ⟨gi79, gr79⟩ := u
        try dsimp only at hw79 hH
        obtain rfl : gr = gr79 := (hw79.2.1).symm
        have hM := hM.tr hw79.1 (fun _ h => h) (th_sub rfl)
        have e80 : x17 = gi79 q16 (p1.toNatClampNeg) := Eq.trans e17 (Eq.symm (hw79.1 q16 (p1.toNatClampNeg) (th_nzE t16 rfl) (th_nmE (key := 4600) t16 rfl rfl)).1)
        exact W.iret (v := x79) hx hb hr (fun t ht hW => ⟨⟨x79, (gi79, gr), rfl, ⟨hM, rfl, (hF.trans (by simp only [↓reduceIte, F_X12_answer, hw4.2.2, eq_false c5, hw10.2.2.1, eq_false c11, r16, Option.getD_some, ← e17, eq_false c18, hw79.2.2.1]))⟩, th_Ht ht hH⟩, hS.F ht⟩) hS.2.2 dX12_answer_39
    · skip
      have f81 : rg 0 0 x10 := rg_w (rg_eq hw10.1 rgc_0 c11).1 (th_leI rfl) (th_leI rfl)
      exact J17 gi _ _ _ hH hS hM (lv_sub hl [0] rfl) (hF.trans (by simp only [↓reduceIte, F_X12_answer, hw4.2.2, eq_false c5, hw10.2.2.1, eq_true c11]))

noncomputable def F_X12_stays (τ : th_t) (Z : th_Zt) (gi : th_i) (gr : th_r) (h0 : Nat) (p1 : Int32) : Int32 × th_i :=
  let wt0 : Int32 := gi h0 20
  let x2 : Int32 := F_X12_within τ Z gi gr p1 0 1
  if x2 = (0 : Int32) then (
    let u13 : Int32 × th_i := F_X12_finding τ Z gi gr h0 (-1000001)
    let x13 : Int32 := u13.1
    let gi13 : th_i := u13.2
    (x13, gi13)) else (
    let gi9 : th_i := va_up gi h0 (upd (gi h0) 20 p1)
    (wt0, gi9))
set_option maxHeartbeats 8000000 in
set_option maxRecDepth 100000 in
theorem k_X12_stays (l : Launch) (D : va_G) (cA : Nat → ClassId) (Z : th_Zt) (τ : th_t) (gi : th_i) (gr : th_r) (sz : Nat) (h0 : Nat) (t_h0 : τ h0 = 12) (p1 : Int32) : Met l yX12_stays wsX12_stays ({ frames := 1, cells := 0, slots := 0, locals := 22 }) (va_Pc [.ref h0, .int p1] (th_Pre D cA Z τ gi gr sz)) (va_Qi (fun (r : Int32) (u : th_i × th_r) => th_Mod [1220, 5900] τ gi gr u.1 u.2 ∧ u.2 = gr ∧ (F_X12_stays τ Z gi gr h0 p1 = (r, u.1)) ∧ (se_post 0 1 (gi h0 20) (u.1 h0 20) p1 r)) (fun (u : th_i × th_r) t => th_H D cA τ u.1 u.2 t.heap) (th_A τ sz)) 0 0 (th_A τ sz) := by
  refine Met.ofW (cc := cX12_stays) (maxL := 3) (ret := (some .int)) (by decide) rfl ?_
  intro p e s m args below meth c s₁ B hml hv
  obtain ⟨rfl, hsz, hH, hK, hN, hZ⟩ := hv
  have hx := B.exec
  have hb := B.bytes
  have hr := B.returns
  have hts := atoms_spec (ws := wsX12_stays) B.pre
  have hown : s.vm.findClass RX12 = some m.cls := findClass_of_methodNamed B.named
  have hlocks := B.notSynchronized
  subst hsz
  have hM : th_Mod [1220, 5900] τ gi gr gi gr := th_Mod.rf
  have hS : va_S (th_A τ s.heap.size) s.heap s.heap [] := va_S.rf
  have hl := lv_entry ([.ref h0, .int p1]) (n := 3) (Nat.le_of_ble_eq_true rfl)
  rw [lg_entry_eq]
  generalize (lg_sl ([.ref h0, .int p1]) ++ List.replicate (3 - (lg_sl ([.ref h0, .int p1])).length) Slot.unset).toArray = ls at hl ⊢
  have hl : lv_has ls 3 [(0, .ref h0), (1, .int p1)] := hl
  obtain ⟨wt0, ewt0⟩ : ∃ y : Int32, y = gi h0 20 := ⟨_, rfl⟩
  have hF : F_X12_stays τ Z gi gr h0 p1 = F_X12_stays τ Z gi gr h0 p1 := rfl
  refine lv_iload_n hx hb dX12_stays_0 rfl (lv_at hl 1 rfl) ?_
  refine lv_iconst (v := 0) hx hb dX12_stays_1 ic_0 ?_
  refine lv_iconst (v := 1) hx hb dX12_stays_2 ic_1 ?_
  have hA1 := th_Asub (τ := τ) hS
  refine va_calli (va_runS (As := [.int p1, .int 0, .int 1]) (rest := []) ⟨hx, hb, hml, hown, hts⟩ (k_X12_within l D cA Z τ gi gr _ p1 0 1) (va_cwS 3 hts gX12_stays_X12_within rfl rfl rfl (by decide +kernel) ⟨Nat.le_of_ble_eq_true rfl, Nat.le_of_ble_eq_true rfl⟩) ⟨th_blind, (th_pre hH hK hN hZ hS hA1)⟩ rfl rfl hl.1 rfl (lv_room (Nat.le_of_ble_eq_true rfl)) dX12_stays_3 ⟨Nat.le_of_ble_eq_true rfl, Nat.le_of_ble_eq_true rfl⟩) hS (fun q _ h => hA1 q h) hA1 (fun x2 u t H locs ht hvm hw2 hB hz1 hk1 hS => ?_)
  try dsimp only at hw2 hB
  rw [ht] at hB
  have hH := hB
  refine lv_if_ne (tgt := 16) hx hb dX12_stays_6 (th_eqI rfl) (fun c3 => ?_) (fun c3 => ?_)
  · skip
    have f4 : rg 1 1 x2 := rg_w (rg_neL hw2.1 rgc_0 c3) (th_leI rfl) (th_leI rfl)
    have g5 := hw2.2.1 c3
    have f6 : rg 0 2147483647 p1 := rg_w (rg_le rgc_0 (rg_any p1) g5.1).2 (th_leI rfl) (th_leI rfl)
    have f7 : rg 0 1 p1 := rg_w (rg_le f6 rgc_1 g5.2).1 (th_leI rfl) (th_leI rfl)
    refine lv_aload_n hx hb dX12_stays_16 rfl (lv_at hl 0 rfl) ?_
    refine th_get (ci := 11) (v := .int wt0) (T := TX12) (C := RX12) (N := 38) hx hb hts (fun w h => List.mem_cons_of_mem _ (List.mem_append_right _ h)) hown hK hH t_h0 (th_nz rfl) (thE_12 _ _ _) rfl 20 (th_ltN rfl) (hts (.fieldLink RX12 62 "BayMooringsModel" "stays" "I") (List.mem_cons_of_mem _ (List.mem_append_left _ (List.mem_of_getElem? (i := 1) rfl)))) (fun _ h9 => h9) (th_fI ewt0 rfl) dX12_stays_17 ?_
    refine lv_istore_n (i := 2) (lv' := [(2, .int wt0), (0, .ref h0), (1, .int p1)]) hx hb dX12_stays_20 rfl hl (th_ltN rfl) rfl (fun ls hl => ?_)
    refine lv_aload_n hx hb dX12_stays_21 rfl (lv_at hl 1 rfl) ?_
    refine lv_iload_n hx hb dX12_stays_22 rfl (lv_at hl 2 rfl) ?_
    refine th_put (ci := 11) (v := .int p1) (T := TX12) (C := RX12) (N := 38) (ty := .int) (gi' := va_up gi h0 (upd (gi h0) 20 p1)) (gr' := gr) hx hb hts (fun w h => List.mem_cons_of_mem _ (List.mem_append_right _ h)) tyX12 tyX12_ok nmX12 hown hK hH hS t_h0 (th_nz rfl) (Or.inl (th_nzE t_h0 rfl)) rfl rfl 20 (th_ltN rfl) (hts (.fieldLink RX12 62 "BayMooringsModel" "stays" "I") (List.mem_cons_of_mem _ (List.mem_append_left _ (List.mem_of_getElem? (i := 1) rfl)))) (fun _ h9 => h9) rfl (by decide +kernel) rfl rfl (Nat.le_of_ble_eq_true rfl) (by rw [va_up_self]; rfl) (by rw [va_up_self]; show rg 0 12 (gi h0 0) ∧ (∃ q, gr h0 1 = some q ∧ τ q = 40) ∧ (∃ q, gr h0 2 = some q ∧ τ q = 41) ∧ (∃ q, gr h0 3 = some q ∧ τ q = 42) ∧ (∃ q, gr h0 4 = some q ∧ τ q = 43) ∧ (∃ q, gr h0 5 = some q ∧ τ q = 44) ∧ (∃ q, gr h0 6 = some q ∧ τ q = 45) ∧ (∃ q, gr h0 7 = some q ∧ τ q = 46) ∧ rg 0 16 (gi h0 8) ∧ (∃ q, gr h0 9 = some q ∧ τ q = 47) ∧ (∃ q, gr h0 10 = some q ∧ τ q = 48) ∧ (∃ q, gr h0 11 = some q ∧ τ q = 49) ∧ (∃ q, gr h0 12 = some q ∧ τ q = 50) ∧ (∃ q, gr h0 13 = some q ∧ τ q = 51) ∧ (∃ q, gr h0 15 = some q ∧ τ q = 52) ∧ (∃ q, gr h0 16 = some q ∧ τ q = 53) ∧ rg 0 10 (gi h0 17) ∧ (∃ q, gr h0 18 = some q ∧ τ q = 54) ∧ (∃ q, gr h0 19 = some q ∧ τ q = 55) ∧ (∃ q, gr h0 21 = some q ∧ τ q = 56) ∧ (∃ q, gr h0 22 = some q ∧ τ q = 57) ∧ rg 0 24 (gi h0 24) ∧ (∃ q, gr h0 25 = some q ∧ τ q = 58) ∧ (∃ q, gr h0 26 = some q ∧ τ q = 59) ∧ rg 0 5 (gi h0 27) ∧ (∃ q, gr h0 28 = some q ∧ τ q = 60) ∧ (∃ q, gr h0 29 = some q ∧ τ q = 61) ∧ (∃ q, gr h0 30 = some q ∧ τ q = 62) ∧ (∃ q, gr h0 31 = some q ∧ τ q = 63) ∧ (∃ q, gr h0 32 = some q ∧ τ q = 64) ∧ (∃ q, gr h0 34 = some q ∧ τ q = 65) ∧ (∃ q, gr h0 35 = some q ∧ τ q = 66) ∧ (∃ q, gr h0 36 = some q ∧ τ q = 67) ∧ (∃ q, gr h0 37 = some q ∧ τ q = 68); exact ⟨(thI_12 hH t_h0).1, (thI_12 hH t_h0).2.1, (thI_12 hH t_h0).2.2.1, (thI_12 hH t_h0).2.2.2.1, (thI_12 hH t_h0).2.2.2.2.1, (thI_12 hH t_h0).2.2.2.2.2.1, (thI_12 hH t_h0).2.2.2.2.2.2.1, (thI_12 hH t_h0).2.2.2.2.2.2.2.1, (thI_12 hH t_h0).2.2.2.2.2.2.2.2.1, (thI_12 hH t_h0).2.2.2.2.2.2.2.2.2.1, (thI_12 hH t_h0).2.2.2.2.2.2.2.2.2.2.1, (thI_12 hH t_h0).2.2.2.2.2.2.2.2.2.2.2.1, (thI_12 hH t_h0).2.2.2.2.2.2.2.2.2.2.2.2.1, (thI_12 hH t_h0).2.2.2.2.2.2.2.2.2.2.2.2.2.1, (thI_12 hH t_h0).2.2.2.2.2.2.2.2.2.2.2.2.2.2.1, (thI_12 hH t_h0).2.2.2.2.2.2.2.2.2.2.2.2.2.2.2.1, (thI_12 hH t_h0).2.2.2.2.2.2.2.2.2.2.2.2.2.2.2.2.1, (thI_12 hH t_h0).2.2.2.2.2.2.2.2.2.2.2.2.2.2.2.2.2.1, (thI_12 hH t_h0).2.2.2.2.2.2.2.2.2.2.2.2.2.2.2.2.2.2.1, (thI_12 hH t_h0).2.2.2.2.2.2.2.2.2.2.2.2.2.2.2.2.2.2.2.1, (thI_12 hH t_h0).2.2.2.2.2.2.2.2.2.2.2.2.2.2.2.2.2.2.2.2.1, (thI_12 hH t_h0).2.2.2.2.2.2.2.2.2.2.2.2.2.2.2.2.2.2.2.2.2.1, (thI_12 hH t_h0).2.2.2.2.2.2.2.2.2.2.2.2.2.2.2.2.2.2.2.2.2.2.1, (thI_12 hH t_h0).2.2.2.2.2.2.2.2.2.2.2.2.2.2.2.2.2.2.2.2.2.2.2.1, (thI_12 hH t_h0).2.2.2.2.2.2.2.2.2.2.2.2.2.2.2.2.2.2.2.2.2.2.2.2.1, (thI_12 hH t_h0).2.2.2.2.2.2.2.2.2.2.2.2.2.2.2.2.2.2.2.2.2.2.2.2.2.1, (thI_12 hH t_h0).2.2.2.2.2.2.2.2.2.2.2.2.2.2.2.2.2.2.2.2.2.2.2.2.2.2.1, (thI_12 hH t_h0).2.2.2.2.2.2.2.2.2.2.2.2.2.2.2.2.2.2.2.2.2.2.2.2.2.2.2.1, (thI_12 hH t_h0).2.2.2.2.2.2.2.2.2.2.2.2.2.2.2.2.2.2.2.2.2.2.2.2.2.2.2.2.1, (thI_12 hH t_h0).2.2.2.2.2.2.2.2.2.2.2.2.2.2.2.2.2.2.2.2.2.2.2.2.2.2.2.2.2.1, (thI_12 hH t_h0).2.2.2.2.2.2.2.2.2.2.2.2.2.2.2.2.2.2.2.2.2.2.2.2.2.2.2.2.2.2.1, (thI_12 hH t_h0).2.2.2.2.2.2.2.2.2.2.2.2.2.2.2.2.2.2.2.2.2.2.2.2.2.2.2.2.2.2.2.1, (thI_12 hH t_h0).2.2.2.2.2.2.2.2.2.2.2.2.2.2.2.2.2.2.2.2.2.2.2.2.2.2.2.2.2.2.2.2.1, (thI_12 hH t_h0).2.2.2.2.2.2.2.2.2.2.2.2.2.2.2.2.2.2.2.2.2.2.2.2.2.2.2.2.2.2.2.2.2⟩) (fun b hb => ⟨va_up_ne _ _ hb, rfl⟩) dX12_stays_23 (fun H locs hH hS => ?_)
    obtain ⟨gi9, eg9⟩ : ∃ g, g = va_up gi h0 (upd (gi h0) 20 p1) := ⟨_, rfl⟩
    rw [← eg9] at hH
    have hu9 : gi9 h0 20 = p1 := (th_uI eg9).1
    have ho9 : ∀ b j, b ≠ h0 ∨ j ≠ 20 → gi9 b j = gi b j := (th_uI eg9).2
    have hM := hM.i t_h0 (th_mem (a := 1220) rfl) ho9
    refine lv_iload_n hx hb dX12_stays_26 rfl (lv_at hl 0 rfl) ?_
    exact W.iret (v := wt0) hx hb hr (fun t ht hW => ⟨⟨wt0, (gi9, gr), rfl, ⟨hM, rfl, (hF.trans (by simp only [↓reduceIte, F_X12_stays, ← ewt0, hw2.2.2.1, eq_false c3, ← eg9])), (se_yes f7 ((rfl).trans ewt0) (hu9.symm.symm.trans rfl))⟩, th_Ht ht hH⟩, hS.F ht⟩) hS.2.2 dX12_stays_27
  · skip
    have f11 : rg 0 0 x2 := rg_w (rg_eq hw2.1 rgc_0 c3).1 (th_leI rfl) (th_leI rfl)
    refine lv_aload_n hx hb dX12_stays_9 rfl (lv_at hl 0 rfl) ?_
    refine lv_ldc (v := (-1000001)) hx hb hown (hts (.constant RX12 119 (-1000001)) (List.mem_cons_of_mem _ (List.mem_append_left _ (List.mem_of_getElem? (i := 0) rfl)))) dX12_stays_10 ?_
    have hA12 := th_Asub (τ := τ) hS
    refine va_calli (va_runV (As := [.int (-1000001)]) (rest := []) ⟨hx, hb, hml, hown, hts⟩ (k_X12_finding l D cA Z τ gi gr _ h0 t_h0 (-1000001) (rg_w rgc_m1000001 (th_leI rfl) (th_leI rfl))) (cwV 1 hts gX12_stays_X12_finding rfl rfl rfl hd_X12_finding__1 ⟨Nat.le_of_ble_eq_true rfl, Nat.le_of_ble_eq_true rfl⟩) ⟨th_blind, tr_12 hK hH t_h0, (th_pre hH hK hN hZ hS hA12)⟩ rfl rfl hl.1 rfl (lv_room (Nat.le_of_ble_eq_true rfl)) dX12_stays_12 ⟨Nat.le_of_ble_eq_true rfl, Nat.le_of_ble_eq_true rfl⟩) hS (fun q _ h => hA12 q h) hA12 (fun x13 u t H locs ht hvm hw13 hB hz1 hk1 hS => ?_)
    try dsimp only at hw13 hB
    rw [ht] at hB
    have hH := hB
    obtain ⟨gi13, gr13⟩ := u
    try dsimp only at hw13 hH
    obtain rfl : gr = gr13 := (hw13.2.1).symm
    have hM := hM.tr hw13.1 (fun _ h => h) (th_sub rfl)
    have e14 : wt0 = gi13 h0 20 := Eq.trans ewt0 (Eq.symm (hw13.1 h0 20 (th_nzE t_h0 rfl) (th_nmE (key := 1220) t_h0 rfl rfl)).1)
    exact W.iret (v := x13) hx hb hr (fun t ht hW => ⟨⟨x13, (gi13, gr), rfl, ⟨hM, rfl, (hF.trans (by simp only [↓reduceIte, F_X12_stays, ← ewt0, hw2.2.2.1, eq_true c3, hw13.2.2.1])), (se_no (fun h8 => (hw2.2.2.2 c3) (rg_iw (by decide) (by decide) h8)) (hw13.2.2.2.trans (by decide)) (e14.symm.trans ((rfl).trans ewt0)))⟩, th_Ht ht hH⟩, hS.F ht⟩) hS.2.2 dX12_stays_15

noncomputable def f_X12_rather_16 (τ : th_t) (Z : th_Zt) (gi : th_i) (gr : th_r) (h0 : Nat) (p1 : Int32) (p2 : Int32) (gi_16 : th_i) : Int32 × th_i :=
  let u40 : Int32 × th_i := F_X12_finding τ Z gi_16 gr h0 (-1000001)
  let x40 : Int32 := u40.1
  let gi40 : th_i := u40.2
  (x40, gi40)
noncomputable def f_X12_rather_25 (τ : th_t) (Z : th_Zt) (gi : th_i) (gr : th_r) (h0 : Nat) (p1 : Int32) (p2 : Int32) : Nat → th_i → Int32 → Int32 × th_i
  | 0, gi_25, y25_3 => (0, gi_25)
  | n25 + 1, gi_25, y25_3 =>
    let q1 : Nat := (gr h0 21).getD 0
    let x2 : Int32 := gi_25 q1 p1.toNatClampNeg
    if x2 ≤ y25_3 then (
      if x2 = (4 : Int32) then (
        let u25 : Int32 × th_i := F_X12_finding τ Z gi_25 gr h0 (-1000004)
        let x25 : Int32 := u25.1
        let gi25 : th_i := u25.2
        (x25, gi25)) else (
        let q8 : Nat := (gr h0 22).getD 0
        let x9 : Int32 := 4 * p1
        let x12 : Int32 := x9 + x2
        let gi13 : th_i := va_up gi_25 q8 (upd (gi_25 q8) x12.toNatClampNeg p2)
        let x17 : Int32 := x2 + 1
        let gi18 : th_i := va_up gi13 q1 (upd (gi13 q1) p1.toNatClampNeg x17)
        (x17, gi18))) else (
      let q29 : Nat := (gr h0 22).getD 0
      let x30 : Int32 := 4 * p1
      let x31 : Int32 := x30 + y25_3
      let x32 : Int32 := gi_25 q29 x31.toNatClampNeg
      if x32 = p2 then (
        let u36 : Int32 × th_i := F_X12_finding τ Z gi_25 gr h0 (-1000003)
        let x36 : Int32 := u36.1
        let gi36 : th_i := u36.2
        (x36, gi36)) else (
        let x34 : Int32 := y25_3 + 1
        (f_X12_rather_25 τ Z gi gr h0 p1 p2 n25) gi_25 x34))
noncomputable def F_X12_rather (τ : th_t) (Z : th_Zt) (gi : th_i) (gr : th_r) (h0 : Nat) (p1 : Int32) (p2 : Int32) : Int32 × th_i :=
  let x42 : Int32 := F_X12_isBoat τ Z gi gr h0 p1
  if x42 = (0 : Int32) then (
    f_X12_rather_16 τ Z gi gr h0 p1 p2 gi) else (
    let x48 : Int32 := F_X12_isBuoy τ Z gi gr h0 p2
    if x48 = (0 : Int32) then (
      f_X12_rather_16 τ Z gi gr h0 p1 p2 gi) else (
      f_X12_rather_25 τ Z gi gr h0 p1 p2 ((4 - (0 : Int32).toInt).toNat + 1) gi 0))
set_option maxHeartbeats 8000000 in
set_option maxRecDepth 100000 in
theorem k_X12_rather (l : Launch) (D : va_G) (cA : Nat → ClassId) (Z : th_Zt) (τ : th_t) (gi : th_i) (gr : th_r) (sz : Nat) (h0 : Nat) (t_h0 : τ h0 = 12) (p1 : Int32) (p2 : Int32) : Met l yX12_rather wsX12_rather ({ frames := 2, cells := 0, slots := 0, locals := 43 }) (va_Pc [.ref h0, .int p1, .int p2] (th_Pre D cA Z τ gi gr sz)) (va_Qi (fun (r : Int32) (u : th_i × th_r) => th_Mod [5600, 5700, 5900] τ gi gr u.1 u.2 ∧ u.2 = gr ∧ (F_X12_rather τ Z gi gr h0 p1 p2 = (r, u.1))) (fun (u : th_i × th_r) t => th_H D cA τ u.1 u.2 t.heap) (th_A τ sz)) 0 0 (th_A τ sz) := by
  refine Met.ofW (cc := cX12_rather) (maxL := 4) (ret := (some .int)) (by decide) rfl ?_
  intro p e s m args below meth c s₁ B hml hv
  obtain ⟨rfl, hsz, hH, hK, hN, hZ⟩ := hv
  have hx := B.exec
  have hb := B.bytes
  have hr := B.returns
  have hts := atoms_spec (ws := wsX12_rather) B.pre
  have hown : s.vm.findClass RX12 = some m.cls := findClass_of_methodNamed B.named
  have hlocks := B.notSynchronized
  subst hsz
  have hM : th_Mod [5600, 5700, 5900] τ gi gr gi gr := th_Mod.rf
  have J25 : ∀ (n25 : Nat) (gi_25 : th_i) (H : Heap) (locs : List Loc) (ls : Array Slot) (y25_3 : Int32), (4 - y25_3.toInt).toNat < n25 → th_H D cA τ gi_25 gr H → va_S (th_A τ s.heap.size) s.heap H locs → th_Mod [5600, 5700, 5900] τ gi gr gi_25 gr → lv_has ls 4 [(0, .ref h0), (1, .int p1), (2, .int p2), (3, .int y25_3)] → rg 0 15 p1 → rg 0 11 p2 → rg 0 4 y25_3 → F_X12_rather τ Z gi gr h0 p1 p2 = f_X12_rather_25 τ Z gi gr h0 p1 p2 n25 gi_25 y25_3 → W p l e (headSpec wsX12_rather ({ frames := 2, cells := 0, slots := 0, locals := 43 })).room s m [.ref h0, .int p1, .int p2].toArray below meth c H locs 0 0 (MQ below (va_Qi (fun (r : Int32) (u : th_i × th_r) => th_Mod [5600, 5700, 5900] τ gi gr u.1 u.2 ∧ u.2 = gr ∧ (F_X12_rather τ Z gi gr h0 p1 p2 = (r, u.1))) (fun (u : th_i × th_r) t => th_H D cA τ u.1 u.2 t.heap) (th_A τ s.heap.size)) [.ref h0, .int p1, .int p2].toArray s 0 0 (th_A τ s.heap.size)) (F0 m 25 ls []) := by
    intro n25
    induction n25 with
    | zero =>
      intro gi_25 H locs ls y25_3 hn
      exact absurd hn (Nat.not_lt_zero _)
    | succ n25 ih25 =>
      intro gi_25 H locs ls y25_3 hn25 hH hS hM hl fy25_1 fy25_2 fy25_3 hF
      refine lv_iload_n hx hb dX12_rather_25 rfl (lv_at hl 3 rfl) ?_
      refine lv_aload_n hx hb dX12_rather_26 rfl (lv_at hl 0 rfl) ?_
      obtain ⟨q1, r1, t1⟩ : ∃ q, gr h0 21 = some q ∧ τ q = 56 := (thI_12 hH t_h0).2.2.2.2.2.2.2.2.2.2.2.2.2.2.2.2.2.2.2.1
      refine th_get (ci := 11) (v := .ref q1) (T := TX12) (C := RX12) (N := 38) hx hb hts (fun w h => List.mem_cons_of_mem _ (List.mem_append_right _ h)) hown hK hH t_h0 (th_nz rfl) (thE_12 _ _ _) rfl 21 (th_ltN rfl) (hts (.fieldLink RX12 65 "BayMooringsModel" "rathers" "[I") (List.mem_cons_of_mem _ (List.mem_append_left _ (List.mem_append_left _ (List.mem_of_getElem? (i := 1) rfl))))) (fun _ h9 => h9) (th_fR r1 rfl) dX12_rather_27 ?_
      refine lv_iload_n hx hb dX12_rather_30 rfl (lv_at hl 1 rfl) ?_
      refine th_iald hx hb hK hH t1 (th_nz rfl) 0 (thE_56 _ _ _) rfl (rg_in (n := 16) fy25_1 (th_leI rfl) (th_ltI rfl)) dX12_rather_31 ?_
      refine lv_topi (fun x2 e2 => ?_)
      have f2 : rg 0 4 x2 := rg_e e2 ((thI_56 hH t1) _ (rg_cl (n := 16) fy25_1 (th_leI rfl) (th_ltI rfl)))
      refine lv_icmp_ge (tgt := 62) hx hb dX12_rather_32 (th_eqI rfl) (fun c3 => ?_) (fun c3 => ?_)
      · skip
        refine lv_aload_n hx hb dX12_rather_62 rfl (lv_at hl 0 rfl) ?_
        refine th_get (ci := 11) (v := .ref q1) (T := TX12) (C := RX12) (N := 38) hx hb hts (fun w h => List.mem_cons_of_mem _ (List.mem_append_right _ h)) hown hK hH t_h0 (th_nz rfl) (thE_12 _ _ _) rfl 21 (th_ltN rfl) (hts (.fieldLink RX12 65 "BayMooringsModel" "rathers" "[I") (List.mem_cons_of_mem _ (List.mem_append_left _ (List.mem_append_left _ (List.mem_of_getElem? (i := 1) rfl))))) (fun _ h9 => h9) (th_fR r1 rfl) dX12_rather_63 ?_
        refine lv_iload_n hx hb dX12_rather_66 rfl (lv_at hl 1 rfl) ?_
        refine th_iald hx hb hK hH t1 (th_nz rfl) 0 (thE_56 _ _ _) rfl (rg_in (n := 16) fy25_1 (th_leI rfl) (th_ltI rfl)) dX12_rather_67 ?_
        rw [← e2]
        refine lv_iconst (v := 4) hx hb dX12_rather_68 ic_4 ?_
        refine lv_icmp_ne (tgt := 79) hx hb dX12_rather_69 (th_eqI rfl) (fun c6 => ?_) (fun c6 => ?_)
        · skip
          have f7 : rg 0 3 x2 := rg_w (rg_neR f2 rgc_4 c6) (th_leI rfl) (th_leI rfl)
          refine lv_aload_n hx hb dX12_rather_79 rfl (lv_at hl 0 rfl) ?_
          obtain ⟨q8, r8, t8⟩ : ∃ q, gr h0 22 = some q ∧ τ q = 57 := (thI_12 hH t_h0).2.2.2.2.2.2.2.2.2.2.2.2.2.2.2.2.2.2.2.2.1
          refine th_get (ci := 11) (v := .ref q8) (T := TX12) (C := RX12) (N := 38) hx hb hts (fun w h => List.mem_cons_of_mem _ (List.mem_append_right _ h)) hown hK hH t_h0 (th_nz rfl) (thE_12 _ _ _) rfl 22 (th_ltN rfl) (hts (.fieldLink RX12 68 "BayMooringsModel" "rather" "[I") (List.mem_cons_of_mem _ (List.mem_append_left _ (List.mem_append_left _ (List.mem_of_getElem? (i := 2) rfl))))) (fun _ h9 => h9) (th_fR r8 rfl) dX12_rather_80 ?_
          refine lv_iconst (v := 4) hx hb dX12_rather_83 ic_4 ?_
          refine lv_iload_n hx hb dX12_rather_84 rfl (lv_at hl 1 rfl) ?_
          refine lv_imul hx hb dX12_rather_85 ?_
          refine lv_topi (fun x9 e9 => ?_)
          have f9 : rg 0 60 x9 := rg_e e9 (rg_w (rg_mul rgc_4 fy25_1 (th_leI rfl) (th_leI rfl) (th_leI rfl)) (th_leI rfl) (th_leI rfl))
          refine lv_aload_n hx hb dX12_rather_86 rfl (lv_at hl 0 rfl) ?_
          refine th_get (ci := 11) (v := .ref q1) (T := TX12) (C := RX12) (N := 38) hx hb hts (fun w h => List.mem_cons_of_mem _ (List.mem_append_right _ h)) hown hK hH t_h0 (th_nz rfl) (thE_12 _ _ _) rfl 21 (th_ltN rfl) (hts (.fieldLink RX12 65 "BayMooringsModel" "rathers" "[I") (List.mem_cons_of_mem _ (List.mem_append_left _ (List.mem_append_left _ (List.mem_of_getElem? (i := 1) rfl))))) (fun _ h9 => h9) (th_fR r1 rfl) dX12_rather_87 ?_
          refine lv_iload_n hx hb dX12_rather_90 rfl (lv_at hl 1 rfl) ?_
          refine th_iald hx hb hK hH t1 (th_nz rfl) 0 (thE_56 _ _ _) rfl (rg_in (n := 16) fy25_1 (th_leI rfl) (th_ltI rfl)) dX12_rather_91 ?_
          rw [← e2]
          refine lv_iadd hx hb dX12_rather_92 ?_
          refine lv_topi (fun x12 e12 => ?_)
          have f12 : rg 0 63 x12 := rg_e e12 (rg_w (rg_add f9 f7 (th_leI rfl) (th_leI rfl)) (th_leI rfl) (th_leI rfl))
          refine lv_iload_n hx hb dX12_rather_93 rfl (lv_at hl 2 rfl) ?_
          refine th_iast hx hb hK hH hS t8 (th_nz rfl) (Or.inl (th_nzE t8 rfl)) 0 (fun _ => thE_57 _ _ _) rfl (rg_in (n := 64) f12 (th_leI rfl) (th_ltI rfl)) (th_ai (P := rg 0 11) (thI_57 hH t8) fy25_2) dX12_rather_94 (fun gi13 H locs hu13 ho13 hH hS => ?_)
          have eg13 : gi13 = va_up gi_25 q8 (upd (gi_25 q8) x12.toNatClampNeg p2) := th_upE hu13 ho13
          have e14 : x2 = gi13 q1 (p1.toNatClampNeg) := Eq.trans e2 (Eq.symm (ho13 _ _ (Or.inl (th_ne t1 t8 (th_nz rfl)))))
          have hM := hM.i t8 (th_mem (a := 5700) rfl) ho13
          refine lv_aload_n hx hb dX12_rather_95 rfl (lv_at hl 0 rfl) ?_
          refine th_get (ci := 11) (v := .ref q1) (T := TX12) (C := RX12) (N := 38) hx hb hts (fun w h => List.mem_cons_of_mem _ (List.mem_append_right _ h)) hown hK hH t_h0 (th_nz rfl) (thE_12 _ _ _) rfl 21 (th_ltN rfl) (hts (.fieldLink RX12 65 "BayMooringsModel" "rathers" "[I") (List.mem_cons_of_mem _ (List.mem_append_left _ (List.mem_append_left _ (List.mem_of_getElem? (i := 1) rfl))))) (fun _ h9 => h9) (th_fR r1 rfl) dX12_rather_96 ?_
          refine lv_iload_n hx hb dX12_rather_99 rfl (lv_at hl 1 rfl) ?_
          refine lv_dup2_11 hx hb dX12_rather_100 rfl rfl ?_
          refine th_iald hx hb hK hH t1 (th_nz rfl) 0 (thE_56 _ _ _) rfl (rg_in (n := 16) fy25_1 (th_leI rfl) (th_ltI rfl)) dX12_rather_101 ?_
          rw [← e14]
          refine lv_iconst (v := 1) hx hb dX12_rather_102 ic_1 ?_
          refine lv_iadd hx hb dX12_rather_103 ?_
          refine lv_topi (fun x17 e17 => ?_)
          have f17 : rg 1 4 x17 := rg_e e17 (rg_w (rg_add f7 rgc_1 (th_leI rfl) (th_leI rfl)) (th_leI rfl) (th_leI rfl))
          refine th_iast hx hb hK hH hS t1 (th_nz rfl) (Or.inl (th_nzE t1 rfl)) 0 (fun _ => thE_56 _ _ _) rfl (rg_in (n := 16) fy25_1 (th_leI rfl) (th_ltI rfl)) (th_ai (P := rg 0 4) (thI_56 hH t1) (rg_w f17 (th_leI rfl) (th_leI rfl))) dX12_rather_104 (fun gi18 H locs hu18 ho18 hH hS => ?_)
          have eg18 : gi18 = va_up gi13 q1 (upd (gi13 q1) p1.toNatClampNeg x17) := th_upE hu18 ho18
          have e20 : p2 = gi18 q8 (x12.toNatClampNeg) := Eq.trans hu13.symm (Eq.symm (ho18 _ _ (Or.inl (th_ne t8 t1 (th_nz rfl)))))
          have hM := hM.i t1 (th_mem (a := 5600) rfl) ho18
          refine lv_aload_n hx hb dX12_rather_105 rfl (lv_at hl 0 rfl) ?_
          refine th_get (ci := 11) (v := .ref q1) (T := TX12) (C := RX12) (N := 38) hx hb hts (fun w h => List.mem_cons_of_mem _ (List.mem_append_right _ h)) hown hK hH t_h0 (th_nz rfl) (thE_12 _ _ _) rfl 21 (th_ltN rfl) (hts (.fieldLink RX12 65 "BayMooringsModel" "rathers" "[I") (List.mem_cons_of_mem _ (List.mem_append_left _ (List.mem_append_left _ (List.mem_of_getElem? (i := 1) rfl))))) (fun _ h9 => h9) (th_fR r1 rfl) dX12_rather_106 ?_
          refine lv_iload_n hx hb dX12_rather_109 rfl (lv_at hl 1 rfl) ?_
          refine th_iald hx hb hK hH t1 (th_nz rfl) 0 (thE_56 _ _ _) rfl (rg_in (n := 16) fy25_1 (th_leI rfl) (th_ltI rfl)) dX12_rather_110 ?_
          rw [← hu18.symm]
          exact W.iret (v := x17) hx hb hr (fun t ht hW => ⟨⟨x17, (gi18, gr), rfl, ⟨hM, rfl, (hF.trans (by simp only [↓reduceIte, f_X12_rather_25, r1, Option.getD_some, ← e2, eq_true c3, eq_false c6, r8, ← e9, ← e12, ← eg13, ← e17, ← eg18]))⟩, th_Ht ht hH⟩, hS.F ht⟩) hS.2.2 dX12_rather_111
        · skip
          have f23 : rg 4 4 x2 := rg_w (rg_eq f2 rgc_4 c6).1 (th_leI rfl) (th_leI rfl)
          refine lv_aload_n hx hb dX12_rather_72 rfl (lv_at hl 0 rfl) ?_
          refine lv_ldc (v := (-1000004)) hx hb hown (hts (.constant RX12 124 (-1000004)) (List.mem_cons_of_mem _ (List.mem_append_left _ (List.mem_append_left _ (List.mem_of_getElem? (i := 4) rfl))))) dX12_rather_73 ?_
          have hA24 := th_Asub (τ := τ) hS
          refine va_calli (va_runV (As := [.int (-1000004)]) (rest := []) ⟨hx, hb, hml, hown, hts⟩ (k_X12_finding l D cA Z τ gi_25 gr _ h0 t_h0 (-1000004) (rg_w rgc_m1000004 (th_leI rfl) (th_leI rfl))) (cwV 1 hts gX12_rather_X12_finding rfl rfl rfl hd_X12_finding__1 ⟨Nat.le_of_ble_eq_true rfl, Nat.le_of_ble_eq_true rfl⟩) ⟨th_blind, tr_12 hK hH t_h0, (th_pre hH hK hN hZ hS hA24)⟩ rfl rfl hl.1 rfl (lv_room (Nat.le_of_ble_eq_true rfl)) dX12_rather_75 ⟨Nat.le_of_ble_eq_true rfl, Nat.le_of_ble_eq_true rfl⟩) hS (fun q _ h => hA24 q h) hA24 (fun x25 u t H locs ht hvm hw25 hB hz1 hk1 hS => ?_)
          try dsimp only at hw25 hB
          rw [ht] at hB
          have hH := hB
          obtain ⟨gi25, gr25⟩ := u
          try dsimp only at hw25 hH
          obtain rfl : gr = gr25 := (hw25.2.1).symm
          have hM := hM.tr hw25.1 (fun _ h => h) (th_sub rfl)
          have e26 : x2 = gi25 q1 (p1.toNatClampNeg) := Eq.trans e2 (Eq.symm (hw25.1 q1 (p1.toNatClampNeg) (th_nzE t1 rfl) (th_nmE (key := 5600) t1 rfl rfl)).1)
          exact W.iret (v := x25) hx hb hr (fun t ht hW => ⟨⟨x25, (gi25, gr), rfl, ⟨hM, rfl, (hF.trans (by simp only [↓reduceIte, f_X12_rather_25, r1, Option.getD_some, ← e2, eq_true c3, eq_true c6, hw25.2.2.1]))⟩, th_Ht ht hH⟩, hS.F ht⟩) hS.2.2 dX12_rather_78
      · skip
        have f27 : rg 1 4 x2 := rg_w (rg_nle f2 fy25_3 c3).1 (th_leI rfl) (th_leI rfl)
        have f28 : rg 0 3 y25_3 := rg_w (rg_nle f2 fy25_3 c3).2 (th_leI rfl) (th_leI rfl)
        refine lv_aload_n hx hb dX12_rather_35 rfl (lv_at hl 0 rfl) ?_
        obtain ⟨q29, r29, t29⟩ : ∃ q, gr h0 22 = some q ∧ τ q = 57 := (thI_12 hH t_h0).2.2.2.2.2.2.2.2.2.2.2.2.2.2.2.2.2.2.2.2.1
        refine th_get (ci := 11) (v := .ref q29) (T := TX12) (C := RX12) (N := 38) hx hb hts (fun w h => List.mem_cons_of_mem _ (List.mem_append_right _ h)) hown hK hH t_h0 (th_nz rfl) (thE_12 _ _ _) rfl 22 (th_ltN rfl) (hts (.fieldLink RX12 68 "BayMooringsModel" "rather" "[I") (List.mem_cons_of_mem _ (List.mem_append_left _ (List.mem_append_left _ (List.mem_of_getElem? (i := 2) rfl))))) (fun _ h9 => h9) (th_fR r29 rfl) dX12_rather_36 ?_
        refine lv_iconst (v := 4) hx hb dX12_rather_39 ic_4 ?_
        refine lv_iload_n hx hb dX12_rather_40 rfl (lv_at hl 1 rfl) ?_
        refine lv_imul hx hb dX12_rather_41 ?_
        refine lv_topi (fun x30 e30 => ?_)
        have f30 : rg 0 60 x30 := rg_e e30 (rg_w (rg_mul rgc_4 fy25_1 (th_leI rfl) (th_leI rfl) (th_leI rfl)) (th_leI rfl) (th_leI rfl))
        refine lv_iload_n hx hb dX12_rather_42 rfl (lv_at hl 3 rfl) ?_
        refine lv_iadd hx hb dX12_rather_43 ?_
        refine lv_topi (fun x31 e31 => ?_)
        have f31 : rg 0 63 x31 := rg_e e31 (rg_w (rg_add f30 f28 (th_leI rfl) (th_leI rfl)) (th_leI rfl) (th_leI rfl))
        refine th_iald hx hb hK hH t29 (th_nz rfl) 0 (thE_57 _ _ _) rfl (rg_in (n := 64) f31 (th_leI rfl) (th_ltI rfl)) dX12_rather_44 ?_
        refine lv_topi (fun x32 e32 => ?_)
        have f32 : rg 0 11 x32 := rg_e e32 ((thI_57 hH t29) _ (rg_cl (n := 64) f31 (th_leI rfl) (th_ltI rfl)))
        refine lv_iload_n hx hb dX12_rather_45 rfl (lv_at hl 2 rfl) ?_
        refine lv_icmp_ne (tgt := 56) hx hb dX12_rather_46 (th_eqI rfl) (fun c33 => ?_) (fun c33 => ?_)
        · skip
          obtain ⟨x34, e34⟩ : ∃ y : Int32, y = y25_3 + 1 := ⟨_, rfl⟩
          have f34 : rg 1 4 x34 := rg_e e34 (rg_w (rg_add f28 rgc_1 (th_leI rfl) (th_leI rfl)) (th_leI rfl) (th_leI rfl))
          refine lv_iinc (v := x34) (lv' := [(3, .int x34), (0, .ref h0), (1, .int p1), (2, .int p2)]) hx hb dX12_rather_56 hl (k := 3) rfl (by rw [e34]; rfl) (th_ltN rfl) rfl (fun ls hl => ?_)
          refine lv_goto (tgt := 25) hx hb dX12_rather_59 (th_eqI rfl) ?_
          exact ih25 gi_25 _ _ _ x34 (th_up (rg_dA e34 f28 rgc_1 (th_leI rfl) (th_leI rfl)) f28 hn25 (th_ltI rfl)) hH hS hM (lv_sub hl [1, 2, 3, 0] rfl) fy25_1 fy25_2 (rg_w f34 (th_leI rfl) (th_leI rfl)) (hF.trans (by simp only [↓reduceIte, f_X12_rather_25, r1, Option.getD_some, ← e2, eq_false c3, r29, ← e30, ← e31, ← e32, eq_false c33, ← e34]))
        · skip
          refine lv_aload_n hx hb dX12_rather_49 rfl (lv_at hl 0 rfl) ?_
          refine lv_ldc (v := (-1000003)) hx hb hown (hts (.constant RX12 186 (-1000003)) (List.mem_cons_of_mem _ (List.mem_append_left _ (List.mem_append_left _ (List.mem_of_getElem? (i := 3) rfl))))) dX12_rather_50 ?_
          have hA35 := th_Asub (τ := τ) hS
          refine va_calli (va_runV (As := [.int (-1000003)]) (rest := []) ⟨hx, hb, hml, hown, hts⟩ (k_X12_finding l D cA Z τ gi_25 gr _ h0 t_h0 (-1000003) (rg_w rgc_m1000003 (th_leI rfl) (th_leI rfl))) (cwV 1 hts gX12_rather_X12_finding rfl rfl rfl hd_X12_finding__1 ⟨Nat.le_of_ble_eq_true rfl, Nat.le_of_ble_eq_true rfl⟩) ⟨th_blind, tr_12 hK hH t_h0, (th_pre hH hK hN hZ hS hA35)⟩ rfl rfl hl.1 rfl (lv_room (Nat.le_of_ble_eq_true rfl)) dX12_rather_52 ⟨Nat.le_of_ble_eq_true rfl, Nat.le_of_ble_eq_true rfl⟩) hS (fun q _ h => hA35 q h) hA35 (fun x36 u t H locs ht hvm hw36 hB hz1 hk1 hS => ?_)
          try dsimp only at hw36 hB
          rw [ht] at hB
          have hH := hB
          obtain ⟨gi36, gr36⟩ := u
          try dsimp only at hw36 hH
          obtain rfl : gr = gr36 := (hw36.2.1).symm
          have hM := hM.tr hw36.1 (fun _ h => h) (th_sub rfl)
          have e37 : x2 = gi36 q1 (p1.toNatClampNeg) := Eq.trans e2 (Eq.symm (hw36.1 q1 (p1.toNatClampNeg) (th_nzE t1 rfl) (th_nmE (key := 5600) t1 rfl rfl)).1)
          have e38 : x32 = gi36 q29 (x31.toNatClampNeg) := Eq.trans e32 (Eq.symm (hw36.1 q29 (x31.toNatClampNeg) (th_nzE t29 rfl) (th_nmE (key := 5700) t29 rfl rfl)).1)
          exact W.iret (v := x36) hx hb hr (fun t ht hW => ⟨⟨x36, (gi36, gr), rfl, ⟨hM, rfl, (hF.trans (by simp only [↓reduceIte, f_X12_rather_25, r1, Option.getD_some, ← e2, eq_false c3, r29, ← e30, ← e31, ← e32, eq_true c33, hw36.2.2.1]))⟩, th_Ht ht hH⟩, hS.F ht⟩) hS.2.2 dX12_rather_55
  have J16 : ∀ (gi_16 : th_i) (H : Heap) (locs : List Loc) (ls : Array Slot), th_H D cA τ gi_16 gr H → va_S (th_A τ s.heap.size) s.heap H locs → th_Mod [5600, 5700, 5900] τ gi gr gi_16 gr → lv_has ls 4 [(0, .ref h0)] → F_X12_rather τ Z gi gr h0 p1 p2 = f_X12_rather_16 τ Z gi gr h0 p1 p2 gi_16 → W p l e (headSpec wsX12_rather ({ frames := 2, cells := 0, slots := 0, locals := 43 })).room s m [.ref h0, .int p1, .int p2].toArray below meth c H locs 0 0 (MQ below (va_Qi (fun (r : Int32) (u : th_i × th_r) => th_Mod [5600, 5700, 5900] τ gi gr u.1 u.2 ∧ u.2 = gr ∧ (F_X12_rather τ Z gi gr h0 p1 p2 = (r, u.1))) (fun (u : th_i × th_r) t => th_H D cA τ u.1 u.2 t.heap) (th_A τ s.heap.size)) [.ref h0, .int p1, .int p2].toArray s 0 0 (th_A τ s.heap.size)) (F0 m 16 ls []) := by
    intro gi_16 H locs ls hH hS hM hl hF
    refine lv_aload_n hx hb dX12_rather_16 rfl (lv_at hl 0 rfl) ?_
    refine lv_ldc (v := (-1000001)) hx hb hown (hts (.constant RX12 119 (-1000001)) (List.mem_cons_of_mem _ (List.mem_append_left _ (List.mem_append_left _ (List.mem_of_getElem? (i := 0) rfl))))) dX12_rather_17 ?_
    have hA39 := th_Asub (τ := τ) hS
    refine va_calli (va_runV (As := [.int (-1000001)]) (rest := []) ⟨hx, hb, hml, hown, hts⟩ (k_X12_finding l D cA Z τ gi_16 gr _ h0 t_h0 (-1000001) (rg_w rgc_m1000001 (th_leI rfl) (th_leI rfl))) (cwV 1 hts gX12_rather_X12_finding rfl rfl rfl hd_X12_finding__1 ⟨Nat.le_of_ble_eq_true rfl, Nat.le_of_ble_eq_true rfl⟩) ⟨th_blind, tr_12 hK hH t_h0, (th_pre hH hK hN hZ hS hA39)⟩ rfl rfl hl.1 rfl (lv_room (Nat.le_of_ble_eq_true rfl)) dX12_rather_19 ⟨Nat.le_of_ble_eq_true rfl, Nat.le_of_ble_eq_true rfl⟩) hS (fun q _ h => hA39 q h) hA39 (fun x40 u t H locs ht hvm hw40 hB hz1 hk1 hS => ?_)
    try dsimp only at hw40 hB
    rw [ht] at hB
    have hH := hB
    obtain ⟨gi40, gr40⟩ := u
    try dsimp only at hw40 hH
    obtain rfl : gr = gr40 := (hw40.2.1).symm
    have hM := hM.tr hw40.1 (fun _ h => h) (th_sub rfl)
    exact W.iret (v := x40) hx hb hr (fun t ht hW => ⟨⟨x40, (gi40, gr), rfl, ⟨hM, rfl, (hF.trans (by simp only [f_X12_rather_16, hw40.2.2.1]))⟩, th_Ht ht hH⟩, hS.F ht⟩) hS.2.2 dX12_rather_22
  have hS : va_S (th_A τ s.heap.size) s.heap s.heap [] := va_S.rf
  have hl := lv_entry ([.ref h0, .int p1, .int p2]) (n := 4) (Nat.le_of_ble_eq_true rfl)
  rw [lg_entry_eq]
  generalize (lg_sl ([.ref h0, .int p1, .int p2]) ++ List.replicate (4 - (lg_sl ([.ref h0, .int p1, .int p2])).length) Slot.unset).toArray = ls at hl ⊢
  have hl : lv_has ls 4 [(0, .ref h0), (1, .int p1), (2, .int p2)] := hl
  have hF : F_X12_rather τ Z gi gr h0 p1 p2 = F_X12_rather τ Z gi gr h0 p1 p2 := rfl
  refine lv_aload_n hx hb dX12_rather_0 rfl (lv_at hl 0 rfl) ?_
  refine lv_iload_n hx hb dX12_rather_1 rfl (lv_at hl 1 rfl) ?_
  have hA41 := th_Asub (τ := τ) hS
  refine va_calli (va_runV (As := [.int p1]) (rest := []) ⟨hx, hb, hml, hown, hts⟩ (k_X12_isBoat l D cA Z τ gi gr _ h0 t_h0 p1) (cwV 1 hts gX12_rather_X12_isBoat rfl rfl rfl hd_X12_isBoat__1 ⟨Nat.le_of_ble_eq_true rfl, Nat.le_of_ble_eq_true rfl⟩) ⟨th_blind, tr_12 hK hH t_h0, (th_pre hH hK hN hZ hS hA41)⟩ rfl rfl hl.1 rfl (lv_room (Nat.le_of_ble_eq_true rfl)) dX12_rather_2 ⟨Nat.le_of_ble_eq_true rfl, Nat.le_of_ble_eq_true rfl⟩) hS (fun q _ h => hA41 q h) hA41 (fun x42 u t H locs ht hvm hw42 hB hz1 hk1 hS => ?_)
  try dsimp only at hw42 hB
  rw [ht] at hB
  have hH := hB
  refine lv_if_eq (tgt := 16) hx hb dX12_rather_5 (th_eqI rfl) (fun c43 => ?_) (fun c43 => ?_)
  · skip
    have f44 : rg 0 0 x42 := rg_w (rg_eq hw42.1 rgc_0 c43).1 (th_leI rfl) (th_leI rfl)
    exact J16 gi _ _ _ hH hS hM (lv_sub hl [0] rfl) (hF.trans (by simp only [↓reduceIte, F_X12_rather, hw42.2.2, eq_true c43]))
  · skip
    have f45 : rg 1 1 x42 := rg_w (rg_neL hw42.1 rgc_0 c43) (th_leI rfl) (th_leI rfl)
    have f46 : rg 0 15 p1 := rg_w (hw42.2.1 c43) (th_leI rfl) (th_leI rfl)
    refine lv_aload_n hx hb dX12_rather_8 rfl (lv_at hl 0 rfl) ?_
    refine lv_iload_n hx hb dX12_rather_9 rfl (lv_at hl 2 rfl) ?_
    have hA47 := th_Asub (τ := τ) hS
    refine va_calli (va_runV (As := [.int p2]) (rest := []) ⟨hx, hb, hml, hown, hts⟩ (k_X12_isBuoy l D cA Z τ gi gr _ h0 t_h0 p2) (cwV 1 hts gX12_rather_X12_isBuoy rfl rfl rfl hd_X12_isBuoy__1 ⟨Nat.le_of_ble_eq_true rfl, Nat.le_of_ble_eq_true rfl⟩) ⟨th_blind, tr_12 hK hH t_h0, (th_pre hH hK hN hZ hS hA47)⟩ rfl rfl hl.1 rfl (lv_room (Nat.le_of_ble_eq_true rfl)) dX12_rather_10 ⟨Nat.le_of_ble_eq_true rfl, Nat.le_of_ble_eq_true rfl⟩) hS (fun q _ h => hA47 q h) hA47 (fun x48 u t H locs ht hvm hw48 hB hz1 hk1 hS => ?_)
    try dsimp only at hw48 hB
    rw [ht] at hB
    have hH := hB
    refine lv_if_ne (tgt := 23) hx hb dX12_rather_13 (th_eqI rfl) (fun c49 => ?_) (fun c49 => ?_)
    · skip
      have f50 : rg 1 1 x48 := rg_w (rg_neL hw48.1 rgc_0 c49) (th_leI rfl) (th_leI rfl)
      have f51 : rg 0 11 p2 := rg_w (hw48.2.1 c49) (th_leI rfl) (th_leI rfl)
      refine lv_iconst (v := 0) hx hb dX12_rather_23 ic_0 ?_
      refine lv_istore_n (i := 3) (lv' := [(3, .int 0), (0, .ref h0), (1, .int p1), (2, .int p2)]) hx hb dX12_rather_24 rfl hl (th_ltN rfl) rfl (fun ls hl => ?_)
      exact J25 _ gi _ _ _ 0 (Nat.lt_add_one _) hH hS hM (lv_sub hl [1, 2, 3, 0] rfl) f46 f51 (rg_w rgc_0 (th_leI rfl) (th_leI rfl)) (hF.trans (by simp only [↓reduceIte, F_X12_rather, hw42.2.2, eq_false c43, hw48.2.2, eq_false c49]))
    · skip
      have f52 : rg 0 0 x48 := rg_w (rg_eq hw48.1 rgc_0 c49).1 (th_leI rfl) (th_leI rfl)
      exact J16 gi _ _ _ hH hS hM (lv_sub hl [0] rfl) (hF.trans (by simp only [↓reduceIte, F_X12_rather, hw42.2.2, eq_false c43, hw48.2.2, eq_true c49]))

noncomputable def F_X12_content (τ : th_t) (Z : th_Zt) (gi : th_i) (gr : th_r) (h0 : Nat) (p1 : Int32) : Int32 × th_i :=
  let x2 : Int32 := F_X12_isBoat τ Z gi gr h0 p1
  if x2 = (0 : Int32) then (
    let u13 : Int32 × th_i := F_X12_finding τ Z gi gr h0 (-1000001)
    let x13 : Int32 := u13.1
    let gi13 : th_i := u13.2
    (x13, gi13)) else (
    let q6 : Nat := (gr h0 21).getD 0
    let x7 : Int32 := gi q6 p1.toNatClampNeg
    let gi9 : th_i := va_up gi q6 (upd (gi q6) p1.toNatClampNeg 0)
    (x7, gi9))
set_option maxHeartbeats 8000000 in
set_option maxRecDepth 100000 in
theorem k_X12_content (l : Launch) (D : va_G) (cA : Nat → ClassId) (Z : th_Zt) (τ : th_t) (gi : th_i) (gr : th_r) (sz : Nat) (h0 : Nat) (t_h0 : τ h0 = 12) (p1 : Int32) : Met l yX12_content wsX12_content ({ frames := 2, cells := 0, slots := 0, locals := 43 }) (va_Pc [.ref h0, .int p1] (th_Pre D cA Z τ gi gr sz)) (va_Qi (fun (r : Int32) (u : th_i × th_r) => th_Mod [5600, 5900] τ gi gr u.1 u.2 ∧ u.2 = gr ∧ (F_X12_content τ Z gi gr h0 p1 = (r, u.1))) (fun (u : th_i × th_r) t => th_H D cA τ u.1 u.2 t.heap) (th_A τ sz)) 0 0 (th_A τ sz) := by
  refine Met.ofW (cc := cX12_content) (maxL := 3) (ret := (some .int)) (by decide) rfl ?_
  intro p e s m args below meth c s₁ B hml hv
  obtain ⟨rfl, hsz, hH, hK, hN, hZ⟩ := hv
  have hx := B.exec
  have hb := B.bytes
  have hr := B.returns
  have hts := atoms_spec (ws := wsX12_content) B.pre
  have hown : s.vm.findClass RX12 = some m.cls := findClass_of_methodNamed B.named
  have hlocks := B.notSynchronized
  subst hsz
  have hM : th_Mod [5600, 5900] τ gi gr gi gr := th_Mod.rf
  have hS : va_S (th_A τ s.heap.size) s.heap s.heap [] := va_S.rf
  have hl := lv_entry ([.ref h0, .int p1]) (n := 3) (Nat.le_of_ble_eq_true rfl)
  rw [lg_entry_eq]
  generalize (lg_sl ([.ref h0, .int p1]) ++ List.replicate (3 - (lg_sl ([.ref h0, .int p1])).length) Slot.unset).toArray = ls at hl ⊢
  have hl : lv_has ls 3 [(0, .ref h0), (1, .int p1)] := hl
  have hF : F_X12_content τ Z gi gr h0 p1 = F_X12_content τ Z gi gr h0 p1 := rfl
  refine lv_aload_n hx hb dX12_content_0 rfl (lv_at hl 0 rfl) ?_
  refine lv_iload_n hx hb dX12_content_1 rfl (lv_at hl 1 rfl) ?_
  have hA1 := th_Asub (τ := τ) hS
  refine va_calli (va_runV (As := [.int p1]) (rest := []) ⟨hx, hb, hml, hown, hts⟩ (k_X12_isBoat l D cA Z τ gi gr _ h0 t_h0 p1) (cwV 1 hts gX12_content_X12_isBoat rfl rfl rfl hd_X12_isBoat__1 ⟨Nat.le_of_ble_eq_true rfl, Nat.le_of_ble_eq_true rfl⟩) ⟨th_blind, tr_12 hK hH t_h0, (th_pre hH hK hN hZ hS hA1)⟩ rfl rfl hl.1 rfl (lv_room (Nat.le_of_ble_eq_true rfl)) dX12_content_2 ⟨Nat.le_of_ble_eq_true rfl, Nat.le_of_ble_eq_true rfl⟩) hS (fun q _ h => hA1 q h) hA1 (fun x2 u t H locs ht hvm hw2 hB hz1 hk1 hS => ?_)
  try dsimp only at hw2 hB
  rw [ht] at hB
  have hH := hB
  refine lv_if_ne (tgt := 15) hx hb dX12_content_5 (th_eqI rfl) (fun c3 => ?_) (fun c3 => ?_)
  · skip
    have f4 : rg 1 1 x2 := rg_w (rg_neL hw2.1 rgc_0 c3) (th_leI rfl) (th_leI rfl)
    have f5 : rg 0 15 p1 := rg_w (hw2.2.1 c3) (th_leI rfl) (th_leI rfl)
    refine lv_aload_n hx hb dX12_content_15 rfl (lv_at hl 0 rfl) ?_
    obtain ⟨q6, r6, t6⟩ : ∃ q, gr h0 21 = some q ∧ τ q = 56 := (thI_12 hH t_h0).2.2.2.2.2.2.2.2.2.2.2.2.2.2.2.2.2.2.2.1
    refine th_get (ci := 11) (v := .ref q6) (T := TX12) (C := RX12) (N := 38) hx hb hts (fun w h => List.mem_cons_of_mem _ (List.mem_append_right _ h)) hown hK hH t_h0 (th_nz rfl) (thE_12 _ _ _) rfl 21 (th_ltN rfl) (hts (.fieldLink RX12 65 "BayMooringsModel" "rathers" "[I") (List.mem_cons_of_mem _ (List.mem_append_left _ (List.mem_of_getElem? (i := 1) rfl)))) (fun _ h9 => h9) (th_fR r6 rfl) dX12_content_16 ?_
    refine lv_iload_n hx hb dX12_content_19 rfl (lv_at hl 1 rfl) ?_
    refine th_iald hx hb hK hH t6 (th_nz rfl) 0 (thE_56 _ _ _) rfl (rg_in (n := 16) f5 (th_leI rfl) (th_ltI rfl)) dX12_content_20 ?_
    refine lv_topi (fun x7 e7 => ?_)
    have f7 : rg 0 4 x7 := rg_e e7 ((thI_56 hH t6) _ (rg_cl (n := 16) f5 (th_leI rfl) (th_ltI rfl)))
    refine lv_istore_n (i := 2) (lv' := [(2, .int x7), (0, .ref h0), (1, .int p1)]) hx hb dX12_content_21 rfl hl (th_ltN rfl) rfl (fun ls hl => ?_)
    refine lv_aload_n hx hb dX12_content_22 rfl (lv_at hl 1 rfl) ?_
    refine th_get (ci := 11) (v := .ref q6) (T := TX12) (C := RX12) (N := 38) hx hb hts (fun w h => List.mem_cons_of_mem _ (List.mem_append_right _ h)) hown hK hH t_h0 (th_nz rfl) (thE_12 _ _ _) rfl 21 (th_ltN rfl) (hts (.fieldLink RX12 65 "BayMooringsModel" "rathers" "[I") (List.mem_cons_of_mem _ (List.mem_append_left _ (List.mem_of_getElem? (i := 1) rfl)))) (fun _ h9 => h9) (th_fR r6 rfl) dX12_content_23 ?_
    refine lv_iload_n hx hb dX12_content_26 rfl (lv_at hl 2 rfl) ?_
    refine lv_iconst (v := 0) hx hb dX12_content_27 ic_0 ?_
    refine th_iast hx hb hK hH hS t6 (th_nz rfl) (Or.inl (th_nzE t6 rfl)) 0 (fun _ => thE_56 _ _ _) rfl (rg_in (n := 16) f5 (th_leI rfl) (th_ltI rfl)) (th_ai (P := rg 0 4) (thI_56 hH t6) (rg_w rgc_0 (th_leI rfl) (th_leI rfl))) dX12_content_28 (fun gi9 H locs hu9 ho9 hH hS => ?_)
    have eg9 : gi9 = va_up gi q6 (upd (gi q6) p1.toNatClampNeg 0) := th_upE hu9 ho9
    have hM := hM.i t6 (th_mem (a := 5600) rfl) ho9
    refine lv_iload_n hx hb dX12_content_29 rfl (lv_at hl 0 rfl) ?_
    exact W.iret (v := x7) hx hb hr (fun t ht hW => ⟨⟨x7, (gi9, gr), rfl, ⟨hM, rfl, (hF.trans (by simp only [↓reduceIte, F_X12_content, hw2.2.2, eq_false c3, r6, Option.getD_some, ← e7, ← eg9]))⟩, th_Ht ht hH⟩, hS.F ht⟩) hS.2.2 dX12_content_30
  · skip
    have f11 : rg 0 0 x2 := rg_w (rg_eq hw2.1 rgc_0 c3).1 (th_leI rfl) (th_leI rfl)
    refine lv_aload_n hx hb dX12_content_8 rfl (lv_at hl 0 rfl) ?_
    refine lv_ldc (v := (-1000001)) hx hb hown (hts (.constant RX12 119 (-1000001)) (List.mem_cons_of_mem _ (List.mem_append_left _ (List.mem_of_getElem? (i := 0) rfl)))) dX12_content_9 ?_
    have hA12 := th_Asub (τ := τ) hS
    refine va_calli (va_runV (As := [.int (-1000001)]) (rest := []) ⟨hx, hb, hml, hown, hts⟩ (k_X12_finding l D cA Z τ gi gr _ h0 t_h0 (-1000001) (rg_w rgc_m1000001 (th_leI rfl) (th_leI rfl))) (cwV 1 hts gX12_content_X12_finding rfl rfl rfl hd_X12_finding__1 ⟨Nat.le_of_ble_eq_true rfl, Nat.le_of_ble_eq_true rfl⟩) ⟨th_blind, tr_12 hK hH t_h0, (th_pre hH hK hN hZ hS hA12)⟩ rfl rfl hl.1 rfl (lv_room (Nat.le_of_ble_eq_true rfl)) dX12_content_11 ⟨Nat.le_of_ble_eq_true rfl, Nat.le_of_ble_eq_true rfl⟩) hS (fun q _ h => hA12 q h) hA12 (fun x13 u t H locs ht hvm hw13 hB hz1 hk1 hS => ?_)
    try dsimp only at hw13 hB
    rw [ht] at hB
    have hH := hB
    obtain ⟨gi13, gr13⟩ := u
    try dsimp only at hw13 hH
    obtain rfl : gr = gr13 := (hw13.2.1).symm
    have hM := hM.tr hw13.1 (fun _ h => h) (th_sub rfl)
    exact W.iret (v := x13) hx hb hr (fun t ht hW => ⟨⟨x13, (gi13, gr), rfl, ⟨hM, rfl, (hF.trans (by simp only [↓reduceIte, F_X12_content, hw2.2.2, eq_true c3, hw13.2.2.1]))⟩, th_Ht ht hH⟩, hS.F ht⟩) hS.2.2 dX12_content_14
