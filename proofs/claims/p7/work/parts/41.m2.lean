noncomputable def f_X12_root_2 (τ : th_t) (Z : th_Zt) (gi : th_i) (gr : th_r) (p0 : Int32) : Nat → Int32 → Int32
  | 0, y2_1 => 0
  | n2 + 1, y2_1 =>
    let x1 : Int32 := y2_1 + 1
    let x3 : Int32 := x1 * x1
    if p0 < x3 then (
      y2_1) else (
      (f_X12_root_2 τ Z gi gr p0 n2) x1)
noncomputable def F_X12_root (τ : th_t) (Z : th_Zt) (gi : th_i) (gr : th_r) (p0 : Int32) : Int32 :=
  f_X12_root_2 τ Z gi gr p0 ((400 - (0 : Int32).toInt).toNat + 1) 0
set_option maxHeartbeats 8000000 in
set_option maxRecDepth 100000 in
theorem k_X12_root (l : Launch) (D : va_G) (cA : Nat → ClassId) (Z : th_Zt) (τ : th_t) (gi : th_i) (gr : th_r) (sz : Nat) (p0 : Int32) (f_p0 : rg (-250000) 160000 p0) : Met l yX12_root wsX12_root ({ frames := 0, cells := 0, slots := 0, locals := 0 }) (va_Pc [.int p0] (th_Pre D cA Z τ gi gr sz)) (va_Qi (fun (r : Int32) (_ : Unit) => (F_X12_root τ Z gi gr p0 = r)) (fun (_ : Unit) t => th_H D cA τ gi gr t.heap) (th_A τ sz)) 0 0 (th_A τ sz) := by
  refine Met.ofW (cc := cX12_root) (maxL := 2) (ret := (some .int)) (by decide) rfl ?_
  intro p e s m args below meth c s₁ B hml hv
  obtain ⟨rfl, hsz, hH, hK, hN, hZ⟩ := hv
  have hx := B.exec
  have hb := B.bytes
  have hr := B.returns
  have hts := atoms_spec (ws := wsX12_root) B.pre
  have hown : s.vm.findClass RX12 = some m.cls := findClass_of_methodNamed B.named
  have hlocks := B.notSynchronized
  subst hsz
  have J2 : ∀ (n2 : Nat) (H : Heap) (locs : List Loc) (ls : Array Slot) (y2_1 : Int32), (400 - y2_1.toInt).toNat < n2 → th_H D cA τ gi gr H → va_S (th_A τ s.heap.size) s.heap H locs → lv_has ls 2 [(0, .int p0), (1, .int y2_1)] → rg (-250000) 160000 p0 → rg 0 400 y2_1 → F_X12_root τ Z gi gr p0 = f_X12_root_2 τ Z gi gr p0 n2 y2_1 → W p l e (headSpec wsX12_root ({ frames := 0, cells := 0, slots := 0, locals := 0 })).room s m [.int p0].toArray below meth c H locs 0 0 (MQ below (va_Qi (fun (r : Int32) (_ : Unit) => (F_X12_root τ Z gi gr p0 = r)) (fun (_ : Unit) t => th_H D cA τ gi gr t.heap) (th_A τ s.heap.size)) [.int p0].toArray s 0 0 (th_A τ s.heap.size)) (F0 m 2 ls []) := by
    intro n2
    induction n2 with
    | zero =>
      intro H locs ls y2_1 hn
      exact absurd hn (Nat.not_lt_zero _)
    | succ n2 ih2 =>
      intro H locs ls y2_1 hn2 hH hS hl fy2_0 fy2_1 hF
      refine lv_iload_n hx hb dX12_root_2 rfl (lv_at hl 1 rfl) ?_
      refine lv_iconst (v := 1) hx hb dX12_root_3 ic_1 ?_
      refine lv_iadd hx hb dX12_root_4 ?_
      refine lv_topi (fun x1 e1 => ?_)
      have f1 : rg 1 401 x1 := rg_e e1 (rg_w (rg_add fy2_1 rgc_1 (th_leI rfl) (th_leI rfl)) (th_leI rfl) (th_leI rfl))
      refine lv_iload_n hx hb dX12_root_5 rfl (lv_at hl 1 rfl) ?_
      refine lv_iconst (v := 1) hx hb dX12_root_6 ic_1 ?_
      refine lv_iadd hx hb dX12_root_7 ?_
      refine lv_topi (fun x2 e2 => ?_)
      obtain rfl : x1 = x2 := e1.trans e2.symm
      refine lv_imul hx hb dX12_root_8 ?_
      refine lv_topi (fun x3 e3 => ?_)
      have f3 : rg 1 160801 x3 := rg_e e3 (rg_w (rg_mul f1 f1 (th_leI rfl) (th_leI rfl) (th_leI rfl)) (th_leI rfl) (th_leI rfl))
      refine lv_iload_n hx hb dX12_root_9 rfl (lv_at hl 0 rfl) ?_
      refine lv_icmp_gt (tgt := 19) hx hb dX12_root_10 (th_eqI rfl) (fun c4 => ?_) (fun c4 => ?_)
      · skip
        refine lv_iload_n hx hb dX12_root_19 rfl (lv_at hl 1 rfl) ?_
        exact W.iret (v := y2_1) hx hb hr (fun t ht hW => ⟨⟨y2_1, (), rfl, (hF.trans (by simp only [↓reduceIte, f_X12_root_2, ← e1, ← e3, eq_true c4])), th_Ht ht hH⟩, hS.F ht⟩) hS.2.2 dX12_root_20
      · skip
        have f5 : rg 1 160000 p0 := rg_w (rg_nlt fy2_0 f3 c4).1 (th_leI rfl) (th_leI rfl)
        have f6 : rg 1 160000 x3 := rg_w (rg_nlt fy2_0 f3 c4).2 (th_leI rfl) (th_leI rfl)
        refine lv_iinc (v := x1) (lv' := [(1, .int x1), (0, .int p0)]) hx hb dX12_root_13 hl (k := 1) rfl (by rw [e1]; rfl) (th_ltN rfl) rfl (fun ls hl => ?_)
        refine lv_goto (tgt := 2) hx hb dX12_root_16 (th_eqI rfl) ?_
        have f8 : rg 1 400 x1 := ⟨by have := (f1).1; have := ((th_root (rg_dA e1 fy2_1 rgc_1 (th_leI rfl) (th_leI rfl)) (rg_dA e1 fy2_1 rgc_1 (th_leI rfl) (th_leI rfl)) e3 fy2_1 f6 (rg_dA e1 fy2_1 rgc_1 (th_leI rfl) (th_leI rfl)))).1; omega, by have := (f1).2; have := ((th_root (rg_dA e1 fy2_1 rgc_1 (th_leI rfl) (th_leI rfl)) (rg_dA e1 fy2_1 rgc_1 (th_leI rfl) (th_leI rfl)) e3 fy2_1 f6 (rg_dA e1 fy2_1 rgc_1 (th_leI rfl) (th_leI rfl)))).2; omega⟩
        have f9 : rg 0 399 y2_1 := rg_back (rg_dA e1 fy2_1 rgc_1 (th_leI rfl) (th_leI rfl)) fy2_1 f8 (by decide) (by decide)
        exact ih2 _ _ _ x1 (th_up (rg_dA e1 fy2_1 rgc_1 (th_leI rfl) (th_leI rfl)) f9 hn2 (th_ltI rfl)) hH hS (lv_sub hl [1, 0] rfl) (rg_w f5 (th_leI rfl) (th_leI rfl)) (rg_w f8 (th_leI rfl) (th_leI rfl)) (hF.trans (by simp only [↓reduceIte, f_X12_root_2, ← e1, ← e3, eq_false c4]))
  have hS : va_S (th_A τ s.heap.size) s.heap s.heap [] := va_S.rf
  have hl := lv_entry ([.int p0]) (n := 2) (Nat.le_of_ble_eq_true rfl)
  rw [lg_entry_eq]
  generalize (lg_sl ([.int p0]) ++ List.replicate (2 - (lg_sl ([.int p0])).length) Slot.unset).toArray = ls at hl ⊢
  have hl : lv_has ls 2 [(0, .int p0)] := hl
  have hF : F_X12_root τ Z gi gr p0 = F_X12_root τ Z gi gr p0 := rfl
  refine lv_iconst (v := 0) hx hb dX12_root_0 ic_0 ?_
  refine lv_istore_n (i := 1) (lv' := [(1, .int 0), (0, .int p0)]) hx hb dX12_root_1 rfl hl (th_ltN rfl) rfl (fun ls hl => ?_)
  exact J2 _ _ _ _ 0 (Nat.lt_add_one _) hH hS (lv_sub hl [1, 0] rfl) f_p0 (rg_w rgc_0 (th_leI rfl) (th_leI rfl)) (hF.trans (by simp only [F_X12_root]))

noncomputable def F_X12_slackOf (τ : th_t) (Z : th_Zt) (gi : th_i) (gr : th_r) (h0 : Nat) (p1 : Int32) (p2 : Int32) : Int32 :=
  let q1 : Nat := (gr h0 3).getD 0
  let x2 : Int32 := gi q1 p1.toNatClampNeg
  let q3 : Nat := (gr h0 13).getD 0
  let x4 : Int32 := gi q3 p2.toNatClampNeg
  let x5 : Int32 := x2 + x4
  let q6 : Nat := (gr h0 4).getD 0
  let x7 : Int32 := gi q6 p1.toNatClampNeg
  if x5 < x7 then (
    let x15 : Int32 := x7 * x7
    let x16 : Int32 := x5 * x5
    let x17 : Int32 := x15 - x16
    let x19 : Int32 := F_X12_root τ Z gi gr x17
    x19) else (
    0)
set_option maxHeartbeats 8000000 in
set_option maxRecDepth 100000 in
theorem k_X12_slackOf (l : Launch) (D : va_G) (cA : Nat → ClassId) (Z : th_Zt) (τ : th_t) (gi : th_i) (gr : th_r) (sz : Nat) (h0 : Nat) (t_h0 : τ h0 = 12) (p1 : Int32) (f_p1 : rg 0 11 p1) (p2 : Int32) (f_p2 : rg 0 23 p2) : Met l yX12_slackOf wsX12_slackOf ({ frames := 1, cells := 0, slots := 0, locals := 21 }) (va_Pc [.ref h0, .int p1, .int p2] (th_Pre D cA Z τ gi gr sz)) (va_Qi (fun (r : Int32) (_ : Unit) => (F_X12_slackOf τ Z gi gr h0 p1 p2 = r)) (fun (_ : Unit) t => th_H D cA τ gi gr t.heap) (th_A τ sz)) 0 0 (th_A τ sz) := by
  refine Met.ofW (cc := cX12_slackOf) (maxL := 4) (ret := (some .int)) (by decide) rfl ?_
  intro p e s m args below meth c s₁ B hml hv
  obtain ⟨rfl, hsz, hH, hK, hN, hZ⟩ := hv
  have hx := B.exec
  have hb := B.bytes
  have hr := B.returns
  have hts := atoms_spec (ws := wsX12_slackOf) B.pre
  have hown : s.vm.findClass RX12 = some m.cls := findClass_of_methodNamed B.named
  have hlocks := B.notSynchronized
  subst hsz
  have hS : va_S (th_A τ s.heap.size) s.heap s.heap [] := va_S.rf
  have hl := lv_entry ([.ref h0, .int p1, .int p2]) (n := 4) (Nat.le_of_ble_eq_true rfl)
  rw [lg_entry_eq]
  generalize (lg_sl ([.ref h0, .int p1, .int p2]) ++ List.replicate (4 - (lg_sl ([.ref h0, .int p1, .int p2])).length) Slot.unset).toArray = ls at hl ⊢
  have hl : lv_has ls 4 [(0, .ref h0), (1, .int p1), (2, .int p2)] := hl
  have hF : F_X12_slackOf τ Z gi gr h0 p1 p2 = F_X12_slackOf τ Z gi gr h0 p1 p2 := rfl
  refine lv_aload_n hx hb dX12_slackOf_0 rfl (lv_at hl 0 rfl) ?_
  obtain ⟨q1, r1, t1⟩ : ∃ q, gr h0 3 = some q ∧ τ q = 42 := (thI_12 hH t_h0).2.2.2.1
  refine th_get (ci := 11) (v := .ref q1) (T := TX12) (C := RX12) (N := 38) hx hb hts (fun w h => List.mem_cons_of_mem _ (List.mem_append_right _ h)) hown hK hH t_h0 (th_nz rfl) (thE_12 _ _ _) rfl 3 (th_ltN rfl) (hts (.fieldLink RX12 16 "BayMooringsModel" "depth" "[I") (List.mem_cons_of_mem _ (List.mem_append_left _ (List.mem_of_getElem? (i := 0) rfl)))) (fun _ h9 => h9) (th_fR r1 rfl) dX12_slackOf_1 ?_
  refine lv_iload_n hx hb dX12_slackOf_4 rfl (lv_at hl 1 rfl) ?_
  refine th_iald hx hb hK hH t1 (th_nz rfl) 0 (thE_42 _ _ _) rfl (rg_in (n := 12) f_p1 (th_leI rfl) (th_ltI rfl)) dX12_slackOf_5 ?_
  refine lv_topi (fun x2 e2 => ?_)
  have f2 : rg 0 300 x2 := rg_e e2 ((thI_42 hH t1) _ (rg_cl (n := 12) f_p1 (th_leI rfl) (th_ltI rfl)))
  refine lv_aload_n hx hb dX12_slackOf_6 rfl (lv_at hl 0 rfl) ?_
  obtain ⟨q3, r3, t3⟩ : ∃ q, gr h0 13 = some q ∧ τ q = 51 := (thI_12 hH t_h0).2.2.2.2.2.2.2.2.2.2.2.2.2.1
  refine th_get (ci := 11) (v := .ref q3) (T := TX12) (C := RX12) (N := 38) hx hb hts (fun w h => List.mem_cons_of_mem _ (List.mem_append_right _ h)) hown hK hH t_h0 (th_nz rfl) (thE_12 _ _ _) rfl 13 (th_ltN rfl) (hts (.fieldLink RX12 43 "BayMooringsModel" "tides" "[I") (List.mem_cons_of_mem _ (List.mem_append_left _ (List.mem_of_getElem? (i := 1) rfl)))) (fun _ h9 => h9) (th_fR r3 rfl) dX12_slackOf_7 ?_
  refine lv_iload_n hx hb dX12_slackOf_10 rfl (lv_at hl 2 rfl) ?_
  refine th_iald hx hb hK hH t3 (th_nz rfl) 0 (thE_51 _ _ _) rfl (rg_in (n := 24) f_p2 (th_leI rfl) (th_ltI rfl)) dX12_slackOf_11 ?_
  refine lv_topi (fun x4 e4 => ?_)
  have f4 : rg 0 200 x4 := rg_e e4 ((thI_51 hH t3) _ (rg_cl (n := 24) f_p2 (th_leI rfl) (th_ltI rfl)))
  refine lv_iadd hx hb dX12_slackOf_12 ?_
  refine lv_topi (fun x5 e5 => ?_)
  have f5 : rg 0 500 x5 := rg_e e5 (rg_w (rg_add f2 f4 (th_leI rfl) (th_leI rfl)) (th_leI rfl) (th_leI rfl))
  refine lv_istore_n (i := 3) (lv' := [(3, .int x5), (0, .ref h0), (1, .int p1), (2, .int p2)]) hx hb dX12_slackOf_13 rfl hl (th_ltN rfl) rfl (fun ls hl => ?_)
  refine lv_iload_n hx hb dX12_slackOf_14 rfl (lv_at hl 0 rfl) ?_
  refine lv_aload_n hx hb dX12_slackOf_15 rfl (lv_at hl 1 rfl) ?_
  obtain ⟨q6, r6, t6⟩ : ∃ q, gr h0 4 = some q ∧ τ q = 43 := (thI_12 hH t_h0).2.2.2.2.1
  refine th_get (ci := 11) (v := .ref q6) (T := TX12) (C := RX12) (N := 38) hx hb hts (fun w h => List.mem_cons_of_mem _ (List.mem_append_right _ h)) hown hK hH t_h0 (th_nz rfl) (thE_12 _ _ _) rfl 4 (th_ltN rfl) (hts (.fieldLink RX12 19 "BayMooringsModel" "chain" "[I") (List.mem_cons_of_mem _ (List.mem_append_left _ (List.mem_of_getElem? (i := 2) rfl)))) (fun _ h9 => h9) (th_fR r6 rfl) dX12_slackOf_16 ?_
  refine lv_iload_n hx hb dX12_slackOf_19 rfl (lv_at hl 2 rfl) ?_
  refine th_iald hx hb hK hH t6 (th_nz rfl) 0 (thE_43 _ _ _) rfl (rg_in (n := 12) f_p1 (th_leI rfl) (th_ltI rfl)) dX12_slackOf_20 ?_
  refine lv_topi (fun x7 e7 => ?_)
  have f7 : rg 0 400 x7 := rg_e e7 ((thI_43 hH t6) _ (rg_cl (n := 12) f_p1 (th_leI rfl) (th_ltI rfl)))
  refine lv_icmp_lt (tgt := 28) hx hb dX12_slackOf_21 (th_eqI rfl) (fun c8 => ?_) (fun c8 => ?_)
  · skip
    have f9 : rg 0 399 x5 := rg_w (rg_lt f5 f7 c8).1 (th_leI rfl) (th_leI rfl)
    have f10 : rg 1 400 x7 := rg_w (rg_lt f5 f7 c8).2 (th_leI rfl) (th_leI rfl)
    refine lv_aload_n hx hb dX12_slackOf_28 rfl (lv_at hl 1 rfl) ?_
    refine th_get (ci := 11) (v := .ref q6) (T := TX12) (C := RX12) (N := 38) hx hb hts (fun w h => List.mem_cons_of_mem _ (List.mem_append_right _ h)) hown hK hH t_h0 (th_nz rfl) (thE_12 _ _ _) rfl 4 (th_ltN rfl) (hts (.fieldLink RX12 19 "BayMooringsModel" "chain" "[I") (List.mem_cons_of_mem _ (List.mem_append_left _ (List.mem_of_getElem? (i := 2) rfl)))) (fun _ h9 => h9) (th_fR r6 rfl) dX12_slackOf_29 ?_
    refine lv_iload_n hx hb dX12_slackOf_32 rfl (lv_at hl 2 rfl) ?_
    refine th_iald hx hb hK hH t6 (th_nz rfl) 0 (thE_43 _ _ _) rfl (rg_in (n := 12) f_p1 (th_leI rfl) (th_ltI rfl)) dX12_slackOf_33 ?_
    rw [← e7]
    refine lv_aload_n hx hb dX12_slackOf_34 rfl (lv_at hl 1 rfl) ?_
    refine th_get (ci := 11) (v := .ref q6) (T := TX12) (C := RX12) (N := 38) hx hb hts (fun w h => List.mem_cons_of_mem _ (List.mem_append_right _ h)) hown hK hH t_h0 (th_nz rfl) (thE_12 _ _ _) rfl 4 (th_ltN rfl) (hts (.fieldLink RX12 19 "BayMooringsModel" "chain" "[I") (List.mem_cons_of_mem _ (List.mem_append_left _ (List.mem_of_getElem? (i := 2) rfl)))) (fun _ h9 => h9) (th_fR r6 rfl) dX12_slackOf_35 ?_
    refine lv_iload_n hx hb dX12_slackOf_38 rfl (lv_at hl 2 rfl) ?_
    refine th_iald hx hb hK hH t6 (th_nz rfl) 0 (thE_43 _ _ _) rfl (rg_in (n := 12) f_p1 (th_leI rfl) (th_ltI rfl)) dX12_slackOf_39 ?_
    rw [← e7]
    refine lv_imul hx hb dX12_slackOf_40 ?_
    refine lv_topi (fun x15 e15 => ?_)
    have f15 : rg 1 160000 x15 := rg_e e15 (rg_w (rg_mul f10 f10 (th_leI rfl) (th_leI rfl) (th_leI rfl)) (th_leI rfl) (th_leI rfl))
    refine lv_iload_n hx hb dX12_slackOf_41 rfl (lv_at hl 0 rfl) ?_
    refine lv_iload_n hx hb dX12_slackOf_42 rfl (lv_at hl 0 rfl) ?_
    refine lv_imul hx hb dX12_slackOf_43 ?_
    refine lv_topi (fun x16 e16 => ?_)
    have f16 : rg 0 159201 x16 := rg_e e16 (rg_w (rg_mul f9 f9 (th_leI rfl) (th_leI rfl) (th_leI rfl)) (th_leI rfl) (th_leI rfl))
    refine lv_isub hx hb dX12_slackOf_44 ?_
    refine lv_topi (fun x17 e17 => ?_)
    have f17 : rg (-159200) 160000 x17 := rg_e e17 (rg_w (rg_sub f15 f16 (th_leI rfl) (th_leI rfl)) (th_leI rfl) (th_leI rfl))
    have hA18 := th_Asub (τ := τ) hS
    refine va_calli (va_runS (As := [.int x17]) (rest := []) ⟨hx, hb, hml, hown, hts⟩ (k_X12_root l D cA Z τ gi gr _ x17 (rg_w f17 (th_leI rfl) (th_leI rfl))) (va_cwS 1 hts gX12_slackOf_X12_root rfl rfl rfl (by decide +kernel) ⟨Nat.le_of_ble_eq_true rfl, Nat.le_of_ble_eq_true rfl⟩) ⟨th_blind, (th_pre hH hK hN hZ hS hA18)⟩ rfl rfl hl.1 rfl (lv_room (Nat.le_of_ble_eq_true rfl)) dX12_slackOf_45 ⟨Nat.le_of_ble_eq_true rfl, Nat.le_of_ble_eq_true rfl⟩) hS (fun q _ h => hA18 q h) hA18 (fun x19 u t H locs ht hvm hw19 hB hz1 hk1 hS => ?_)
    try dsimp only at hw19 hB
    rw [ht] at hB
    have hH := hB
    exact W.iret (v := x19) hx hb hr (fun t ht hW => ⟨⟨x19, (), rfl, (hF.trans (by simp only [↓reduceIte, F_X12_slackOf, r1, Option.getD_some, ← e2, r3, ← e4, ← e5, r6, ← e7, eq_true c8, ← e15, ← e16, ← e17, hw19])), th_Ht ht hH⟩, hS.F ht⟩) hS.2.2 dX12_slackOf_48
  · skip
    refine lv_iconst (v := 0) hx hb dX12_slackOf_24 ic_0 ?_
    refine lv_goto (tgt := 48) hx hb dX12_slackOf_25 (th_eqI rfl) ?_
    exact W.iret (v := 0) hx hb hr (fun t ht hW => ⟨⟨0, (), rfl, (hF.trans (by simp only [↓reduceIte, F_X12_slackOf, r1, Option.getD_some, ← e2, r3, ← e4, ← e5, r6, ← e7, eq_false c8])), th_Ht ht hH⟩, hS.F ht⟩) hS.2.2 dX12_slackOf_48

noncomputable def F_X12_reachOf (τ : th_t) (Z : th_Zt) (gi : th_i) (gr : th_r) (h0 : Nat) (p1 : Int32) : Int32 :=
  let q1 : Nat := (gr h0 9).getD 0
  let x2 : Int32 := gi q1 p1.toNatClampNeg
  if x2 = (1 : Int32) then (
    let q7 : Nat := (gr h0 10).getD 0
    let x8 : Int32 := gi q7 p1.toNatClampNeg
    let x11 : Int32 := x8 / 2
    let x12 : Int32 := x8 + x11
    x12) else (
    let q4 : Nat := (gr h0 10).getD 0
    let x5 : Int32 := gi q4 p1.toNatClampNeg
    x5)
set_option maxHeartbeats 8000000 in
set_option maxRecDepth 100000 in
theorem k_X12_reachOf (l : Launch) (D : va_G) (cA : Nat → ClassId) (Z : th_Zt) (τ : th_t) (gi : th_i) (gr : th_r) (sz : Nat) (h0 : Nat) (t_h0 : τ h0 = 12) (p1 : Int32) (f_p1 : rg 0 15 p1) : Met l yX12_reachOf wsX12_reachOf ({ frames := 0, cells := 0, slots := 0, locals := 0 }) (va_Pc [.ref h0, .int p1] (th_Pre D cA Z τ gi gr sz)) (va_Qi (fun (r : Int32) (_ : Unit) => (F_X12_reachOf τ Z gi gr h0 p1 = r)) (fun (_ : Unit) t => th_H D cA τ gi gr t.heap) (th_A τ sz)) 0 0 (th_A τ sz) := by
  refine Met.ofW (cc := cX12_reachOf) (maxL := 2) (ret := (some .int)) (by decide) rfl ?_
  intro p e s m args below meth c s₁ B hml hv
  obtain ⟨rfl, hsz, hH, hK, hN, hZ⟩ := hv
  have hx := B.exec
  have hb := B.bytes
  have hr := B.returns
  have hts := atoms_spec (ws := wsX12_reachOf) B.pre
  have hown : s.vm.findClass RX12 = some m.cls := findClass_of_methodNamed B.named
  have hlocks := B.notSynchronized
  subst hsz
  have hS : va_S (th_A τ s.heap.size) s.heap s.heap [] := va_S.rf
  have hl := lv_entry ([.ref h0, .int p1]) (n := 2) (Nat.le_of_ble_eq_true rfl)
  rw [lg_entry_eq]
  generalize (lg_sl ([.ref h0, .int p1]) ++ List.replicate (2 - (lg_sl ([.ref h0, .int p1])).length) Slot.unset).toArray = ls at hl ⊢
  have hl : lv_has ls 2 [(0, .ref h0), (1, .int p1)] := hl
  have hF : F_X12_reachOf τ Z gi gr h0 p1 = F_X12_reachOf τ Z gi gr h0 p1 := rfl
  refine lv_aload_n hx hb dX12_reachOf_0 rfl (lv_at hl 0 rfl) ?_
  obtain ⟨q1, r1, t1⟩ : ∃ q, gr h0 9 = some q ∧ τ q = 47 := (thI_12 hH t_h0).2.2.2.2.2.2.2.2.2.1
  refine th_get (ci := 11) (v := .ref q1) (T := TX12) (C := RX12) (N := 38) hx hb hts (fun w h => List.mem_cons_of_mem _ (List.mem_append_right _ h)) hown hK hH t_h0 (th_nz rfl) (thE_12 _ _ _) rfl 9 (th_ltN rfl) (hts (.fieldLink RX12 31 "BayMooringsModel" "kindOf" "[I") (List.mem_cons_of_mem _ (List.mem_append_left _ (List.mem_of_getElem? (i := 0) rfl)))) (fun _ h9 => h9) (th_fR r1 rfl) dX12_reachOf_1 ?_
  refine lv_iload_n hx hb dX12_reachOf_4 rfl (lv_at hl 1 rfl) ?_
  refine th_iald hx hb hK hH t1 (th_nz rfl) 0 (thE_47 _ _ _) rfl (rg_in (n := 16) f_p1 (th_leI rfl) (th_ltI rfl)) dX12_reachOf_5 ?_
  refine lv_topi (fun x2 e2 => ?_)
  refine lv_iconst (v := 1) hx hb dX12_reachOf_6 ic_1 ?_
  refine lv_icmp_ne (tgt := 28) hx hb dX12_reachOf_7 (th_eqI rfl) (fun c3 => ?_) (fun c3 => ?_)
  · skip
    refine lv_aload_n hx hb dX12_reachOf_28 rfl (lv_at hl 0 rfl) ?_
    obtain ⟨q4, r4, t4⟩ : ∃ q, gr h0 10 = some q ∧ τ q = 48 := (thI_12 hH t_h0).2.2.2.2.2.2.2.2.2.2.1
    refine th_get (ci := 11) (v := .ref q4) (T := TX12) (C := RX12) (N := 38) hx hb hts (fun w h => List.mem_cons_of_mem _ (List.mem_append_right _ h)) hown hK hH t_h0 (th_nz rfl) (thE_12 _ _ _) rfl 10 (th_ltN rfl) (hts (.fieldLink RX12 34 "BayMooringsModel" "lengthOf" "[I") (List.mem_cons_of_mem _ (List.mem_append_left _ (List.mem_of_getElem? (i := 1) rfl)))) (fun _ h9 => h9) (th_fR r4 rfl) dX12_reachOf_29 ?_
    refine lv_iload_n hx hb dX12_reachOf_32 rfl (lv_at hl 1 rfl) ?_
    refine th_iald hx hb hK hH t4 (th_nz rfl) 0 (thE_48 _ _ _) rfl (rg_in (n := 16) f_p1 (th_leI rfl) (th_ltI rfl)) dX12_reachOf_33 ?_
    refine lv_topi (fun x5 e5 => ?_)
    exact W.iret (v := x5) hx hb hr (fun t ht hW => ⟨⟨x5, (), rfl, (hF.trans (by simp only [↓reduceIte, F_X12_reachOf, r1, Option.getD_some, ← e2, eq_false c3, r4, ← e5])), th_Ht ht hH⟩, hS.F ht⟩) hS.2.2 dX12_reachOf_34
  · skip
    have f6 : rg 1 1 x2 := rg_w (rg_eq (rg_any x2) rgc_1 c3).1 (th_leI rfl) (th_leI rfl)
    refine lv_aload_n hx hb dX12_reachOf_10 rfl (lv_at hl 0 rfl) ?_
    obtain ⟨q7, r7, t7⟩ : ∃ q, gr h0 10 = some q ∧ τ q = 48 := (thI_12 hH t_h0).2.2.2.2.2.2.2.2.2.2.1
    refine th_get (ci := 11) (v := .ref q7) (T := TX12) (C := RX12) (N := 38) hx hb hts (fun w h => List.mem_cons_of_mem _ (List.mem_append_right _ h)) hown hK hH t_h0 (th_nz rfl) (thE_12 _ _ _) rfl 10 (th_ltN rfl) (hts (.fieldLink RX12 34 "BayMooringsModel" "lengthOf" "[I") (List.mem_cons_of_mem _ (List.mem_append_left _ (List.mem_of_getElem? (i := 1) rfl)))) (fun _ h9 => h9) (th_fR r7 rfl) dX12_reachOf_11 ?_
    refine lv_iload_n hx hb dX12_reachOf_14 rfl (lv_at hl 1 rfl) ?_
    refine th_iald hx hb hK hH t7 (th_nz rfl) 0 (thE_48 _ _ _) rfl (rg_in (n := 16) f_p1 (th_leI rfl) (th_ltI rfl)) dX12_reachOf_15 ?_
    refine lv_topi (fun x8 e8 => ?_)
    refine lv_aload_n hx hb dX12_reachOf_16 rfl (lv_at hl 0 rfl) ?_
    refine th_get (ci := 11) (v := .ref q7) (T := TX12) (C := RX12) (N := 38) hx hb hts (fun w h => List.mem_cons_of_mem _ (List.mem_append_right _ h)) hown hK hH t_h0 (th_nz rfl) (thE_12 _ _ _) rfl 10 (th_ltN rfl) (hts (.fieldLink RX12 34 "BayMooringsModel" "lengthOf" "[I") (List.mem_cons_of_mem _ (List.mem_append_left _ (List.mem_of_getElem? (i := 1) rfl)))) (fun _ h9 => h9) (th_fR r7 rfl) dX12_reachOf_17 ?_
    refine lv_iload_n hx hb dX12_reachOf_20 rfl (lv_at hl 1 rfl) ?_
    refine th_iald hx hb hK hH t7 (th_nz rfl) 0 (thE_48 _ _ _) rfl (rg_in (n := 16) f_p1 (th_leI rfl) (th_ltI rfl)) dX12_reachOf_21 ?_
    rw [← e8]
    refine lv_iconst (v := 2) hx hb dX12_reachOf_22 ic_2 ?_
    refine lv_idiv hx hb dX12_reachOf_23 (rg_ne0 rgc_2 (Or.inl (th_ltI rfl))) ?_
    refine lv_topi (fun x11 e11 => ?_)
    refine lv_iadd hx hb dX12_reachOf_24 ?_
    refine lv_topi (fun x12 e12 => ?_)
    refine lv_goto (tgt := 34) hx hb dX12_reachOf_25 (th_eqI rfl) ?_
    exact W.iret (v := x12) hx hb hr (fun t ht hW => ⟨⟨x12, (), rfl, (hF.trans (by simp only [↓reduceIte, F_X12_reachOf, r1, Option.getD_some, ← e2, eq_true c3, r7, ← e8, ← e11, ← e12])), th_Ht ht hH⟩, hS.F ht⟩) hS.2.2 dX12_reachOf_34

noncomputable def f_X12_out_26 (τ : th_t) (Z : th_Zt) (gi : th_i) (gr : th_r) (h0 : Nat) (p1 : Int32) (p2 : Int32) (p3 : Int32) (gi_26 : th_i) : Int32 × th_i :=
  let u2 : Int32 × th_i := F_X12_finding τ Z gi_26 gr h0 (-1000001)
  let x2 : Int32 := u2.1
  let gi2 : th_i := u2.2
  (x2, gi2)
noncomputable def F_X12_out (τ : th_t) (Z : th_Zt) (gi : th_i) (gr : th_r) (h0 : Nat) (p1 : Int32) (p2 : Int32) (p3 : Int32) : Int32 × th_i :=
  let x4 : Int32 := F_X12_isBoat τ Z gi gr h0 p1
  if x4 = (0 : Int32) then (
    f_X12_out_26 τ Z gi gr h0 p1 p2 p3 gi) else (
    let x10 : Int32 := F_X12_isBuoy τ Z gi gr h0 p2
    if x10 = (0 : Int32) then (
      f_X12_out_26 τ Z gi gr h0 p1 p2 p3 gi) else (
      let x16 : Int32 := F_X12_within τ Z gi gr p3 0 23
      if x16 = (0 : Int32) then (
        f_X12_out_26 τ Z gi gr h0 p1 p2 p3 gi) else (
        let x23 : Int32 := F_X12_slackOf τ Z gi gr h0 p2 p3
        let x25 : Int32 := F_X12_reachOf τ Z gi gr h0 p1
        let x26 : Int32 := x23 + x25
        (x26, gi))))
set_option maxHeartbeats 8000000 in
set_option maxRecDepth 100000 in
theorem k_X12_out (l : Launch) (D : va_G) (cA : Nat → ClassId) (Z : th_Zt) (τ : th_t) (gi : th_i) (gr : th_r) (sz : Nat) (h0 : Nat) (t_h0 : τ h0 = 12) (p1 : Int32) (p2 : Int32) (p3 : Int32) : Met l yX12_out wsX12_out ({ frames := 2, cells := 0, slots := 0, locals := 44 }) (va_Pc [.ref h0, .int p1, .int p2, .int p3] (th_Pre D cA Z τ gi gr sz)) (va_Qi (fun (r : Int32) (u : th_i × th_r) => th_Mod [5900] τ gi gr u.1 u.2 ∧ u.2 = gr ∧ (F_X12_out τ Z gi gr h0 p1 p2 p3 = (r, u.1))) (fun (u : th_i × th_r) t => th_H D cA τ u.1 u.2 t.heap) (th_A τ sz)) 0 0 (th_A τ sz) := by
  refine Met.ofW (cc := cX12_out) (maxL := 4) (ret := (some .int)) (by decide) rfl ?_
  intro p e s m args below meth c s₁ B hml hv
  obtain ⟨rfl, hsz, hH, hK, hN, hZ⟩ := hv
  have hx := B.exec
  have hb := B.bytes
  have hr := B.returns
  have hts := atoms_spec (ws := wsX12_out) B.pre
  have hown : s.vm.findClass RX12 = some m.cls := findClass_of_methodNamed B.named
  have hlocks := B.notSynchronized
  subst hsz
  have hM : th_Mod [5900] τ gi gr gi gr := th_Mod.rf
  have J26 : ∀ (gi_26 : th_i) (H : Heap) (locs : List Loc) (ls : Array Slot), th_H D cA τ gi_26 gr H → va_S (th_A τ s.heap.size) s.heap H locs → th_Mod [5900] τ gi gr gi_26 gr → lv_has ls 4 [(0, .ref h0)] → F_X12_out τ Z gi gr h0 p1 p2 p3 = f_X12_out_26 τ Z gi gr h0 p1 p2 p3 gi_26 → W p l e (headSpec wsX12_out ({ frames := 2, cells := 0, slots := 0, locals := 44 })).room s m [.ref h0, .int p1, .int p2, .int p3].toArray below meth c H locs 0 0 (MQ below (va_Qi (fun (r : Int32) (u : th_i × th_r) => th_Mod [5900] τ gi gr u.1 u.2 ∧ u.2 = gr ∧ (F_X12_out τ Z gi gr h0 p1 p2 p3 = (r, u.1))) (fun (u : th_i × th_r) t => th_H D cA τ u.1 u.2 t.heap) (th_A τ s.heap.size)) [.ref h0, .int p1, .int p2, .int p3].toArray s 0 0 (th_A τ s.heap.size)) (F0 m 26 ls []) := by
    intro gi_26 H locs ls hH hS hM hl hF
    refine lv_aload_n hx hb dX12_out_26 rfl (lv_at hl 0 rfl) ?_
    refine lv_ldc (v := (-1000001)) hx hb hown (hts (.constant RX12 119 (-1000001)) (List.mem_cons_of_mem _ (List.mem_append_left _ (List.mem_append_left _ (List.mem_of_getElem? (i := 0) rfl))))) dX12_out_27 ?_
    have hA1 := th_Asub (τ := τ) hS
    refine va_calli (va_runV (As := [.int (-1000001)]) (rest := []) ⟨hx, hb, hml, hown, hts⟩ (k_X12_finding l D cA Z τ gi_26 gr _ h0 t_h0 (-1000001) (rg_w rgc_m1000001 (th_leI rfl) (th_leI rfl))) (cwV 1 hts gX12_out_X12_finding rfl rfl rfl hd_X12_finding__1 ⟨Nat.le_of_ble_eq_true rfl, Nat.le_of_ble_eq_true rfl⟩) ⟨th_blind, tr_12 hK hH t_h0, (th_pre hH hK hN hZ hS hA1)⟩ rfl rfl hl.1 rfl (lv_room (Nat.le_of_ble_eq_true rfl)) dX12_out_29 ⟨Nat.le_of_ble_eq_true rfl, Nat.le_of_ble_eq_true rfl⟩) hS (fun q _ h => hA1 q h) hA1 (fun x2 u t H locs ht hvm hw2 hB hz1 hk1 hS => ?_)
    try dsimp only at hw2 hB
    rw [ht] at hB
    have hH := hB
    obtain ⟨gi2, gr2⟩ := u
    try dsimp only at hw2 hH
    obtain rfl : gr = gr2 := (hw2.2.1).symm
    have hM := hM.tr hw2.1 (fun _ h => h) (th_sub rfl)
    exact W.iret (v := x2) hx hb hr (fun t ht hW => ⟨⟨x2, (gi2, gr), rfl, ⟨hM, rfl, (hF.trans (by simp only [f_X12_out_26, hw2.2.2.1]))⟩, th_Ht ht hH⟩, hS.F ht⟩) hS.2.2 dX12_out_32
  have hS : va_S (th_A τ s.heap.size) s.heap s.heap [] := va_S.rf
  have hl := lv_entry ([.ref h0, .int p1, .int p2, .int p3]) (n := 4) (Nat.le_of_ble_eq_true rfl)
  rw [lg_entry_eq]
  generalize (lg_sl ([.ref h0, .int p1, .int p2, .int p3]) ++ List.replicate (4 - (lg_sl ([.ref h0, .int p1, .int p2, .int p3])).length) Slot.unset).toArray = ls at hl ⊢
  have hl : lv_has ls 4 [(0, .ref h0), (1, .int p1), (2, .int p2), (3, .int p3)] := hl
  have hF : F_X12_out τ Z gi gr h0 p1 p2 p3 = F_X12_out τ Z gi gr h0 p1 p2 p3 := rfl
  refine lv_aload_n hx hb dX12_out_0 rfl (lv_at hl 0 rfl) ?_
  refine lv_iload_n hx hb dX12_out_1 rfl (lv_at hl 1 rfl) ?_
  have hA3 := th_Asub (τ := τ) hS
  refine va_calli (va_runV (As := [.int p1]) (rest := []) ⟨hx, hb, hml, hown, hts⟩ (k_X12_isBoat l D cA Z τ gi gr _ h0 t_h0 p1) (cwV 1 hts gX12_out_X12_isBoat rfl rfl rfl hd_X12_isBoat__1 ⟨Nat.le_of_ble_eq_true rfl, Nat.le_of_ble_eq_true rfl⟩) ⟨th_blind, tr_12 hK hH t_h0, (th_pre hH hK hN hZ hS hA3)⟩ rfl rfl hl.1 rfl (lv_room (Nat.le_of_ble_eq_true rfl)) dX12_out_2 ⟨Nat.le_of_ble_eq_true rfl, Nat.le_of_ble_eq_true rfl⟩) hS (fun q _ h => hA3 q h) hA3 (fun x4 u t H locs ht hvm hw4 hB hz1 hk1 hS => ?_)
  try dsimp only at hw4 hB
  rw [ht] at hB
  have hH := hB
  refine lv_if_eq (tgt := 26) hx hb dX12_out_5 (th_eqI rfl) (fun c5 => ?_) (fun c5 => ?_)
  · skip
    have f6 : rg 0 0 x4 := rg_w (rg_eq hw4.1 rgc_0 c5).1 (th_leI rfl) (th_leI rfl)
    exact J26 gi _ _ _ hH hS hM (lv_sub hl [0] rfl) (hF.trans (by simp only [↓reduceIte, F_X12_out, hw4.2.2, eq_true c5]))
  · skip
    have f7 : rg 1 1 x4 := rg_w (rg_neL hw4.1 rgc_0 c5) (th_leI rfl) (th_leI rfl)
    have f8 : rg 0 15 p1 := rg_w (hw4.2.1 c5) (th_leI rfl) (th_leI rfl)
    refine lv_aload_n hx hb dX12_out_8 rfl (lv_at hl 0 rfl) ?_
    refine lv_iload_n hx hb dX12_out_9 rfl (lv_at hl 2 rfl) ?_
    have hA9 := th_Asub (τ := τ) hS
    refine va_calli (va_runV (As := [.int p2]) (rest := []) ⟨hx, hb, hml, hown, hts⟩ (k_X12_isBuoy l D cA Z τ gi gr _ h0 t_h0 p2) (cwV 1 hts gX12_out_X12_isBuoy rfl rfl rfl hd_X12_isBuoy__1 ⟨Nat.le_of_ble_eq_true rfl, Nat.le_of_ble_eq_true rfl⟩) ⟨th_blind, tr_12 hK hH t_h0, (th_pre hH hK hN hZ hS hA9)⟩ rfl rfl hl.1 rfl (lv_room (Nat.le_of_ble_eq_true rfl)) dX12_out_10 ⟨Nat.le_of_ble_eq_true rfl, Nat.le_of_ble_eq_true rfl⟩) hS (fun q _ h => hA9 q h) hA9 (fun x10 u t H locs ht hvm hw10 hB hz1 hk1 hS => ?_)
    try dsimp only at hw10 hB
    rw [ht] at hB
    have hH := hB
    refine lv_if_eq (tgt := 26) hx hb dX12_out_13 (th_eqI rfl) (fun c11 => ?_) (fun c11 => ?_)
    · skip
      have f12 : rg 0 0 x10 := rg_w (rg_eq hw10.1 rgc_0 c11).1 (th_leI rfl) (th_leI rfl)
      exact J26 gi _ _ _ hH hS hM (lv_sub hl [0] rfl) (hF.trans (by simp only [↓reduceIte, F_X12_out, hw4.2.2, eq_false c5, hw10.2.2, eq_true c11]))
    · skip
      have f13 : rg 1 1 x10 := rg_w (rg_neL hw10.1 rgc_0 c11) (th_leI rfl) (th_leI rfl)
      have f14 : rg 0 11 p2 := rg_w (hw10.2.1 c11) (th_leI rfl) (th_leI rfl)
      refine lv_iload_n hx hb dX12_out_16 rfl (lv_at hl 3 rfl) ?_
      refine lv_iconst (v := 0) hx hb dX12_out_17 ic_0 ?_
      refine lv_bipush (v := 23) hx hb dX12_out_18 bp_23 ?_
      have hA15 := th_Asub (τ := τ) hS
      refine va_calli (va_runS (As := [.int p3, .int 0, .int 23]) (rest := []) ⟨hx, hb, hml, hown, hts⟩ (k_X12_within l D cA Z τ gi gr _ p3 0 23) (va_cwS 3 hts gX12_out_X12_within rfl rfl rfl (by decide +kernel) ⟨Nat.le_of_ble_eq_true rfl, Nat.le_of_ble_eq_true rfl⟩) ⟨th_blind, (th_pre hH hK hN hZ hS hA15)⟩ rfl rfl hl.1 rfl (lv_room (Nat.le_of_ble_eq_true rfl)) dX12_out_20 ⟨Nat.le_of_ble_eq_true rfl, Nat.le_of_ble_eq_true rfl⟩) hS (fun q _ h => hA15 q h) hA15 (fun x16 u t H locs ht hvm hw16 hB hz1 hk1 hS => ?_)
      try dsimp only at hw16 hB
      rw [ht] at hB
      have hH := hB
      refine lv_if_ne (tgt := 33) hx hb dX12_out_23 (th_eqI rfl) (fun c17 => ?_) (fun c17 => ?_)
      · skip
        have f18 : rg 1 1 x16 := rg_w (rg_neL hw16.1 rgc_0 c17) (th_leI rfl) (th_leI rfl)
        have g19 := hw16.2.1 c17
        have f20 : rg 0 2147483647 p3 := rg_w (rg_le rgc_0 (rg_any p3) g19.1).2 (th_leI rfl) (th_leI rfl)
        have f21 : rg 0 23 p3 := rg_w (rg_le f20 rgc_23 g19.2).1 (th_leI rfl) (th_leI rfl)
        refine lv_aload_n hx hb dX12_out_33 rfl (lv_at hl 0 rfl) ?_
        refine lv_iload_n hx hb dX12_out_34 rfl (lv_at hl 2 rfl) ?_
        refine lv_iload_n hx hb dX12_out_35 rfl (lv_at hl 3 rfl) ?_
        have hA22 := th_Asub (τ := τ) hS
        refine va_calli (va_runV (As := [.int p2, .int p3]) (rest := []) ⟨hx, hb, hml, hown, hts⟩ (k_X12_slackOf l D cA Z τ gi gr _ h0 t_h0 p2 f14 p3 f21) (cwV 2 hts gX12_out_X12_slackOf rfl rfl rfl hd_X12_slackOf__2 ⟨Nat.le_of_ble_eq_true rfl, Nat.le_of_ble_eq_true rfl⟩) ⟨th_blind, tr_12 hK hH t_h0, (th_pre hH hK hN hZ hS hA22)⟩ rfl rfl hl.1 rfl (lv_room (Nat.le_of_ble_eq_true rfl)) dX12_out_36 ⟨Nat.le_of_ble_eq_true rfl, Nat.le_of_ble_eq_true rfl⟩) hS (fun q _ h => hA22 q h) hA22 (fun x23 u t H locs ht hvm hw23 hB hz1 hk1 hS => ?_)
        try dsimp only at hw23 hB
        rw [ht] at hB
        have hH := hB
        refine lv_aload_n hx hb dX12_out_39 rfl (lv_at hl 0 rfl) ?_
        refine lv_iload_n hx hb dX12_out_40 rfl (lv_at hl 1 rfl) ?_
        have hA24 := th_Asub (τ := τ) hS
        refine va_calli (va_runV (As := [.int p1]) (rest := [.int x23]) ⟨hx, hb, hml, hown, hts⟩ (k_X12_reachOf l D cA Z τ gi gr _ h0 t_h0 p1 f8) (cwV 1 hts gX12_out_X12_reachOf rfl rfl rfl hd_X12_reachOf__1 ⟨Nat.le_of_ble_eq_true rfl, Nat.le_of_ble_eq_true rfl⟩) ⟨th_blind, tr_12 hK hH t_h0, (th_pre hH hK hN hZ hS hA24)⟩ rfl rfl hl.1 rfl (lv_room (Nat.le_of_ble_eq_true rfl)) dX12_out_41 ⟨Nat.le_of_ble_eq_true rfl, Nat.le_of_ble_eq_true rfl⟩) hS (fun q _ h => hA24 q h) hA24 (fun x25 u t H locs ht hvm hw25 hB hz1 hk1 hS => ?_)
        try dsimp only at hw25 hB
        rw [ht] at hB
        have hH := hB
        refine lv_iadd hx hb dX12_out_44 ?_
        refine lv_topi (fun x26 e26 => ?_)
        exact W.iret (v := x26) hx hb hr (fun t ht hW => ⟨⟨x26, (gi, gr), rfl, ⟨hM, rfl, (hF.trans (by simp only [↓reduceIte, F_X12_out, hw4.2.2, eq_false c5, hw10.2.2, eq_false c11, hw16.2.2.1, eq_false c17, hw23, hw25, ← e26]))⟩, th_Ht ht hH⟩, hS.F ht⟩) hS.2.2 dX12_out_45
      · skip
        have f27 : rg 0 0 x16 := rg_w (rg_eq hw16.1 rgc_0 c17).1 (th_leI rfl) (th_leI rfl)
        exact J26 gi _ _ _ hH hS hM (lv_sub hl [0] rfl) (hF.trans (by simp only [↓reduceIte, F_X12_out, hw4.2.2, eq_false c5, hw10.2.2, eq_false c11, hw16.2.2.1, eq_true c17]))

noncomputable def f_X12_canFit_88 (τ : th_t) (Z : th_Zt) (gi : th_i) (gr : th_r) (h0 : Nat) (p1 : Int32) (p2 : Int32) (y53_3 : Int32) (y53_4 : Int32) (y53_5 : Int32) (k_53 : Int32 → Int32 → Int32 → Int32) (z88_0 : Int32) : Int32 :=
  let x1 : Int32 := y53_5 + 1
  k_53 y53_3 z88_0 x1
noncomputable def f_X12_canFit_87 (τ : th_t) (Z : th_Zt) (gi : th_i) (gr : th_r) (h0 : Nat) (p1 : Int32) (p2 : Int32) (y53_3 : Int32) (y53_4 : Int32) (y53_5 : Int32) (k_53 : Int32 → Int32 → Int32 → Int32) : Int32 :=
  f_X12_canFit_88 τ Z gi gr h0 p1 p2 y53_3 y53_4 y53_5 k_53 0
noncomputable def f_X12_canFit_53 (τ : th_t) (Z : th_Zt) (gi : th_i) (gr : th_r) (h0 : Nat) (p1 : Int32) (p2 : Int32) : Nat → Int32 → Int32 → Int32 → Int32
  | 0, y53_3, y53_4, y53_5 => 0
  | n53 + 1, y53_3, y53_4, y53_5 =>
    if (24 : Int32) ≤ y53_5 then (
      y53_4) else (
      if y53_4 = (0 : Int32) then (
        f_X12_canFit_87 τ Z gi gr h0 p1 p2 y53_3 y53_4 y53_5 (f_X12_canFit_53 τ Z gi gr h0 p1 p2 n53) ) else (
        let q8 : Nat := (gr h0 3).getD 0
        let x9 : Int32 := gi q8 p2.toNatClampNeg
        let q10 : Nat := (gr h0 13).getD 0
        let x11 : Int32 := gi q10 y53_5.toNatClampNeg
        let x12 : Int32 := x9 + x11
        if x12 < y53_3 then (
          f_X12_canFit_87 τ Z gi gr h0 p1 p2 y53_3 y53_4 y53_5 (f_X12_canFit_53 τ Z gi gr h0 p1 p2 n53) ) else (
          f_X12_canFit_88 τ Z gi gr h0 p1 p2 y53_3 y53_4 y53_5 (f_X12_canFit_53 τ Z gi gr h0 p1 p2 n53) 1)))
noncomputable def f_X12_canFit_48 (τ : th_t) (Z : th_Zt) (gi : th_i) (gr : th_r) (h0 : Nat) (p1 : Int32) (p2 : Int32) (y48_3 : Int32) (z48_0 : Int32) : Int32 :=
  f_X12_canFit_53 τ Z gi gr h0 p1 p2 ((24 - (0 : Int32).toInt).toNat + 1) y48_3 z48_0 0
noncomputable def f_X12_canFit_27 (τ : th_t) (Z : th_Zt) (gi : th_i) (gr : th_r) (h0 : Nat) (p1 : Int32) (p2 : Int32) (z27_0 : Int32) : Int32 :=
  let q16 : Nat := (gr h0 10).getD 0
  let x17 : Int32 := gi q16 p1.toNatClampNeg
  let q18 : Nat := (gr h0 4).getD 0
  let x19 : Int32 := gi q18 p2.toNatClampNeg
  if x19 < x17 then (
    f_X12_canFit_48 τ Z gi gr h0 p1 p2 z27_0 0) else (
    f_X12_canFit_48 τ Z gi gr h0 p1 p2 z27_0 1)
noncomputable def F_X12_canFit (τ : th_t) (Z : th_Zt) (gi : th_i) (gr : th_r) (h0 : Nat) (p1 : Int32) (p2 : Int32) : Int32 :=
  let q23 : Nat := (gr h0 9).getD 0
  let x24 : Int32 := gi q23 p1.toNatClampNeg
  if x24 = (2 : Int32) then (
    let q29 : Nat := (gr h0 11).getD 0
    let x30 : Int32 := gi q29 p1.toNatClampNeg
    let x31 : Int32 := x30 / 2
    f_X12_canFit_27 τ Z gi gr h0 p1 p2 x31) else (
    let q26 : Nat := (gr h0 11).getD 0
    let x27 : Int32 := gi q26 p1.toNatClampNeg
    f_X12_canFit_27 τ Z gi gr h0 p1 p2 x27)
set_option maxHeartbeats 8000000 in
set_option maxRecDepth 100000 in
theorem k_X12_canFit (l : Launch) (D : va_G) (cA : Nat → ClassId) (Z : th_Zt) (τ : th_t) (gi : th_i) (gr : th_r) (sz : Nat) (h0 : Nat) (t_h0 : τ h0 = 12) (p1 : Int32) (f_p1 : rg 0 15 p1) (p2 : Int32) (f_p2 : rg 0 11 p2) : Met l yX12_canFit wsX12_canFit ({ frames := 0, cells := 0, slots := 0, locals := 0 }) (va_Pc [.ref h0, .int p1, .int p2] (th_Pre D cA Z τ gi gr sz)) (va_Qi (fun (r : Int32) (_ : Unit) => rg 0 1 r ∧ (F_X12_canFit τ Z gi gr h0 p1 p2 = r) ∧ (¬ r = 0 ↔ cf_u (fr_R τ gi gr h0) p1 p2 24)) (fun (_ : Unit) t => th_H D cA τ gi gr t.heap) (th_A τ sz)) 0 0 (th_A τ sz) := by
  refine Met.ofW (cc := cX12_canFit) (maxL := 6) (ret := (some .boolean)) (by decide) rfl ?_
  intro p e s m args below meth c s₁ B hml hv
  obtain ⟨rfl, hsz, hH, hK, hN, hZ⟩ := hv
  have hx := B.exec
  have hb := B.bytes
  have hr := B.returns
  have hts := atoms_spec (ws := wsX12_canFit) B.pre
  have hown : s.vm.findClass RX12 = some m.cls := findClass_of_methodNamed B.named
  have hlocks := B.notSynchronized
  subst hsz
  have J53 : ∀ (n53 : Nat) (H : Heap) (locs : List Loc) (ls : Array Slot) (y53_3 : Int32) (y53_4 : Int32) (y53_5 : Int32), (24 - y53_5.toInt).toNat < n53 → th_H D cA τ gi gr H → va_S (th_A τ s.heap.size) s.heap H locs → lv_has ls 6 [(0, .ref h0), (2, .int p2), (3, .int y53_3), (4, .int y53_4), (5, .int y53_5)] → rg 0 11 p2 → rg 0 1 y53_4 → rg 0 24 y53_5 → (y53_3 = cf_nd (fr_R τ gi gr h0) p1) → (¬ y53_4 = 0 ↔ cf_u (fr_R τ gi gr h0) p1 p2 y53_5.toInt) → F_X12_canFit τ Z gi gr h0 p1 p2 = f_X12_canFit_53 τ Z gi gr h0 p1 p2 n53 y53_3 y53_4 y53_5 → W p l e (headSpec wsX12_canFit ({ frames := 0, cells := 0, slots := 0, locals := 0 })).room s m [.ref h0, .int p1, .int p2].toArray below meth c H locs 0 0 (MQ below (va_Qi (fun (r : Int32) (_ : Unit) => rg 0 1 r ∧ (F_X12_canFit τ Z gi gr h0 p1 p2 = r) ∧ (¬ r = 0 ↔ cf_u (fr_R τ gi gr h0) p1 p2 24)) (fun (_ : Unit) t => th_H D cA τ gi gr t.heap) (th_A τ s.heap.size)) [.ref h0, .int p1, .int p2].toArray s 0 0 (th_A τ s.heap.size)) (F0 m 53 ls []) := by
    intro n53
    induction n53 with
    | zero =>
      intro H locs ls y53_3 y53_4 y53_5 hn
      exact absurd hn (Nat.not_lt_zero _)
    | succ n53 ih53 =>
      intro H locs ls y53_3 y53_4 y53_5 hn53 hH hS hl fy53_2 fy53_4 fy53_5 icn53 icu hF
      have J88 : ∀ (H : Heap) (locs : List Loc) (ls : Array Slot) (z88_0 : Int32), th_H D cA τ gi gr H → va_S (th_A τ s.heap.size) s.heap H locs → lv_has ls 6 [(0, .ref h0), (2, .int p2), (3, .int y53_3), (5, .int y53_5)] → rg 0 11 p2 → rg 0 23 y53_5 → rg 0 1 z88_0 → (¬ z88_0 = 0 ↔ cf_u (fr_R τ gi gr h0) p1 p2 (y53_5.toInt + 1)) → F_X12_canFit τ Z gi gr h0 p1 p2 = f_X12_canFit_88 τ Z gi gr h0 p1 p2 y53_3 y53_4 y53_5 (f_X12_canFit_53 τ Z gi gr h0 p1 p2 n53) z88_0 → W p l e (headSpec wsX12_canFit ({ frames := 0, cells := 0, slots := 0, locals := 0 })).room s m [.ref h0, .int p1, .int p2].toArray below meth c H locs 0 0 (MQ below (va_Qi (fun (r : Int32) (_ : Unit) => rg 0 1 r ∧ (F_X12_canFit τ Z gi gr h0 p1 p2 = r) ∧ (¬ r = 0 ↔ cf_u (fr_R τ gi gr h0) p1 p2 24)) (fun (_ : Unit) t => th_H D cA τ gi gr t.heap) (th_A τ s.heap.size)) [.ref h0, .int p1, .int p2].toArray s 0 0 (th_A τ s.heap.size)) (F0 m 88 ls [.int z88_0]) := by
        intro H locs ls z88_0 hH hS hl fy88_2 fy88_5 fz88_0 icw hF
        refine lv_istore (i := 4) (lv' := [(4, .int z88_0), (0, .ref h0), (2, .int p2), (3, .int y53_3), (5, .int y53_5)]) hx hb dX12_canFit_88 hl (th_ltN rfl) rfl (fun ls hl => ?_)
        obtain ⟨x1, e1⟩ : ∃ y : Int32, y = y53_5 + 1 := ⟨_, rfl⟩
        have f1 : rg 1 24 x1 := rg_e e1 (rg_w (rg_add fy88_5 rgc_1 (th_leI rfl) (th_leI rfl)) (th_leI rfl) (th_leI rfl))
        refine lv_iinc (v := x1) (lv' := [(5, .int x1), (4, .int z88_0), (0, .ref h0), (2, .int p2), (3, .int y53_3)]) hx hb dX12_canFit_90 hl (k := 4) rfl (by rw [e1]; rfl) (th_ltN rfl) rfl (fun ls hl => ?_)
        refine lv_goto (tgt := 53) hx hb dX12_canFit_93 (th_eqI rfl) ?_
        exact ih53 _ _ _ y53_3 z88_0 x1 (th_up (rg_dA e1 fy88_5 rgc_1 (th_leI rfl) (th_leI rfl)) fy88_5 hn53 (th_ltI rfl)) hH hS (lv_sub hl [2, 3, 4, 1, 0] rfl) fy88_2 fz88_0 (rg_w f1 (th_leI rfl) (th_leI rfl)) icn53 (cf_53 icw (rg_dA e1 fy88_5 rgc_1 (th_leI rfl) (th_leI rfl))) (hF.trans (by simp only [f_X12_canFit_88, ← e1]))
      have J87 : ∀ (H : Heap) (locs : List Loc) (ls : Array Slot), th_H D cA τ gi gr H → va_S (th_A τ s.heap.size) s.heap H locs → lv_has ls 6 [(0, .ref h0), (2, .int p2), (3, .int y53_3), (5, .int y53_5)] → rg 0 11 p2 → rg 0 23 y53_5 → (¬ cf_u (fr_R τ gi gr h0) p1 p2 (y53_5.toInt + 1)) → F_X12_canFit τ Z gi gr h0 p1 p2 = f_X12_canFit_87 τ Z gi gr h0 p1 p2 y53_3 y53_4 y53_5 (f_X12_canFit_53 τ Z gi gr h0 p1 p2 n53) → W p l e (headSpec wsX12_canFit ({ frames := 0, cells := 0, slots := 0, locals := 0 })).room s m [.ref h0, .int p1, .int p2].toArray below meth c H locs 0 0 (MQ below (va_Qi (fun (r : Int32) (_ : Unit) => rg 0 1 r ∧ (F_X12_canFit τ Z gi gr h0 p1 p2 = r) ∧ (¬ r = 0 ↔ cf_u (fr_R τ gi gr h0) p1 p2 24)) (fun (_ : Unit) t => th_H D cA τ gi gr t.heap) (th_A τ s.heap.size)) [.ref h0, .int p1, .int p2].toArray s 0 0 (th_A τ s.heap.size)) (F0 m 87 ls []) := by
        intro H locs ls hH hS hl fy87_2 fy87_5 icv hF
        refine lv_iconst (v := 0) hx hb dX12_canFit_87 ic_0 ?_
        exact J88 _ _ _ 0 hH hS (lv_sub hl [0, 1, 2, 3] rfl) fy87_2 fy87_5 (rg_w rgc_0 (th_leI rfl) (th_leI rfl)) (cf_88a icv) (hF.trans (by simp only [f_X12_canFit_87]))
      refine lv_iload hx hb dX12_canFit_53 (lv_at hl 4 rfl) ?_
      refine lv_bipush (v := 24) hx hb dX12_canFit_55 bp_24 ?_
      refine lv_icmp_ge (tgt := 96) hx hb dX12_canFit_57 (th_eqI rfl) (fun c2 => ?_) (fun c2 => ?_)
      · skip
        have f3 : rg 24 24 y53_5 := rg_w (rg_le rgc_24 fy53_5 c2).2 (th_leI rfl) (th_leI rfl)
        refine lv_iload hx hb dX12_canFit_96 (lv_at hl 3 rfl) ?_
        exact W.zret (v := y53_4) hx hb hr (rg_nb fy53_4) (fun t ht hW => ⟨⟨y53_4, (), rfl, ⟨fy53_4, (hF.trans (by simp only [↓reduceIte, f_X12_canFit_53, eq_true c2])), (cf_end icu f3)⟩, th_Ht ht hH⟩, hS.F ht⟩) hS.2.2 dX12_canFit_98
      · skip
        have f4 : rg 0 23 y53_5 := rg_w (rg_nle rgc_24 fy53_5 c2).2 (th_leI rfl) (th_leI rfl)
        refine lv_iload hx hb dX12_canFit_60 (lv_at hl 3 rfl) ?_
        refine lv_if_eq (tgt := 87) hx hb dX12_canFit_62 (th_eqI rfl) (fun c5 => ?_) (fun c5 => ?_)
        · skip
          have f6 : rg 0 0 y53_4 := rg_w (rg_eq fy53_4 rgc_0 c5).1 (th_leI rfl) (th_leI rfl)
          exact J87 _ _ _ hH hS (lv_sub hl [0, 1, 2, 4] rfl) fy53_2 f4 (cf_87a icu c5) (hF.trans (by simp only [↓reduceIte, f_X12_canFit_53, eq_false c2, eq_true c5]))
        · skip
          have f7 : rg 1 1 y53_4 := rg_w (rg_neL fy53_4 rgc_0 c5) (th_leI rfl) (th_leI rfl)
          refine lv_aload_n hx hb dX12_canFit_65 rfl (lv_at hl 0 rfl) ?_
          obtain ⟨q8, r8, t8⟩ : ∃ q, gr h0 3 = some q ∧ τ q = 42 := (thI_12 hH t_h0).2.2.2.1
          refine th_get (ci := 11) (v := .ref q8) (T := TX12) (C := RX12) (N := 38) hx hb hts (fun w h => List.mem_cons_of_mem _ (List.mem_append_right _ h)) hown hK hH t_h0 (th_nz rfl) (thE_12 _ _ _) rfl 3 (th_ltN rfl) (hts (.fieldLink RX12 16 "BayMooringsModel" "depth" "[I") (List.mem_cons_of_mem _ (List.mem_append_left _ (List.mem_of_getElem? (i := 4) rfl)))) (fun _ h9 => h9) (th_fR r8 rfl) dX12_canFit_66 ?_
          refine lv_iload_n hx hb dX12_canFit_69 rfl (lv_at hl 1 rfl) ?_
          refine th_iald hx hb hK hH t8 (th_nz rfl) 0 (thE_42 _ _ _) rfl (rg_in (n := 12) fy53_2 (th_leI rfl) (th_ltI rfl)) dX12_canFit_70 ?_
          refine lv_topi (fun x9 e9 => ?_)
          have f9 : rg 0 300 x9 := rg_e e9 ((thI_42 hH t8) _ (rg_cl (n := 12) fy53_2 (th_leI rfl) (th_ltI rfl)))
          refine lv_aload_n hx hb dX12_canFit_71 rfl (lv_at hl 0 rfl) ?_
          obtain ⟨q10, r10, t10⟩ : ∃ q, gr h0 13 = some q ∧ τ q = 51 := (thI_12 hH t_h0).2.2.2.2.2.2.2.2.2.2.2.2.2.1
          refine th_get (ci := 11) (v := .ref q10) (T := TX12) (C := RX12) (N := 38) hx hb hts (fun w h => List.mem_cons_of_mem _ (List.mem_append_right _ h)) hown hK hH t_h0 (th_nz rfl) (thE_12 _ _ _) rfl 13 (th_ltN rfl) (hts (.fieldLink RX12 43 "BayMooringsModel" "tides" "[I") (List.mem_cons_of_mem _ (List.mem_append_left _ (List.mem_of_getElem? (i := 5) rfl)))) (fun _ h9 => h9) (th_fR r10 rfl) dX12_canFit_72 ?_
          refine lv_iload hx hb dX12_canFit_75 (lv_at hl 4 rfl) ?_
          refine th_iald hx hb hK hH t10 (th_nz rfl) 0 (thE_51 _ _ _) rfl (rg_in (n := 24) f4 (th_leI rfl) (th_ltI rfl)) dX12_canFit_77 ?_
          refine lv_topi (fun x11 e11 => ?_)
          have f11 : rg 0 200 x11 := rg_e e11 ((thI_51 hH t10) _ (rg_cl (n := 24) f4 (th_leI rfl) (th_ltI rfl)))
          refine lv_iadd hx hb dX12_canFit_78 ?_
          refine lv_topi (fun x12 e12 => ?_)
          have f12 : rg 0 500 x12 := rg_e e12 (rg_w (rg_add f9 f11 (th_leI rfl) (th_leI rfl)) (th_leI rfl) (th_leI rfl))
          refine lv_iload_n hx hb dX12_canFit_79 rfl (lv_at hl 2 rfl) ?_
          refine lv_icmp_lt (tgt := 87) hx hb dX12_canFit_80 (th_eqI rfl) (fun c13 => ?_) (fun c13 => ?_)
          · skip
            have f14 : rg 1 2147483647 y53_3 := rg_w (rg_lt f12 (rg_any y53_3) c13).2 (th_leI rfl) (th_leI rfl)
            exact J87 _ _ _ hH hS (lv_sub hl [0, 1, 2, 4] rfl) fy53_2 f4 (cf_87b icn53 f4 (by decide) (fr_at r8 t8 (by decide) e9) (fr_at r10 t10 (by decide) e11) e12 c13) (hF.trans (by simp only [↓reduceIte, f_X12_canFit_53, eq_false c2, eq_false c5, r8, Option.getD_some, ← e9, r10, ← e11, ← e12, eq_true c13]))
          · skip
            have f15 : rg (-2147483648) 500 y53_3 := rg_w (rg_nlt f12 (rg_any y53_3) c13).2 (th_leI rfl) (th_leI rfl)
            refine lv_iconst (v := 1) hx hb dX12_canFit_83 ic_1 ?_
            refine lv_goto (tgt := 88) hx hb dX12_canFit_84 (th_eqI rfl) ?_
            exact J88 _ _ _ 1 hH hS (lv_sub hl [0, 1, 2, 4] rfl) fy53_2 f4 (rg_w rgc_1 (th_leI rfl) (th_leI rfl)) (cf_88b icu c5 icn53 f4 (by decide) (fr_at r8 t8 (by decide) e9) (fr_at r10 t10 (by decide) e11) e12 c13) (hF.trans (by simp only [↓reduceIte, f_X12_canFit_53, eq_false c2, eq_false c5, r8, Option.getD_some, ← e9, r10, ← e11, ← e12, eq_false c13]))
  have J48 : ∀ (H : Heap) (locs : List Loc) (ls : Array Slot) (y48_3 : Int32) (z48_0 : Int32), th_H D cA τ gi gr H → va_S (th_A τ s.heap.size) s.heap H locs → lv_has ls 6 [(0, .ref h0), (2, .int p2), (3, .int y48_3)] → rg 0 11 p2 → rg 0 1 z48_0 → (y48_3 = cf_nd (fr_R τ gi gr h0) p1) → (¬ z48_0 = 0 ↔ cf_l (fr_R τ gi gr h0) p1 p2) → F_X12_canFit τ Z gi gr h0 p1 p2 = f_X12_canFit_48 τ Z gi gr h0 p1 p2 y48_3 z48_0 → W p l e (headSpec wsX12_canFit ({ frames := 0, cells := 0, slots := 0, locals := 0 })).room s m [.ref h0, .int p1, .int p2].toArray below meth c H locs 0 0 (MQ below (va_Qi (fun (r : Int32) (_ : Unit) => rg 0 1 r ∧ (F_X12_canFit τ Z gi gr h0 p1 p2 = r) ∧ (¬ r = 0 ↔ cf_u (fr_R τ gi gr h0) p1 p2 24)) (fun (_ : Unit) t => th_H D cA τ gi gr t.heap) (th_A τ s.heap.size)) [.ref h0, .int p1, .int p2].toArray s 0 0 (th_A τ s.heap.size)) (F0 m 48 ls [.int z48_0]) := by
    intro H locs ls y48_3 z48_0 hH hS hl fy48_2 fz48_0 icn48 icl hF
    refine lv_istore (i := 4) (lv' := [(4, .int z48_0), (0, .ref h0), (2, .int p2), (3, .int y48_3)]) hx hb dX12_canFit_48 hl (th_ltN rfl) rfl (fun ls hl => ?_)
    refine lv_iconst (v := 0) hx hb dX12_canFit_50 ic_0 ?_
    refine lv_istore (i := 5) (lv' := [(5, .int 0), (4, .int z48_0), (0, .ref h0), (2, .int p2), (3, .int y48_3)]) hx hb dX12_canFit_51 hl (th_ltN rfl) rfl (fun ls hl => ?_)
    exact J53 _ _ _ _ y48_3 z48_0 0 (Nat.lt_add_one _) hH hS (lv_sub hl [2, 3, 4, 1, 0] rfl) fy48_2 fz48_0 (rg_w rgc_0 (th_leI rfl) (th_leI rfl)) icn48 (cf_z icl) (hF.trans (by simp only [f_X12_canFit_48]))
  have J27 : ∀ (H : Heap) (locs : List Loc) (ls : Array Slot) (z27_0 : Int32), th_H D cA τ gi gr H → va_S (th_A τ s.heap.size) s.heap H locs → lv_has ls 6 [(0, .ref h0), (1, .int p1), (2, .int p2)] → rg 0 15 p1 → rg 0 11 p2 → (z27_0 = cf_nd (fr_R τ gi gr h0) p1) → F_X12_canFit τ Z gi gr h0 p1 p2 = f_X12_canFit_27 τ Z gi gr h0 p1 p2 z27_0 → W p l e (headSpec wsX12_canFit ({ frames := 0, cells := 0, slots := 0, locals := 0 })).room s m [.ref h0, .int p1, .int p2].toArray below meth c H locs 0 0 (MQ below (va_Qi (fun (r : Int32) (_ : Unit) => rg 0 1 r ∧ (F_X12_canFit τ Z gi gr h0 p1 p2 = r) ∧ (¬ r = 0 ↔ cf_u (fr_R τ gi gr h0) p1 p2 24)) (fun (_ : Unit) t => th_H D cA τ gi gr t.heap) (th_A τ s.heap.size)) [.ref h0, .int p1, .int p2].toArray s 0 0 (th_A τ s.heap.size)) (F0 m 27 ls [.int z27_0]) := by
    intro H locs ls z27_0 hH hS hl fy27_1 fy27_2 icn27 hF
    refine lv_istore_n (i := 3) (lv' := [(3, .int z27_0), (0, .ref h0), (1, .int p1), (2, .int p2)]) hx hb dX12_canFit_27 rfl hl (th_ltN rfl) rfl (fun ls hl => ?_)
    refine lv_aload_n hx hb dX12_canFit_28 rfl (lv_at hl 1 rfl) ?_
    obtain ⟨q16, r16, t16⟩ : ∃ q, gr h0 10 = some q ∧ τ q = 48 := (thI_12 hH t_h0).2.2.2.2.2.2.2.2.2.2.1
    refine th_get (ci := 11) (v := .ref q16) (T := TX12) (C := RX12) (N := 38) hx hb hts (fun w h => List.mem_cons_of_mem _ (List.mem_append_right _ h)) hown hK hH t_h0 (th_nz rfl) (thE_12 _ _ _) rfl 10 (th_ltN rfl) (hts (.fieldLink RX12 34 "BayMooringsModel" "lengthOf" "[I") (List.mem_cons_of_mem _ (List.mem_append_left _ (List.mem_of_getElem? (i := 2) rfl)))) (fun _ h9 => h9) (th_fR r16 rfl) dX12_canFit_29 ?_
    refine lv_iload_n hx hb dX12_canFit_32 rfl (lv_at hl 2 rfl) ?_
    refine th_iald hx hb hK hH t16 (th_nz rfl) 0 (thE_48 _ _ _) rfl (rg_in (n := 16) fy27_1 (th_leI rfl) (th_ltI rfl)) dX12_canFit_33 ?_
    refine lv_topi (fun x17 e17 => ?_)
    refine lv_aload_n hx hb dX12_canFit_34 rfl (lv_at hl 1 rfl) ?_
    obtain ⟨q18, r18, t18⟩ : ∃ q, gr h0 4 = some q ∧ τ q = 43 := (thI_12 hH t_h0).2.2.2.2.1
    refine th_get (ci := 11) (v := .ref q18) (T := TX12) (C := RX12) (N := 38) hx hb hts (fun w h => List.mem_cons_of_mem _ (List.mem_append_right _ h)) hown hK hH t_h0 (th_nz rfl) (thE_12 _ _ _) rfl 4 (th_ltN rfl) (hts (.fieldLink RX12 19 "BayMooringsModel" "chain" "[I") (List.mem_cons_of_mem _ (List.mem_append_left _ (List.mem_of_getElem? (i := 3) rfl)))) (fun _ h9 => h9) (th_fR r18 rfl) dX12_canFit_35 ?_
    refine lv_iload_n hx hb dX12_canFit_38 rfl (lv_at hl 3 rfl) ?_
    refine th_iald hx hb hK hH t18 (th_nz rfl) 0 (thE_43 _ _ _) rfl (rg_in (n := 12) fy27_2 (th_leI rfl) (th_ltI rfl)) dX12_canFit_39 ?_
    refine lv_topi (fun x19 e19 => ?_)
    have f19 : rg 0 400 x19 := rg_e e19 ((thI_43 hH t18) _ (rg_cl (n := 12) fy27_2 (th_leI rfl) (th_ltI rfl)))
    refine lv_icmp_gt (tgt := 47) hx hb dX12_canFit_40 (th_eqI rfl) (fun c20 => ?_) (fun c20 => ?_)
    · skip
      have f21 : rg 1 2147483647 x17 := rg_w (rg_lt f19 (rg_any x17) c20).2 (th_leI rfl) (th_leI rfl)
      refine lv_iconst (v := 0) hx hb dX12_canFit_47 ic_0 ?_
      exact J48 _ _ _ z27_0 0 hH hS (lv_sub hl [1, 3, 0] rfl) fy27_2 (rg_w rgc_0 (th_leI rfl) (th_leI rfl)) icn27 (cf_l0 (fr_at r16 t16 (by decide) e17) (fr_at r18 t18 (by decide) e19) c20) (hF.trans (by simp only [↓reduceIte, f_X12_canFit_27, r16, Option.getD_some, ← e17, r18, ← e19, eq_true c20]))
    · skip
      have f22 : rg (-2147483648) 400 x17 := rg_w (rg_nlt f19 (rg_any x17) c20).2 (th_leI rfl) (th_leI rfl)
      refine lv_iconst (v := 1) hx hb dX12_canFit_43 ic_1 ?_
      refine lv_goto (tgt := 48) hx hb dX12_canFit_44 (th_eqI rfl) ?_
      exact J48 _ _ _ z27_0 1 hH hS (lv_sub hl [1, 3, 0] rfl) fy27_2 (rg_w rgc_1 (th_leI rfl) (th_leI rfl)) icn27 (cf_l1 (fr_at r16 t16 (by decide) e17) (fr_at r18 t18 (by decide) e19) c20) (hF.trans (by simp only [↓reduceIte, f_X12_canFit_27, r16, Option.getD_some, ← e17, r18, ← e19, eq_false c20]))
  have hS : va_S (th_A τ s.heap.size) s.heap s.heap [] := va_S.rf
  have hl := lv_entry ([.ref h0, .int p1, .int p2]) (n := 6) (Nat.le_of_ble_eq_true rfl)
  rw [lg_entry_eq]
  generalize (lg_sl ([.ref h0, .int p1, .int p2]) ++ List.replicate (6 - (lg_sl ([.ref h0, .int p1, .int p2])).length) Slot.unset).toArray = ls at hl ⊢
  have hl : lv_has ls 6 [(0, .ref h0), (1, .int p1), (2, .int p2)] := hl
  have hF : F_X12_canFit τ Z gi gr h0 p1 p2 = F_X12_canFit τ Z gi gr h0 p1 p2 := rfl
  refine lv_aload_n hx hb dX12_canFit_0 rfl (lv_at hl 0 rfl) ?_
  obtain ⟨q23, r23, t23⟩ : ∃ q, gr h0 9 = some q ∧ τ q = 47 := (thI_12 hH t_h0).2.2.2.2.2.2.2.2.2.1
  refine th_get (ci := 11) (v := .ref q23) (T := TX12) (C := RX12) (N := 38) hx hb hts (fun w h => List.mem_cons_of_mem _ (List.mem_append_right _ h)) hown hK hH t_h0 (th_nz rfl) (thE_12 _ _ _) rfl 9 (th_ltN rfl) (hts (.fieldLink RX12 31 "BayMooringsModel" "kindOf" "[I") (List.mem_cons_of_mem _ (List.mem_append_left _ (List.mem_of_getElem? (i := 0) rfl)))) (fun _ h9 => h9) (th_fR r23 rfl) dX12_canFit_1 ?_
  refine lv_iload_n hx hb dX12_canFit_4 rfl (lv_at hl 1 rfl) ?_
  refine th_iald hx hb hK hH t23 (th_nz rfl) 0 (thE_47 _ _ _) rfl (rg_in (n := 16) f_p1 (th_leI rfl) (th_ltI rfl)) dX12_canFit_5 ?_
  refine lv_topi (fun x24 e24 => ?_)
  refine lv_iconst (v := 2) hx hb dX12_canFit_6 ic_2 ?_
  refine lv_icmp_ne (tgt := 21) hx hb dX12_canFit_7 (th_eqI rfl) (fun c25 => ?_) (fun c25 => ?_)
  · skip
    refine lv_aload_n hx hb dX12_canFit_21 rfl (lv_at hl 0 rfl) ?_
    obtain ⟨q26, r26, t26⟩ : ∃ q, gr h0 11 = some q ∧ τ q = 49 := (thI_12 hH t_h0).2.2.2.2.2.2.2.2.2.2.2.1
    refine th_get (ci := 11) (v := .ref q26) (T := TX12) (C := RX12) (N := 38) hx hb hts (fun w h => List.mem_cons_of_mem _ (List.mem_append_right _ h)) hown hK hH t_h0 (th_nz rfl) (thE_12 _ _ _) rfl 11 (th_ltN rfl) (hts (.fieldLink RX12 37 "BayMooringsModel" "draughtOf" "[I") (List.mem_cons_of_mem _ (List.mem_append_left _ (List.mem_of_getElem? (i := 1) rfl)))) (fun _ h9 => h9) (th_fR r26 rfl) dX12_canFit_22 ?_
    refine lv_iload_n hx hb dX12_canFit_25 rfl (lv_at hl 1 rfl) ?_
    refine th_iald hx hb hK hH t26 (th_nz rfl) 0 (thE_49 _ _ _) rfl (rg_in (n := 16) f_p1 (th_leI rfl) (th_ltI rfl)) dX12_canFit_26 ?_
    refine lv_topi (fun x27 e27 => ?_)
    exact J27 _ _ _ x27 hH hS (lv_sub hl [0, 1, 2] rfl) f_p1 f_p2 (cf_n1 (fr_at r23 t23 (by decide) e24) c25 (fr_at r26 t26 (by decide) e27)) (hF.trans (by simp only [↓reduceIte, F_X12_canFit, r23, Option.getD_some, ← e24, eq_false c25, r26, ← e27]))
  · skip
    have f28 : rg 2 2 x24 := rg_w (rg_eq (rg_any x24) rgc_2 c25).1 (th_leI rfl) (th_leI rfl)
    refine lv_aload_n hx hb dX12_canFit_10 rfl (lv_at hl 0 rfl) ?_
    obtain ⟨q29, r29, t29⟩ : ∃ q, gr h0 11 = some q ∧ τ q = 49 := (thI_12 hH t_h0).2.2.2.2.2.2.2.2.2.2.2.1
    refine th_get (ci := 11) (v := .ref q29) (T := TX12) (C := RX12) (N := 38) hx hb hts (fun w h => List.mem_cons_of_mem _ (List.mem_append_right _ h)) hown hK hH t_h0 (th_nz rfl) (thE_12 _ _ _) rfl 11 (th_ltN rfl) (hts (.fieldLink RX12 37 "BayMooringsModel" "draughtOf" "[I") (List.mem_cons_of_mem _ (List.mem_append_left _ (List.mem_of_getElem? (i := 1) rfl)))) (fun _ h9 => h9) (th_fR r29 rfl) dX12_canFit_11 ?_
    refine lv_iload_n hx hb dX12_canFit_14 rfl (lv_at hl 1 rfl) ?_
    refine th_iald hx hb hK hH t29 (th_nz rfl) 0 (thE_49 _ _ _) rfl (rg_in (n := 16) f_p1 (th_leI rfl) (th_ltI rfl)) dX12_canFit_15 ?_
    refine lv_topi (fun x30 e30 => ?_)
    refine lv_iconst (v := 2) hx hb dX12_canFit_16 ic_2 ?_
    refine lv_idiv hx hb dX12_canFit_17 (rg_ne0 rgc_2 (Or.inl (th_ltI rfl))) ?_
    refine lv_topi (fun x31 e31 => ?_)
    refine lv_goto (tgt := 27) hx hb dX12_canFit_18 (th_eqI rfl) ?_
    exact J27 _ _ _ x31 hH hS (lv_sub hl [0, 1, 2] rfl) f_p1 f_p2 (cf_n2 (fr_at r23 t23 (by decide) e24) c25 (fr_at r29 t29 (by decide) e30) e31) (hF.trans (by simp only [↓reduceIte, F_X12_canFit, r23, Option.getD_some, ← e24, eq_true c25, r29, ← e30, ← e31]))

noncomputable def f_X12_fits_16 (τ : th_t) (Z : th_Zt) (gi : th_i) (gr : th_r) (h0 : Nat) (p1 : Int32) (p2 : Int32) (gi_16 : th_i) : Int32 × th_i :=
  let u2 : Int32 × th_i := F_X12_finding τ Z gi_16 gr h0 (-1000001)
  let x2 : Int32 := u2.1
  let gi2 : th_i := u2.2
  (x2, gi2)
noncomputable def F_X12_fits (τ : th_t) (Z : th_Zt) (gi : th_i) (gr : th_r) (h0 : Nat) (p1 : Int32) (p2 : Int32) : Int32 × th_i :=
  let x4 : Int32 := F_X12_isBoat τ Z gi gr h0 p1
  if x4 = (0 : Int32) then (
    f_X12_fits_16 τ Z gi gr h0 p1 p2 gi) else (
    let x10 : Int32 := F_X12_isBuoy τ Z gi gr h0 p2
    if x10 = (0 : Int32) then (
      f_X12_fits_16 τ Z gi gr h0 p1 p2 gi) else (
      let x15 : Int32 := F_X12_canFit τ Z gi gr h0 p1 p2
      if x15 = (0 : Int32) then (
        (0, gi)) else (
        (1, gi))))
set_option maxHeartbeats 8000000 in
set_option maxRecDepth 100000 in
theorem k_X12_fits (l : Launch) (D : va_G) (cA : Nat → ClassId) (Z : th_Zt) (τ : th_t) (gi : th_i) (gr : th_r) (sz : Nat) (h0 : Nat) (t_h0 : τ h0 = 12) (p1 : Int32) (p2 : Int32) : Met l yX12_fits wsX12_fits ({ frames := 2, cells := 0, slots := 0, locals := 43 }) (va_Pc [.ref h0, .int p1, .int p2] (th_Pre D cA Z τ gi gr sz)) (va_Qi (fun (r : Int32) (u : th_i × th_r) => th_Mod [5900] τ gi gr u.1 u.2 ∧ u.2 = gr ∧ (F_X12_fits τ Z gi gr h0 p1 p2 = (r, u.1))) (fun (u : th_i × th_r) t => th_H D cA τ u.1 u.2 t.heap) (th_A τ sz)) 0 0 (th_A τ sz) := by
  refine Met.ofW (cc := cX12_fits) (maxL := 3) (ret := (some .int)) (by decide) rfl ?_
  intro p e s m args below meth c s₁ B hml hv
  obtain ⟨rfl, hsz, hH, hK, hN, hZ⟩ := hv
  have hx := B.exec
  have hb := B.bytes
  have hr := B.returns
  have hts := atoms_spec (ws := wsX12_fits) B.pre
  have hown : s.vm.findClass RX12 = some m.cls := findClass_of_methodNamed B.named
  have hlocks := B.notSynchronized
  subst hsz
  have hM : th_Mod [5900] τ gi gr gi gr := th_Mod.rf
  have J16 : ∀ (gi_16 : th_i) (H : Heap) (locs : List Loc) (ls : Array Slot), th_H D cA τ gi_16 gr H → va_S (th_A τ s.heap.size) s.heap H locs → th_Mod [5900] τ gi gr gi_16 gr → lv_has ls 3 [(0, .ref h0)] → F_X12_fits τ Z gi gr h0 p1 p2 = f_X12_fits_16 τ Z gi gr h0 p1 p2 gi_16 → W p l e (headSpec wsX12_fits ({ frames := 2, cells := 0, slots := 0, locals := 43 })).room s m [.ref h0, .int p1, .int p2].toArray below meth c H locs 0 0 (MQ below (va_Qi (fun (r : Int32) (u : th_i × th_r) => th_Mod [5900] τ gi gr u.1 u.2 ∧ u.2 = gr ∧ (F_X12_fits τ Z gi gr h0 p1 p2 = (r, u.1))) (fun (u : th_i × th_r) t => th_H D cA τ u.1 u.2 t.heap) (th_A τ s.heap.size)) [.ref h0, .int p1, .int p2].toArray s 0 0 (th_A τ s.heap.size)) (F0 m 16 ls []) := by
    intro gi_16 H locs ls hH hS hM hl hF
    refine lv_aload_n hx hb dX12_fits_16 rfl (lv_at hl 0 rfl) ?_
    refine lv_ldc (v := (-1000001)) hx hb hown (hts (.constant RX12 119 (-1000001)) (List.mem_cons_of_mem _ (List.mem_append_left _ (List.mem_append_left _ (List.mem_of_getElem? (i := 0) rfl))))) dX12_fits_17 ?_
    have hA1 := th_Asub (τ := τ) hS
    refine va_calli (va_runV (As := [.int (-1000001)]) (rest := []) ⟨hx, hb, hml, hown, hts⟩ (k_X12_finding l D cA Z τ gi_16 gr _ h0 t_h0 (-1000001) (rg_w rgc_m1000001 (th_leI rfl) (th_leI rfl))) (cwV 1 hts gX12_fits_X12_finding rfl rfl rfl hd_X12_finding__1 ⟨Nat.le_of_ble_eq_true rfl, Nat.le_of_ble_eq_true rfl⟩) ⟨th_blind, tr_12 hK hH t_h0, (th_pre hH hK hN hZ hS hA1)⟩ rfl rfl hl.1 rfl (lv_room (Nat.le_of_ble_eq_true rfl)) dX12_fits_19 ⟨Nat.le_of_ble_eq_true rfl, Nat.le_of_ble_eq_true rfl⟩) hS (fun q _ h => hA1 q h) hA1 (fun x2 u t H locs ht hvm hw2 hB hz1 hk1 hS => ?_)
    try dsimp only at hw2 hB
    rw [ht] at hB
    have hH := hB
    obtain ⟨gi2, gr2⟩ := u
    try dsimp only at hw2 hH
    obtain rfl : gr = gr2 := (hw2.2.1).symm
    have hM := hM.tr hw2.1 (fun _ h => h) (th_sub rfl)
    refine lv_goto (tgt := 39) hx hb dX12_fits_22 (th_eqI rfl) ?_
    exact W.iret (v := x2) hx hb hr (fun t ht hW => ⟨⟨x2, (gi2, gr), rfl, ⟨hM, rfl, (hF.trans (by simp only [f_X12_fits_16, hw2.2.2.1]))⟩, th_Ht ht hH⟩, hS.F ht⟩) hS.2.2 dX12_fits_39
  have hS : va_S (th_A τ s.heap.size) s.heap s.heap [] := va_S.rf
  have hl := lv_entry ([.ref h0, .int p1, .int p2]) (n := 3) (Nat.le_of_ble_eq_true rfl)
  rw [lg_entry_eq]
  generalize (lg_sl ([.ref h0, .int p1, .int p2]) ++ List.replicate (3 - (lg_sl ([.ref h0, .int p1, .int p2])).length) Slot.unset).toArray = ls at hl ⊢
  have hl : lv_has ls 3 [(0, .ref h0), (1, .int p1), (2, .int p2)] := hl
  have hF : F_X12_fits τ Z gi gr h0 p1 p2 = F_X12_fits τ Z gi gr h0 p1 p2 := rfl
  refine lv_aload_n hx hb dX12_fits_0 rfl (lv_at hl 0 rfl) ?_
  refine lv_iload_n hx hb dX12_fits_1 rfl (lv_at hl 1 rfl) ?_
  have hA3 := th_Asub (τ := τ) hS
  refine va_calli (va_runV (As := [.int p1]) (rest := []) ⟨hx, hb, hml, hown, hts⟩ (k_X12_isBoat l D cA Z τ gi gr _ h0 t_h0 p1) (cwV 1 hts gX12_fits_X12_isBoat rfl rfl rfl hd_X12_isBoat__1 ⟨Nat.le_of_ble_eq_true rfl, Nat.le_of_ble_eq_true rfl⟩) ⟨th_blind, tr_12 hK hH t_h0, (th_pre hH hK hN hZ hS hA3)⟩ rfl rfl hl.1 rfl (lv_room (Nat.le_of_ble_eq_true rfl)) dX12_fits_2 ⟨Nat.le_of_ble_eq_true rfl, Nat.le_of_ble_eq_true rfl⟩) hS (fun q _ h => hA3 q h) hA3 (fun x4 u t H locs ht hvm hw4 hB hz1 hk1 hS => ?_)
  try dsimp only at hw4 hB
  rw [ht] at hB
  have hH := hB
  refine lv_if_eq (tgt := 16) hx hb dX12_fits_5 (th_eqI rfl) (fun c5 => ?_) (fun c5 => ?_)
  · skip
    have f6 : rg 0 0 x4 := rg_w (rg_eq hw4.1 rgc_0 c5).1 (th_leI rfl) (th_leI rfl)
    exact J16 gi _ _ _ hH hS hM (lv_sub hl [0] rfl) (hF.trans (by simp only [↓reduceIte, F_X12_fits, hw4.2.2, eq_true c5]))
  · skip
    have f7 : rg 1 1 x4 := rg_w (rg_neL hw4.1 rgc_0 c5) (th_leI rfl) (th_leI rfl)
    have f8 : rg 0 15 p1 := rg_w (hw4.2.1 c5) (th_leI rfl) (th_leI rfl)
    refine lv_aload_n hx hb dX12_fits_8 rfl (lv_at hl 0 rfl) ?_
    refine lv_iload_n hx hb dX12_fits_9 rfl (lv_at hl 2 rfl) ?_
    have hA9 := th_Asub (τ := τ) hS
    refine va_calli (va_runV (As := [.int p2]) (rest := []) ⟨hx, hb, hml, hown, hts⟩ (k_X12_isBuoy l D cA Z τ gi gr _ h0 t_h0 p2) (cwV 1 hts gX12_fits_X12_isBuoy rfl rfl rfl hd_X12_isBuoy__1 ⟨Nat.le_of_ble_eq_true rfl, Nat.le_of_ble_eq_true rfl⟩) ⟨th_blind, tr_12 hK hH t_h0, (th_pre hH hK hN hZ hS hA9)⟩ rfl rfl hl.1 rfl (lv_room (Nat.le_of_ble_eq_true rfl)) dX12_fits_10 ⟨Nat.le_of_ble_eq_true rfl, Nat.le_of_ble_eq_true rfl⟩) hS (fun q _ h => hA9 q h) hA9 (fun x10 u t H locs ht hvm hw10 hB hz1 hk1 hS => ?_)
    try dsimp only at hw10 hB
    rw [ht] at hB
    have hH := hB
    refine lv_if_ne (tgt := 25) hx hb dX12_fits_13 (th_eqI rfl) (fun c11 => ?_) (fun c11 => ?_)
    · skip
      have f12 : rg 1 1 x10 := rg_w (rg_neL hw10.1 rgc_0 c11) (th_leI rfl) (th_leI rfl)
      have f13 : rg 0 11 p2 := rg_w (hw10.2.1 c11) (th_leI rfl) (th_leI rfl)
      refine lv_aload_n hx hb dX12_fits_25 rfl (lv_at hl 0 rfl) ?_
      refine lv_iload_n hx hb dX12_fits_26 rfl (lv_at hl 1 rfl) ?_
      refine lv_iload_n hx hb dX12_fits_27 rfl (lv_at hl 2 rfl) ?_
      have hA14 := th_Asub (τ := τ) hS
      refine va_calli (va_runV (As := [.int p1, .int p2]) (rest := []) ⟨hx, hb, hml, hown, hts⟩ (k_X12_canFit l D cA Z τ gi gr _ h0 t_h0 p1 f8 p2 f13) (cwV 2 hts gX12_fits_X12_canFit rfl rfl rfl hd_X12_canFit__2 ⟨Nat.le_of_ble_eq_true rfl, Nat.le_of_ble_eq_true rfl⟩) ⟨th_blind, tr_12 hK hH t_h0, (th_pre hH hK hN hZ hS hA14)⟩ rfl rfl hl.1 rfl (lv_room (Nat.le_of_ble_eq_true rfl)) dX12_fits_28 ⟨Nat.le_of_ble_eq_true rfl, Nat.le_of_ble_eq_true rfl⟩) hS (fun q _ h => hA14 q h) hA14 (fun x15 u t H locs ht hvm hw15 hB hz1 hk1 hS => ?_)
      try dsimp only at hw15 hB
      rw [ht] at hB
      have hH := hB
      refine lv_if_eq (tgt := 38) hx hb dX12_fits_31 (th_eqI rfl) (fun c16 => ?_) (fun c16 => ?_)
      · skip
        have f17 : rg 0 0 x15 := rg_w (rg_eq hw15.1 rgc_0 c16).1 (th_leI rfl) (th_leI rfl)
        refine lv_iconst (v := 0) hx hb dX12_fits_38 ic_0 ?_
        exact W.iret (v := 0) hx hb hr (fun t ht hW => ⟨⟨0, (gi, gr), rfl, ⟨hM, rfl, (hF.trans (by simp only [↓reduceIte, F_X12_fits, hw4.2.2, eq_false c5, hw10.2.2, eq_false c11, hw15.2.1, eq_true c16]))⟩, th_Ht ht hH⟩, hS.F ht⟩) hS.2.2 dX12_fits_39
      · skip
        have f18 : rg 1 1 x15 := rg_w (rg_neL hw15.1 rgc_0 c16) (th_leI rfl) (th_leI rfl)
        refine lv_iconst (v := 1) hx hb dX12_fits_34 ic_1 ?_
        refine lv_goto (tgt := 39) hx hb dX12_fits_35 (th_eqI rfl) ?_
        exact W.iret (v := 1) hx hb hr (fun t ht hW => ⟨⟨1, (gi, gr), rfl, ⟨hM, rfl, (hF.trans (by simp only [↓reduceIte, F_X12_fits, hw4.2.2, eq_false c5, hw10.2.2, eq_false c11, hw15.2.1, eq_false c16]))⟩, th_Ht ht hH⟩, hS.F ht⟩) hS.2.2 dX12_fits_39
    · skip
      have f19 : rg 0 0 x10 := rg_w (rg_eq hw10.1 rgc_0 c11).1 (th_leI rfl) (th_leI rfl)
      exact J16 gi _ _ _ hH hS hM (lv_sub hl [0] rfl) (hF.trans (by simp only [↓reduceIte, F_X12_fits, hw4.2.2, eq_false c5, hw10.2.2, eq_true c11]))

noncomputable def F_X12_steps (τ : th_t) (Z : th_Zt) (gi : th_i) (gr : th_r) (p0 : Int32) (p1 : Int32) (p2 : Int32) : Int32 :=
  if p1 = (0 : Int32) then (
    0) else (
    if p2 = (0 : Int32) then (
      let x7 : Int32 := p0 * p1
      x7) else (
      let x3 : Int32 := p0 * 7
      let x4 : Int32 := x3 / 10
      let x5 : Int32 := p1 * x4
      x5))
set_option maxHeartbeats 8000000 in
set_option maxRecDepth 100000 in
theorem k_X12_steps (l : Launch) (D : va_G) (cA : Nat → ClassId) (Z : th_Zt) (τ : th_t) (gi : th_i) (gr : th_r) (sz : Nat) (p0 : Int32) (p1 : Int32) (p2 : Int32) : Met l yX12_steps wsX12_steps ({ frames := 0, cells := 0, slots := 0, locals := 0 }) (va_Pc [.int p0, .int p1, .int p2] (th_Pre D cA Z τ gi gr sz)) (va_Qi (fun (r : Int32) (_ : Unit) => (F_X12_steps τ Z gi gr p0 p1 p2 = r)) (fun (_ : Unit) t => th_H D cA τ gi gr t.heap) (th_A τ sz)) 0 0 (th_A τ sz) := by
  refine Met.ofW (cc := cX12_steps) (maxL := 3) (ret := (some .int)) (by decide) rfl ?_
  intro p e s m args below meth c s₁ B hml hv
  obtain ⟨rfl, hsz, hH, hK, hN, hZ⟩ := hv
  have hx := B.exec
  have hb := B.bytes
  have hr := B.returns
  have hts := atoms_spec (ws := wsX12_steps) B.pre
  have hown : s.vm.findClass RX12 = some m.cls := findClass_of_methodNamed B.named
  have hlocks := B.notSynchronized
  subst hsz
  have hS : va_S (th_A τ s.heap.size) s.heap s.heap [] := va_S.rf
  have hl := lv_entry ([.int p0, .int p1, .int p2]) (n := 3) (Nat.le_of_ble_eq_true rfl)
  rw [lg_entry_eq]
  generalize (lg_sl ([.int p0, .int p1, .int p2]) ++ List.replicate (3 - (lg_sl ([.int p0, .int p1, .int p2])).length) Slot.unset).toArray = ls at hl ⊢
  have hl : lv_has ls 3 [(0, .int p0), (1, .int p1), (2, .int p2)] := hl
  have hF : F_X12_steps τ Z gi gr p0 p1 p2 = F_X12_steps τ Z gi gr p0 p1 p2 := rfl
  refine lv_iload_n hx hb dX12_steps_0 rfl (lv_at hl 1 rfl) ?_
  refine lv_if_ne (tgt := 8) hx hb dX12_steps_1 (th_eqI rfl) (fun c1 => ?_) (fun c1 => ?_)
  · skip
    refine lv_iload_n hx hb dX12_steps_8 rfl (lv_at hl 2 rfl) ?_
    refine lv_if_ne (tgt := 18) hx hb dX12_steps_9 (th_eqI rfl) (fun c2 => ?_) (fun c2 => ?_)
    · skip
      refine lv_iload_n hx hb dX12_steps_18 rfl (lv_at hl 1 rfl) ?_
      refine lv_iload_n hx hb dX12_steps_19 rfl (lv_at hl 0 rfl) ?_
      refine lv_bipush (v := 7) hx hb dX12_steps_20 bp_7 ?_
      refine lv_imul hx hb dX12_steps_22 ?_
      refine lv_topi (fun x3 e3 => ?_)
      refine lv_bipush (v := 10) hx hb dX12_steps_23 bp_10 ?_
      refine lv_idiv hx hb dX12_steps_25 (rg_ne0 rgc_10 (Or.inl (th_ltI rfl))) ?_
      refine lv_topi (fun x4 e4 => ?_)
      refine lv_imul hx hb dX12_steps_26 ?_
      refine lv_topi (fun x5 e5 => ?_)
      exact W.iret (v := x5) hx hb hr (fun t ht hW => ⟨⟨x5, (), rfl, (hF.trans (by simp only [↓reduceIte, F_X12_steps, eq_false c1, eq_false c2, ← e3, ← e4, ← e5])), th_Ht ht hH⟩, hS.F ht⟩) hS.2.2 dX12_steps_27
    · skip
      have f6 : rg 0 0 p2 := rg_w (rg_eq (rg_any p2) rgc_0 c2).1 (th_leI rfl) (th_leI rfl)
      refine lv_iload_n hx hb dX12_steps_12 rfl (lv_at hl 0 rfl) ?_
      refine lv_iload_n hx hb dX12_steps_13 rfl (lv_at hl 1 rfl) ?_
      refine lv_imul hx hb dX12_steps_14 ?_
      refine lv_topi (fun x7 e7 => ?_)
      refine lv_goto (tgt := 27) hx hb dX12_steps_15 (th_eqI rfl) ?_
      exact W.iret (v := x7) hx hb hr (fun t ht hW => ⟨⟨x7, (), rfl, (hF.trans (by simp only [↓reduceIte, F_X12_steps, eq_false c1, eq_true c2, ← e7])), th_Ht ht hH⟩, hS.F ht⟩) hS.2.2 dX12_steps_27
  · skip
    have f8 : rg 0 0 p1 := rg_w (rg_eq (rg_any p1) rgc_0 c1).1 (th_leI rfl) (th_leI rfl)
    refine lv_iconst (v := 0) hx hb dX12_steps_4 ic_0 ?_
    refine lv_goto (tgt := 27) hx hb dX12_steps_5 (th_eqI rfl) ?_
    exact W.iret (v := 0) hx hb hr (fun t ht hW => ⟨⟨0, (), rfl, (hF.trans (by simp only [↓reduceIte, F_X12_steps, eq_true c1])), th_Ht ht hH⟩, hS.F ht⟩) hS.2.2 dX12_steps_27

noncomputable def F_X12_isThere (τ : th_t) (Z : th_Zt) (gi : th_i) (gr : th_r) (h0 : Nat) (p1 : Int32) : Int32 :=
  let x1 : Int32 := gi h0 14
  let x2 : Int32 := x1 >>> (p1 &&& 31)
  let x3 : Int32 := x2 &&& 1
  if x3 = (1 : Int32) then (
    1) else (
    0)
set_option maxHeartbeats 8000000 in
set_option maxRecDepth 100000 in
theorem k_X12_isThere (l : Launch) (D : va_G) (cA : Nat → ClassId) (Z : th_Zt) (τ : th_t) (gi : th_i) (gr : th_r) (sz : Nat) (h0 : Nat) (t_h0 : τ h0 = 12) (p1 : Int32) : Met l yX12_isThere wsX12_isThere ({ frames := 0, cells := 0, slots := 0, locals := 0 }) (va_Pc [.ref h0, .int p1] (th_Pre D cA Z τ gi gr sz)) (va_Qi (fun (r : Int32) (_ : Unit) => rg 0 1 r ∧ (F_X12_isThere τ Z gi gr h0 p1 = r)) (fun (_ : Unit) t => th_H D cA τ gi gr t.heap) (th_A τ sz)) 0 0 (th_A τ sz) := by
  refine Met.ofW (cc := cX12_isThere) (maxL := 2) (ret := (some .boolean)) (by decide) rfl ?_
  intro p e s m args below meth c s₁ B hml hv
  obtain ⟨rfl, hsz, hH, hK, hN, hZ⟩ := hv
  have hx := B.exec
  have hb := B.bytes
  have hr := B.returns
  have hts := atoms_spec (ws := wsX12_isThere) B.pre
  have hown : s.vm.findClass RX12 = some m.cls := findClass_of_methodNamed B.named
  have hlocks := B.notSynchronized
  subst hsz
  have hS : va_S (th_A τ s.heap.size) s.heap s.heap [] := va_S.rf
  have hl := lv_entry ([.ref h0, .int p1]) (n := 2) (Nat.le_of_ble_eq_true rfl)
  rw [lg_entry_eq]
  generalize (lg_sl ([.ref h0, .int p1]) ++ List.replicate (2 - (lg_sl ([.ref h0, .int p1])).length) Slot.unset).toArray = ls at hl ⊢
  have hl : lv_has ls 2 [(0, .ref h0), (1, .int p1)] := hl
  have hF : F_X12_isThere τ Z gi gr h0 p1 = F_X12_isThere τ Z gi gr h0 p1 := rfl
  refine lv_aload_n hx hb dX12_isThere_0 rfl (lv_at hl 0 rfl) ?_
  obtain ⟨x1, e1⟩ : ∃ y : Int32, y = gi h0 14 := ⟨_, rfl⟩
  refine th_get (ci := 11) (v := .int x1) (T := TX12) (C := RX12) (N := 38) hx hb hts (fun w h => List.mem_cons_of_mem _ (List.mem_append_right _ h)) hown hK hH t_h0 (th_nz rfl) (thE_12 _ _ _) rfl 14 (th_ltN rfl) (hts (.fieldLink RX12 46 "BayMooringsModel" "winds" "I") (List.mem_cons_of_mem _ (List.mem_append_left _ (List.mem_of_getElem? (i := 0) rfl)))) (fun _ h9 => h9) (th_fI e1 rfl) dX12_isThere_1 ?_
  refine lv_iload_n hx hb dX12_isThere_4 rfl (lv_at hl 1 rfl) ?_
  refine lv_ishr hx hb dX12_isThere_5 ?_
  refine lv_topi (fun x2 e2 => ?_)
  refine lv_iconst (v := 1) hx hb dX12_isThere_6 ic_1 ?_
  refine lv_iand hx hb dX12_isThere_7 ?_
  refine lv_topi (fun x3 e3 => ?_)
  have f3 : rg 0 1 x3 := rg_e e3 (rg_and 1 (by decide) (th_leN rfl) (th_eqI rfl))
  refine lv_iconst (v := 1) hx hb dX12_isThere_8 ic_1 ?_
  refine lv_icmp_ne (tgt := 16) hx hb dX12_isThere_9 (th_eqI rfl) (fun c4 => ?_) (fun c4 => ?_)
  · skip
    have f5 : rg 0 0 x3 := rg_w (rg_neR f3 rgc_1 c4) (th_leI rfl) (th_leI rfl)
    refine lv_iconst (v := 0) hx hb dX12_isThere_16 ic_0 ?_
    exact W.zret (v := 0) hx hb hr (rg_nb (rg_w rgc_0 (th_leI rfl) (th_leI rfl))) (fun t ht hW => ⟨⟨0, (), rfl, ⟨(rg_w rgc_0 (th_leI rfl) (th_leI rfl)), (hF.trans (by simp only [↓reduceIte, F_X12_isThere, ← e1, ← e2, ← e3, eq_false c4]))⟩, th_Ht ht hH⟩, hS.F ht⟩) hS.2.2 dX12_isThere_17
  · skip
    have f6 : rg 1 1 x3 := rg_w (rg_eq f3 rgc_1 c4).1 (th_leI rfl) (th_leI rfl)
    refine lv_iconst (v := 1) hx hb dX12_isThere_12 ic_1 ?_
    refine lv_goto (tgt := 17) hx hb dX12_isThere_13 (th_eqI rfl) ?_
    exact W.zret (v := 1) hx hb hr (rg_nb (rg_w rgc_1 (th_leI rfl) (th_leI rfl))) (fun t ht hW => ⟨⟨1, (), rfl, ⟨(rg_w rgc_1 (th_leI rfl) (th_leI rfl)), (hF.trans (by simp only [↓reduceIte, F_X12_isThere, ← e1, ← e2, ← e3, eq_true c4]))⟩, th_Ht ht hH⟩, hS.F ht⟩) hS.2.2 dX12_isThere_17

noncomputable def F_X12_meet (τ : th_t) (Z : th_Zt) (gi : th_i) (gr : th_r) (h0 : Nat) (p1 : Int32) (p2 : Int32) (p3 : Int32) (p4 : Int32) (p5 : Int32) (p6 : Int32) : Int32 :=
  let q1 : Nat := (gr h0 1).getD 0
  let x2 : Int32 := gi q1 p1.toNatClampNeg
  let q3 : Nat := (gr h0 15).getD 0
  let x4 : Int32 := gi q3 p3.toNatClampNeg
  let q5 : Nat := (gr h0 16).getD 0
  let x6 : Int32 := gi q5 p3.toNatClampNeg
  let x8 : Int32 := F_X12_steps τ Z gi gr p2 x4 x6
  let x9 : Int32 := x2 + x8
  let x11 : Int32 := gi q1 p4.toNatClampNeg
  let x12 : Int32 := x9 - x11
  let x14 : Int32 := gi q3 p6.toNatClampNeg
  let x16 : Int32 := gi q5 p6.toNatClampNeg
  let x18 : Int32 := F_X12_steps τ Z gi gr p5 x14 x16
  let x19 : Int32 := x12 - x18
  let q20 : Nat := (gr h0 2).getD 0
  let x21 : Int32 := gi q20 p1.toNatClampNeg
  let x27 : Int32 := F_X12_steps τ Z gi gr p2 x6 x4
  let x28 : Int32 := x21 + x27
  let x30 : Int32 := gi q20 p4.toNatClampNeg
  let x31 : Int32 := x28 - x30
  let x37 : Int32 := F_X12_steps τ Z gi gr p5 x16 x14
  let x38 : Int32 := x31 - x37
  let x39 : Int32 := th_ab x19
  if (20 : Int32) ≤ x39 then (
    0) else (
    let x43 : Int32 := th_ab x38
    if (20 : Int32) ≤ x43 then (
      0) else (
      1))
set_option maxHeartbeats 8000000 in
set_option maxRecDepth 100000 in
theorem k_X12_meet (l : Launch) (D : va_G) (cA : Nat → ClassId) (Z : th_Zt) (τ : th_t) (gi : th_i) (gr : th_r) (sz : Nat) (h0 : Nat) (t_h0 : τ h0 = 12) (p1 : Int32) (f_p1 : rg 0 11 p1) (p2 : Int32) (p3 : Int32) (f_p3 : rg 0 7 p3) (p4 : Int32) (f_p4 : rg 0 11 p4) (p5 : Int32) (p6 : Int32) (f_p6 : rg 0 7 p6) : Met l yX12_meet wsX12_meet ({ frames := 1, cells := 0, slots := 0, locals := 40 }) (va_Pc [.ref h0, .int p1, .int p2, .int p3, .int p4, .int p5, .int p6] (th_Pre D cA Z τ gi gr sz)) (va_Qi (fun (r : Int32) (_ : Unit) => rg 0 1 r ∧ (F_X12_meet τ Z gi gr h0 p1 p2 p3 p4 p5 p6 = r)) (fun (_ : Unit) t => th_H D cA τ gi gr t.heap) (th_A τ sz)) 0 0 (th_A τ sz) := by
  refine Met.ofW (cc := cX12_meet) (maxL := 9) (ret := (some .boolean)) (by decide) rfl ?_
  intro p e s m args below meth c s₁ B hml hv
  obtain ⟨rfl, hsz, hH, hK, hN, hZ⟩ := hv
  have hx := B.exec
  have hb := B.bytes
  have hr := B.returns
  have hts := atoms_spec (ws := wsX12_meet) B.pre
  have hown : s.vm.findClass RX12 = some m.cls := findClass_of_methodNamed B.named
  have hlocks := B.notSynchronized
  subst hsz
  have hS : va_S (th_A τ s.heap.size) s.heap s.heap [] := va_S.rf
  have hl := lv_entry ([.ref h0, .int p1, .int p2, .int p3, .int p4, .int p5, .int p6]) (n := 9) (Nat.le_of_ble_eq_true rfl)
  rw [lg_entry_eq]
  generalize (lg_sl ([.ref h0, .int p1, .int p2, .int p3, .int p4, .int p5, .int p6]) ++ List.replicate (9 - (lg_sl ([.ref h0, .int p1, .int p2, .int p3, .int p4, .int p5, .int p6])).length) Slot.unset).toArray = ls at hl ⊢
  have hl : lv_has ls 9 [(0, .ref h0), (1, .int p1), (2, .int p2), (3, .int p3), (4, .int p4), (5, .int p5), (6, .int p6)] := hl
  have hF : F_X12_meet τ Z gi gr h0 p1 p2 p3 p4 p5 p6 = F_X12_meet τ Z gi gr h0 p1 p2 p3 p4 p5 p6 := rfl
  refine lv_aload_n hx hb dX12_meet_0 rfl (lv_at hl 0 rfl) ?_
  obtain ⟨q1, r1, t1⟩ : ∃ q, gr h0 1 = some q ∧ τ q = 40 := (thI_12 hH t_h0).2.1
  refine th_get (ci := 11) (v := .ref q1) (T := TX12) (C := RX12) (N := 38) hx hb hts (fun w h => List.mem_cons_of_mem _ (List.mem_append_right _ h)) hown hK hH t_h0 (th_nz rfl) (thE_12 _ _ _) rfl 1 (th_ltN rfl) (hts (.fieldLink RX12 9 "BayMooringsModel" "atX" "[I") (List.mem_cons_of_mem _ (List.mem_append_left _ (List.mem_of_getElem? (i := 0) rfl)))) (fun _ h9 => h9) (th_fR r1 rfl) dX12_meet_1 ?_
  refine lv_iload_n hx hb dX12_meet_4 rfl (lv_at hl 1 rfl) ?_
  refine th_iald hx hb hK hH t1 (th_nz rfl) 0 (thE_40 _ _ _) rfl (rg_in (n := 12) f_p1 (th_leI rfl) (th_ltI rfl)) dX12_meet_5 ?_
  refine lv_topi (fun x2 e2 => ?_)
  refine lv_iload_n hx hb dX12_meet_6 rfl (lv_at hl 2 rfl) ?_
  refine lv_aload_n hx hb dX12_meet_7 rfl (lv_at hl 0 rfl) ?_
  obtain ⟨q3, r3, t3⟩ : ∃ q, gr h0 15 = some q ∧ τ q = 52 := (thI_12 hH t_h0).2.2.2.2.2.2.2.2.2.2.2.2.2.2.1
  refine th_get (ci := 11) (v := .ref q3) (T := TX12) (C := RX12) (N := 38) hx hb hts (fun w h => List.mem_cons_of_mem _ (List.mem_append_right _ h)) hown hK hH t_h0 (th_nz rfl) (thE_12 _ _ _) rfl 15 (th_ltN rfl) (hts (.fieldLink RX12 50 "BayMooringsModel" "wayX" "[I") (List.mem_cons_of_mem _ (List.mem_append_left _ (List.mem_of_getElem? (i := 1) rfl)))) (fun _ h9 => h9) (th_fR r3 rfl) dX12_meet_8 ?_
  refine lv_iload_n hx hb dX12_meet_11 rfl (lv_at hl 3 rfl) ?_
  refine th_iald hx hb hK hH t3 (th_nz rfl) 0 (thE_52 _ _ _) rfl (rg_in (n := 8) f_p3 (th_leI rfl) (th_ltI rfl)) dX12_meet_12 ?_
  refine lv_topi (fun x4 e4 => ?_)
  refine lv_aload_n hx hb dX12_meet_13 rfl (lv_at hl 0 rfl) ?_
  obtain ⟨q5, r5, t5⟩ : ∃ q, gr h0 16 = some q ∧ τ q = 53 := (thI_12 hH t_h0).2.2.2.2.2.2.2.2.2.2.2.2.2.2.2.1
  refine th_get (ci := 11) (v := .ref q5) (T := TX12) (C := RX12) (N := 38) hx hb hts (fun w h => List.mem_cons_of_mem _ (List.mem_append_right _ h)) hown hK hH t_h0 (th_nz rfl) (thE_12 _ _ _) rfl 16 (th_ltN rfl) (hts (.fieldLink RX12 53 "BayMooringsModel" "wayY" "[I") (List.mem_cons_of_mem _ (List.mem_append_left _ (List.mem_of_getElem? (i := 2) rfl)))) (fun _ h9 => h9) (th_fR r5 rfl) dX12_meet_14 ?_
  refine lv_iload_n hx hb dX12_meet_17 rfl (lv_at hl 3 rfl) ?_
  refine th_iald hx hb hK hH t5 (th_nz rfl) 0 (thE_53 _ _ _) rfl (rg_in (n := 8) f_p3 (th_leI rfl) (th_ltI rfl)) dX12_meet_18 ?_
  refine lv_topi (fun x6 e6 => ?_)
  have hA7 := th_Asub (τ := τ) hS
  refine va_calli (va_runS (As := [.int p2, .int x4, .int x6]) (rest := [.int x2]) ⟨hx, hb, hml, hown, hts⟩ (k_X12_steps l D cA Z τ gi gr _ p2 x4 x6) (va_cwS 3 hts gX12_meet_X12_steps rfl rfl rfl (by decide +kernel) ⟨Nat.le_of_ble_eq_true rfl, Nat.le_of_ble_eq_true rfl⟩) ⟨th_blind, (th_pre hH hK hN hZ hS hA7)⟩ rfl rfl hl.1 rfl (lv_room (Nat.le_of_ble_eq_true rfl)) dX12_meet_19 ⟨Nat.le_of_ble_eq_true rfl, Nat.le_of_ble_eq_true rfl⟩) hS (fun q _ h => hA7 q h) hA7 (fun x8 u t H locs ht hvm hw8 hB hz1 hk1 hS => ?_)
  try dsimp only at hw8 hB
  rw [ht] at hB
  have hH := hB
  refine lv_iadd hx hb dX12_meet_22 ?_
  refine lv_topi (fun x9 e9 => ?_)
  refine lv_aload_n hx hb dX12_meet_23 rfl (lv_at hl 0 rfl) ?_
  refine th_get (ci := 11) (v := .ref q1) (T := TX12) (C := RX12) (N := 38) hx hb hts (fun w h => List.mem_cons_of_mem _ (List.mem_append_right _ h)) hown hK hH t_h0 (th_nz rfl) (thE_12 _ _ _) rfl 1 (th_ltN rfl) (hts (.fieldLink RX12 9 "BayMooringsModel" "atX" "[I") (List.mem_cons_of_mem _ (List.mem_append_left _ (List.mem_of_getElem? (i := 0) rfl)))) (fun _ h9 => h9) (th_fR r1 rfl) dX12_meet_24 ?_
  refine lv_iload hx hb dX12_meet_27 (lv_at hl 4 rfl) ?_
  refine th_iald hx hb hK hH t1 (th_nz rfl) 0 (thE_40 _ _ _) rfl (rg_in (n := 12) f_p4 (th_leI rfl) (th_ltI rfl)) dX12_meet_29 ?_
  refine lv_topi (fun x11 e11 => ?_)
  refine lv_isub hx hb dX12_meet_30 ?_
  refine lv_topi (fun x12 e12 => ?_)
  refine lv_iload hx hb dX12_meet_31 (lv_at hl 5 rfl) ?_
  refine lv_aload_n hx hb dX12_meet_33 rfl (lv_at hl 0 rfl) ?_
  refine th_get (ci := 11) (v := .ref q3) (T := TX12) (C := RX12) (N := 38) hx hb hts (fun w h => List.mem_cons_of_mem _ (List.mem_append_right _ h)) hown hK hH t_h0 (th_nz rfl) (thE_12 _ _ _) rfl 15 (th_ltN rfl) (hts (.fieldLink RX12 50 "BayMooringsModel" "wayX" "[I") (List.mem_cons_of_mem _ (List.mem_append_left _ (List.mem_of_getElem? (i := 1) rfl)))) (fun _ h9 => h9) (th_fR r3 rfl) dX12_meet_34 ?_
  refine lv_iload hx hb dX12_meet_37 (lv_at hl 6 rfl) ?_
  refine th_iald hx hb hK hH t3 (th_nz rfl) 0 (thE_52 _ _ _) rfl (rg_in (n := 8) f_p6 (th_leI rfl) (th_ltI rfl)) dX12_meet_39 ?_
  refine lv_topi (fun x14 e14 => ?_)
  refine lv_aload_n hx hb dX12_meet_40 rfl (lv_at hl 0 rfl) ?_
  refine th_get (ci := 11) (v := .ref q5) (T := TX12) (C := RX12) (N := 38) hx hb hts (fun w h => List.mem_cons_of_mem _ (List.mem_append_right _ h)) hown hK hH t_h0 (th_nz rfl) (thE_12 _ _ _) rfl 16 (th_ltN rfl) (hts (.fieldLink RX12 53 "BayMooringsModel" "wayY" "[I") (List.mem_cons_of_mem _ (List.mem_append_left _ (List.mem_of_getElem? (i := 2) rfl)))) (fun _ h9 => h9) (th_fR r5 rfl) dX12_meet_41 ?_
  refine lv_iload hx hb dX12_meet_44 (lv_at hl 6 rfl) ?_
  refine th_iald hx hb hK hH t5 (th_nz rfl) 0 (thE_53 _ _ _) rfl (rg_in (n := 8) f_p6 (th_leI rfl) (th_ltI rfl)) dX12_meet_46 ?_
  refine lv_topi (fun x16 e16 => ?_)
  have hA17 := th_Asub (τ := τ) hS
  refine va_calli (va_runS (As := [.int p5, .int x14, .int x16]) (rest := [.int x12]) ⟨hx, hb, hml, hown, hts⟩ (k_X12_steps l D cA Z τ gi gr _ p5 x14 x16) (va_cwS 3 hts gX12_meet_X12_steps rfl rfl rfl (by decide +kernel) ⟨Nat.le_of_ble_eq_true rfl, Nat.le_of_ble_eq_true rfl⟩) ⟨th_blind, (th_pre hH hK hN hZ hS hA17)⟩ rfl rfl hl.1 rfl (lv_room (Nat.le_of_ble_eq_true rfl)) dX12_meet_47 ⟨Nat.le_of_ble_eq_true rfl, Nat.le_of_ble_eq_true rfl⟩) hS (fun q _ h => hA17 q h) hA17 (fun x18 u t H locs ht hvm hw18 hB hz1 hk1 hS => ?_)
  try dsimp only at hw18 hB
  rw [ht] at hB
  have hH := hB
  refine lv_isub hx hb dX12_meet_50 ?_
  refine lv_topi (fun x19 e19 => ?_)
  refine lv_istore (i := 7) (lv' := [(7, .int x19), (0, .ref h0), (1, .int p1), (2, .int p2), (3, .int p3), (4, .int p4), (5, .int p5), (6, .int p6)]) hx hb dX12_meet_51 hl (th_ltN rfl) rfl (fun ls hl => ?_)
  refine lv_aload_n hx hb dX12_meet_53 rfl (lv_at hl 1 rfl) ?_
  obtain ⟨q20, r20, t20⟩ : ∃ q, gr h0 2 = some q ∧ τ q = 41 := (thI_12 hH t_h0).2.2.1
  refine th_get (ci := 11) (v := .ref q20) (T := TX12) (C := RX12) (N := 38) hx hb hts (fun w h => List.mem_cons_of_mem _ (List.mem_append_right _ h)) hown hK hH t_h0 (th_nz rfl) (thE_12 _ _ _) rfl 2 (th_ltN rfl) (hts (.fieldLink RX12 13 "BayMooringsModel" "atY" "[I") (List.mem_cons_of_mem _ (List.mem_append_left _ (List.mem_of_getElem? (i := 3) rfl)))) (fun _ h9 => h9) (th_fR r20 rfl) dX12_meet_54 ?_
  refine lv_iload_n hx hb dX12_meet_57 rfl (lv_at hl 2 rfl) ?_
  refine th_iald hx hb hK hH t20 (th_nz rfl) 0 (thE_41 _ _ _) rfl (rg_in (n := 12) f_p1 (th_leI rfl) (th_ltI rfl)) dX12_meet_58 ?_
  refine lv_topi (fun x21 e21 => ?_)
  refine lv_iload_n hx hb dX12_meet_59 rfl (lv_at hl 3 rfl) ?_
  refine lv_aload_n hx hb dX12_meet_60 rfl (lv_at hl 1 rfl) ?_
  refine th_get (ci := 11) (v := .ref q5) (T := TX12) (C := RX12) (N := 38) hx hb hts (fun w h => List.mem_cons_of_mem _ (List.mem_append_right _ h)) hown hK hH t_h0 (th_nz rfl) (thE_12 _ _ _) rfl 16 (th_ltN rfl) (hts (.fieldLink RX12 53 "BayMooringsModel" "wayY" "[I") (List.mem_cons_of_mem _ (List.mem_append_left _ (List.mem_of_getElem? (i := 2) rfl)))) (fun _ h9 => h9) (th_fR r5 rfl) dX12_meet_61 ?_
  refine lv_iload_n hx hb dX12_meet_64 rfl (lv_at hl 4 rfl) ?_
  refine th_iald hx hb hK hH t5 (th_nz rfl) 0 (thE_53 _ _ _) rfl (rg_in (n := 8) f_p3 (th_leI rfl) (th_ltI rfl)) dX12_meet_65 ?_
  rw [← e6]
  refine lv_aload_n hx hb dX12_meet_66 rfl (lv_at hl 1 rfl) ?_
  refine th_get (ci := 11) (v := .ref q3) (T := TX12) (C := RX12) (N := 38) hx hb hts (fun w h => List.mem_cons_of_mem _ (List.mem_append_right _ h)) hown hK hH t_h0 (th_nz rfl) (thE_12 _ _ _) rfl 15 (th_ltN rfl) (hts (.fieldLink RX12 50 "BayMooringsModel" "wayX" "[I") (List.mem_cons_of_mem _ (List.mem_append_left _ (List.mem_of_getElem? (i := 1) rfl)))) (fun _ h9 => h9) (th_fR r3 rfl) dX12_meet_67 ?_
  refine lv_iload_n hx hb dX12_meet_70 rfl (lv_at hl 4 rfl) ?_
  refine th_iald hx hb hK hH t3 (th_nz rfl) 0 (thE_52 _ _ _) rfl (rg_in (n := 8) f_p3 (th_leI rfl) (th_ltI rfl)) dX12_meet_71 ?_
  rw [← e4]
  have hA26 := th_Asub (τ := τ) hS
  refine va_calli (va_runS (As := [.int p2, .int x6, .int x4]) (rest := [.int x21]) ⟨hx, hb, hml, hown, hts⟩ (k_X12_steps l D cA Z τ gi gr _ p2 x6 x4) (va_cwS 3 hts gX12_meet_X12_steps rfl rfl rfl (by decide +kernel) ⟨Nat.le_of_ble_eq_true rfl, Nat.le_of_ble_eq_true rfl⟩) ⟨th_blind, (th_pre hH hK hN hZ hS hA26)⟩ rfl rfl hl.1 rfl (lv_room (Nat.le_of_ble_eq_true rfl)) dX12_meet_72 ⟨Nat.le_of_ble_eq_true rfl, Nat.le_of_ble_eq_true rfl⟩) hS (fun q _ h => hA26 q h) hA26 (fun x27 u t H locs ht hvm hw27 hB hz1 hk1 hS => ?_)
  try dsimp only at hw27 hB
  rw [ht] at hB
  have hH := hB
  refine lv_iadd hx hb dX12_meet_75 ?_
  refine lv_topi (fun x28 e28 => ?_)
  refine lv_aload_n hx hb dX12_meet_76 rfl (lv_at hl 1 rfl) ?_
  refine th_get (ci := 11) (v := .ref q20) (T := TX12) (C := RX12) (N := 38) hx hb hts (fun w h => List.mem_cons_of_mem _ (List.mem_append_right _ h)) hown hK hH t_h0 (th_nz rfl) (thE_12 _ _ _) rfl 2 (th_ltN rfl) (hts (.fieldLink RX12 13 "BayMooringsModel" "atY" "[I") (List.mem_cons_of_mem _ (List.mem_append_left _ (List.mem_of_getElem? (i := 3) rfl)))) (fun _ h9 => h9) (th_fR r20 rfl) dX12_meet_77 ?_
  refine lv_iload hx hb dX12_meet_80 (lv_at hl 5 rfl) ?_
  refine th_iald hx hb hK hH t20 (th_nz rfl) 0 (thE_41 _ _ _) rfl (rg_in (n := 12) f_p4 (th_leI rfl) (th_ltI rfl)) dX12_meet_82 ?_
  refine lv_topi (fun x30 e30 => ?_)
  refine lv_isub hx hb dX12_meet_83 ?_
  refine lv_topi (fun x31 e31 => ?_)
  refine lv_iload hx hb dX12_meet_84 (lv_at hl 6 rfl) ?_
  refine lv_aload_n hx hb dX12_meet_86 rfl (lv_at hl 1 rfl) ?_
  refine th_get (ci := 11) (v := .ref q5) (T := TX12) (C := RX12) (N := 38) hx hb hts (fun w h => List.mem_cons_of_mem _ (List.mem_append_right _ h)) hown hK hH t_h0 (th_nz rfl) (thE_12 _ _ _) rfl 16 (th_ltN rfl) (hts (.fieldLink RX12 53 "BayMooringsModel" "wayY" "[I") (List.mem_cons_of_mem _ (List.mem_append_left _ (List.mem_of_getElem? (i := 2) rfl)))) (fun _ h9 => h9) (th_fR r5 rfl) dX12_meet_87 ?_
  refine lv_iload hx hb dX12_meet_90 (lv_at hl 7 rfl) ?_
  refine th_iald hx hb hK hH t5 (th_nz rfl) 0 (thE_53 _ _ _) rfl (rg_in (n := 8) f_p6 (th_leI rfl) (th_ltI rfl)) dX12_meet_92 ?_
  rw [← e16]
  refine lv_aload_n hx hb dX12_meet_93 rfl (lv_at hl 1 rfl) ?_
  refine th_get (ci := 11) (v := .ref q3) (T := TX12) (C := RX12) (N := 38) hx hb hts (fun w h => List.mem_cons_of_mem _ (List.mem_append_right _ h)) hown hK hH t_h0 (th_nz rfl) (thE_12 _ _ _) rfl 15 (th_ltN rfl) (hts (.fieldLink RX12 50 "BayMooringsModel" "wayX" "[I") (List.mem_cons_of_mem _ (List.mem_append_left _ (List.mem_of_getElem? (i := 1) rfl)))) (fun _ h9 => h9) (th_fR r3 rfl) dX12_meet_94 ?_
  refine lv_iload hx hb dX12_meet_97 (lv_at hl 7 rfl) ?_
  refine th_iald hx hb hK hH t3 (th_nz rfl) 0 (thE_52 _ _ _) rfl (rg_in (n := 8) f_p6 (th_leI rfl) (th_ltI rfl)) dX12_meet_99 ?_
  rw [← e14]
  have hA36 := th_Asub (τ := τ) hS
  refine va_calli (va_runS (As := [.int p5, .int x16, .int x14]) (rest := [.int x31]) ⟨hx, hb, hml, hown, hts⟩ (k_X12_steps l D cA Z τ gi gr _ p5 x16 x14) (va_cwS 3 hts gX12_meet_X12_steps rfl rfl rfl (by decide +kernel) ⟨Nat.le_of_ble_eq_true rfl, Nat.le_of_ble_eq_true rfl⟩) ⟨th_blind, (th_pre hH hK hN hZ hS hA36)⟩ rfl rfl hl.1 rfl (lv_room (Nat.le_of_ble_eq_true rfl)) dX12_meet_100 ⟨Nat.le_of_ble_eq_true rfl, Nat.le_of_ble_eq_true rfl⟩) hS (fun q _ h => hA36 q h) hA36 (fun x37 u t H locs ht hvm hw37 hB hz1 hk1 hS => ?_)
  try dsimp only at hw37 hB
  rw [ht] at hB
  have hH := hB
  refine lv_isub hx hb dX12_meet_103 ?_
  refine lv_topi (fun x38 e38 => ?_)
  refine lv_istore (i := 8) (lv' := [(8, .int x38), (7, .int x19), (0, .ref h0), (1, .int p1), (2, .int p2), (3, .int p3), (4, .int p4), (5, .int p5), (6, .int p6)]) hx hb dX12_meet_104 hl (th_ltN rfl) rfl (fun ls hl => ?_)
  refine lv_iload hx hb dX12_meet_106 (lv_at hl 1 rfl) ?_
  refine va_mabs hx hb (by rw [hml]; exact hl.1.symm) hown (hts (.methodLink RX12 163 Lib.Math.abs.name) (List.mem_cons_of_mem _ (List.mem_append_left _ (List.mem_of_getElem? (i := 4) rfl)))) (hts (.static Lib.Math.abs.name) (List.mem_cons_of_mem _ (List.mem_append_left _ (List.mem_of_getElem? (i := 5) rfl)))) (hts (.initialized "java/lang/Math") (List.mem_cons_of_mem _ (List.mem_append_left _ (List.mem_of_getElem? (i := 6) rfl)))) (hts (.code Lib.Math.abs.name Lib.Math.abs.code 1 (some .int)) (List.mem_cons_of_mem _ (List.mem_append_left _ (List.mem_of_getElem? (i := 7) rfl)))) (Nat.le_of_ble_eq_true rfl) (Nat.le_of_ble_eq_true rfl) (Nat.zero_le _) (Nat.zero_le _) dX12_meet_108 ?_
  refine lv_topi (fun x39 e39 => ?_)
  have em39 : x39 = th_ab x19 := e39
  refine lv_bipush (v := 20) hx hb dX12_meet_111 bp_20 ?_
  refine lv_icmp_ge (tgt := 130) hx hb dX12_meet_113 (th_eqI rfl) (fun c40 => ?_) (fun c40 => ?_)
  · skip
    have f41 : rg 20 2147483647 x39 := rg_w (rg_le rgc_20 (rg_any x39) c40).2 (th_leI rfl) (th_leI rfl)
    refine lv_iconst (v := 0) hx hb dX12_meet_130 ic_0 ?_
    exact W.zret (v := 0) hx hb hr (rg_nb (rg_w rgc_0 (th_leI rfl) (th_leI rfl))) (fun t ht hW => ⟨⟨0, (), rfl, ⟨(rg_w rgc_0 (th_leI rfl) (th_leI rfl)), (hF.trans (by simp only [↓reduceIte, F_X12_meet, r1, Option.getD_some, ← e2, r3, ← e4, r5, ← e6, hw8, ← e9, ← e11, ← e12, ← e14, ← e16, hw18, ← e19, r20, ← e21, hw27, ← e28, ← e30, ← e31, hw37, ← e38, ← em39, eq_true c40]))⟩, th_Ht ht hH⟩, hS.F ht⟩) hS.2.2 dX12_meet_131
  · skip
    have f42 : rg (-2147483648) 19 x39 := rg_w (rg_nle rgc_20 (rg_any x39) c40).2 (th_leI rfl) (th_leI rfl)
    refine lv_iload hx hb dX12_meet_116 (lv_at hl 0 rfl) ?_
    refine va_mabs hx hb (by rw [hml]; exact hl.1.symm) hown (hts (.methodLink RX12 163 Lib.Math.abs.name) (List.mem_cons_of_mem _ (List.mem_append_left _ (List.mem_of_getElem? (i := 4) rfl)))) (hts (.static Lib.Math.abs.name) (List.mem_cons_of_mem _ (List.mem_append_left _ (List.mem_of_getElem? (i := 5) rfl)))) (hts (.initialized "java/lang/Math") (List.mem_cons_of_mem _ (List.mem_append_left _ (List.mem_of_getElem? (i := 6) rfl)))) (hts (.code Lib.Math.abs.name Lib.Math.abs.code 1 (some .int)) (List.mem_cons_of_mem _ (List.mem_append_left _ (List.mem_of_getElem? (i := 7) rfl)))) (Nat.le_of_ble_eq_true rfl) (Nat.le_of_ble_eq_true rfl) (Nat.zero_le _) (Nat.zero_le _) dX12_meet_118 ?_
    refine lv_topi (fun x43 e43 => ?_)
    have em43 : x43 = th_ab x38 := e43
    refine lv_bipush (v := 20) hx hb dX12_meet_121 bp_20 ?_
    refine lv_icmp_ge (tgt := 130) hx hb dX12_meet_123 (th_eqI rfl) (fun c44 => ?_) (fun c44 => ?_)
    · skip
      have f45 : rg 20 2147483647 x43 := rg_w (rg_le rgc_20 (rg_any x43) c44).2 (th_leI rfl) (th_leI rfl)
      refine lv_iconst (v := 0) hx hb dX12_meet_130 ic_0 ?_
      exact W.zret (v := 0) hx hb hr (rg_nb (rg_w rgc_0 (th_leI rfl) (th_leI rfl))) (fun t ht hW => ⟨⟨0, (), rfl, ⟨(rg_w rgc_0 (th_leI rfl) (th_leI rfl)), (hF.trans (by simp only [↓reduceIte, F_X12_meet, r1, Option.getD_some, ← e2, r3, ← e4, r5, ← e6, hw8, ← e9, ← e11, ← e12, ← e14, ← e16, hw18, ← e19, r20, ← e21, hw27, ← e28, ← e30, ← e31, hw37, ← e38, ← em39, eq_false c40, ← em43, eq_true c44]))⟩, th_Ht ht hH⟩, hS.F ht⟩) hS.2.2 dX12_meet_131
    · skip
      have f46 : rg (-2147483648) 19 x43 := rg_w (rg_nle rgc_20 (rg_any x43) c44).2 (th_leI rfl) (th_leI rfl)
      refine lv_iconst (v := 1) hx hb dX12_meet_126 ic_1 ?_
      refine lv_goto (tgt := 131) hx hb dX12_meet_127 (th_eqI rfl) ?_
      exact W.zret (v := 1) hx hb hr (rg_nb (rg_w rgc_1 (th_leI rfl) (th_leI rfl))) (fun t ht hW => ⟨⟨1, (), rfl, ⟨(rg_w rgc_1 (th_leI rfl) (th_leI rfl)), (hF.trans (by simp only [↓reduceIte, F_X12_meet, r1, Option.getD_some, ← e2, r3, ← e4, r5, ← e6, hw8, ← e9, ← e11, ← e12, ← e14, ← e16, hw18, ← e19, r20, ← e21, hw27, ← e28, ← e30, ← e31, hw37, ← e38, ← em39, eq_false c40, ← em43, eq_false c44]))⟩, th_Ht ht hH⟩, hS.F ht⟩) hS.2.2 dX12_meet_131

noncomputable def f_X12_touchAt_155 (τ : th_t) (Z : th_Zt) (gi : th_i) (gr : th_r) (h0 : Nat) (p1 : Int32) (p2 : Int32) (p3 : Int32) (p4 : Int32) (p5 : Int32) (y89_6 : Int32) (y89_7 : Int32) (y89_9 : Int32) (y100_10 : Int32) (k_89 : Int32 → Int32 → Int32 → Int32) (k_100 : Int32 → Int32) : Int32 :=
  let x1 : Int32 := y100_10 + 1
  k_100 x1
noncomputable def f_X12_touchAt_100 (τ : th_t) (Z : th_Zt) (gi : th_i) (gr : th_r) (h0 : Nat) (p1 : Int32) (p2 : Int32) (p3 : Int32) (p4 : Int32) (p5 : Int32) (y89_6 : Int32) (y89_7 : Int32) (y89_9 : Int32) (k_89 : Int32 → Int32 → Int32 → Int32) : Nat → Int32 → Int32
  | 0, y100_10 => 0
  | n100 + 1, y100_10 =>
    if (9 : Int32) < y100_10 then (
      let x4 : Int32 := y89_9 + 1
      k_89 y89_6 y89_7 x4) else (
      let x6 : Int32 := y89_9 + y100_10
      let x7 : Int32 := x6 - x6 / 8 * 8
      let x9 : Int32 := F_X12_isThere τ Z gi gr h0 y89_9
      if x9 = (0 : Int32) then (
        f_X12_touchAt_155 τ Z gi gr h0 p1 p2 p3 p4 p5 y89_6 y89_7 y89_9 y100_10 k_89 (f_X12_touchAt_100 τ Z gi gr h0 p1 p2 p3 p4 p5 y89_6 y89_7 y89_9 k_89 n100) ) else (
        let x14 : Int32 := F_X12_isThere τ Z gi gr h0 x7
        if x14 = (0 : Int32) then (
          f_X12_touchAt_155 τ Z gi gr h0 p1 p2 p3 p4 p5 y89_6 y89_7 y89_9 y100_10 k_89 (f_X12_touchAt_100 τ Z gi gr h0 p1 p2 p3 p4 p5 y89_6 y89_7 y89_9 k_89 n100) ) else (
          let x19 : Int32 := F_X12_meet τ Z gi gr h0 p2 y89_6 y89_9 p4 y89_7 x7
          if x19 = (0 : Int32) then (
            f_X12_touchAt_155 τ Z gi gr h0 p1 p2 p3 p4 p5 y89_6 y89_7 y89_9 y100_10 k_89 (f_X12_touchAt_100 τ Z gi gr h0 p1 p2 p3 p4 p5 y89_6 y89_7 y89_9 k_89 n100) ) else (
            1))))
noncomputable def f_X12_touchAt_89 (τ : th_t) (Z : th_Zt) (gi : th_i) (gr : th_r) (h0 : Nat) (p1 : Int32) (p2 : Int32) (p3 : Int32) (p4 : Int32) (p5 : Int32) : Nat → Int32 → Int32 → Int32 → Int32
  | 0, y89_6, y89_7, y89_9 => 0
  | n89 + 1, y89_6, y89_7, y89_9 =>
    if (8 : Int32) ≤ y89_9 then (
      0) else (
      f_X12_touchAt_100 τ Z gi gr h0 p1 p2 p3 p4 p5 y89_6 y89_7 y89_9 (f_X12_touchAt_89 τ Z gi gr h0 p1 p2 p3 p4 p5 n89) ((10 - (7 : Int32).toInt).toNat + 1) 7)
noncomputable def f_X12_touchAt_86 (τ : th_t) (Z : th_Zt) (gi : th_i) (gr : th_r) (h0 : Nat) (p1 : Int32) (p2 : Int32) (p3 : Int32) (p4 : Int32) (p5 : Int32) (y86_6 : Int32) (y86_7 : Int32) : Int32 :=
  f_X12_touchAt_89 τ Z gi gr h0 p1 p2 p3 p4 p5 ((8 - (0 : Int32).toInt).toNat + 1) y86_6 y86_7 0
noncomputable def F_X12_touchAt (τ : th_t) (Z : th_Zt) (gi : th_i) (gr : th_r) (h0 : Nat) (p1 : Int32) (p2 : Int32) (p3 : Int32) (p4 : Int32) (p5 : Int32) : Int32 :=
  let x27 : Int32 := F_X12_slackOf τ Z gi gr h0 p2 p5
  let x29 : Int32 := F_X12_reachOf τ Z gi gr h0 p1
  let x30 : Int32 := x27 + x29
  let x32 : Int32 := F_X12_slackOf τ Z gi gr h0 p4 p5
  let x34 : Int32 := F_X12_reachOf τ Z gi gr h0 p3
  let x35 : Int32 := x32 + x34
  let x36 : Int32 := th_mn x30 x35
  let q37 : Nat := (gr h0 1).getD 0
  let x38 : Int32 := gi q37 p2.toNatClampNeg
  let x40 : Int32 := gi q37 p4.toNatClampNeg
  let x41 : Int32 := x38 - x40
  let x42 : Int32 := th_ab x41
  if x36 ≤ x42 then (
    f_X12_touchAt_86 τ Z gi gr h0 p1 p2 p3 p4 p5 x30 x35) else (
    let q44 : Nat := (gr h0 2).getD 0
    let x45 : Int32 := gi q44 p2.toNatClampNeg
    let x47 : Int32 := gi q44 p4.toNatClampNeg
    let x48 : Int32 := x45 - x47
    let x49 : Int32 := th_ab x48
    if x36 ≤ x49 then (
      f_X12_touchAt_86 τ Z gi gr h0 p1 p2 p3 p4 p5 x30 x35) else (
      1))
set_option maxHeartbeats 8000000 in
set_option maxRecDepth 100000 in
theorem k_X12_touchAt (l : Launch) (D : va_G) (cA : Nat → ClassId) (Z : th_Zt) (τ : th_t) (gi : th_i) (gr : th_r) (sz : Nat) (h0 : Nat) (t_h0 : τ h0 = 12) (p1 : Int32) (f_p1 : rg 0 15 p1) (p2 : Int32) (f_p2 : rg 0 11 p2) (p3 : Int32) (f_p3 : rg 0 15 p3) (p4 : Int32) (f_p4 : rg 0 11 p4) (p5 : Int32) (f_p5 : rg 0 23 p5) : Met l yX12_touchAt wsX12_touchAt ({ frames := 2, cells := 0, slots := 0, locals := 68 }) (va_Pc [.ref h0, .int p1, .int p2, .int p3, .int p4, .int p5] (th_Pre D cA Z τ gi gr sz)) (va_Qi (fun (r : Int32) (_ : Unit) => rg 0 1 r ∧ (F_X12_touchAt τ Z gi gr h0 p1 p2 p3 p4 p5 = r)) (fun (_ : Unit) t => th_H D cA τ gi gr t.heap) (th_A τ sz)) 0 0 (th_A τ sz) := by
  refine Met.ofW (cc := cX12_touchAt) (maxL := 12) (ret := (some .boolean)) (by decide) rfl ?_
  intro p e s m args below meth c s₁ B hml hv
  obtain ⟨rfl, hsz, hH, hK, hN, hZ⟩ := hv
  have hx := B.exec
  have hb := B.bytes
  have hr := B.returns
  have hts := atoms_spec (ws := wsX12_touchAt) B.pre
  have hown : s.vm.findClass RX12 = some m.cls := findClass_of_methodNamed B.named
  have hlocks := B.notSynchronized
  subst hsz
  have J89 : ∀ (n89 : Nat) (H : Heap) (locs : List Loc) (ls : Array Slot) (y89_6 : Int32) (y89_7 : Int32) (y89_9 : Int32), (8 - y89_9.toInt).toNat < n89 → th_H D cA τ gi gr H → va_S (th_A τ s.heap.size) s.heap H locs → lv_has ls 12 [(0, .ref h0), (2, .int p2), (4, .int p4), (6, .int y89_6), (7, .int y89_7), (9, .int y89_9)] → rg 0 11 p2 → rg 0 11 p4 → rg 0 8 y89_9 → F_X12_touchAt τ Z gi gr h0 p1 p2 p3 p4 p5 = f_X12_touchAt_89 τ Z gi gr h0 p1 p2 p3 p4 p5 n89 y89_6 y89_7 y89_9 → W p l e (headSpec wsX12_touchAt ({ frames := 2, cells := 0, slots := 0, locals := 68 })).room s m [.ref h0, .int p1, .int p2, .int p3, .int p4, .int p5].toArray below meth c H locs 0 0 (MQ below (va_Qi (fun (r : Int32) (_ : Unit) => rg 0 1 r ∧ (F_X12_touchAt τ Z gi gr h0 p1 p2 p3 p4 p5 = r)) (fun (_ : Unit) t => th_H D cA τ gi gr t.heap) (th_A τ s.heap.size)) [.ref h0, .int p1, .int p2, .int p3, .int p4, .int p5].toArray s 0 0 (th_A τ s.heap.size)) (F0 m 89 ls []) := by
    intro n89
    induction n89 with
    | zero =>
      intro H locs ls y89_6 y89_7 y89_9 hn
      exact absurd hn (Nat.not_lt_zero _)
    | succ n89 ih89 =>
      intro H locs ls y89_6 y89_7 y89_9 hn89 hH hS hl fy89_2 fy89_4 fy89_9 hF
      have J100 : ∀ (n100 : Nat) (H : Heap) (locs : List Loc) (ls : Array Slot) (y100_10 : Int32), (10 - y100_10.toInt).toNat < n100 → th_H D cA τ gi gr H → va_S (th_A τ s.heap.size) s.heap H locs → lv_has ls 12 [(0, .ref h0), (2, .int p2), (4, .int p4), (6, .int y89_6), (7, .int y89_7), (9, .int y89_9), (10, .int y100_10)] → rg 0 11 p2 → rg 0 11 p4 → rg 0 7 y89_9 → rg 7 10 y100_10 → F_X12_touchAt τ Z gi gr h0 p1 p2 p3 p4 p5 = f_X12_touchAt_100 τ Z gi gr h0 p1 p2 p3 p4 p5 y89_6 y89_7 y89_9 (f_X12_touchAt_89 τ Z gi gr h0 p1 p2 p3 p4 p5 n89) n100 y100_10 → W p l e (headSpec wsX12_touchAt ({ frames := 2, cells := 0, slots := 0, locals := 68 })).room s m [.ref h0, .int p1, .int p2, .int p3, .int p4, .int p5].toArray below meth c H locs 0 0 (MQ below (va_Qi (fun (r : Int32) (_ : Unit) => rg 0 1 r ∧ (F_X12_touchAt τ Z gi gr h0 p1 p2 p3 p4 p5 = r)) (fun (_ : Unit) t => th_H D cA τ gi gr t.heap) (th_A τ s.heap.size)) [.ref h0, .int p1, .int p2, .int p3, .int p4, .int p5].toArray s 0 0 (th_A τ s.heap.size)) (F0 m 100 ls []) := by
        intro n100
        induction n100 with
        | zero =>
          intro H locs ls y100_10 hn
          exact absurd hn (Nat.not_lt_zero _)
        | succ n100 ih100 =>
          intro H locs ls y100_10 hn100 hH hS hl fy100_2 fy100_4 fy100_9 fy100_10 hF
          have J155 : ∀ (H : Heap) (locs : List Loc) (ls : Array Slot), th_H D cA τ gi gr H → va_S (th_A τ s.heap.size) s.heap H locs → lv_has ls 12 [(0, .ref h0), (2, .int p2), (4, .int p4), (6, .int y89_6), (7, .int y89_7), (9, .int y89_9), (10, .int y100_10)] → rg 0 11 p2 → rg 0 11 p4 → rg 0 7 y89_9 → rg 7 9 y100_10 → F_X12_touchAt τ Z gi gr h0 p1 p2 p3 p4 p5 = f_X12_touchAt_155 τ Z gi gr h0 p1 p2 p3 p4 p5 y89_6 y89_7 y89_9 y100_10 (f_X12_touchAt_89 τ Z gi gr h0 p1 p2 p3 p4 p5 n89) (f_X12_touchAt_100 τ Z gi gr h0 p1 p2 p3 p4 p5 y89_6 y89_7 y89_9 (f_X12_touchAt_89 τ Z gi gr h0 p1 p2 p3 p4 p5 n89) n100) → W p l e (headSpec wsX12_touchAt ({ frames := 2, cells := 0, slots := 0, locals := 68 })).room s m [.ref h0, .int p1, .int p2, .int p3, .int p4, .int p5].toArray below meth c H locs 0 0 (MQ below (va_Qi (fun (r : Int32) (_ : Unit) => rg 0 1 r ∧ (F_X12_touchAt τ Z gi gr h0 p1 p2 p3 p4 p5 = r)) (fun (_ : Unit) t => th_H D cA τ gi gr t.heap) (th_A τ s.heap.size)) [.ref h0, .int p1, .int p2, .int p3, .int p4, .int p5].toArray s 0 0 (th_A τ s.heap.size)) (F0 m 155 ls []) := by
            intro H locs ls hH hS hl fy155_2 fy155_4 fy155_9 fy155_10 hF
            obtain ⟨x1, e1⟩ : ∃ y : Int32, y = y100_10 + 1 := ⟨_, rfl⟩
            have f1 : rg 8 10 x1 := rg_e e1 (rg_w (rg_add fy155_10 rgc_1 (th_leI rfl) (th_leI rfl)) (th_leI rfl) (th_leI rfl))
            refine lv_iinc (v := x1) (lv' := [(10, .int x1), (0, .ref h0), (2, .int p2), (4, .int p4), (6, .int y89_6), (7, .int y89_7), (9, .int y89_9)]) hx hb dX12_touchAt_155 hl (k := 6) rfl (by rw [e1]; rfl) (th_ltN rfl) rfl (fun ls hl => ?_)
            refine lv_goto (tgt := 100) hx hb dX12_touchAt_158 (th_eqI rfl) ?_
            exact ih100 _ _ _ x1 (th_up (rg_dA e1 fy155_10 rgc_1 (th_leI rfl) (th_leI rfl)) fy155_10 hn100 (th_ltI rfl)) hH hS (lv_sub hl [1, 2, 3, 4, 5, 6, 0] rfl) fy155_2 fy155_4 fy155_9 (rg_w f1 (th_leI rfl) (th_leI rfl)) (hF.trans (by simp only [f_X12_touchAt_155, ← e1]))
          refine lv_iload hx hb dX12_touchAt_100 (lv_at hl 6 rfl) ?_
          refine lv_bipush (v := 9) hx hb dX12_touchAt_102 bp_9 ?_
          refine lv_icmp_gt (tgt := 161) hx hb dX12_touchAt_104 (th_eqI rfl) (fun c2 => ?_) (fun c2 => ?_)
          · skip
            have f3 : rg 10 10 y100_10 := rg_w (rg_lt rgc_9 fy100_10 c2).2 (th_leI rfl) (th_leI rfl)
            obtain ⟨x4, e4⟩ : ∃ y : Int32, y = y89_9 + 1 := ⟨_, rfl⟩
            have f4 : rg 1 8 x4 := rg_e e4 (rg_w (rg_add fy100_9 rgc_1 (th_leI rfl) (th_leI rfl)) (th_leI rfl) (th_leI rfl))
            refine lv_iinc (v := x4) (lv' := [(9, .int x4), (0, .ref h0), (2, .int p2), (4, .int p4), (6, .int y89_6), (7, .int y89_7), (10, .int y100_10)]) hx hb dX12_touchAt_161 hl (k := 5) rfl (by rw [e4]; rfl) (th_ltN rfl) rfl (fun ls hl => ?_)
            refine lv_goto (tgt := 89) hx hb dX12_touchAt_164 (th_eqI rfl) ?_
            exact ih89 _ _ _ y89_6 y89_7 x4 (th_up (rg_dA e4 fy100_9 rgc_1 (th_leI rfl) (th_leI rfl)) fy100_9 hn89 (th_ltI rfl)) hH hS (lv_sub hl [1, 2, 3, 4, 5, 0] rfl) fy100_2 fy100_4 (rg_w f4 (th_leI rfl) (th_leI rfl)) (hF.trans (by simp only [↓reduceIte, f_X12_touchAt_100, eq_true c2, ← e4]))
          · skip
            have f5 : rg 7 9 y100_10 := rg_w (rg_nlt rgc_9 fy100_10 c2).2 (th_leI rfl) (th_leI rfl)
            refine lv_iload hx hb dX12_touchAt_107 (lv_at hl 5 rfl) ?_
            refine lv_iload hx hb dX12_touchAt_109 (lv_at hl 6 rfl) ?_
            refine lv_iadd hx hb dX12_touchAt_111 ?_
            refine lv_topi (fun x6 e6 => ?_)
            have f6 : rg 7 16 x6 := rg_e e6 (rg_w (rg_add fy100_9 f5 (th_leI rfl) (th_leI rfl)) (th_leI rfl) (th_leI rfl))
            refine lv_bipush (v := 8) hx hb dX12_touchAt_112 bp_8 ?_
            refine lv_irem hx hb dX12_touchAt_114 (rg_ne0 rgc_8 (Or.inl (th_ltI rfl))) ?_
            refine lv_topi (fun x7 e7 => ?_)
            have f7 : rg 0 7 x7 := rg_e e7 (rg_w (rg_rem f6 rgc_8 (th_leI rfl) (th_ltI rfl)) (th_leI rfl) (th_leI rfl))
            refine lv_istore (i := 11) (lv' := [(11, .int x7), (0, .ref h0), (2, .int p2), (4, .int p4), (6, .int y89_6), (7, .int y89_7), (9, .int y89_9), (10, .int y100_10)]) hx hb dX12_touchAt_115 hl (th_ltN rfl) rfl (fun ls hl => ?_)
            refine lv_aload_n hx hb dX12_touchAt_117 rfl (lv_at hl 1 rfl) ?_
            refine lv_iload hx hb dX12_touchAt_118 (lv_at hl 6 rfl) ?_
            have hA8 := th_Asub (τ := τ) hS
            refine va_calli (va_runV (As := [.int y89_9]) (rest := []) ⟨hx, hb, hml, hown, hts⟩ (k_X12_isThere l D cA Z τ gi gr _ h0 t_h0 y89_9) (cwV 1 hts gX12_touchAt_X12_isThere rfl rfl rfl hd_X12_isThere__1 ⟨Nat.le_of_ble_eq_true rfl, Nat.le_of_ble_eq_true rfl⟩) ⟨th_blind, tr_12 hK hH t_h0, (th_pre hH hK hN hZ hS hA8)⟩ rfl rfl hl.1 rfl (lv_room (Nat.le_of_ble_eq_true rfl)) dX12_touchAt_120 ⟨Nat.le_of_ble_eq_true rfl, Nat.le_of_ble_eq_true rfl⟩) hS (fun q _ h => hA8 q h) hA8 (fun x9 u t H locs ht hvm hw9 hB hz1 hk1 hS => ?_)
            try dsimp only at hw9 hB
            rw [ht] at hB
            have hH := hB
            refine lv_if_eq (tgt := 155) hx hb dX12_touchAt_123 (th_eqI rfl) (fun c10 => ?_) (fun c10 => ?_)
            · skip
              have f11 : rg 0 0 x9 := rg_w (rg_eq hw9.1 rgc_0 c10).1 (th_leI rfl) (th_leI rfl)
              exact J155 _ _ _ hH hS (lv_sub hl [1, 2, 3, 4, 5, 6, 7] rfl) fy100_2 fy100_4 fy100_9 f5 (hF.trans (by simp only [↓reduceIte, f_X12_touchAt_100, eq_false c2, ← e6, ← e7, hw9.2, eq_true c10]))
            · skip
              have f12 : rg 1 1 x9 := rg_w (rg_neL hw9.1 rgc_0 c10) (th_leI rfl) (th_leI rfl)
              refine lv_aload_n hx hb dX12_touchAt_126 rfl (lv_at hl 1 rfl) ?_
              refine lv_iload hx hb dX12_touchAt_127 (lv_at hl 0 rfl) ?_
              have hA13 := th_Asub (τ := τ) hS
              refine va_calli (va_runV (As := [.int x7]) (rest := []) ⟨hx, hb, hml, hown, hts⟩ (k_X12_isThere l D cA Z τ gi gr _ h0 t_h0 x7) (cwV 1 hts gX12_touchAt_X12_isThere rfl rfl rfl hd_X12_isThere__1 ⟨Nat.le_of_ble_eq_true rfl, Nat.le_of_ble_eq_true rfl⟩) ⟨th_blind, tr_12 hK hH t_h0, (th_pre hH hK hN hZ hS hA13)⟩ rfl rfl hl.1 rfl (lv_room (Nat.le_of_ble_eq_true rfl)) dX12_touchAt_129 ⟨Nat.le_of_ble_eq_true rfl, Nat.le_of_ble_eq_true rfl⟩) hS (fun q _ h => hA13 q h) hA13 (fun x14 u t H locs ht hvm hw14 hB hz1 hk1 hS => ?_)
              try dsimp only at hw14 hB
              rw [ht] at hB
              have hH := hB
              refine lv_if_eq (tgt := 155) hx hb dX12_touchAt_132 (th_eqI rfl) (fun c15 => ?_) (fun c15 => ?_)
              · skip
                have f16 : rg 0 0 x14 := rg_w (rg_eq hw14.1 rgc_0 c15).1 (th_leI rfl) (th_leI rfl)
                exact J155 _ _ _ hH hS (lv_sub hl [1, 2, 3, 4, 5, 6, 7] rfl) fy100_2 fy100_4 fy100_9 f5 (hF.trans (by simp only [↓reduceIte, f_X12_touchAt_100, eq_false c2, ← e6, ← e7, hw9.2, eq_false c10, hw14.2, eq_true c15]))
              · skip
                have f17 : rg 1 1 x14 := rg_w (rg_neL hw14.1 rgc_0 c15) (th_leI rfl) (th_leI rfl)
                refine lv_aload_n hx hb dX12_touchAt_135 rfl (lv_at hl 1 rfl) ?_
                refine lv_iload_n hx hb dX12_touchAt_136 rfl (lv_at hl 2 rfl) ?_
                refine lv_iload hx hb dX12_touchAt_137 (lv_at hl 4 rfl) ?_
                refine lv_iload hx hb dX12_touchAt_139 (lv_at hl 6 rfl) ?_
                refine lv_iload hx hb dX12_touchAt_141 (lv_at hl 3 rfl) ?_
                refine lv_iload hx hb dX12_touchAt_143 (lv_at hl 5 rfl) ?_
                refine lv_iload hx hb dX12_touchAt_145 (lv_at hl 0 rfl) ?_
                have hA18 := th_Asub (τ := τ) hS
                refine va_calli (va_runV (As := [.int p2, .int y89_6, .int y89_9, .int p4, .int y89_7, .int x7]) (rest := []) ⟨hx, hb, hml, hown, hts⟩ (k_X12_meet l D cA Z τ gi gr _ h0 t_h0 p2 fy100_2 y89_6 y89_9 fy100_9 p4 fy100_4 y89_7 x7 f7) (cwV 6 hts gX12_touchAt_X12_meet rfl rfl rfl hd_X12_meet__6 ⟨Nat.le_of_ble_eq_true rfl, Nat.le_of_ble_eq_true rfl⟩) ⟨th_blind, tr_12 hK hH t_h0, (th_pre hH hK hN hZ hS hA18)⟩ rfl rfl hl.1 rfl (lv_room (Nat.le_of_ble_eq_true rfl)) dX12_touchAt_147 ⟨Nat.le_of_ble_eq_true rfl, Nat.le_of_ble_eq_true rfl⟩) hS (fun q _ h => hA18 q h) hA18 (fun x19 u t H locs ht hvm hw19 hB hz1 hk1 hS => ?_)
                try dsimp only at hw19 hB
                rw [ht] at hB
                have hH := hB
                refine lv_if_eq (tgt := 155) hx hb dX12_touchAt_150 (th_eqI rfl) (fun c20 => ?_) (fun c20 => ?_)
                · skip
                  have f21 : rg 0 0 x19 := rg_w (rg_eq hw19.1 rgc_0 c20).1 (th_leI rfl) (th_leI rfl)
                  exact J155 _ _ _ hH hS (lv_sub hl [1, 2, 3, 4, 5, 6, 7] rfl) fy100_2 fy100_4 fy100_9 f5 (hF.trans (by simp only [↓reduceIte, f_X12_touchAt_100, eq_false c2, ← e6, ← e7, hw9.2, eq_false c10, hw14.2, eq_false c15, hw19.2, eq_true c20]))
                · skip
                  have f22 : rg 1 1 x19 := rg_w (rg_neL hw19.1 rgc_0 c20) (th_leI rfl) (th_leI rfl)
                  refine lv_iconst (v := 1) hx hb dX12_touchAt_153 ic_1 ?_
                  exact W.zret (v := 1) hx hb hr (rg_nb (rg_w rgc_1 (th_leI rfl) (th_leI rfl))) (fun t ht hW => ⟨⟨1, (), rfl, ⟨(rg_w rgc_1 (th_leI rfl) (th_leI rfl)), (hF.trans (by simp only [↓reduceIte, f_X12_touchAt_100, eq_false c2, ← e6, ← e7, hw9.2, eq_false c10, hw14.2, eq_false c15, hw19.2, eq_false c20]))⟩, th_Ht ht hH⟩, hS.F ht⟩) hS.2.2 dX12_touchAt_154
      refine lv_iload hx hb dX12_touchAt_89 (lv_at hl 5 rfl) ?_
      refine lv_bipush (v := 8) hx hb dX12_touchAt_91 bp_8 ?_
      refine lv_icmp_ge (tgt := 167) hx hb dX12_touchAt_93 (th_eqI rfl) (fun c23 => ?_) (fun c23 => ?_)
      · skip
        have f24 : rg 8 8 y89_9 := rg_w (rg_le rgc_8 fy89_9 c23).2 (th_leI rfl) (th_leI rfl)
        refine lv_iconst (v := 0) hx hb dX12_touchAt_167 ic_0 ?_
        exact W.zret (v := 0) hx hb hr (rg_nb (rg_w rgc_0 (th_leI rfl) (th_leI rfl))) (fun t ht hW => ⟨⟨0, (), rfl, ⟨(rg_w rgc_0 (th_leI rfl) (th_leI rfl)), (hF.trans (by simp only [↓reduceIte, f_X12_touchAt_89, eq_true c23]))⟩, th_Ht ht hH⟩, hS.F ht⟩) hS.2.2 dX12_touchAt_168
      · skip
        have f25 : rg 0 7 y89_9 := rg_w (rg_nle rgc_8 fy89_9 c23).2 (th_leI rfl) (th_leI rfl)
        refine lv_bipush (v := 7) hx hb dX12_touchAt_96 bp_7 ?_
        refine lv_istore (i := 10) (lv' := [(10, .int 7), (0, .ref h0), (2, .int p2), (4, .int p4), (6, .int y89_6), (7, .int y89_7), (9, .int y89_9)]) hx hb dX12_touchAt_98 hl (th_ltN rfl) rfl (fun ls hl => ?_)
        exact J100 _ _ _ _ 7 (Nat.lt_add_one _) hH hS (lv_sub hl [1, 2, 3, 4, 5, 6, 0] rfl) fy89_2 fy89_4 f25 (rg_w rgc_7 (th_leI rfl) (th_leI rfl)) (hF.trans (by simp only [↓reduceIte, f_X12_touchAt_89, eq_false c23]))
  have J86 : ∀ (H : Heap) (locs : List Loc) (ls : Array Slot) (y86_6 : Int32) (y86_7 : Int32), th_H D cA τ gi gr H → va_S (th_A τ s.heap.size) s.heap H locs → lv_has ls 12 [(0, .ref h0), (2, .int p2), (4, .int p4), (6, .int y86_6), (7, .int y86_7)] → rg 0 11 p2 → rg 0 11 p4 → F_X12_touchAt τ Z gi gr h0 p1 p2 p3 p4 p5 = f_X12_touchAt_86 τ Z gi gr h0 p1 p2 p3 p4 p5 y86_6 y86_7 → W p l e (headSpec wsX12_touchAt ({ frames := 2, cells := 0, slots := 0, locals := 68 })).room s m [.ref h0, .int p1, .int p2, .int p3, .int p4, .int p5].toArray below meth c H locs 0 0 (MQ below (va_Qi (fun (r : Int32) (_ : Unit) => rg 0 1 r ∧ (F_X12_touchAt τ Z gi gr h0 p1 p2 p3 p4 p5 = r)) (fun (_ : Unit) t => th_H D cA τ gi gr t.heap) (th_A τ s.heap.size)) [.ref h0, .int p1, .int p2, .int p3, .int p4, .int p5].toArray s 0 0 (th_A τ s.heap.size)) (F0 m 86 ls []) := by
    intro H locs ls y86_6 y86_7 hH hS hl fy86_2 fy86_4 hF
    refine lv_iconst (v := 0) hx hb dX12_touchAt_86 ic_0 ?_
    refine lv_istore (i := 9) (lv' := [(9, .int 0), (0, .ref h0), (2, .int p2), (4, .int p4), (6, .int y86_6), (7, .int y86_7)]) hx hb dX12_touchAt_87 hl (th_ltN rfl) rfl (fun ls hl => ?_)
    exact J89 _ _ _ _ y86_6 y86_7 0 (Nat.lt_add_one _) hH hS (lv_sub hl [1, 2, 3, 4, 5, 0] rfl) fy86_2 fy86_4 (rg_w rgc_0 (th_leI rfl) (th_leI rfl)) (hF.trans (by simp only [f_X12_touchAt_86]))
  have hS : va_S (th_A τ s.heap.size) s.heap s.heap [] := va_S.rf
  have hl := lv_entry ([.ref h0, .int p1, .int p2, .int p3, .int p4, .int p5]) (n := 12) (Nat.le_of_ble_eq_true rfl)
  rw [lg_entry_eq]
  generalize (lg_sl ([.ref h0, .int p1, .int p2, .int p3, .int p4, .int p5]) ++ List.replicate (12 - (lg_sl ([.ref h0, .int p1, .int p2, .int p3, .int p4, .int p5])).length) Slot.unset).toArray = ls at hl ⊢
  have hl : lv_has ls 12 [(0, .ref h0), (1, .int p1), (2, .int p2), (3, .int p3), (4, .int p4), (5, .int p5)] := hl
  have hF : F_X12_touchAt τ Z gi gr h0 p1 p2 p3 p4 p5 = F_X12_touchAt τ Z gi gr h0 p1 p2 p3 p4 p5 := rfl
  refine lv_aload_n hx hb dX12_touchAt_0 rfl (lv_at hl 0 rfl) ?_
  refine lv_iload_n hx hb dX12_touchAt_1 rfl (lv_at hl 2 rfl) ?_
  refine lv_iload hx hb dX12_touchAt_2 (lv_at hl 5 rfl) ?_
  have hA26 := th_Asub (τ := τ) hS
  refine va_calli (va_runV (As := [.int p2, .int p5]) (rest := []) ⟨hx, hb, hml, hown, hts⟩ (k_X12_slackOf l D cA Z τ gi gr _ h0 t_h0 p2 f_p2 p5 f_p5) (cwV 2 hts gX12_touchAt_X12_slackOf rfl rfl rfl hd_X12_slackOf__2 ⟨Nat.le_of_ble_eq_true rfl, Nat.le_of_ble_eq_true rfl⟩) ⟨th_blind, tr_12 hK hH t_h0, (th_pre hH hK hN hZ hS hA26)⟩ rfl rfl hl.1 rfl (lv_room (Nat.le_of_ble_eq_true rfl)) dX12_touchAt_4 ⟨Nat.le_of_ble_eq_true rfl, Nat.le_of_ble_eq_true rfl⟩) hS (fun q _ h => hA26 q h) hA26 (fun x27 u t H locs ht hvm hw27 hB hz1 hk1 hS => ?_)
  try dsimp only at hw27 hB
  rw [ht] at hB
  have hH := hB
  refine lv_aload_n hx hb dX12_touchAt_7 rfl (lv_at hl 0 rfl) ?_
  refine lv_iload_n hx hb dX12_touchAt_8 rfl (lv_at hl 1 rfl) ?_
  have hA28 := th_Asub (τ := τ) hS
  refine va_calli (va_runV (As := [.int p1]) (rest := [.int x27]) ⟨hx, hb, hml, hown, hts⟩ (k_X12_reachOf l D cA Z τ gi gr _ h0 t_h0 p1 f_p1) (cwV 1 hts gX12_touchAt_X12_reachOf rfl rfl rfl hd_X12_reachOf__1 ⟨Nat.le_of_ble_eq_true rfl, Nat.le_of_ble_eq_true rfl⟩) ⟨th_blind, tr_12 hK hH t_h0, (th_pre hH hK hN hZ hS hA28)⟩ rfl rfl hl.1 rfl (lv_room (Nat.le_of_ble_eq_true rfl)) dX12_touchAt_9 ⟨Nat.le_of_ble_eq_true rfl, Nat.le_of_ble_eq_true rfl⟩) hS (fun q _ h => hA28 q h) hA28 (fun x29 u t H locs ht hvm hw29 hB hz1 hk1 hS => ?_)
  try dsimp only at hw29 hB
  rw [ht] at hB
  have hH := hB
  refine lv_iadd hx hb dX12_touchAt_12 ?_
  refine lv_topi (fun x30 e30 => ?_)
  refine lv_istore (i := 6) (lv' := [(6, .int x30), (0, .ref h0), (1, .int p1), (2, .int p2), (3, .int p3), (4, .int p4), (5, .int p5)]) hx hb dX12_touchAt_13 hl (th_ltN rfl) rfl (fun ls hl => ?_)
  refine lv_aload_n hx hb dX12_touchAt_15 rfl (lv_at hl 1 rfl) ?_
  refine lv_iload hx hb dX12_touchAt_16 (lv_at hl 5 rfl) ?_
  refine lv_iload hx hb dX12_touchAt_18 (lv_at hl 6 rfl) ?_
  have hA31 := th_Asub (τ := τ) hS
  refine va_calli (va_runV (As := [.int p4, .int p5]) (rest := []) ⟨hx, hb, hml, hown, hts⟩ (k_X12_slackOf l D cA Z τ gi gr _ h0 t_h0 p4 f_p4 p5 f_p5) (cwV 2 hts gX12_touchAt_X12_slackOf rfl rfl rfl hd_X12_slackOf__2 ⟨Nat.le_of_ble_eq_true rfl, Nat.le_of_ble_eq_true rfl⟩) ⟨th_blind, tr_12 hK hH t_h0, (th_pre hH hK hN hZ hS hA31)⟩ rfl rfl hl.1 rfl (lv_room (Nat.le_of_ble_eq_true rfl)) dX12_touchAt_20 ⟨Nat.le_of_ble_eq_true rfl, Nat.le_of_ble_eq_true rfl⟩) hS (fun q _ h => hA31 q h) hA31 (fun x32 u t H locs ht hvm hw32 hB hz1 hk1 hS => ?_)
  try dsimp only at hw32 hB
  rw [ht] at hB
  have hH := hB
  refine lv_aload_n hx hb dX12_touchAt_23 rfl (lv_at hl 1 rfl) ?_
  refine lv_iload_n hx hb dX12_touchAt_24 rfl (lv_at hl 4 rfl) ?_
  have hA33 := th_Asub (τ := τ) hS
  refine va_calli (va_runV (As := [.int p3]) (rest := [.int x32]) ⟨hx, hb, hml, hown, hts⟩ (k_X12_reachOf l D cA Z τ gi gr _ h0 t_h0 p3 f_p3) (cwV 1 hts gX12_touchAt_X12_reachOf rfl rfl rfl hd_X12_reachOf__1 ⟨Nat.le_of_ble_eq_true rfl, Nat.le_of_ble_eq_true rfl⟩) ⟨th_blind, tr_12 hK hH t_h0, (th_pre hH hK hN hZ hS hA33)⟩ rfl rfl hl.1 rfl (lv_room (Nat.le_of_ble_eq_true rfl)) dX12_touchAt_25 ⟨Nat.le_of_ble_eq_true rfl, Nat.le_of_ble_eq_true rfl⟩) hS (fun q _ h => hA33 q h) hA33 (fun x34 u t H locs ht hvm hw34 hB hz1 hk1 hS => ?_)
  try dsimp only at hw34 hB
  rw [ht] at hB
  have hH := hB
  refine lv_iadd hx hb dX12_touchAt_28 ?_
  refine lv_topi (fun x35 e35 => ?_)
  refine lv_istore (i := 7) (lv' := [(7, .int x35), (6, .int x30), (0, .ref h0), (1, .int p1), (2, .int p2), (3, .int p3), (4, .int p4), (5, .int p5)]) hx hb dX12_touchAt_29 hl (th_ltN rfl) rfl (fun ls hl => ?_)
  refine lv_iload hx hb dX12_touchAt_31 (lv_at hl 1 rfl) ?_
  refine lv_iload hx hb dX12_touchAt_33 (lv_at hl 0 rfl) ?_
  refine va_mmin hx hb (by rw [hml]; exact hl.1.symm) hown (hts (.methodLink RX12 168 Lib.Math.min.name) (List.mem_cons_of_mem _ (List.mem_append_left _ (List.mem_append_left _ (List.mem_of_getElem? (i := 0) rfl))))) (hts (.static Lib.Math.min.name) (List.mem_cons_of_mem _ (List.mem_append_left _ (List.mem_append_left _ (List.mem_of_getElem? (i := 1) rfl))))) (hts (.initialized "java/lang/Math") (List.mem_cons_of_mem _ (List.mem_append_left _ (List.mem_append_left _ (List.mem_of_getElem? (i := 2) rfl))))) (hts (.code Lib.Math.min.name Lib.Math.min.code 2 (some .int)) (List.mem_cons_of_mem _ (List.mem_append_left _ (List.mem_append_left _ (List.mem_of_getElem? (i := 3) rfl))))) (Nat.le_of_ble_eq_true rfl) (Nat.le_of_ble_eq_true rfl) (Nat.zero_le _) (Nat.zero_le _) dX12_touchAt_35 ?_
  refine lv_topi (fun x36 e36 => ?_)
  have em36 : x36 = th_mn x30 x35 := e36
  refine lv_istore (i := 8) (lv' := [(8, .int x36), (7, .int x35), (6, .int x30), (0, .ref h0), (1, .int p1), (2, .int p2), (3, .int p3), (4, .int p4), (5, .int p5)]) hx hb dX12_touchAt_38 hl (th_ltN rfl) rfl (fun ls hl => ?_)
  refine lv_aload_n hx hb dX12_touchAt_40 rfl (lv_at hl 3 rfl) ?_
  obtain ⟨q37, r37, t37⟩ : ∃ q, gr h0 1 = some q ∧ τ q = 40 := (thI_12 hH t_h0).2.1
  refine th_get (ci := 11) (v := .ref q37) (T := TX12) (C := RX12) (N := 38) hx hb hts (fun w h => List.mem_cons_of_mem _ (List.mem_append_right _ h)) hown hK hH t_h0 (th_nz rfl) (thE_12 _ _ _) rfl 1 (th_ltN rfl) (hts (.fieldLink RX12 9 "BayMooringsModel" "atX" "[I") (List.mem_cons_of_mem _ (List.mem_append_left _ (List.mem_append_left _ (List.mem_of_getElem? (i := 4) rfl))))) (fun _ h9 => h9) (th_fR r37 rfl) dX12_touchAt_41 ?_
  refine lv_iload_n hx hb dX12_touchAt_44 rfl (lv_at hl 5 rfl) ?_
  refine th_iald hx hb hK hH t37 (th_nz rfl) 0 (thE_40 _ _ _) rfl (rg_in (n := 12) f_p2 (th_leI rfl) (th_ltI rfl)) dX12_touchAt_45 ?_
  refine lv_topi (fun x38 e38 => ?_)
  refine lv_aload_n hx hb dX12_touchAt_46 rfl (lv_at hl 3 rfl) ?_
  refine th_get (ci := 11) (v := .ref q37) (T := TX12) (C := RX12) (N := 38) hx hb hts (fun w h => List.mem_cons_of_mem _ (List.mem_append_right _ h)) hown hK hH t_h0 (th_nz rfl) (thE_12 _ _ _) rfl 1 (th_ltN rfl) (hts (.fieldLink RX12 9 "BayMooringsModel" "atX" "[I") (List.mem_cons_of_mem _ (List.mem_append_left _ (List.mem_append_left _ (List.mem_of_getElem? (i := 4) rfl))))) (fun _ h9 => h9) (th_fR r37 rfl) dX12_touchAt_47 ?_
  refine lv_iload hx hb dX12_touchAt_50 (lv_at hl 7 rfl) ?_
  refine th_iald hx hb hK hH t37 (th_nz rfl) 0 (thE_40 _ _ _) rfl (rg_in (n := 12) f_p4 (th_leI rfl) (th_ltI rfl)) dX12_touchAt_52 ?_
  refine lv_topi (fun x40 e40 => ?_)
  refine lv_isub hx hb dX12_touchAt_53 ?_
  refine lv_topi (fun x41 e41 => ?_)
  refine va_mabs hx hb (by rw [hml]; exact hl.1.symm) hown (hts (.methodLink RX12 163 Lib.Math.abs.name) (List.mem_cons_of_mem _ (List.mem_append_left _ (List.mem_append_left _ (List.mem_of_getElem? (i := 5) rfl))))) (hts (.static Lib.Math.abs.name) (List.mem_cons_of_mem _ (List.mem_append_left _ (List.mem_append_left _ (List.mem_of_getElem? (i := 6) rfl))))) (hts (.initialized "java/lang/Math") (List.mem_cons_of_mem _ (List.mem_append_left _ (List.mem_append_left _ (List.mem_of_getElem? (i := 2) rfl))))) (hts (.code Lib.Math.abs.name Lib.Math.abs.code 1 (some .int)) (List.mem_cons_of_mem _ (List.mem_append_left _ (List.mem_append_left _ (List.mem_of_getElem? (i := 7) rfl))))) (Nat.le_of_ble_eq_true rfl) (Nat.le_of_ble_eq_true rfl) (Nat.zero_le _) (Nat.zero_le _) dX12_touchAt_54 ?_
  refine lv_topi (fun x42 e42 => ?_)
  have em42 : x42 = th_ab x41 := e42
  refine lv_iload hx hb dX12_touchAt_57 (lv_at hl 0 rfl) ?_
  refine lv_icmp_ge (tgt := 86) hx hb dX12_touchAt_59 (th_eqI rfl) (fun c43 => ?_) (fun c43 => ?_)
  · skip
    exact J86 _ _ _ x30 x35 hH hS (lv_sub hl [3, 5, 7, 2, 1] rfl) f_p2 f_p4 (hF.trans (by simp only [↓reduceIte, F_X12_touchAt, hw27, hw29, ← e30, hw32, hw34, ← e35, ← em36, r37, Option.getD_some, ← e38, ← e40, ← e41, ← em42, eq_true c43]))
  · skip
    refine lv_aload_n hx hb dX12_touchAt_62 rfl (lv_at hl 3 rfl) ?_
    obtain ⟨q44, r44, t44⟩ : ∃ q, gr h0 2 = some q ∧ τ q = 41 := (thI_12 hH t_h0).2.2.1
    refine th_get (ci := 11) (v := .ref q44) (T := TX12) (C := RX12) (N := 38) hx hb hts (fun w h => List.mem_cons_of_mem _ (List.mem_append_right _ h)) hown hK hH t_h0 (th_nz rfl) (thE_12 _ _ _) rfl 2 (th_ltN rfl) (hts (.fieldLink RX12 13 "BayMooringsModel" "atY" "[I") (List.mem_cons_of_mem _ (List.mem_append_left _ (List.mem_append_left _ (List.mem_of_getElem? (i := 8) rfl))))) (fun _ h9 => h9) (th_fR r44 rfl) dX12_touchAt_63 ?_
    refine lv_iload_n hx hb dX12_touchAt_66 rfl (lv_at hl 5 rfl) ?_
    refine th_iald hx hb hK hH t44 (th_nz rfl) 0 (thE_41 _ _ _) rfl (rg_in (n := 12) f_p2 (th_leI rfl) (th_ltI rfl)) dX12_touchAt_67 ?_
    refine lv_topi (fun x45 e45 => ?_)
    refine lv_aload_n hx hb dX12_touchAt_68 rfl (lv_at hl 3 rfl) ?_
    refine th_get (ci := 11) (v := .ref q44) (T := TX12) (C := RX12) (N := 38) hx hb hts (fun w h => List.mem_cons_of_mem _ (List.mem_append_right _ h)) hown hK hH t_h0 (th_nz rfl) (thE_12 _ _ _) rfl 2 (th_ltN rfl) (hts (.fieldLink RX12 13 "BayMooringsModel" "atY" "[I") (List.mem_cons_of_mem _ (List.mem_append_left _ (List.mem_append_left _ (List.mem_of_getElem? (i := 8) rfl))))) (fun _ h9 => h9) (th_fR r44 rfl) dX12_touchAt_69 ?_
    refine lv_iload hx hb dX12_touchAt_72 (lv_at hl 7 rfl) ?_
    refine th_iald hx hb hK hH t44 (th_nz rfl) 0 (thE_41 _ _ _) rfl (rg_in (n := 12) f_p4 (th_leI rfl) (th_ltI rfl)) dX12_touchAt_74 ?_
    refine lv_topi (fun x47 e47 => ?_)
    refine lv_isub hx hb dX12_touchAt_75 ?_
    refine lv_topi (fun x48 e48 => ?_)
    refine va_mabs hx hb (by rw [hml]; exact hl.1.symm) hown (hts (.methodLink RX12 163 Lib.Math.abs.name) (List.mem_cons_of_mem _ (List.mem_append_left _ (List.mem_append_left _ (List.mem_of_getElem? (i := 5) rfl))))) (hts (.static Lib.Math.abs.name) (List.mem_cons_of_mem _ (List.mem_append_left _ (List.mem_append_left _ (List.mem_of_getElem? (i := 6) rfl))))) (hts (.initialized "java/lang/Math") (List.mem_cons_of_mem _ (List.mem_append_left _ (List.mem_append_left _ (List.mem_of_getElem? (i := 2) rfl))))) (hts (.code Lib.Math.abs.name Lib.Math.abs.code 1 (some .int)) (List.mem_cons_of_mem _ (List.mem_append_left _ (List.mem_append_left _ (List.mem_of_getElem? (i := 7) rfl))))) (Nat.le_of_ble_eq_true rfl) (Nat.le_of_ble_eq_true rfl) (Nat.zero_le _) (Nat.zero_le _) dX12_touchAt_76 ?_
    refine lv_topi (fun x49 e49 => ?_)
    have em49 : x49 = th_ab x48 := e49
    refine lv_iload hx hb dX12_touchAt_79 (lv_at hl 0 rfl) ?_
    refine lv_icmp_ge (tgt := 86) hx hb dX12_touchAt_81 (th_eqI rfl) (fun c50 => ?_) (fun c50 => ?_)
    · skip
      exact J86 _ _ _ x30 x35 hH hS (lv_sub hl [3, 5, 7, 2, 1] rfl) f_p2 f_p4 (hF.trans (by simp only [↓reduceIte, F_X12_touchAt, hw27, hw29, ← e30, hw32, hw34, ← e35, ← em36, r37, Option.getD_some, ← e38, ← e40, ← e41, ← em42, eq_false c43, r44, ← e45, ← e47, ← e48, ← em49, eq_true c50]))
    · skip
      refine lv_iconst (v := 1) hx hb dX12_touchAt_84 ic_1 ?_
      exact W.zret (v := 1) hx hb hr (rg_nb (rg_w rgc_1 (th_leI rfl) (th_leI rfl))) (fun t ht hW => ⟨⟨1, (), rfl, ⟨(rg_w rgc_1 (th_leI rfl) (th_leI rfl)), (hF.trans (by simp only [↓reduceIte, F_X12_touchAt, hw27, hw29, ← e30, hw32, hw34, ← e35, ← em36, r37, Option.getD_some, ← e38, ← e40, ← e41, ← em42, eq_false c43, r44, ← e45, ← e47, ← e48, ← em49, eq_false c50]))⟩, th_Ht ht hH⟩, hS.F ht⟩) hS.2.2 dX12_touchAt_85

noncomputable def f_X12_firstTouch_80 (τ : th_t) (Z : th_Zt) (gi : th_i) (gr : th_r) (h0 : Nat) (p1 : Int32) (p2 : Int32) (p3 : Int32) (p4 : Int32) (y3_5 : Int32) (k_3 : Int32 → Int32) : Int32 :=
  let x1 : Int32 := y3_5 + 1
  k_3 x1
noncomputable def f_X12_firstTouch_50 (τ : th_t) (Z : th_Zt) (gi : th_i) (gr : th_r) (h0 : Nat) (p1 : Int32) (p2 : Int32) (p3 : Int32) (p4 : Int32) (y3_5 : Int32) (y16_6 : Int32) (y16_7 : Int32) (k_3 : Int32 → Int32) (k_16 : Int32 → Int32 → Int32) (z50_0 : Int32) : Int32 :=
  let x2 : Int32 := y16_7 + 1
  k_16 z50_0 x2
noncomputable def f_X12_firstTouch_49 (τ : th_t) (Z : th_Zt) (gi : th_i) (gr : th_r) (h0 : Nat) (p1 : Int32) (p2 : Int32) (p3 : Int32) (p4 : Int32) (y3_5 : Int32) (y16_6 : Int32) (y16_7 : Int32) (k_3 : Int32 → Int32) (k_16 : Int32 → Int32 → Int32) : Int32 :=
  f_X12_firstTouch_50 τ Z gi gr h0 p1 p2 p3 p4 y3_5 y16_6 y16_7 k_3 k_16 0
noncomputable def f_X12_firstTouch_16 (τ : th_t) (Z : th_Zt) (gi : th_i) (gr : th_r) (h0 : Nat) (p1 : Int32) (p2 : Int32) (p3 : Int32) (p4 : Int32) (y3_5 : Int32) (k_3 : Int32 → Int32) : Nat → Int32 → Int32 → Int32
  | 0, y16_6, y16_7 => 0
  | n16 + 1, y16_6, y16_7 =>
    if y3_5 ≤ y16_7 then (
      if y16_6 = (0 : Int32) then (
        f_X12_firstTouch_80 τ Z gi gr h0 p1 p2 p3 p4 y3_5 k_3 ) else (
        let x8 : Int32 := F_X12_touchAt τ Z gi gr h0 p1 p2 p3 p4 y3_5
        if x8 = (0 : Int32) then (
          f_X12_firstTouch_80 τ Z gi gr h0 p1 p2 p3 p4 y3_5 k_3 ) else (
          y3_5))) else (
      if y16_6 = (0 : Int32) then (
        f_X12_firstTouch_49 τ Z gi gr h0 p1 p2 p3 p4 y3_5 y16_6 y16_7 k_3 (f_X12_firstTouch_16 τ Z gi gr h0 p1 p2 p3 p4 y3_5 k_3 n16) ) else (
        let q17 : Nat := (gr h0 13).getD 0
        let x18 : Int32 := gi q17 y16_7.toNatClampNeg
        let x20 : Int32 := gi q17 y3_5.toNatClampNeg
        if x18 = x20 then (
          f_X12_firstTouch_49 τ Z gi gr h0 p1 p2 p3 p4 y3_5 y16_6 y16_7 k_3 (f_X12_firstTouch_16 τ Z gi gr h0 p1 p2 p3 p4 y3_5 k_3 n16) ) else (
          f_X12_firstTouch_50 τ Z gi gr h0 p1 p2 p3 p4 y3_5 y16_6 y16_7 k_3 (f_X12_firstTouch_16 τ Z gi gr h0 p1 p2 p3 p4 y3_5 k_3 n16) 1)))
noncomputable def f_X12_firstTouch_3 (τ : th_t) (Z : th_Zt) (gi : th_i) (gr : th_r) (h0 : Nat) (p1 : Int32) (p2 : Int32) (p3 : Int32) (p4 : Int32) : Nat → Int32 → Int32
  | 0, y3_5 => 0
  | n3 + 1, y3_5 =>
    if (24 : Int32) ≤ y3_5 then (
      (-1)) else (
      f_X12_firstTouch_16 τ Z gi gr h0 p1 p2 p3 p4 y3_5 (f_X12_firstTouch_3 τ Z gi gr h0 p1 p2 p3 p4 n3) ((23 - (0 : Int32).toInt).toNat + 1) 1 0)
noncomputable def F_X12_firstTouch (τ : th_t) (Z : th_Zt) (gi : th_i) (gr : th_r) (h0 : Nat) (p1 : Int32) (p2 : Int32) (p3 : Int32) (p4 : Int32) : Int32 :=
  f_X12_firstTouch_3 τ Z gi gr h0 p1 p2 p3 p4 ((24 - (0 : Int32).toInt).toNat + 1) 0
set_option maxHeartbeats 8000000 in
set_option maxRecDepth 100000 in
theorem k_X12_firstTouch (l : Launch) (D : va_G) (cA : Nat → ClassId) (Z : th_Zt) (τ : th_t) (gi : th_i) (gr : th_r) (sz : Nat) (h0 : Nat) (t_h0 : τ h0 = 12) (p1 : Int32) (f_p1 : rg 0 15 p1) (p2 : Int32) (f_p2 : rg 0 11 p2) (p3 : Int32) (f_p3 : rg 0 15 p3) (p4 : Int32) (f_p4 : rg 0 11 p4) : Met l yX12_firstTouch wsX12_firstTouch ({ frames := 3, cells := 0, slots := 0, locals := 99 }) (va_Pc [.ref h0, .int p1, .int p2, .int p3, .int p4] (th_Pre D cA Z τ gi gr sz)) (va_Qi (fun (r : Int32) (_ : Unit) => (F_X12_firstTouch τ Z gi gr h0 p1 p2 p3 p4 = r)) (fun (_ : Unit) t => th_H D cA τ gi gr t.heap) (th_A τ sz)) 0 0 (th_A τ sz) := by
  refine Met.ofW (cc := cX12_firstTouch) (maxL := 8) (ret := (some .int)) (by decide) rfl ?_
  intro p e s m args below meth c s₁ B hml hv
  obtain ⟨rfl, hsz, hH, hK, hN, hZ⟩ := hv
  have hx := B.exec
  have hb := B.bytes
  have hr := B.returns
  have hts := atoms_spec (ws := wsX12_firstTouch) B.pre
  have hown : s.vm.findClass RX12 = some m.cls := findClass_of_methodNamed B.named
  have hlocks := B.notSynchronized
  subst hsz
  have J3 : ∀ (n3 : Nat) (H : Heap) (locs : List Loc) (ls : Array Slot) (y3_5 : Int32), (24 - y3_5.toInt).toNat < n3 → th_H D cA τ gi gr H → va_S (th_A τ s.heap.size) s.heap H locs → lv_has ls 8 [(0, .ref h0), (1, .int p1), (2, .int p2), (3, .int p3), (4, .int p4), (5, .int y3_5)] → rg 0 15 p1 → rg 0 11 p2 → rg 0 15 p3 → rg 0 11 p4 → rg 0 24 y3_5 → F_X12_firstTouch τ Z gi gr h0 p1 p2 p3 p4 = f_X12_firstTouch_3 τ Z gi gr h0 p1 p2 p3 p4 n3 y3_5 → W p l e (headSpec wsX12_firstTouch ({ frames := 3, cells := 0, slots := 0, locals := 99 })).room s m [.ref h0, .int p1, .int p2, .int p3, .int p4].toArray below meth c H locs 0 0 (MQ below (va_Qi (fun (r : Int32) (_ : Unit) => (F_X12_firstTouch τ Z gi gr h0 p1 p2 p3 p4 = r)) (fun (_ : Unit) t => th_H D cA τ gi gr t.heap) (th_A τ s.heap.size)) [.ref h0, .int p1, .int p2, .int p3, .int p4].toArray s 0 0 (th_A τ s.heap.size)) (F0 m 3 ls []) := by
    intro n3
    induction n3 with
    | zero =>
      intro H locs ls y3_5 hn
      exact absurd hn (Nat.not_lt_zero _)
    | succ n3 ih3 =>
      intro H locs ls y3_5 hn3 hH hS hl fy3_1 fy3_2 fy3_3 fy3_4 fy3_5 hF
      have J80 : ∀ (H : Heap) (locs : List Loc) (ls : Array Slot), th_H D cA τ gi gr H → va_S (th_A τ s.heap.size) s.heap H locs → lv_has ls 8 [(0, .ref h0), (1, .int p1), (2, .int p2), (3, .int p3), (4, .int p4), (5, .int y3_5)] → rg 0 15 p1 → rg 0 11 p2 → rg 0 15 p3 → rg 0 11 p4 → rg 0 23 y3_5 → F_X12_firstTouch τ Z gi gr h0 p1 p2 p3 p4 = f_X12_firstTouch_80 τ Z gi gr h0 p1 p2 p3 p4 y3_5 (f_X12_firstTouch_3 τ Z gi gr h0 p1 p2 p3 p4 n3) → W p l e (headSpec wsX12_firstTouch ({ frames := 3, cells := 0, slots := 0, locals := 99 })).room s m [.ref h0, .int p1, .int p2, .int p3, .int p4].toArray below meth c H locs 0 0 (MQ below (va_Qi (fun (r : Int32) (_ : Unit) => (F_X12_firstTouch τ Z gi gr h0 p1 p2 p3 p4 = r)) (fun (_ : Unit) t => th_H D cA τ gi gr t.heap) (th_A τ s.heap.size)) [.ref h0, .int p1, .int p2, .int p3, .int p4].toArray s 0 0 (th_A τ s.heap.size)) (F0 m 80 ls []) := by
        intro H locs ls hH hS hl fy80_1 fy80_2 fy80_3 fy80_4 fy80_5 hF
        obtain ⟨x1, e1⟩ : ∃ y : Int32, y = y3_5 + 1 := ⟨_, rfl⟩
        have f1 : rg 1 24 x1 := rg_e e1 (rg_w (rg_add fy80_5 rgc_1 (th_leI rfl) (th_leI rfl)) (th_leI rfl) (th_leI rfl))
        refine lv_iinc (v := x1) (lv' := [(5, .int x1), (0, .ref h0), (1, .int p1), (2, .int p2), (3, .int p3), (4, .int p4)]) hx hb dX12_firstTouch_80 hl (k := 5) rfl (by rw [e1]; rfl) (th_ltN rfl) rfl (fun ls hl => ?_)
        refine lv_goto (tgt := 3) hx hb dX12_firstTouch_83 (th_eqI rfl) ?_
        exact ih3 _ _ _ x1 (th_up (rg_dA e1 fy80_5 rgc_1 (th_leI rfl) (th_leI rfl)) fy80_5 hn3 (th_ltI rfl)) hH hS (lv_sub hl [1, 2, 3, 4, 5, 0] rfl) fy80_1 fy80_2 fy80_3 fy80_4 (rg_w f1 (th_leI rfl) (th_leI rfl)) (hF.trans (by simp only [f_X12_firstTouch_80, ← e1]))
      have J16 : ∀ (n16 : Nat) (H : Heap) (locs : List Loc) (ls : Array Slot) (y16_6 : Int32) (y16_7 : Int32), (23 - y16_7.toInt).toNat < n16 → th_H D cA τ gi gr H → va_S (th_A τ s.heap.size) s.heap H locs → lv_has ls 8 [(0, .ref h0), (1, .int p1), (2, .int p2), (3, .int p3), (4, .int p4), (5, .int y3_5), (6, .int y16_6), (7, .int y16_7)] → rg 0 15 p1 → rg 0 11 p2 → rg 0 15 p3 → rg 0 11 p4 → rg 0 23 y3_5 → rg 0 1 y16_6 → rg 0 23 y16_7 → F_X12_firstTouch τ Z gi gr h0 p1 p2 p3 p4 = f_X12_firstTouch_16 τ Z gi gr h0 p1 p2 p3 p4 y3_5 (f_X12_firstTouch_3 τ Z gi gr h0 p1 p2 p3 p4 n3) n16 y16_6 y16_7 → W p l e (headSpec wsX12_firstTouch ({ frames := 3, cells := 0, slots := 0, locals := 99 })).room s m [.ref h0, .int p1, .int p2, .int p3, .int p4].toArray below meth c H locs 0 0 (MQ below (va_Qi (fun (r : Int32) (_ : Unit) => (F_X12_firstTouch τ Z gi gr h0 p1 p2 p3 p4 = r)) (fun (_ : Unit) t => th_H D cA τ gi gr t.heap) (th_A τ s.heap.size)) [.ref h0, .int p1, .int p2, .int p3, .int p4].toArray s 0 0 (th_A τ s.heap.size)) (F0 m 16 ls []) := by
        intro n16
        induction n16 with
        | zero =>
          intro H locs ls y16_6 y16_7 hn
          exact absurd hn (Nat.not_lt_zero _)
        | succ n16 ih16 =>
          intro H locs ls y16_6 y16_7 hn16 hH hS hl fy16_1 fy16_2 fy16_3 fy16_4 fy16_5 fy16_6 fy16_7 hF
          have J50 : ∀ (H : Heap) (locs : List Loc) (ls : Array Slot) (z50_0 : Int32), th_H D cA τ gi gr H → va_S (th_A τ s.heap.size) s.heap H locs → lv_has ls 8 [(0, .ref h0), (1, .int p1), (2, .int p2), (3, .int p3), (4, .int p4), (5, .int y3_5), (7, .int y16_7)] → rg 0 15 p1 → rg 0 11 p2 → rg 0 15 p3 → rg 0 11 p4 → rg 1 23 y3_5 → rg 0 22 y16_7 → rg 0 1 z50_0 → F_X12_firstTouch τ Z gi gr h0 p1 p2 p3 p4 = f_X12_firstTouch_50 τ Z gi gr h0 p1 p2 p3 p4 y3_5 y16_6 y16_7 (f_X12_firstTouch_3 τ Z gi gr h0 p1 p2 p3 p4 n3) (f_X12_firstTouch_16 τ Z gi gr h0 p1 p2 p3 p4 y3_5 (f_X12_firstTouch_3 τ Z gi gr h0 p1 p2 p3 p4 n3) n16) z50_0 → W p l e (headSpec wsX12_firstTouch ({ frames := 3, cells := 0, slots := 0, locals := 99 })).room s m [.ref h0, .int p1, .int p2, .int p3, .int p4].toArray below meth c H locs 0 0 (MQ below (va_Qi (fun (r : Int32) (_ : Unit) => (F_X12_firstTouch τ Z gi gr h0 p1 p2 p3 p4 = r)) (fun (_ : Unit) t => th_H D cA τ gi gr t.heap) (th_A τ s.heap.size)) [.ref h0, .int p1, .int p2, .int p3, .int p4].toArray s 0 0 (th_A τ s.heap.size)) (F0 m 50 ls [.int z50_0]) := by
            intro H locs ls z50_0 hH hS hl fy50_1 fy50_2 fy50_3 fy50_4 fy50_5 fy50_7 fz50_0 hF
            refine lv_istore (i := 6) (lv' := [(6, .int z50_0), (0, .ref h0), (1, .int p1), (2, .int p2), (3, .int p3), (4, .int p4), (5, .int y3_5), (7, .int y16_7)]) hx hb dX12_firstTouch_50 hl (th_ltN rfl) rfl (fun ls hl => ?_)
            obtain ⟨x2, e2⟩ : ∃ y : Int32, y = y16_7 + 1 := ⟨_, rfl⟩
            have f2 : rg 1 23 x2 := rg_e e2 (rg_w (rg_add fy50_7 rgc_1 (th_leI rfl) (th_leI rfl)) (th_leI rfl) (th_leI rfl))
            refine lv_iinc (v := x2) (lv' := [(7, .int x2), (6, .int z50_0), (0, .ref h0), (1, .int p1), (2, .int p2), (3, .int p3), (4, .int p4), (5, .int y3_5)]) hx hb dX12_firstTouch_52 hl (k := 7) rfl (by rw [e2]; rfl) (th_ltN rfl) rfl (fun ls hl => ?_)
            refine lv_goto (tgt := 16) hx hb dX12_firstTouch_55 (th_eqI rfl) ?_
            exact ih16 _ _ _ z50_0 x2 (th_up (rg_dA e2 fy50_7 rgc_1 (th_leI rfl) (th_leI rfl)) fy50_7 hn16 (th_ltI rfl)) hH hS (lv_sub hl [2, 3, 4, 5, 6, 7, 1, 0] rfl) fy50_1 fy50_2 fy50_3 fy50_4 (rg_w fy50_5 (th_leI rfl) (th_leI rfl)) fz50_0 (rg_w f2 (th_leI rfl) (th_leI rfl)) (hF.trans (by simp only [f_X12_firstTouch_50, ← e2]))
          have J49 : ∀ (H : Heap) (locs : List Loc) (ls : Array Slot), th_H D cA τ gi gr H → va_S (th_A τ s.heap.size) s.heap H locs → lv_has ls 8 [(0, .ref h0), (1, .int p1), (2, .int p2), (3, .int p3), (4, .int p4), (5, .int y3_5), (7, .int y16_7)] → rg 0 15 p1 → rg 0 11 p2 → rg 0 15 p3 → rg 0 11 p4 → rg 1 23 y3_5 → rg 0 22 y16_7 → F_X12_firstTouch τ Z gi gr h0 p1 p2 p3 p4 = f_X12_firstTouch_49 τ Z gi gr h0 p1 p2 p3 p4 y3_5 y16_6 y16_7 (f_X12_firstTouch_3 τ Z gi gr h0 p1 p2 p3 p4 n3) (f_X12_firstTouch_16 τ Z gi gr h0 p1 p2 p3 p4 y3_5 (f_X12_firstTouch_3 τ Z gi gr h0 p1 p2 p3 p4 n3) n16) → W p l e (headSpec wsX12_firstTouch ({ frames := 3, cells := 0, slots := 0, locals := 99 })).room s m [.ref h0, .int p1, .int p2, .int p3, .int p4].toArray below meth c H locs 0 0 (MQ below (va_Qi (fun (r : Int32) (_ : Unit) => (F_X12_firstTouch τ Z gi gr h0 p1 p2 p3 p4 = r)) (fun (_ : Unit) t => th_H D cA τ gi gr t.heap) (th_A τ s.heap.size)) [.ref h0, .int p1, .int p2, .int p3, .int p4].toArray s 0 0 (th_A τ s.heap.size)) (F0 m 49 ls []) := by
            intro H locs ls hH hS hl fy49_1 fy49_2 fy49_3 fy49_4 fy49_5 fy49_7 hF
            refine lv_iconst (v := 0) hx hb dX12_firstTouch_49 ic_0 ?_
            exact J50 _ _ _ 0 hH hS (lv_sub hl [0, 1, 2, 3, 4, 5, 6] rfl) fy49_1 fy49_2 fy49_3 fy49_4 fy49_5 fy49_7 (rg_w rgc_0 (th_leI rfl) (th_leI rfl)) (hF.trans (by simp only [f_X12_firstTouch_49]))
          refine lv_iload hx hb dX12_firstTouch_16 (lv_at hl 7 rfl) ?_
          refine lv_iload hx hb dX12_firstTouch_18 (lv_at hl 5 rfl) ?_
          refine lv_icmp_ge (tgt := 58) hx hb dX12_firstTouch_20 (th_eqI rfl) (fun c3 => ?_) (fun c3 => ?_)
          · skip
            refine lv_iload hx hb dX12_firstTouch_58 (lv_at hl 6 rfl) ?_
            refine lv_if_eq (tgt := 80) hx hb dX12_firstTouch_60 (th_eqI rfl) (fun c4 => ?_) (fun c4 => ?_)
            · skip
              have f5 : rg 0 0 y16_6 := rg_w (rg_eq fy16_6 rgc_0 c4).1 (th_leI rfl) (th_leI rfl)
              exact J80 _ _ _ hH hS (lv_sub hl [0, 1, 2, 3, 4, 5] rfl) fy16_1 fy16_2 fy16_3 fy16_4 fy16_5 (hF.trans (by simp only [↓reduceIte, f_X12_firstTouch_16, eq_true c3, eq_true c4]))
            · skip
              have f6 : rg 1 1 y16_6 := rg_w (rg_neL fy16_6 rgc_0 c4) (th_leI rfl) (th_leI rfl)
              refine lv_aload_n hx hb dX12_firstTouch_63 rfl (lv_at hl 0 rfl) ?_
              refine lv_iload_n hx hb dX12_firstTouch_64 rfl (lv_at hl 1 rfl) ?_
              refine lv_iload_n hx hb dX12_firstTouch_65 rfl (lv_at hl 2 rfl) ?_
              refine lv_iload_n hx hb dX12_firstTouch_66 rfl (lv_at hl 3 rfl) ?_
              refine lv_iload hx hb dX12_firstTouch_67 (lv_at hl 4 rfl) ?_
              refine lv_iload hx hb dX12_firstTouch_69 (lv_at hl 5 rfl) ?_
              have hA7 := th_Asub (τ := τ) hS
              refine va_calli (va_runV (As := [.int p1, .int p2, .int p3, .int p4, .int y3_5]) (rest := []) ⟨hx, hb, hml, hown, hts⟩ (k_X12_touchAt l D cA Z τ gi gr _ h0 t_h0 p1 fy16_1 p2 fy16_2 p3 fy16_3 p4 fy16_4 y3_5 fy16_5) (cwV 5 hts gX12_firstTouch_X12_touchAt rfl rfl rfl hd_X12_touchAt__5 ⟨Nat.le_of_ble_eq_true rfl, Nat.le_of_ble_eq_true rfl⟩) ⟨th_blind, tr_12 hK hH t_h0, (th_pre hH hK hN hZ hS hA7)⟩ rfl rfl hl.1 rfl (lv_room (Nat.le_of_ble_eq_true rfl)) dX12_firstTouch_71 ⟨Nat.le_of_ble_eq_true rfl, Nat.le_of_ble_eq_true rfl⟩) hS (fun q _ h => hA7 q h) hA7 (fun x8 u t H locs ht hvm hw8 hB hz1 hk1 hS => ?_)
              try dsimp only at hw8 hB
              rw [ht] at hB
              have hH := hB
              refine lv_if_eq (tgt := 80) hx hb dX12_firstTouch_74 (th_eqI rfl) (fun c9 => ?_) (fun c9 => ?_)
              · skip
                have f10 : rg 0 0 x8 := rg_w (rg_eq hw8.1 rgc_0 c9).1 (th_leI rfl) (th_leI rfl)
                exact J80 _ _ _ hH hS (lv_sub hl [0, 1, 2, 3, 4, 5] rfl) fy16_1 fy16_2 fy16_3 fy16_4 fy16_5 (hF.trans (by simp only [↓reduceIte, f_X12_firstTouch_16, eq_true c3, eq_false c4, hw8.2, eq_true c9]))
              · skip
                have f11 : rg 1 1 x8 := rg_w (rg_neL hw8.1 rgc_0 c9) (th_leI rfl) (th_leI rfl)
                refine lv_iload hx hb dX12_firstTouch_77 (lv_at hl 5 rfl) ?_
                exact W.iret (v := y3_5) hx hb hr (fun t ht hW => ⟨⟨y3_5, (), rfl, (hF.trans (by simp only [↓reduceIte, f_X12_firstTouch_16, eq_true c3, eq_false c4, hw8.2, eq_false c9])), th_Ht ht hH⟩, hS.F ht⟩) hS.2.2 dX12_firstTouch_79
          · skip
            have f12 : rg 1 23 y3_5 := rg_w (rg_nle fy16_5 fy16_7 c3).1 (th_leI rfl) (th_leI rfl)
            have f13 : rg 0 22 y16_7 := rg_w (rg_nle fy16_5 fy16_7 c3).2 (th_leI rfl) (th_leI rfl)
            refine lv_iload hx hb dX12_firstTouch_23 (lv_at hl 6 rfl) ?_
            refine lv_if_eq (tgt := 49) hx hb dX12_firstTouch_25 (th_eqI rfl) (fun c14 => ?_) (fun c14 => ?_)
            · skip
              have f15 : rg 0 0 y16_6 := rg_w (rg_eq fy16_6 rgc_0 c14).1 (th_leI rfl) (th_leI rfl)
              exact J49 _ _ _ hH hS (lv_sub hl [0, 1, 2, 3, 4, 5, 7] rfl) fy16_1 fy16_2 fy16_3 fy16_4 f12 f13 (hF.trans (by simp only [↓reduceIte, f_X12_firstTouch_16, eq_false c3, eq_true c14]))
            · skip
              have f16 : rg 1 1 y16_6 := rg_w (rg_neL fy16_6 rgc_0 c14) (th_leI rfl) (th_leI rfl)
              refine lv_aload_n hx hb dX12_firstTouch_28 rfl (lv_at hl 0 rfl) ?_
              obtain ⟨q17, r17, t17⟩ : ∃ q, gr h0 13 = some q ∧ τ q = 51 := (thI_12 hH t_h0).2.2.2.2.2.2.2.2.2.2.2.2.2.1
              refine th_get (ci := 11) (v := .ref q17) (T := TX12) (C := RX12) (N := 38) hx hb hts (fun w h => List.mem_cons_of_mem _ (List.mem_append_right _ h)) hown hK hH t_h0 (th_nz rfl) (thE_12 _ _ _) rfl 13 (th_ltN rfl) (hts (.fieldLink RX12 43 "BayMooringsModel" "tides" "[I") (List.mem_cons_of_mem _ (List.mem_append_left _ (List.mem_append_left _ (List.mem_of_getElem? (i := 0) rfl))))) (fun _ h9 => h9) (th_fR r17 rfl) dX12_firstTouch_29 ?_
              refine lv_iload hx hb dX12_firstTouch_32 (lv_at hl 7 rfl) ?_
              refine th_iald hx hb hK hH t17 (th_nz rfl) 0 (thE_51 _ _ _) rfl (rg_in (n := 24) f13 (th_leI rfl) (th_ltI rfl)) dX12_firstTouch_34 ?_
              refine lv_topi (fun x18 e18 => ?_)
              have f18 : rg 0 200 x18 := rg_e e18 ((thI_51 hH t17) _ (rg_cl (n := 24) f13 (th_leI rfl) (th_ltI rfl)))
              refine lv_aload_n hx hb dX12_firstTouch_35 rfl (lv_at hl 0 rfl) ?_
              refine th_get (ci := 11) (v := .ref q17) (T := TX12) (C := RX12) (N := 38) hx hb hts (fun w h => List.mem_cons_of_mem _ (List.mem_append_right _ h)) hown hK hH t_h0 (th_nz rfl) (thE_12 _ _ _) rfl 13 (th_ltN rfl) (hts (.fieldLink RX12 43 "BayMooringsModel" "tides" "[I") (List.mem_cons_of_mem _ (List.mem_append_left _ (List.mem_append_left _ (List.mem_of_getElem? (i := 0) rfl))))) (fun _ h9 => h9) (th_fR r17 rfl) dX12_firstTouch_36 ?_
              refine lv_iload hx hb dX12_firstTouch_39 (lv_at hl 5 rfl) ?_
              refine th_iald hx hb hK hH t17 (th_nz rfl) 0 (thE_51 _ _ _) rfl (rg_in (n := 24) f12 (th_leI rfl) (th_ltI rfl)) dX12_firstTouch_41 ?_
              refine lv_topi (fun x20 e20 => ?_)
              have f20 : rg 0 200 x20 := rg_e e20 ((thI_51 hH t17) _ (rg_cl (n := 24) f12 (th_leI rfl) (th_ltI rfl)))
              refine lv_icmp_eq (tgt := 49) hx hb dX12_firstTouch_42 (th_eqI rfl) (fun c21 => ?_) (fun c21 => ?_)
              · skip
                exact J49 _ _ _ hH hS (lv_sub hl [0, 1, 2, 3, 4, 5, 7] rfl) fy16_1 fy16_2 fy16_3 fy16_4 f12 f13 (hF.trans (by simp only [↓reduceIte, f_X12_firstTouch_16, eq_false c3, eq_false c14, r17, Option.getD_some, ← e18, ← e20, eq_true c21]))
              · skip
                refine lv_iconst (v := 1) hx hb dX12_firstTouch_45 ic_1 ?_
                refine lv_goto (tgt := 50) hx hb dX12_firstTouch_46 (th_eqI rfl) ?_
                exact J50 _ _ _ 1 hH hS (lv_sub hl [0, 1, 2, 3, 4, 5, 7] rfl) fy16_1 fy16_2 fy16_3 fy16_4 f12 f13 (rg_w rgc_1 (th_leI rfl) (th_leI rfl)) (hF.trans (by simp only [↓reduceIte, f_X12_firstTouch_16, eq_false c3, eq_false c14, r17, Option.getD_some, ← e18, ← e20, eq_false c21]))
      refine lv_iload hx hb dX12_firstTouch_3 (lv_at hl 5 rfl) ?_
      refine lv_bipush (v := 24) hx hb dX12_firstTouch_5 bp_24 ?_
      refine lv_icmp_ge (tgt := 86) hx hb dX12_firstTouch_7 (th_eqI rfl) (fun c22 => ?_) (fun c22 => ?_)
      · skip
        have f23 : rg 24 24 y3_5 := rg_w (rg_le rgc_24 fy3_5 c22).2 (th_leI rfl) (th_leI rfl)
        refine lv_iconst (v := (-1)) hx hb dX12_firstTouch_86 ic_m1 ?_
        exact W.iret (v := (-1)) hx hb hr (fun t ht hW => ⟨⟨(-1), (), rfl, (hF.trans (by simp only [↓reduceIte, f_X12_firstTouch_3, eq_true c22])), th_Ht ht hH⟩, hS.F ht⟩) hS.2.2 dX12_firstTouch_87
      · skip
        have f24 : rg 0 23 y3_5 := rg_w (rg_nle rgc_24 fy3_5 c22).2 (th_leI rfl) (th_leI rfl)
        refine lv_iconst (v := 1) hx hb dX12_firstTouch_10 ic_1 ?_
        refine lv_istore (i := 6) (lv' := [(6, .int 1), (0, .ref h0), (1, .int p1), (2, .int p2), (3, .int p3), (4, .int p4), (5, .int y3_5)]) hx hb dX12_firstTouch_11 hl (th_ltN rfl) rfl (fun ls hl => ?_)
        refine lv_iconst (v := 0) hx hb dX12_firstTouch_13 ic_0 ?_
        refine lv_istore (i := 7) (lv' := [(7, .int 0), (6, .int 1), (0, .ref h0), (1, .int p1), (2, .int p2), (3, .int p3), (4, .int p4), (5, .int y3_5)]) hx hb dX12_firstTouch_14 hl (th_ltN rfl) rfl (fun ls hl => ?_)
        exact J16 _ _ _ _ 1 0 (Nat.lt_add_one _) hH hS (lv_sub hl [2, 3, 4, 5, 6, 7, 1, 0] rfl) fy3_1 fy3_2 fy3_3 fy3_4 f24 (rg_w rgc_1 (th_leI rfl) (th_leI rfl)) (rg_w rgc_0 (th_leI rfl) (th_leI rfl)) (hF.trans (by simp only [↓reduceIte, f_X12_firstTouch_3, eq_false c22]))
  have hS : va_S (th_A τ s.heap.size) s.heap s.heap [] := va_S.rf
  have hl := lv_entry ([.ref h0, .int p1, .int p2, .int p3, .int p4]) (n := 8) (Nat.le_of_ble_eq_true rfl)
  rw [lg_entry_eq]
  generalize (lg_sl ([.ref h0, .int p1, .int p2, .int p3, .int p4]) ++ List.replicate (8 - (lg_sl ([.ref h0, .int p1, .int p2, .int p3, .int p4])).length) Slot.unset).toArray = ls at hl ⊢
  have hl : lv_has ls 8 [(0, .ref h0), (1, .int p1), (2, .int p2), (3, .int p3), (4, .int p4)] := hl
  have hF : F_X12_firstTouch τ Z gi gr h0 p1 p2 p3 p4 = F_X12_firstTouch τ Z gi gr h0 p1 p2 p3 p4 := rfl
  refine lv_iconst (v := 0) hx hb dX12_firstTouch_0 ic_0 ?_
  refine lv_istore (i := 5) (lv' := [(5, .int 0), (0, .ref h0), (1, .int p1), (2, .int p2), (3, .int p3), (4, .int p4)]) hx hb dX12_firstTouch_1 hl (th_ltN rfl) rfl (fun ls hl => ?_)
  exact J3 _ _ _ _ 0 (Nat.lt_add_one _) hH hS (lv_sub hl [1, 2, 3, 4, 5, 0] rfl) f_p1 f_p2 f_p3 f_p4 (rg_w rgc_0 (th_leI rfl) (th_leI rfl)) (hF.trans (by simp only [F_X12_firstTouch]))

noncomputable def f_X12_touch_44 (τ : th_t) (Z : th_Zt) (gi : th_i) (gr : th_r) (h0 : Nat) (p1 : Int32) (p2 : Int32) (p3 : Int32) (p4 : Int32) (gi_44 : th_i) : Int32 × th_i :=
  let u2 : Int32 × th_i := F_X12_finding τ Z gi_44 gr h0 (-1000001)
  let x2 : Int32 := u2.1
  let gi2 : th_i := u2.2
  (x2, gi2)
noncomputable def F_X12_touch (τ : th_t) (Z : th_Zt) (gi : th_i) (gr : th_r) (h0 : Nat) (p1 : Int32) (p2 : Int32) (p3 : Int32) (p4 : Int32) : Int32 × th_i :=
  let x4 : Int32 := F_X12_isBoat τ Z gi gr h0 p1
  if x4 = (0 : Int32) then (
    f_X12_touch_44 τ Z gi gr h0 p1 p2 p3 p4 gi) else (
    let x10 : Int32 := F_X12_isBuoy τ Z gi gr h0 p2
    if x10 = (0 : Int32) then (
      f_X12_touch_44 τ Z gi gr h0 p1 p2 p3 p4 gi) else (
      let x16 : Int32 := F_X12_isBoat τ Z gi gr h0 p3
      if x16 = (0 : Int32) then (
        f_X12_touch_44 τ Z gi gr h0 p1 p2 p3 p4 gi) else (
        let x22 : Int32 := F_X12_isBuoy τ Z gi gr h0 p4
        if x22 = (0 : Int32) then (
          f_X12_touch_44 τ Z gi gr h0 p1 p2 p3 p4 gi) else (
          if p1 = p3 then (
            f_X12_touch_44 τ Z gi gr h0 p1 p2 p3 p4 gi) else (
            if p2 = p4 then (
              f_X12_touch_44 τ Z gi gr h0 p1 p2 p3 p4 gi) else (
              let x30 : Int32 := F_X12_firstTouch τ Z gi gr h0 p1 p2 p3 p4
              (x30, gi)))))))
set_option maxHeartbeats 8000000 in
set_option maxRecDepth 100000 in
theorem k_X12_touch (l : Launch) (D : va_G) (cA : Nat → ClassId) (Z : th_Zt) (τ : th_t) (gi : th_i) (gr : th_r) (sz : Nat) (h0 : Nat) (t_h0 : τ h0 = 12) (p1 : Int32) (p2 : Int32) (p3 : Int32) (p4 : Int32) : Met l yX12_touch wsX12_touch ({ frames := 4, cells := 0, slots := 0, locals := 126 }) (va_Pc [.ref h0, .int p1, .int p2, .int p3, .int p4] (th_Pre D cA Z τ gi gr sz)) (va_Qi (fun (r : Int32) (u : th_i × th_r) => th_Mod [5900] τ gi gr u.1 u.2 ∧ u.2 = gr ∧ (F_X12_touch τ Z gi gr h0 p1 p2 p3 p4 = (r, u.1))) (fun (u : th_i × th_r) t => th_H D cA τ u.1 u.2 t.heap) (th_A τ sz)) 0 0 (th_A τ sz) := by
  refine Met.ofW (cc := cX12_touch) (maxL := 5) (ret := (some .int)) (by decide) rfl ?_
  intro p e s m args below meth c s₁ B hml hv
  obtain ⟨rfl, hsz, hH, hK, hN, hZ⟩ := hv
  have hx := B.exec
  have hb := B.bytes
  have hr := B.returns
  have hts := atoms_spec (ws := wsX12_touch) B.pre
  have hown : s.vm.findClass RX12 = some m.cls := findClass_of_methodNamed B.named
  have hlocks := B.notSynchronized
  subst hsz
  have hM : th_Mod [5900] τ gi gr gi gr := th_Mod.rf
  have J44 : ∀ (gi_44 : th_i) (H : Heap) (locs : List Loc) (ls : Array Slot), th_H D cA τ gi_44 gr H → va_S (th_A τ s.heap.size) s.heap H locs → th_Mod [5900] τ gi gr gi_44 gr → lv_has ls 5 [(0, .ref h0)] → F_X12_touch τ Z gi gr h0 p1 p2 p3 p4 = f_X12_touch_44 τ Z gi gr h0 p1 p2 p3 p4 gi_44 → W p l e (headSpec wsX12_touch ({ frames := 4, cells := 0, slots := 0, locals := 126 })).room s m [.ref h0, .int p1, .int p2, .int p3, .int p4].toArray below meth c H locs 0 0 (MQ below (va_Qi (fun (r : Int32) (u : th_i × th_r) => th_Mod [5900] τ gi gr u.1 u.2 ∧ u.2 = gr ∧ (F_X12_touch τ Z gi gr h0 p1 p2 p3 p4 = (r, u.1))) (fun (u : th_i × th_r) t => th_H D cA τ u.1 u.2 t.heap) (th_A τ s.heap.size)) [.ref h0, .int p1, .int p2, .int p3, .int p4].toArray s 0 0 (th_A τ s.heap.size)) (F0 m 44 ls []) := by
    intro gi_44 H locs ls hH hS hM hl hF
    refine lv_aload_n hx hb dX12_touch_44 rfl (lv_at hl 0 rfl) ?_
    refine lv_ldc (v := (-1000001)) hx hb hown (hts (.constant RX12 119 (-1000001)) (List.mem_cons_of_mem _ (List.mem_append_left _ (List.mem_append_left _ (List.mem_of_getElem? (i := 0) rfl))))) dX12_touch_45 ?_
    have hA1 := th_Asub (τ := τ) hS
    refine va_calli (va_runV (As := [.int (-1000001)]) (rest := []) ⟨hx, hb, hml, hown, hts⟩ (k_X12_finding l D cA Z τ gi_44 gr _ h0 t_h0 (-1000001) (rg_w rgc_m1000001 (th_leI rfl) (th_leI rfl))) (cwV 1 hts gX12_touch_X12_finding rfl rfl rfl hd_X12_finding__1 ⟨Nat.le_of_ble_eq_true rfl, Nat.le_of_ble_eq_true rfl⟩) ⟨th_blind, tr_12 hK hH t_h0, (th_pre hH hK hN hZ hS hA1)⟩ rfl rfl hl.1 rfl (lv_room (Nat.le_of_ble_eq_true rfl)) dX12_touch_47 ⟨Nat.le_of_ble_eq_true rfl, Nat.le_of_ble_eq_true rfl⟩) hS (fun q _ h => hA1 q h) hA1 (fun x2 u t H locs ht hvm hw2 hB hz1 hk1 hS => ?_)
    try dsimp only at hw2 hB
    rw [ht] at hB
    have hH := hB
    obtain ⟨gi2, gr2⟩ := u
    try dsimp only at hw2 hH
    obtain rfl : gr = gr2 := (hw2.2.1).symm
    have hM := hM.tr hw2.1 (fun _ h => h) (th_sub rfl)
    exact W.iret (v := x2) hx hb hr (fun t ht hW => ⟨⟨x2, (gi2, gr), rfl, ⟨hM, rfl, (hF.trans (by simp only [f_X12_touch_44, hw2.2.2.1]))⟩, th_Ht ht hH⟩, hS.F ht⟩) hS.2.2 dX12_touch_50
  have hS : va_S (th_A τ s.heap.size) s.heap s.heap [] := va_S.rf
  have hl := lv_entry ([.ref h0, .int p1, .int p2, .int p3, .int p4]) (n := 5) (Nat.le_of_ble_eq_true rfl)
  rw [lg_entry_eq]
  generalize (lg_sl ([.ref h0, .int p1, .int p2, .int p3, .int p4]) ++ List.replicate (5 - (lg_sl ([.ref h0, .int p1, .int p2, .int p3, .int p4])).length) Slot.unset).toArray = ls at hl ⊢
  have hl : lv_has ls 5 [(0, .ref h0), (1, .int p1), (2, .int p2), (3, .int p3), (4, .int p4)] := hl
  have hF : F_X12_touch τ Z gi gr h0 p1 p2 p3 p4 = F_X12_touch τ Z gi gr h0 p1 p2 p3 p4 := rfl
  refine lv_aload_n hx hb dX12_touch_0 rfl (lv_at hl 0 rfl) ?_
  refine lv_iload_n hx hb dX12_touch_1 rfl (lv_at hl 1 rfl) ?_
  have hA3 := th_Asub (τ := τ) hS
  refine va_calli (va_runV (As := [.int p1]) (rest := []) ⟨hx, hb, hml, hown, hts⟩ (k_X12_isBoat l D cA Z τ gi gr _ h0 t_h0 p1) (cwV 1 hts gX12_touch_X12_isBoat rfl rfl rfl hd_X12_isBoat__1 ⟨Nat.le_of_ble_eq_true rfl, Nat.le_of_ble_eq_true rfl⟩) ⟨th_blind, tr_12 hK hH t_h0, (th_pre hH hK hN hZ hS hA3)⟩ rfl rfl hl.1 rfl (lv_room (Nat.le_of_ble_eq_true rfl)) dX12_touch_2 ⟨Nat.le_of_ble_eq_true rfl, Nat.le_of_ble_eq_true rfl⟩) hS (fun q _ h => hA3 q h) hA3 (fun x4 u t H locs ht hvm hw4 hB hz1 hk1 hS => ?_)
  try dsimp only at hw4 hB
  rw [ht] at hB
  have hH := hB
  refine lv_if_eq (tgt := 44) hx hb dX12_touch_5 (th_eqI rfl) (fun c5 => ?_) (fun c5 => ?_)
  · skip
    have f6 : rg 0 0 x4 := rg_w (rg_eq hw4.1 rgc_0 c5).1 (th_leI rfl) (th_leI rfl)
    exact J44 gi _ _ _ hH hS hM (lv_sub hl [0] rfl) (hF.trans (by simp only [↓reduceIte, F_X12_touch, hw4.2.2, eq_true c5]))
  · skip
    have f7 : rg 1 1 x4 := rg_w (rg_neL hw4.1 rgc_0 c5) (th_leI rfl) (th_leI rfl)
    have f8 : rg 0 15 p1 := rg_w (hw4.2.1 c5) (th_leI rfl) (th_leI rfl)
    refine lv_aload_n hx hb dX12_touch_8 rfl (lv_at hl 0 rfl) ?_
    refine lv_iload_n hx hb dX12_touch_9 rfl (lv_at hl 2 rfl) ?_
    have hA9 := th_Asub (τ := τ) hS
    refine va_calli (va_runV (As := [.int p2]) (rest := []) ⟨hx, hb, hml, hown, hts⟩ (k_X12_isBuoy l D cA Z τ gi gr _ h0 t_h0 p2) (cwV 1 hts gX12_touch_X12_isBuoy rfl rfl rfl hd_X12_isBuoy__1 ⟨Nat.le_of_ble_eq_true rfl, Nat.le_of_ble_eq_true rfl⟩) ⟨th_blind, tr_12 hK hH t_h0, (th_pre hH hK hN hZ hS hA9)⟩ rfl rfl hl.1 rfl (lv_room (Nat.le_of_ble_eq_true rfl)) dX12_touch_10 ⟨Nat.le_of_ble_eq_true rfl, Nat.le_of_ble_eq_true rfl⟩) hS (fun q _ h => hA9 q h) hA9 (fun x10 u t H locs ht hvm hw10 hB hz1 hk1 hS => ?_)
    try dsimp only at hw10 hB
    rw [ht] at hB
    have hH := hB
    refine lv_if_eq (tgt := 44) hx hb dX12_touch_13 (th_eqI rfl) (fun c11 => ?_) (fun c11 => ?_)
    · skip
      have f12 : rg 0 0 x10 := rg_w (rg_eq hw10.1 rgc_0 c11).1 (th_leI rfl) (th_leI rfl)
      exact J44 gi _ _ _ hH hS hM (lv_sub hl [0] rfl) (hF.trans (by simp only [↓reduceIte, F_X12_touch, hw4.2.2, eq_false c5, hw10.2.2, eq_true c11]))
    · skip
      have f13 : rg 1 1 x10 := rg_w (rg_neL hw10.1 rgc_0 c11) (th_leI rfl) (th_leI rfl)
      have f14 : rg 0 11 p2 := rg_w (hw10.2.1 c11) (th_leI rfl) (th_leI rfl)
      refine lv_aload_n hx hb dX12_touch_16 rfl (lv_at hl 0 rfl) ?_
      refine lv_iload_n hx hb dX12_touch_17 rfl (lv_at hl 3 rfl) ?_
      have hA15 := th_Asub (τ := τ) hS
      refine va_calli (va_runV (As := [.int p3]) (rest := []) ⟨hx, hb, hml, hown, hts⟩ (k_X12_isBoat l D cA Z τ gi gr _ h0 t_h0 p3) (cwV 1 hts gX12_touch_X12_isBoat rfl rfl rfl hd_X12_isBoat__1 ⟨Nat.le_of_ble_eq_true rfl, Nat.le_of_ble_eq_true rfl⟩) ⟨th_blind, tr_12 hK hH t_h0, (th_pre hH hK hN hZ hS hA15)⟩ rfl rfl hl.1 rfl (lv_room (Nat.le_of_ble_eq_true rfl)) dX12_touch_18 ⟨Nat.le_of_ble_eq_true rfl, Nat.le_of_ble_eq_true rfl⟩) hS (fun q _ h => hA15 q h) hA15 (fun x16 u t H locs ht hvm hw16 hB hz1 hk1 hS => ?_)
      try dsimp only at hw16 hB
      rw [ht] at hB
      have hH := hB
      refine lv_if_eq (tgt := 44) hx hb dX12_touch_21 (th_eqI rfl) (fun c17 => ?_) (fun c17 => ?_)
      · skip
        have f18 : rg 0 0 x16 := rg_w (rg_eq hw16.1 rgc_0 c17).1 (th_leI rfl) (th_leI rfl)
        exact J44 gi _ _ _ hH hS hM (lv_sub hl [0] rfl) (hF.trans (by simp only [↓reduceIte, F_X12_touch, hw4.2.2, eq_false c5, hw10.2.2, eq_false c11, hw16.2.2, eq_true c17]))
      · skip
        have f19 : rg 1 1 x16 := rg_w (rg_neL hw16.1 rgc_0 c17) (th_leI rfl) (th_leI rfl)
        have f20 : rg 0 15 p3 := rg_w (hw16.2.1 c17) (th_leI rfl) (th_leI rfl)
        refine lv_aload_n hx hb dX12_touch_24 rfl (lv_at hl 0 rfl) ?_
        refine lv_iload hx hb dX12_touch_25 (lv_at hl 4 rfl) ?_
        have hA21 := th_Asub (τ := τ) hS
        refine va_calli (va_runV (As := [.int p4]) (rest := []) ⟨hx, hb, hml, hown, hts⟩ (k_X12_isBuoy l D cA Z τ gi gr _ h0 t_h0 p4) (cwV 1 hts gX12_touch_X12_isBuoy rfl rfl rfl hd_X12_isBuoy__1 ⟨Nat.le_of_ble_eq_true rfl, Nat.le_of_ble_eq_true rfl⟩) ⟨th_blind, tr_12 hK hH t_h0, (th_pre hH hK hN hZ hS hA21)⟩ rfl rfl hl.1 rfl (lv_room (Nat.le_of_ble_eq_true rfl)) dX12_touch_27 ⟨Nat.le_of_ble_eq_true rfl, Nat.le_of_ble_eq_true rfl⟩) hS (fun q _ h => hA21 q h) hA21 (fun x22 u t H locs ht hvm hw22 hB hz1 hk1 hS => ?_)
        try dsimp only at hw22 hB
        rw [ht] at hB
        have hH := hB
        refine lv_if_eq (tgt := 44) hx hb dX12_touch_30 (th_eqI rfl) (fun c23 => ?_) (fun c23 => ?_)
        · skip
          have f24 : rg 0 0 x22 := rg_w (rg_eq hw22.1 rgc_0 c23).1 (th_leI rfl) (th_leI rfl)
          exact J44 gi _ _ _ hH hS hM (lv_sub hl [0] rfl) (hF.trans (by simp only [↓reduceIte, F_X12_touch, hw4.2.2, eq_false c5, hw10.2.2, eq_false c11, hw16.2.2, eq_false c17, hw22.2.2, eq_true c23]))
        · skip
          have f25 : rg 1 1 x22 := rg_w (rg_neL hw22.1 rgc_0 c23) (th_leI rfl) (th_leI rfl)
          have f26 : rg 0 11 p4 := rg_w (hw22.2.1 c23) (th_leI rfl) (th_leI rfl)
          refine lv_iload_n hx hb dX12_touch_33 rfl (lv_at hl 1 rfl) ?_
          refine lv_iload_n hx hb dX12_touch_34 rfl (lv_at hl 3 rfl) ?_
          refine lv_icmp_eq (tgt := 44) hx hb dX12_touch_35 (th_eqI rfl) (fun c27 => ?_) (fun c27 => ?_)
          · skip
            exact J44 gi _ _ _ hH hS hM (lv_sub hl [0] rfl) (hF.trans (by simp only [↓reduceIte, F_X12_touch, hw4.2.2, eq_false c5, hw10.2.2, eq_false c11, hw16.2.2, eq_false c17, hw22.2.2, eq_false c23, eq_true c27]))
          · skip
            refine lv_iload_n hx hb dX12_touch_38 rfl (lv_at hl 2 rfl) ?_
            refine lv_iload hx hb dX12_touch_39 (lv_at hl 4 rfl) ?_
            refine lv_icmp_ne (tgt := 51) hx hb dX12_touch_41 (th_eqI rfl) (fun c28 => ?_) (fun c28 => ?_)
            · skip
              refine lv_aload_n hx hb dX12_touch_51 rfl (lv_at hl 0 rfl) ?_
              refine lv_iload_n hx hb dX12_touch_52 rfl (lv_at hl 1 rfl) ?_
              refine lv_iload_n hx hb dX12_touch_53 rfl (lv_at hl 2 rfl) ?_
              refine lv_iload_n hx hb dX12_touch_54 rfl (lv_at hl 3 rfl) ?_
              refine lv_iload hx hb dX12_touch_55 (lv_at hl 4 rfl) ?_
              have hA29 := th_Asub (τ := τ) hS
              refine va_calli (va_runV (As := [.int p1, .int p2, .int p3, .int p4]) (rest := []) ⟨hx, hb, hml, hown, hts⟩ (k_X12_firstTouch l D cA Z τ gi gr _ h0 t_h0 p1 f8 p2 f14 p3 f20 p4 f26) (cwV 4 hts gX12_touch_X12_firstTouch rfl rfl rfl hd_X12_firstTouch__4 ⟨Nat.le_of_ble_eq_true rfl, Nat.le_of_ble_eq_true rfl⟩) ⟨th_blind, tr_12 hK hH t_h0, (th_pre hH hK hN hZ hS hA29)⟩ rfl rfl hl.1 rfl (lv_room (Nat.le_of_ble_eq_true rfl)) dX12_touch_57 ⟨Nat.le_of_ble_eq_true rfl, Nat.le_of_ble_eq_true rfl⟩) hS (fun q _ h => hA29 q h) hA29 (fun x30 u t H locs ht hvm hw30 hB hz1 hk1 hS => ?_)
              try dsimp only at hw30 hB
              rw [ht] at hB
              have hH := hB
              exact W.iret (v := x30) hx hb hr (fun t ht hW => ⟨⟨x30, (gi, gr), rfl, ⟨hM, rfl, (hF.trans (by simp only [↓reduceIte, F_X12_touch, hw4.2.2, eq_false c5, hw10.2.2, eq_false c11, hw16.2.2, eq_false c17, hw22.2.2, eq_false c23, eq_false c27, eq_false c28, hw30]))⟩, th_Ht ht hH⟩, hS.F ht⟩) hS.2.2 dX12_touch_60
            · skip
              exact J44 gi _ _ _ hH hS hM (lv_sub hl [0] rfl) (hF.trans (by simp only [↓reduceIte, F_X12_touch, hw4.2.2, eq_false c5, hw10.2.2, eq_false c11, hw16.2.2, eq_false c17, hw22.2.2, eq_false c23, eq_false c27, eq_true c28]))

noncomputable def f_X12_mayLie_61 (τ : th_t) (Z : th_Zt) (gi : th_i) (gr : th_r) (h0 : Nat) (p1 : Int32) (p2 : Int32) (h3 : Nat) (y14_4 : Int32) (k_14 : Int32 → Int32) : Int32 :=
  let w61_0 : Int32 := gi h0 8
  let x1 : Int32 := y14_4 + 1
  k_14 x1
noncomputable def f_X12_mayLie_14 (τ : th_t) (Z : th_Zt) (gi : th_i) (gr : th_r) (h0 : Nat) (p1 : Int32) (p2 : Int32) (h3 : Nat) : Nat → Int32 → Int32
  | 0, y14_4 => 0
  | n14 + 1, y14_4 =>
    let x2 : Int32 := gi h0 8
    if x2 ≤ y14_4 then (
      1) else (
      if y14_4 = p1 then (
        f_X12_mayLie_61 τ Z gi gr h0 p1 p2 h3 y14_4 (f_X12_mayLie_14 τ Z gi gr h0 p1 p2 h3 n14) ) else (
        let x7 : Int32 := gi h3 y14_4.toNatClampNeg
        if x7 < (0 : Int32) then (
          f_X12_mayLie_61 τ Z gi gr h0 p1 p2 h3 y14_4 (f_X12_mayLie_14 τ Z gi gr h0 p1 p2 h3 n14) ) else (
          if x7 = p2 then (
            0) else (
            let x15 : Int32 := F_X12_firstTouch τ Z gi gr h0 p1 p2 y14_4 x7
            if x15 < (0 : Int32) then (
              f_X12_mayLie_61 τ Z gi gr h0 p1 p2 h3 y14_4 (f_X12_mayLie_14 τ Z gi gr h0 p1 p2 h3 n14) ) else (
              0)))))
noncomputable def F_X12_mayLie (τ : th_t) (Z : th_Zt) (gi : th_i) (gr : th_r) (h0 : Nat) (p1 : Int32) (p2 : Int32) (h3 : Nat) : Int32 :=
  let x20 : Int32 := F_X12_canFit τ Z gi gr h0 p1 p2
  if x20 = (0 : Int32) then (
    0) else (
    f_X12_mayLie_14 τ Z gi gr h0 p1 p2 h3 ((16 - (0 : Int32).toInt).toNat + 1) 0)
set_option maxHeartbeats 8000000 in
set_option maxRecDepth 100000 in
theorem k_X12_mayLie (l : Launch) (D : va_G) (cA : Nat → ClassId) (Z : th_Zt) (τ : th_t) (gi : th_i) (gr : th_r) (sz : Nat) (h0 : Nat) (t_h0 : τ h0 = 12) (p1 : Int32) (f_p1 : rg 0 15 p1) (p2 : Int32) (f_p2 : rg 0 11 p2) (h3 : Nat) (t_h3 : τ h3 = 50 ∨ τ h3 = 68) : Met l yX12_mayLie wsX12_mayLie ({ frames := 4, cells := 0, slots := 0, locals := 126 }) (va_Pc [.ref h0, .int p1, .int p2, .ref h3] (th_Pre D cA Z τ gi gr sz)) (va_Qi (fun (r : Int32) (_ : Unit) => rg 0 1 r ∧ (F_X12_mayLie τ Z gi gr h0 p1 p2 h3 = r)) (fun (_ : Unit) t => th_H D cA τ gi gr t.heap) (th_A τ sz)) 0 0 (th_A τ sz) := by
  refine Met.ofW (cc := cX12_mayLie) (maxL := 5) (ret := (some .boolean)) (by decide) rfl ?_
  intro p e s m args below meth c s₁ B hml hv
  obtain ⟨rfl, hsz, hH, hK, hN, hZ⟩ := hv
  have hx := B.exec
  have hb := B.bytes
  have hr := B.returns
  have hts := atoms_spec (ws := wsX12_mayLie) B.pre
  have hown : s.vm.findClass RX12 = some m.cls := findClass_of_methodNamed B.named
  have hlocks := B.notSynchronized
  subst hsz
  have J14 : ∀ (n14 : Nat) (H : Heap) (locs : List Loc) (ls : Array Slot) (y14_4 : Int32), (16 - y14_4.toInt).toNat < n14 → th_H D cA τ gi gr H → va_S (th_A τ s.heap.size) s.heap H locs → lv_has ls 5 [(0, .ref h0), (1, .int p1), (2, .int p2), (3, .ref h3), (4, .int y14_4)] → rg 0 15 p1 → rg 0 11 p2 → rg 0 16 y14_4 → F_X12_mayLie τ Z gi gr h0 p1 p2 h3 = f_X12_mayLie_14 τ Z gi gr h0 p1 p2 h3 n14 y14_4 → W p l e (headSpec wsX12_mayLie ({ frames := 4, cells := 0, slots := 0, locals := 126 })).room s m [.ref h0, .int p1, .int p2, .ref h3].toArray below meth c H locs 0 0 (MQ below (va_Qi (fun (r : Int32) (_ : Unit) => rg 0 1 r ∧ (F_X12_mayLie τ Z gi gr h0 p1 p2 h3 = r)) (fun (_ : Unit) t => th_H D cA τ gi gr t.heap) (th_A τ s.heap.size)) [.ref h0, .int p1, .int p2, .ref h3].toArray s 0 0 (th_A τ s.heap.size)) (F0 m 14 ls []) := by
    intro n14
    induction n14 with
    | zero =>
      intro H locs ls y14_4 hn
      exact absurd hn (Nat.not_lt_zero _)
    | succ n14 ih14 =>
      intro H locs ls y14_4 hn14 hH hS hl fy14_1 fy14_2 fy14_4 hF
      have J61 : ∀ (H : Heap) (locs : List Loc) (ls : Array Slot) (w61_0 : Int32), th_H D cA τ gi gr H → va_S (th_A τ s.heap.size) s.heap H locs → lv_has ls 5 [(0, .ref h0), (1, .int p1), (2, .int p2), (3, .ref h3), (4, .int y14_4)] → rg 0 15 p1 → rg 0 11 p2 → rg 0 15 y14_4 → w61_0 = gi h0 8 → rg 1 16 w61_0 → F_X12_mayLie τ Z gi gr h0 p1 p2 h3 = f_X12_mayLie_61 τ Z gi gr h0 p1 p2 h3 y14_4 (f_X12_mayLie_14 τ Z gi gr h0 p1 p2 h3 n14) → W p l e (headSpec wsX12_mayLie ({ frames := 4, cells := 0, slots := 0, locals := 126 })).room s m [.ref h0, .int p1, .int p2, .ref h3].toArray below meth c H locs 0 0 (MQ below (va_Qi (fun (r : Int32) (_ : Unit) => rg 0 1 r ∧ (F_X12_mayLie τ Z gi gr h0 p1 p2 h3 = r)) (fun (_ : Unit) t => th_H D cA τ gi gr t.heap) (th_A τ s.heap.size)) [.ref h0, .int p1, .int p2, .ref h3].toArray s 0 0 (th_A τ s.heap.size)) (F0 m 61 ls []) := by
        intro H locs ls w61_0 hH hS hl fy61_1 fy61_2 fy61_4 ew61_0 fw61_0 hF
        obtain ⟨x1, e1⟩ : ∃ y : Int32, y = y14_4 + 1 := ⟨_, rfl⟩
        have f1 : rg 1 16 x1 := rg_e e1 (rg_w (rg_add fy61_4 rgc_1 (th_leI rfl) (th_leI rfl)) (th_leI rfl) (th_leI rfl))
        refine lv_iinc (v := x1) (lv' := [(4, .int x1), (0, .ref h0), (1, .int p1), (2, .int p2), (3, .ref h3)]) hx hb dX12_mayLie_61 hl (k := 4) rfl (by rw [e1]; rfl) (th_ltN rfl) rfl (fun ls hl => ?_)
        refine lv_goto (tgt := 14) hx hb dX12_mayLie_64 (th_eqI rfl) ?_
        exact ih14 _ _ _ x1 (th_up (rg_dA e1 fy61_4 rgc_1 (th_leI rfl) (th_leI rfl)) fy61_4 hn14 (th_ltI rfl)) hH hS (lv_sub hl [1, 2, 3, 4, 0] rfl) fy61_1 fy61_2 (rg_w f1 (th_leI rfl) (th_leI rfl)) (hF.trans (by simp only [f_X12_mayLie_61, ← ew61_0, ← e1]))
      refine lv_iload hx hb dX12_mayLie_14 (lv_at hl 4 rfl) ?_
      refine lv_aload_n hx hb dX12_mayLie_16 rfl (lv_at hl 0 rfl) ?_
      obtain ⟨x2, e2⟩ : ∃ y : Int32, y = gi h0 8 := ⟨_, rfl⟩
      refine th_get (ci := 11) (v := .int x2) (T := TX12) (C := RX12) (N := 38) hx hb hts (fun w h => List.mem_cons_of_mem _ (List.mem_append_right _ h)) hown hK hH t_h0 (th_nz rfl) (thE_12 _ _ _) rfl 8 (th_ltN rfl) (hts (.fieldLink RX12 116 "BayMooringsModel" "boats" "I") (List.mem_cons_of_mem _ (List.mem_append_left _ (List.mem_append_left _ (List.mem_of_getElem? (i := 0) rfl))))) (fun _ h9 => h9) (th_fI e2 rfl) dX12_mayLie_17 ?_
      have f2 : rg 0 16 x2 := rg_e e2 ((thI_12 hH t_h0).2.2.2.2.2.2.2.2.1)
      refine lv_icmp_ge (tgt := 67) hx hb dX12_mayLie_20 (th_eqI rfl) (fun c3 => ?_) (fun c3 => ?_)
      · skip
        refine lv_iconst (v := 1) hx hb dX12_mayLie_67 ic_1 ?_
        exact W.zret (v := 1) hx hb hr (rg_nb (rg_w rgc_1 (th_leI rfl) (th_leI rfl))) (fun t ht hW => ⟨⟨1, (), rfl, ⟨(rg_w rgc_1 (th_leI rfl) (th_leI rfl)), (hF.trans (by simp only [↓reduceIte, f_X12_mayLie_14, ← e2, eq_true c3]))⟩, th_Ht ht hH⟩, hS.F ht⟩) hS.2.2 dX12_mayLie_68
      · skip
        have f4 : rg 1 16 x2 := rg_w (rg_nle f2 fy14_4 c3).1 (th_leI rfl) (th_leI rfl)
        have f5 : rg 0 15 y14_4 := rg_w (rg_nle f2 fy14_4 c3).2 (th_leI rfl) (th_leI rfl)
        refine lv_iload hx hb dX12_mayLie_23 (lv_at hl 4 rfl) ?_
        refine lv_iload_n hx hb dX12_mayLie_25 rfl (lv_at hl 1 rfl) ?_
        refine lv_icmp_eq (tgt := 61) hx hb dX12_mayLie_26 (th_eqI rfl) (fun c6 => ?_) (fun c6 => ?_)
        · skip
          exact J61 _ _ _ x2 hH hS (lv_sub hl [0, 1, 2, 3, 4] rfl) fy14_1 fy14_2 f5 e2 f4 (hF.trans (by simp only [↓reduceIte, f_X12_mayLie_14, ← e2, eq_false c3, eq_true c6]))
        · skip
          refine lv_aload_n hx hb dX12_mayLie_29 rfl (lv_at hl 3 rfl) ?_
          refine lv_iload hx hb dX12_mayLie_30 (lv_at hl 4 rfl) ?_
          refine th_any2 t_h3 (fun t9 k9 => th_iald hx hb hK hH t9 (th_nz rfl) 0 (thE_50 _ _ _) rfl (rg_in (n := 16) f5 (th_leI rfl) (th_ltI rfl)) dX12_mayLie_32 k9) (fun t9 k9 => th_iald hx hb hK hH t9 (th_nz rfl) 0 (thE_68 _ _ _) rfl (rg_in (n := 16) f5 (th_leI rfl) (th_ltI rfl)) dX12_mayLie_32 k9) ?_
          refine lv_topi (fun x7 e7 => ?_)
          have f7 : rg (-1) 11 x7 := rg_e e7 (th_or2 t_h3 (fun t9 => (thI_50 hH t9) _ (rg_cl (n := 16) f5 (th_leI rfl) (th_ltI rfl))) (fun t9 => (thI_68 hH t9) _ (rg_cl (n := 16) f5 (th_leI rfl) (th_ltI rfl))))
          refine lv_if_lt (tgt := 61) hx hb dX12_mayLie_33 (th_eqI rfl) (fun c8 => ?_) (fun c8 => ?_)
          · skip
            have f9 : rg (-1) (-1) x7 := rg_w (rg_lt f7 rgc_0 c8).1 (th_leI rfl) (th_leI rfl)
            exact J61 _ _ _ x2 hH hS (lv_sub hl [0, 1, 2, 3, 4] rfl) fy14_1 fy14_2 f5 e2 f4 (hF.trans (by simp only [↓reduceIte, f_X12_mayLie_14, ← e2, eq_false c3, eq_false c6, ← e7, eq_true c8]))
          · skip
            have f10 : rg 0 11 x7 := rg_w (rg_nlt f7 rgc_0 c8).1 (th_leI rfl) (th_leI rfl)
            refine lv_aload_n hx hb dX12_mayLie_36 rfl (lv_at hl 3 rfl) ?_
            refine lv_iload hx hb dX12_mayLie_37 (lv_at hl 4 rfl) ?_
            refine th_any2 t_h3 (fun t9 k9 => th_iald hx hb hK hH t9 (th_nz rfl) 0 (thE_50 _ _ _) rfl (rg_in (n := 16) f5 (th_leI rfl) (th_ltI rfl)) dX12_mayLie_39 k9) (fun t9 k9 => th_iald hx hb hK hH t9 (th_nz rfl) 0 (thE_68 _ _ _) rfl (rg_in (n := 16) f5 (th_leI rfl) (th_ltI rfl)) dX12_mayLie_39 k9) ?_
            rw [← e7]
            refine lv_iload_n hx hb dX12_mayLie_40 rfl (lv_at hl 2 rfl) ?_
            refine lv_icmp_eq (tgt := 59) hx hb dX12_mayLie_41 (th_eqI rfl) (fun c12 => ?_) (fun c12 => ?_)
            · skip
              refine lv_iconst (v := 0) hx hb dX12_mayLie_59 ic_0 ?_
              exact W.zret (v := 0) hx hb hr (rg_nb (rg_w rgc_0 (th_leI rfl) (th_leI rfl))) (fun t ht hW => ⟨⟨0, (), rfl, ⟨(rg_w rgc_0 (th_leI rfl) (th_leI rfl)), (hF.trans (by simp only [↓reduceIte, f_X12_mayLie_14, ← e2, eq_false c3, eq_false c6, ← e7, eq_false c8, eq_true c12]))⟩, th_Ht ht hH⟩, hS.F ht⟩) hS.2.2 dX12_mayLie_60
            · skip
              refine lv_aload_n hx hb dX12_mayLie_44 rfl (lv_at hl 0 rfl) ?_
              refine lv_iload_n hx hb dX12_mayLie_45 rfl (lv_at hl 1 rfl) ?_
              refine lv_iload_n hx hb dX12_mayLie_46 rfl (lv_at hl 2 rfl) ?_
              refine lv_iload hx hb dX12_mayLie_47 (lv_at hl 4 rfl) ?_
              refine lv_aload_n hx hb dX12_mayLie_49 rfl (lv_at hl 3 rfl) ?_
              refine lv_iload hx hb dX12_mayLie_50 (lv_at hl 4 rfl) ?_
              refine th_any2 t_h3 (fun t9 k9 => th_iald hx hb hK hH t9 (th_nz rfl) 0 (thE_50 _ _ _) rfl (rg_in (n := 16) f5 (th_leI rfl) (th_ltI rfl)) dX12_mayLie_52 k9) (fun t9 k9 => th_iald hx hb hK hH t9 (th_nz rfl) 0 (thE_68 _ _ _) rfl (rg_in (n := 16) f5 (th_leI rfl) (th_ltI rfl)) dX12_mayLie_52 k9) ?_
              rw [← e7]
              have hA14 := th_Asub (τ := τ) hS
              refine va_calli (va_runV (As := [.int p1, .int p2, .int y14_4, .int x7]) (rest := []) ⟨hx, hb, hml, hown, hts⟩ (k_X12_firstTouch l D cA Z τ gi gr _ h0 t_h0 p1 fy14_1 p2 fy14_2 y14_4 f5 x7 f10) (cwV 4 hts gX12_mayLie_X12_firstTouch rfl rfl rfl hd_X12_firstTouch__4 ⟨Nat.le_of_ble_eq_true rfl, Nat.le_of_ble_eq_true rfl⟩) ⟨th_blind, tr_12 hK hH t_h0, (th_pre hH hK hN hZ hS hA14)⟩ rfl rfl hl.1 rfl (lv_room (Nat.le_of_ble_eq_true rfl)) dX12_mayLie_53 ⟨Nat.le_of_ble_eq_true rfl, Nat.le_of_ble_eq_true rfl⟩) hS (fun q _ h => hA14 q h) hA14 (fun x15 u t H locs ht hvm hw15 hB hz1 hk1 hS => ?_)
              try dsimp only at hw15 hB
              rw [ht] at hB
              have hH := hB
              refine lv_if_lt (tgt := 61) hx hb dX12_mayLie_56 (th_eqI rfl) (fun c16 => ?_) (fun c16 => ?_)
              · skip
                have f17 : rg (-2147483648) (-1) x15 := rg_w (rg_lt (rg_any x15) rgc_0 c16).1 (th_leI rfl) (th_leI rfl)
                exact J61 _ _ _ x2 hH hS (lv_sub hl [0, 1, 2, 3, 4] rfl) fy14_1 fy14_2 f5 e2 f4 (hF.trans (by simp only [↓reduceIte, f_X12_mayLie_14, ← e2, eq_false c3, eq_false c6, ← e7, eq_false c8, eq_false c12, hw15, eq_true c16]))
              · skip
                have f18 : rg 0 2147483647 x15 := rg_w (rg_nlt (rg_any x15) rgc_0 c16).1 (th_leI rfl) (th_leI rfl)
                refine lv_iconst (v := 0) hx hb dX12_mayLie_59 ic_0 ?_
                exact W.zret (v := 0) hx hb hr (rg_nb (rg_w rgc_0 (th_leI rfl) (th_leI rfl))) (fun t ht hW => ⟨⟨0, (), rfl, ⟨(rg_w rgc_0 (th_leI rfl) (th_leI rfl)), (hF.trans (by simp only [↓reduceIte, f_X12_mayLie_14, ← e2, eq_false c3, eq_false c6, ← e7, eq_false c8, eq_false c12, hw15, eq_false c16]))⟩, th_Ht ht hH⟩, hS.F ht⟩) hS.2.2 dX12_mayLie_60
  have hS : va_S (th_A τ s.heap.size) s.heap s.heap [] := va_S.rf
  have hl := lv_entry ([.ref h0, .int p1, .int p2, .ref h3]) (n := 5) (Nat.le_of_ble_eq_true rfl)
  rw [lg_entry_eq]
  generalize (lg_sl ([.ref h0, .int p1, .int p2, .ref h3]) ++ List.replicate (5 - (lg_sl ([.ref h0, .int p1, .int p2, .ref h3])).length) Slot.unset).toArray = ls at hl ⊢
  have hl : lv_has ls 5 [(0, .ref h0), (1, .int p1), (2, .int p2), (3, .ref h3)] := hl
  have hF : F_X12_mayLie τ Z gi gr h0 p1 p2 h3 = F_X12_mayLie τ Z gi gr h0 p1 p2 h3 := rfl
  refine lv_aload_n hx hb dX12_mayLie_0 rfl (lv_at hl 0 rfl) ?_
  refine lv_iload_n hx hb dX12_mayLie_1 rfl (lv_at hl 1 rfl) ?_
  refine lv_iload_n hx hb dX12_mayLie_2 rfl (lv_at hl 2 rfl) ?_
  have hA19 := th_Asub (τ := τ) hS
  refine va_calli (va_runV (As := [.int p1, .int p2]) (rest := []) ⟨hx, hb, hml, hown, hts⟩ (k_X12_canFit l D cA Z τ gi gr _ h0 t_h0 p1 f_p1 p2 f_p2) (cwV 2 hts gX12_mayLie_X12_canFit rfl rfl rfl hd_X12_canFit__2 ⟨Nat.le_of_ble_eq_true rfl, Nat.le_of_ble_eq_true rfl⟩) ⟨th_blind, tr_12 hK hH t_h0, (th_pre hH hK hN hZ hS hA19)⟩ rfl rfl hl.1 rfl (lv_room (Nat.le_of_ble_eq_true rfl)) dX12_mayLie_3 ⟨Nat.le_of_ble_eq_true rfl, Nat.le_of_ble_eq_true rfl⟩) hS (fun q _ h => hA19 q h) hA19 (fun x20 u t H locs ht hvm hw20 hB hz1 hk1 hS => ?_)
  try dsimp only at hw20 hB
  rw [ht] at hB
  have hH := hB
  refine lv_if_ne (tgt := 11) hx hb dX12_mayLie_6 (th_eqI rfl) (fun c21 => ?_) (fun c21 => ?_)
  · skip
    have f22 : rg 1 1 x20 := rg_w (rg_neL hw20.1 rgc_0 c21) (th_leI rfl) (th_leI rfl)
    refine lv_iconst (v := 0) hx hb dX12_mayLie_11 ic_0 ?_
    refine lv_istore (i := 4) (lv' := [(4, .int 0), (0, .ref h0), (1, .int p1), (2, .int p2), (3, .ref h3)]) hx hb dX12_mayLie_12 hl (th_ltN rfl) rfl (fun ls hl => ?_)
    exact J14 _ _ _ _ 0 (Nat.lt_add_one _) hH hS (lv_sub hl [1, 2, 3, 4, 0] rfl) f_p1 f_p2 (rg_w rgc_0 (th_leI rfl) (th_leI rfl)) (hF.trans (by simp only [↓reduceIte, F_X12_mayLie, hw20.2.1, eq_false c21]))
  · skip
    have f23 : rg 0 0 x20 := rg_w (rg_eq hw20.1 rgc_0 c21).1 (th_leI rfl) (th_leI rfl)
    refine lv_iconst (v := 0) hx hb dX12_mayLie_9 ic_0 ?_
    exact W.zret (v := 0) hx hb hr (rg_nb (rg_w rgc_0 (th_leI rfl) (th_leI rfl))) (fun t ht hW => ⟨⟨0, (), rfl, ⟨(rg_w rgc_0 (th_leI rfl) (th_leI rfl)), (hF.trans (by simp only [↓reduceIte, F_X12_mayLie, hw20.2.1, eq_true c21]))⟩, th_Ht ht hH⟩, hS.F ht⟩) hS.2.2 dX12_mayLie_10
