noncomputable def f_X12_touchingOf_82 (τ : th_t) (Z : th_Zt) (gi : th_i) (gr : th_r) (h0 : Nat) (p1 : Int32) (p2 : Int32) (p3 : Int32) (y8_4 : Int32) (y8_5 : Int32) (k_8 : Int32 → Int32 → Int32) (z82_1 : Int32) : Int32 :=
  let w82_0 : Int32 := gi h0 0
  let x1 : Int32 := y8_4 ||| z82_1
  let x2 : Int32 := y8_5 + 1
  k_8 x1 x2
noncomputable def f_X12_touchingOf_65 (τ : th_t) (Z : th_Zt) (gi : th_i) (gr : th_r) (h0 : Nat) (p1 : Int32) (p2 : Int32) (p3 : Int32) (y8_4 : Int32) (y8_5 : Int32) (k_8 : Int32 → Int32 → Int32) (z65_0 : Int32) : Int32 :=
  let w65_0 : Int32 := gi h0 0
  if z65_0 = (0 : Int32) then (
    f_X12_touchingOf_82 τ Z gi gr h0 p1 p2 p3 y8_4 y8_5 k_8 0) else (
    let x6 : Int32 := 1 <<< (y8_5 &&& 31)
    f_X12_touchingOf_82 τ Z gi gr h0 p1 p2 p3 y8_4 y8_5 k_8 x6)
noncomputable def f_X12_touchingOf_64 (τ : th_t) (Z : th_Zt) (gi : th_i) (gr : th_r) (h0 : Nat) (p1 : Int32) (p2 : Int32) (p3 : Int32) (y8_4 : Int32) (y8_5 : Int32) (k_8 : Int32 → Int32 → Int32) : Int32 :=
  let w64_0 : Int32 := gi h0 0
  f_X12_touchingOf_65 τ Z gi gr h0 p1 p2 p3 y8_4 y8_5 k_8 0
noncomputable def f_X12_touchingOf_8 (τ : th_t) (Z : th_Zt) (gi : th_i) (gr : th_r) (h0 : Nat) (p1 : Int32) (p2 : Int32) (p3 : Int32) : Nat → Int32 → Int32 → Int32
  | 0, y8_4, y8_5 => 0
  | n8 + 1, y8_4, y8_5 =>
    let x7 : Int32 := gi h0 0
    if x7 ≤ y8_5 then (
      y8_4) else (
      if y8_5 = p2 then (
        f_X12_touchingOf_64 τ Z gi gr h0 p1 p2 p3 y8_4 y8_5 (f_X12_touchingOf_8 τ Z gi gr h0 p1 p2 p3 n8) ) else (
        let q12 : Nat := (gr h0 29).getD 0
        let x13 : Int32 := gi q12 p3.toNatClampNeg
        let x14 : Int32 := x13 >>> (y8_5 &&& 31)
        let x15 : Int32 := x14 &&& 1
        if x15 = (1 : Int32) then (
          let q19 : Nat := (gr h0 28).getD 0
          let x20 : Int32 := gi q19 p1.toNatClampNeg
          let x22 : Int32 := gi q19 p3.toNatClampNeg
          let x24 : Int32 := F_X12_firstTouch τ Z gi gr h0 x20 p2 x22 y8_5
          if x24 < (0 : Int32) then (
            f_X12_touchingOf_64 τ Z gi gr h0 p1 p2 p3 y8_4 y8_5 (f_X12_touchingOf_8 τ Z gi gr h0 p1 p2 p3 n8) ) else (
            f_X12_touchingOf_65 τ Z gi gr h0 p1 p2 p3 y8_4 y8_5 (f_X12_touchingOf_8 τ Z gi gr h0 p1 p2 p3 n8) 1)) else (
          f_X12_touchingOf_64 τ Z gi gr h0 p1 p2 p3 y8_4 y8_5 (f_X12_touchingOf_8 τ Z gi gr h0 p1 p2 p3 n8) )))
noncomputable def F_X12_touchingOf (τ : th_t) (Z : th_Zt) (gi : th_i) (gr : th_r) (h0 : Nat) (p1 : Int32) (p2 : Int32) (p3 : Int32) : Int32 :=
  let x28 : Int32 := 1 <<< (p2 &&& 31)
  f_X12_touchingOf_8 τ Z gi gr h0 p1 p2 p3 ((12 - (0 : Int32).toInt).toNat + 1) x28 0
set_option maxHeartbeats 8000000 in
set_option maxRecDepth 100000 in
theorem k_X12_touchingOf (l : Launch) (D : va_G) (cA : Nat → ClassId) (Z : th_Zt) (τ : th_t) (gi : th_i) (gr : th_r) (sz : Nat) (h0 : Nat) (t_h0 : τ h0 = 12) (p1 : Int32) (f_p1 : rg 0 4 p1) (p2 : Int32) (f_p2 : rg 0 11 p2) (p3 : Int32) (f_p3 : rg 0 4 p3) : Met l yX12_touchingOf wsX12_touchingOf ({ frames := 4, cells := 0, slots := 0, locals := 126 }) (va_Pc [.ref h0, .int p1, .int p2, .int p3] (th_Pre D cA Z τ gi gr sz)) (va_Qi (fun (r : Int32) (_ : Unit) => (F_X12_touchingOf τ Z gi gr h0 p1 p2 p3 = r)) (fun (_ : Unit) t => th_H D cA τ gi gr t.heap) (th_A τ sz)) 0 0 (th_A τ sz) := by
  refine Met.ofW (cc := cX12_touchingOf) (maxL := 7) (ret := (some .int)) (by decide) rfl ?_
  intro p e s m args below meth c s₁ B hml hv
  obtain ⟨rfl, hsz, hH, hK, hN, hZ⟩ := hv
  have hx := B.exec
  have hb := B.bytes
  have hr := B.returns
  have hts := atoms_spec (ws := wsX12_touchingOf) B.pre
  have hown : s.vm.findClass RX12 = some m.cls := findClass_of_methodNamed B.named
  have hlocks := B.notSynchronized
  subst hsz
  have J8 : ∀ (n8 : Nat) (H : Heap) (locs : List Loc) (ls : Array Slot) (y8_4 : Int32) (y8_5 : Int32), (12 - y8_5.toInt).toNat < n8 → th_H D cA τ gi gr H → va_S (th_A τ s.heap.size) s.heap H locs → lv_has ls 7 [(0, .ref h0), (1, .int p1), (2, .int p2), (3, .int p3), (4, .int y8_4), (5, .int y8_5)] → rg 0 4 p1 → rg 0 11 p2 → rg 0 4 p3 → rg 0 12 y8_5 → F_X12_touchingOf τ Z gi gr h0 p1 p2 p3 = f_X12_touchingOf_8 τ Z gi gr h0 p1 p2 p3 n8 y8_4 y8_5 → W p l e (headSpec wsX12_touchingOf ({ frames := 4, cells := 0, slots := 0, locals := 126 })).room s m [.ref h0, .int p1, .int p2, .int p3].toArray below meth c H locs 0 0 (MQ below (va_Qi (fun (r : Int32) (_ : Unit) => (F_X12_touchingOf τ Z gi gr h0 p1 p2 p3 = r)) (fun (_ : Unit) t => th_H D cA τ gi gr t.heap) (th_A τ s.heap.size)) [.ref h0, .int p1, .int p2, .int p3].toArray s 0 0 (th_A τ s.heap.size)) (F0 m 8 ls []) := by
    intro n8
    induction n8 with
    | zero =>
      intro H locs ls y8_4 y8_5 hn
      exact absurd hn (Nat.not_lt_zero _)
    | succ n8 ih8 =>
      intro H locs ls y8_4 y8_5 hn8 hH hS hl fy8_1 fy8_2 fy8_3 fy8_5 hF
      have J82 : ∀ (H : Heap) (locs : List Loc) (ls : Array Slot) (z82_1 : Int32) (w82_0 : Int32), th_H D cA τ gi gr H → va_S (th_A τ s.heap.size) s.heap H locs → lv_has ls 7 [(0, .ref h0), (1, .int p1), (2, .int p2), (3, .int p3), (5, .int y8_5)] → rg 0 4 p1 → rg 0 11 p2 → rg 0 4 p3 → rg 0 11 y8_5 → w82_0 = gi h0 0 → rg 1 12 w82_0 → F_X12_touchingOf τ Z gi gr h0 p1 p2 p3 = f_X12_touchingOf_82 τ Z gi gr h0 p1 p2 p3 y8_4 y8_5 (f_X12_touchingOf_8 τ Z gi gr h0 p1 p2 p3 n8) z82_1 → W p l e (headSpec wsX12_touchingOf ({ frames := 4, cells := 0, slots := 0, locals := 126 })).room s m [.ref h0, .int p1, .int p2, .int p3].toArray below meth c H locs 0 0 (MQ below (va_Qi (fun (r : Int32) (_ : Unit) => (F_X12_touchingOf τ Z gi gr h0 p1 p2 p3 = r)) (fun (_ : Unit) t => th_H D cA τ gi gr t.heap) (th_A τ s.heap.size)) [.ref h0, .int p1, .int p2, .int p3].toArray s 0 0 (th_A τ s.heap.size)) (F0 m 82 ls [.int z82_1, .int y8_4]) := by
        intro H locs ls z82_1 w82_0 hH hS hl fy82_1 fy82_2 fy82_3 fy82_5 ew82_0 fw82_0 hF
        refine lv_ior hx hb dX12_touchingOf_82 ?_
        refine lv_topi (fun x1 e1 => ?_)
        refine lv_istore (i := 4) (lv' := [(4, .int x1), (0, .ref h0), (1, .int p1), (2, .int p2), (3, .int p3), (5, .int y8_5)]) hx hb dX12_touchingOf_83 hl (th_ltN rfl) rfl (fun ls hl => ?_)
        obtain ⟨x2, e2⟩ : ∃ y : Int32, y = y8_5 + 1 := ⟨_, rfl⟩
        have f2 : rg 1 12 x2 := rg_e e2 (rg_w (rg_add fy82_5 rgc_1 (th_leI rfl) (th_leI rfl)) (th_leI rfl) (th_leI rfl))
        refine lv_iinc (v := x2) (lv' := [(5, .int x2), (4, .int x1), (0, .ref h0), (1, .int p1), (2, .int p2), (3, .int p3)]) hx hb dX12_touchingOf_85 hl (k := 5) rfl (by rw [e2]; rfl) (th_ltN rfl) rfl (fun ls hl => ?_)
        refine lv_goto (tgt := 8) hx hb dX12_touchingOf_88 (th_eqI rfl) ?_
        exact ih8 _ _ _ x1 x2 (th_up (rg_dA e2 fy82_5 rgc_1 (th_leI rfl) (th_leI rfl)) fy82_5 hn8 (th_ltI rfl)) hH hS (lv_sub hl [2, 3, 4, 5, 1, 0] rfl) fy82_1 fy82_2 fy82_3 (rg_w f2 (th_leI rfl) (th_leI rfl)) (hF.trans (by simp only [f_X12_touchingOf_82, ← ew82_0, ← e1, ← e2]))
      have J65 : ∀ (H : Heap) (locs : List Loc) (ls : Array Slot) (z65_0 : Int32) (w65_0 : Int32), th_H D cA τ gi gr H → va_S (th_A τ s.heap.size) s.heap H locs → lv_has ls 7 [(0, .ref h0), (1, .int p1), (2, .int p2), (3, .int p3), (4, .int y8_4), (5, .int y8_5)] → rg 0 4 p1 → rg 0 11 p2 → rg 0 4 p3 → rg 0 11 y8_5 → rg 0 1 z65_0 → w65_0 = gi h0 0 → rg 1 12 w65_0 → F_X12_touchingOf τ Z gi gr h0 p1 p2 p3 = f_X12_touchingOf_65 τ Z gi gr h0 p1 p2 p3 y8_4 y8_5 (f_X12_touchingOf_8 τ Z gi gr h0 p1 p2 p3 n8) z65_0 → W p l e (headSpec wsX12_touchingOf ({ frames := 4, cells := 0, slots := 0, locals := 126 })).room s m [.ref h0, .int p1, .int p2, .int p3].toArray below meth c H locs 0 0 (MQ below (va_Qi (fun (r : Int32) (_ : Unit) => (F_X12_touchingOf τ Z gi gr h0 p1 p2 p3 = r)) (fun (_ : Unit) t => th_H D cA τ gi gr t.heap) (th_A τ s.heap.size)) [.ref h0, .int p1, .int p2, .int p3].toArray s 0 0 (th_A τ s.heap.size)) (F0 m 65 ls [.int z65_0]) := by
        intro H locs ls z65_0 w65_0 hH hS hl fy65_1 fy65_2 fy65_3 fy65_5 fz65_0 ew65_0 fw65_0 hF
        refine lv_istore (i := 6) (lv' := [(6, .int z65_0), (0, .ref h0), (1, .int p1), (2, .int p2), (3, .int p3), (4, .int y8_4), (5, .int y8_5)]) hx hb dX12_touchingOf_65 hl (th_ltN rfl) rfl (fun ls hl => ?_)
        refine lv_iload hx hb dX12_touchingOf_67 (lv_at hl 5 rfl) ?_
        refine lv_iload hx hb dX12_touchingOf_69 (lv_at hl 0 rfl) ?_
        refine lv_if_eq (tgt := 81) hx hb dX12_touchingOf_71 (th_eqI rfl) (fun c3 => ?_) (fun c3 => ?_)
        · skip
          have f4 : rg 0 0 z65_0 := rg_w (rg_eq fz65_0 rgc_0 c3).1 (th_leI rfl) (th_leI rfl)
          refine lv_iconst (v := 0) hx hb dX12_touchingOf_81 ic_0 ?_
          exact J82 _ _ _ 0 w65_0 hH hS (lv_sub hl [1, 2, 3, 4, 6] rfl) fy65_1 fy65_2 fy65_3 fy65_5 ew65_0 fw65_0 (hF.trans (by simp only [↓reduceIte, f_X12_touchingOf_65, ← ew65_0, eq_true c3]))
        · skip
          have f5 : rg 1 1 z65_0 := rg_w (rg_neL fz65_0 rgc_0 c3) (th_leI rfl) (th_leI rfl)
          refine lv_iconst (v := 1) hx hb dX12_touchingOf_74 ic_1 ?_
          refine lv_iload hx hb dX12_touchingOf_75 (lv_at hl 6 rfl) ?_
          refine lv_ishl hx hb dX12_touchingOf_77 ?_
          refine lv_topi (fun x6 e6 => ?_)
          refine lv_goto (tgt := 82) hx hb dX12_touchingOf_78 (th_eqI rfl) ?_
          exact J82 _ _ _ x6 w65_0 hH hS (lv_sub hl [1, 2, 3, 4, 6] rfl) fy65_1 fy65_2 fy65_3 fy65_5 ew65_0 fw65_0 (hF.trans (by simp only [↓reduceIte, f_X12_touchingOf_65, ← ew65_0, eq_false c3, ← e6]))
      have J64 : ∀ (H : Heap) (locs : List Loc) (ls : Array Slot) (w64_0 : Int32), th_H D cA τ gi gr H → va_S (th_A τ s.heap.size) s.heap H locs → lv_has ls 7 [(0, .ref h0), (1, .int p1), (2, .int p2), (3, .int p3), (4, .int y8_4), (5, .int y8_5)] → rg 0 4 p1 → rg 0 11 p2 → rg 0 4 p3 → rg 0 11 y8_5 → w64_0 = gi h0 0 → rg 1 12 w64_0 → F_X12_touchingOf τ Z gi gr h0 p1 p2 p3 = f_X12_touchingOf_64 τ Z gi gr h0 p1 p2 p3 y8_4 y8_5 (f_X12_touchingOf_8 τ Z gi gr h0 p1 p2 p3 n8) → W p l e (headSpec wsX12_touchingOf ({ frames := 4, cells := 0, slots := 0, locals := 126 })).room s m [.ref h0, .int p1, .int p2, .int p3].toArray below meth c H locs 0 0 (MQ below (va_Qi (fun (r : Int32) (_ : Unit) => (F_X12_touchingOf τ Z gi gr h0 p1 p2 p3 = r)) (fun (_ : Unit) t => th_H D cA τ gi gr t.heap) (th_A τ s.heap.size)) [.ref h0, .int p1, .int p2, .int p3].toArray s 0 0 (th_A τ s.heap.size)) (F0 m 64 ls []) := by
        intro H locs ls w64_0 hH hS hl fy64_1 fy64_2 fy64_3 fy64_5 ew64_0 fw64_0 hF
        refine lv_iconst (v := 0) hx hb dX12_touchingOf_64 ic_0 ?_
        exact J65 _ _ _ 0 w64_0 hH hS (lv_sub hl [0, 1, 2, 3, 4, 5] rfl) fy64_1 fy64_2 fy64_3 fy64_5 (rg_w rgc_0 (th_leI rfl) (th_leI rfl)) ew64_0 fw64_0 (hF.trans (by simp only [f_X12_touchingOf_64, ← ew64_0]))
      refine lv_iload hx hb dX12_touchingOf_8 (lv_at hl 5 rfl) ?_
      refine lv_aload_n hx hb dX12_touchingOf_10 rfl (lv_at hl 0 rfl) ?_
      obtain ⟨x7, e7⟩ : ∃ y : Int32, y = gi h0 0 := ⟨_, rfl⟩
      refine th_get (ci := 11) (v := .int x7) (T := TX12) (C := RX12) (N := 38) hx hb hts (fun w h => List.mem_cons_of_mem _ (List.mem_append_right _ h)) hown hK hH t_h0 (th_nz rfl) (thE_12 _ _ _) rfl 0 (th_ltN rfl) (hts (.fieldLink RX12 109 "BayMooringsModel" "buoys" "I") (List.mem_cons_of_mem _ (List.mem_append_left _ (List.mem_append_left _ (List.mem_of_getElem? (i := 0) rfl))))) (fun _ h9 => h9) (th_fI e7 rfl) dX12_touchingOf_11 ?_
      have f7 : rg 0 12 x7 := rg_e e7 ((thI_12 hH t_h0).1)
      refine lv_icmp_ge (tgt := 91) hx hb dX12_touchingOf_14 (th_eqI rfl) (fun c8 => ?_) (fun c8 => ?_)
      · skip
        refine lv_iload hx hb dX12_touchingOf_91 (lv_at hl 4 rfl) ?_
        exact W.iret (v := y8_4) hx hb hr (fun t ht hW => ⟨⟨y8_4, (), rfl, (hF.trans (by simp only [↓reduceIte, f_X12_touchingOf_8, ← e7, eq_true c8])), th_Ht ht hH⟩, hS.F ht⟩) hS.2.2 dX12_touchingOf_93
      · skip
        have f9 : rg 1 12 x7 := rg_w (rg_nle f7 fy8_5 c8).1 (th_leI rfl) (th_leI rfl)
        have f10 : rg 0 11 y8_5 := rg_w (rg_nle f7 fy8_5 c8).2 (th_leI rfl) (th_leI rfl)
        refine lv_iload hx hb dX12_touchingOf_17 (lv_at hl 5 rfl) ?_
        refine lv_iload_n hx hb dX12_touchingOf_19 rfl (lv_at hl 2 rfl) ?_
        refine lv_icmp_eq (tgt := 64) hx hb dX12_touchingOf_20 (th_eqI rfl) (fun c11 => ?_) (fun c11 => ?_)
        · skip
          exact J64 _ _ _ x7 hH hS (lv_sub hl [0, 1, 2, 3, 4, 5] rfl) fy8_1 fy8_2 fy8_3 f10 e7 f9 (hF.trans (by simp only [↓reduceIte, f_X12_touchingOf_8, ← e7, eq_false c8, eq_true c11]))
        · skip
          refine lv_aload_n hx hb dX12_touchingOf_23 rfl (lv_at hl 0 rfl) ?_
          obtain ⟨q12, r12, t12⟩ : ∃ q, gr h0 29 = some q ∧ τ q = 61 := (thI_12 hH t_h0).2.2.2.2.2.2.2.2.2.2.2.2.2.2.2.2.2.2.2.2.2.2.2.2.2.2.1
          refine th_get (ci := 11) (v := .ref q12) (T := TX12) (C := RX12) (N := 38) hx hb hts (fun w h => List.mem_cons_of_mem _ (List.mem_append_right _ h)) hown hK hH t_h0 (th_nz rfl) (thE_12 _ _ _) rfl 29 (th_ltN rfl) (hts (.fieldLink RX12 83 "BayMooringsModel" "may" "[I") (List.mem_cons_of_mem _ (List.mem_append_left _ (List.mem_append_left _ (List.mem_of_getElem? (i := 1) rfl))))) (fun _ h9 => h9) (th_fR r12 rfl) dX12_touchingOf_24 ?_
          refine lv_iload_n hx hb dX12_touchingOf_27 rfl (lv_at hl 3 rfl) ?_
          refine th_iald hx hb hK hH t12 (th_nz rfl) 0 (thE_61 _ _ _) rfl (rg_in (n := 5) fy8_3 (th_leI rfl) (th_ltI rfl)) dX12_touchingOf_28 ?_
          refine lv_topi (fun x13 e13 => ?_)
          refine lv_iload hx hb dX12_touchingOf_29 (lv_at hl 5 rfl) ?_
          refine lv_ishr hx hb dX12_touchingOf_31 ?_
          refine lv_topi (fun x14 e14 => ?_)
          refine lv_iconst (v := 1) hx hb dX12_touchingOf_32 ic_1 ?_
          refine lv_iand hx hb dX12_touchingOf_33 ?_
          refine lv_topi (fun x15 e15 => ?_)
          have f15 : rg 0 1 x15 := rg_e e15 (rg_and 1 (by decide) (th_leN rfl) (th_eqI rfl))
          refine lv_iconst (v := 1) hx hb dX12_touchingOf_34 ic_1 ?_
          refine lv_icmp_ne (tgt := 64) hx hb dX12_touchingOf_35 (th_eqI rfl) (fun c16 => ?_) (fun c16 => ?_)
          · skip
            have f17 : rg 0 0 x15 := rg_w (rg_neR f15 rgc_1 c16) (th_leI rfl) (th_leI rfl)
            exact J64 _ _ _ x7 hH hS (lv_sub hl [0, 1, 2, 3, 4, 5] rfl) fy8_1 fy8_2 fy8_3 f10 e7 f9 (hF.trans (by simp only [↓reduceIte, f_X12_touchingOf_8, ← e7, eq_false c8, eq_false c11, r12, Option.getD_some, ← e13, ← e14, ← e15, eq_false c16]))
          · skip
            have f18 : rg 1 1 x15 := rg_w (rg_eq f15 rgc_1 c16).1 (th_leI rfl) (th_leI rfl)
            refine lv_aload_n hx hb dX12_touchingOf_38 rfl (lv_at hl 0 rfl) ?_
            refine lv_aload_n hx hb dX12_touchingOf_39 rfl (lv_at hl 0 rfl) ?_
            obtain ⟨q19, r19, t19⟩ : ∃ q, gr h0 28 = some q ∧ τ q = 60 := (thI_12 hH t_h0).2.2.2.2.2.2.2.2.2.2.2.2.2.2.2.2.2.2.2.2.2.2.2.2.2.1
            refine th_get (ci := 11) (v := .ref q19) (T := TX12) (C := RX12) (N := 38) hx hb hts (fun w h => List.mem_cons_of_mem _ (List.mem_append_right _ h)) hown hK hH t_h0 (th_nz rfl) (thE_12 _ _ _) rfl 28 (th_ltN rfl) (hts (.fieldLink RX12 80 "BayMooringsModel" "someOf" "[I") (List.mem_cons_of_mem _ (List.mem_append_left _ (List.mem_append_left _ (List.mem_of_getElem? (i := 2) rfl))))) (fun _ h9 => h9) (th_fR r19 rfl) dX12_touchingOf_40 ?_
            refine lv_iload_n hx hb dX12_touchingOf_43 rfl (lv_at hl 1 rfl) ?_
            refine th_iald hx hb hK hH t19 (th_nz rfl) 0 (thE_60 _ _ _) rfl (rg_in (n := 5) fy8_1 (th_leI rfl) (th_ltI rfl)) dX12_touchingOf_44 ?_
            refine lv_topi (fun x20 e20 => ?_)
            have f20 : rg 0 15 x20 := rg_e e20 ((thI_60 hH t19) _ (rg_cl (n := 5) fy8_1 (th_leI rfl) (th_ltI rfl)))
            refine lv_iload_n hx hb dX12_touchingOf_45 rfl (lv_at hl 2 rfl) ?_
            refine lv_aload_n hx hb dX12_touchingOf_46 rfl (lv_at hl 0 rfl) ?_
            refine th_get (ci := 11) (v := .ref q19) (T := TX12) (C := RX12) (N := 38) hx hb hts (fun w h => List.mem_cons_of_mem _ (List.mem_append_right _ h)) hown hK hH t_h0 (th_nz rfl) (thE_12 _ _ _) rfl 28 (th_ltN rfl) (hts (.fieldLink RX12 80 "BayMooringsModel" "someOf" "[I") (List.mem_cons_of_mem _ (List.mem_append_left _ (List.mem_append_left _ (List.mem_of_getElem? (i := 2) rfl))))) (fun _ h9 => h9) (th_fR r19 rfl) dX12_touchingOf_47 ?_
            refine lv_iload_n hx hb dX12_touchingOf_50 rfl (lv_at hl 3 rfl) ?_
            refine th_iald hx hb hK hH t19 (th_nz rfl) 0 (thE_60 _ _ _) rfl (rg_in (n := 5) fy8_3 (th_leI rfl) (th_ltI rfl)) dX12_touchingOf_51 ?_
            refine lv_topi (fun x22 e22 => ?_)
            have f22 : rg 0 15 x22 := rg_e e22 ((thI_60 hH t19) _ (rg_cl (n := 5) fy8_3 (th_leI rfl) (th_ltI rfl)))
            refine lv_iload hx hb dX12_touchingOf_52 (lv_at hl 5 rfl) ?_
            have hA23 := th_Asub (τ := τ) hS
            refine va_calli (va_runV (As := [.int x20, .int p2, .int x22, .int y8_5]) (rest := []) ⟨hx, hb, hml, hown, hts⟩ (k_X12_firstTouch l D cA Z τ gi gr _ h0 t_h0 x20 f20 p2 fy8_2 x22 f22 y8_5 f10) (cwV 4 hts gX12_touchingOf_X12_firstTouch rfl rfl rfl hd_X12_firstTouch__4 ⟨Nat.le_of_ble_eq_true rfl, Nat.le_of_ble_eq_true rfl⟩) ⟨th_blind, tr_12 hK hH t_h0, (th_pre hH hK hN hZ hS hA23)⟩ rfl rfl hl.1 rfl (lv_room (Nat.le_of_ble_eq_true rfl)) dX12_touchingOf_54 ⟨Nat.le_of_ble_eq_true rfl, Nat.le_of_ble_eq_true rfl⟩) hS (fun q _ h => hA23 q h) hA23 (fun x24 u t H locs ht hvm hw24 hB hz1 hk1 hS => ?_)
            try dsimp only at hw24 hB
            rw [ht] at hB
            have hH := hB
            refine lv_if_lt (tgt := 64) hx hb dX12_touchingOf_57 (th_eqI rfl) (fun c25 => ?_) (fun c25 => ?_)
            · skip
              have f26 : rg (-2147483648) (-1) x24 := rg_w (rg_lt (rg_any x24) rgc_0 c25).1 (th_leI rfl) (th_leI rfl)
              exact J64 _ _ _ x7 hH hS (lv_sub hl [0, 1, 2, 3, 4, 5] rfl) fy8_1 fy8_2 fy8_3 f10 e7 f9 (hF.trans (by simp only [↓reduceIte, f_X12_touchingOf_8, ← e7, eq_false c8, eq_false c11, r12, Option.getD_some, ← e13, ← e14, ← e15, eq_true c16, r19, ← e20, ← e22, hw24, eq_true c25]))
            · skip
              have f27 : rg 0 2147483647 x24 := rg_w (rg_nlt (rg_any x24) rgc_0 c25).1 (th_leI rfl) (th_leI rfl)
              refine lv_iconst (v := 1) hx hb dX12_touchingOf_60 ic_1 ?_
              refine lv_goto (tgt := 65) hx hb dX12_touchingOf_61 (th_eqI rfl) ?_
              exact J65 _ _ _ 1 x7 hH hS (lv_sub hl [0, 1, 2, 3, 4, 5] rfl) fy8_1 fy8_2 fy8_3 f10 (rg_w rgc_1 (th_leI rfl) (th_leI rfl)) e7 f9 (hF.trans (by simp only [↓reduceIte, f_X12_touchingOf_8, ← e7, eq_false c8, eq_false c11, r12, Option.getD_some, ← e13, ← e14, ← e15, eq_true c16, r19, ← e20, ← e22, hw24, eq_false c25]))
  have hS : va_S (th_A τ s.heap.size) s.heap s.heap [] := va_S.rf
  have hl := lv_entry ([.ref h0, .int p1, .int p2, .int p3]) (n := 7) (Nat.le_of_ble_eq_true rfl)
  rw [lg_entry_eq]
  generalize (lg_sl ([.ref h0, .int p1, .int p2, .int p3]) ++ List.replicate (7 - (lg_sl ([.ref h0, .int p1, .int p2, .int p3])).length) Slot.unset).toArray = ls at hl ⊢
  have hl : lv_has ls 7 [(0, .ref h0), (1, .int p1), (2, .int p2), (3, .int p3)] := hl
  have hF : F_X12_touchingOf τ Z gi gr h0 p1 p2 p3 = F_X12_touchingOf τ Z gi gr h0 p1 p2 p3 := rfl
  refine lv_iconst (v := 1) hx hb dX12_touchingOf_0 ic_1 ?_
  refine lv_iload_n hx hb dX12_touchingOf_1 rfl (lv_at hl 2 rfl) ?_
  refine lv_ishl hx hb dX12_touchingOf_2 ?_
  refine lv_topi (fun x28 e28 => ?_)
  refine lv_istore (i := 4) (lv' := [(4, .int x28), (0, .ref h0), (1, .int p1), (2, .int p2), (3, .int p3)]) hx hb dX12_touchingOf_3 hl (th_ltN rfl) rfl (fun ls hl => ?_)
  refine lv_iconst (v := 0) hx hb dX12_touchingOf_5 ic_0 ?_
  refine lv_istore (i := 5) (lv' := [(5, .int 0), (4, .int x28), (0, .ref h0), (1, .int p1), (2, .int p2), (3, .int p3)]) hx hb dX12_touchingOf_6 hl (th_ltN rfl) rfl (fun ls hl => ?_)
  exact J8 _ _ _ _ x28 0 (Nat.lt_add_one _) hH hS (lv_sub hl [2, 3, 4, 5, 1, 0] rfl) f_p1 f_p2 f_p3 (rg_w rgc_0 (th_leI rfl) (th_leI rfl)) (hF.trans (by simp only [F_X12_touchingOf, ← e28]))

noncomputable def f_X12_findMay_148 (τ : th_t) (Z : th_Zt) (gi : th_i) (gr : th_r) (h0 : Nat) (gi_84 : th_i) (y84_1 : Int32) (gi_94 : th_i) (y94_2 : Int32) (gi_104 : th_i) (y104_3 : Int32) (k_84 : th_i → Int32 → th_i) (k_94 : th_i → Int32 → th_i) (k_104 : th_i → Int32 → th_i) (gi_148 : th_i) (z148_0 : Nat) (z148_1 : Int32) (z148_2 : Int32) : th_i :=
  let w148_0 : Int32 := gi_148 h0 0
  let w148_1 : Int32 := gi_148 h0 27
  let gi1 : th_i := va_up gi_148 z148_0 (upd (gi_148 z148_0) z148_1.toNatClampNeg z148_2)
  let x4 : Int32 := y104_3 + 1
  k_104 gi1 x4
noncomputable def f_X12_findMay_104 (τ : th_t) (Z : th_Zt) (gi : th_i) (gr : th_r) (h0 : Nat) (gi_84 : th_i) (y84_1 : Int32) (gi_94 : th_i) (y94_2 : Int32) (k_84 : th_i → Int32 → th_i) (k_94 : th_i → Int32 → th_i) : Nat → th_i → Int32 → th_i
  | 0, gi_104, y104_3 => (gi_104)
  | n104 + 1, gi_104, y104_3 =>
    let w104_0 : Int32 := gi_104 h0 0
    let w104_1 : Int32 := gi_104 h0 27
    if y84_1 ≤ y104_3 then (
      let x6 : Int32 := y94_2 + 1
      k_94 gi_104 x6) else (
      let q9 : Nat := (gr h0 32).getD 0
      let x10 : Int32 := 12 * y84_1
      let x11 : Int32 := x10 + y94_2
      let x12 : Int32 := 5 * x11
      let x13 : Int32 := x12 + y104_3
      let q14 : Nat := (gr h0 29).getD 0
      let x15 : Int32 := gi_104 q14 y84_1.toNatClampNeg
      let x16 : Int32 := x15 >>> (y94_2 &&& 31)
      let x17 : Int32 := x16 &&& 1
      if x17 = (1 : Int32) then (
        let x22 : Int32 := F_X12_touchingOf τ Z gi_104 gr h0 y84_1 y94_2 y104_3
        f_X12_findMay_148 τ Z gi gr h0 gi_84 y84_1 gi_94 y94_2 gi_104 y104_3 k_84 k_94 (f_X12_findMay_104 τ Z gi gr h0 gi_84 y84_1 gi_94 y94_2 k_84 k_94 n104) gi_104 q9 x13 x22) else (
        f_X12_findMay_148 τ Z gi gr h0 gi_84 y84_1 gi_94 y94_2 gi_104 y104_3 k_84 k_94 (f_X12_findMay_104 τ Z gi gr h0 gi_84 y84_1 gi_94 y94_2 k_84 k_94 n104) gi_104 q9 x13 0))
noncomputable def f_X12_findMay_94 (τ : th_t) (Z : th_Zt) (gi : th_i) (gr : th_r) (h0 : Nat) (gi_84 : th_i) (y84_1 : Int32) (k_84 : th_i → Int32 → th_i) : Nat → th_i → Int32 → th_i
  | 0, gi_94, y94_2 => (gi_94)
  | n94 + 1, gi_94, y94_2 =>
    let w94_0 : Int32 := gi_94 h0 27
    let x23 : Int32 := gi_94 h0 0
    if x23 ≤ y94_2 then (
      let x25 : Int32 := y84_1 + 1
      k_84 gi_94 x25) else (
      f_X12_findMay_104 τ Z gi gr h0 gi_84 y84_1 gi_94 y94_2 k_84 (f_X12_findMay_94 τ Z gi gr h0 gi_84 y84_1 k_84 n94) ((4 - (0 : Int32).toInt).toNat + 1) gi_94 0)
noncomputable def f_X12_findMay_84 (τ : th_t) (Z : th_Zt) (gi : th_i) (gr : th_r) (h0 : Nat) : Nat → th_i → Int32 → th_i
  | 0, gi_84, y84_1 => (gi_84)
  | n84 + 1, gi_84, y84_1 =>
    let w84_0 : Int32 := gi_84 h0 27
    if w84_0 ≤ y84_1 then (
      (gi_84)) else (
      f_X12_findMay_94 τ Z gi gr h0 gi_84 y84_1 (f_X12_findMay_84 τ Z gi gr h0 n84) ((12 - (0 : Int32).toInt).toNat + 1) gi_84 0)
noncomputable def f_X12_findMay_68 (τ : th_t) (Z : th_Zt) (gi : th_i) (gr : th_r) (h0 : Nat) (gi_2 : th_i) (y2_1 : Int32) (gi_19 : th_i) (y19_2 : Int32) (k_2 : th_i → Int32 → th_i) (k_19 : th_i → Int32 → th_i) (gi_68 : th_i) (z68_0 : Nat) (z68_2 : Int32) (z68_3 : Int32) : th_i :=
  let w68_0 : Int32 := gi_68 h0 0
  let w68_1 : Int32 := gi_68 h0 27
  let x32 : Int32 := z68_2 ||| z68_3
  let gi33 : th_i := va_up gi_68 z68_0 (upd (gi_68 z68_0) y2_1.toNatClampNeg x32)
  let x36 : Int32 := y19_2 + 1
  k_19 gi33 x36
noncomputable def f_X12_findMay_67 (τ : th_t) (Z : th_Zt) (gi : th_i) (gr : th_r) (h0 : Nat) (gi_2 : th_i) (y2_1 : Int32) (gi_19 : th_i) (y19_2 : Int32) (k_2 : th_i → Int32 → th_i) (k_19 : th_i → Int32 → th_i) (gi_67 : th_i) (z67_0 : Nat) (z67_2 : Int32) : th_i :=
  let w67_0 : Int32 := gi_67 h0 0
  let w67_1 : Int32 := gi_67 h0 27
  f_X12_findMay_68 τ Z gi gr h0 gi_2 y2_1 gi_19 y19_2 k_2 k_19 gi_67 z67_0 z67_2 0
noncomputable def f_X12_findMay_19 (τ : th_t) (Z : th_Zt) (gi : th_i) (gr : th_r) (h0 : Nat) (gi_2 : th_i) (y2_1 : Int32) (k_2 : th_i → Int32 → th_i) : Nat → th_i → Int32 → th_i
  | 0, gi_19, y19_2 => (gi_19)
  | n19 + 1, gi_19, y19_2 =>
    let w19_0 : Int32 := gi_19 h0 27
    let x37 : Int32 := gi_19 h0 0
    if x37 ≤ y19_2 then (
      let x39 : Int32 := y2_1 + 1
      k_2 gi_19 x39) else (
      let q42 : Nat := (gr h0 29).getD 0
      let x43 : Int32 := gi_19 q42 y2_1.toNatClampNeg
      let q44 : Nat := (gr h0 7).getD 0
      let x45 : Int32 := gi_19 q44 y19_2.toNatClampNeg
      if (0 : Int32) ≤ x45 then (
        f_X12_findMay_67 τ Z gi gr h0 gi_2 y2_1 gi_19 y19_2 k_2 (f_X12_findMay_19 τ Z gi gr h0 gi_2 y2_1 k_2 n19) gi_19 q42 x43) else (
        let q49 : Nat := (gr h0 28).getD 0
        let x50 : Int32 := gi_19 q49 y2_1.toNatClampNeg
        let q51 : Nat := (gr h0 12).getD 0
        let x53 : Int32 := F_X12_mayLie τ Z gi_19 gr h0 x50 y19_2 q51
        if x53 = (0 : Int32) then (
          f_X12_findMay_67 τ Z gi gr h0 gi_2 y2_1 gi_19 y19_2 k_2 (f_X12_findMay_19 τ Z gi gr h0 gi_2 y2_1 k_2 n19) gi_19 q42 x43) else (
          let x57 : Int32 := 1 <<< (y19_2 &&& 31)
          f_X12_findMay_68 τ Z gi gr h0 gi_2 y2_1 gi_19 y19_2 k_2 (f_X12_findMay_19 τ Z gi gr h0 gi_2 y2_1 k_2 n19) gi_19 q42 x43 x57)))
noncomputable def f_X12_findMay_2 (τ : th_t) (Z : th_Zt) (gi : th_i) (gr : th_r) (h0 : Nat) : Nat → th_i → Int32 → th_i
  | 0, gi_2, y2_1 => (gi_2)
  | n2 + 1, gi_2, y2_1 =>
    let x58 : Int32 := gi_2 h0 27
    if x58 ≤ y2_1 then (
      f_X12_findMay_84 τ Z gi gr h0 ((5 - (0 : Int32).toInt).toNat + 1) gi_2 0) else (
      let q62 : Nat := (gr h0 29).getD 0
      let gi63 : th_i := va_up gi_2 q62 (upd (gi_2 q62) y2_1.toNatClampNeg 0)
      f_X12_findMay_19 τ Z gi gr h0 gi_2 y2_1 (f_X12_findMay_2 τ Z gi gr h0 n2) ((12 - (0 : Int32).toInt).toNat + 1) gi63 0)
noncomputable def F_X12_findMay (τ : th_t) (Z : th_Zt) (gi : th_i) (gr : th_r) (h0 : Nat) : th_i :=
  f_X12_findMay_2 τ Z gi gr h0 ((5 - (0 : Int32).toInt).toNat + 1) gi 0
set_option maxHeartbeats 8000000 in
set_option maxRecDepth 100000 in
theorem k_X12_findMay (l : Launch) (D : va_G) (cA : Nat → ClassId) (Z : th_Zt) (τ : th_t) (gi : th_i) (gr : th_r) (sz : Nat) (h0 : Nat) (t_h0 : τ h0 = 12) : Met l yX12_findMay wsX12_findMay ({ frames := 5, cells := 0, slots := 0, locals := 152 }) (va_Pc [.ref h0] (th_Pre D cA Z τ gi gr sz)) (va_Qv (fun (u : th_i × th_r) => th_Mod [6100, 6400] τ gi gr u.1 u.2 ∧ u.2 = gr ∧ (F_X12_findMay τ Z gi gr h0 = u.1)) (fun (u : th_i × th_r) t => th_H D cA τ u.1 u.2 t.heap) (th_A τ sz)) 0 0 (th_A τ sz) := by
  refine Met.ofW (cc := cX12_findMay) (maxL := 4) (ret := none) (by decide) rfl ?_
  intro p e s m args below meth c s₁ B hml hv
  obtain ⟨rfl, hsz, hH, hK, hN, hZ⟩ := hv
  have hx := B.exec
  have hb := B.bytes
  have hr := B.returns
  have hts := atoms_spec (ws := wsX12_findMay) B.pre
  have hown : s.vm.findClass RX12 = some m.cls := findClass_of_methodNamed B.named
  have hlocks := B.notSynchronized
  subst hsz
  have hM : th_Mod [6100, 6400] τ gi gr gi gr := th_Mod.rf
  have J84 : ∀ (n84 : Nat) (gi_84 : th_i) (H : Heap) (locs : List Loc) (ls : Array Slot) (y84_1 : Int32) (w84_0 : Int32), (5 - y84_1.toInt).toNat < n84 → th_H D cA τ gi_84 gr H → va_S (th_A τ s.heap.size) s.heap H locs → th_Mod [6100, 6400] τ gi gr gi_84 gr → lv_has ls 4 [(0, .ref h0), (1, .int y84_1)] → rg 0 5 y84_1 → w84_0 = gi_84 h0 27 → rg 0 5 w84_0 → F_X12_findMay τ Z gi gr h0 = f_X12_findMay_84 τ Z gi gr h0 n84 gi_84 y84_1 → W p l e (headSpec wsX12_findMay ({ frames := 5, cells := 0, slots := 0, locals := 152 })).room s m [.ref h0].toArray below meth c H locs 0 0 (MQ below (va_Qv (fun (u : th_i × th_r) => th_Mod [6100, 6400] τ gi gr u.1 u.2 ∧ u.2 = gr ∧ (F_X12_findMay τ Z gi gr h0 = u.1)) (fun (u : th_i × th_r) t => th_H D cA τ u.1 u.2 t.heap) (th_A τ s.heap.size)) [.ref h0].toArray s 0 0 (th_A τ s.heap.size)) (F0 m 84 ls []) := by
    intro n84
    induction n84 with
    | zero =>
      intro gi_84 H locs ls y84_1 w84_0 hn
      exact absurd hn (Nat.not_lt_zero _)
    | succ n84 ih84 =>
      intro gi_84 H locs ls y84_1 w84_0 hn84 hH hS hM hl fy84_1 ew84_0 fw84_0 hF
      have J94 : ∀ (n94 : Nat) (gi_94 : th_i) (H : Heap) (locs : List Loc) (ls : Array Slot) (y94_2 : Int32) (w94_0 : Int32), (12 - y94_2.toInt).toNat < n94 → th_H D cA τ gi_94 gr H → va_S (th_A τ s.heap.size) s.heap H locs → th_Mod [6100, 6400] τ gi gr gi_94 gr → lv_has ls 4 [(0, .ref h0), (1, .int y84_1), (2, .int y94_2)] → rg 0 4 y84_1 → rg 0 12 y94_2 → w94_0 = gi_94 h0 27 → rg 1 5 w94_0 → F_X12_findMay τ Z gi gr h0 = f_X12_findMay_94 τ Z gi gr h0 gi_84 y84_1 (f_X12_findMay_84 τ Z gi gr h0 n84) n94 gi_94 y94_2 → W p l e (headSpec wsX12_findMay ({ frames := 5, cells := 0, slots := 0, locals := 152 })).room s m [.ref h0].toArray below meth c H locs 0 0 (MQ below (va_Qv (fun (u : th_i × th_r) => th_Mod [6100, 6400] τ gi gr u.1 u.2 ∧ u.2 = gr ∧ (F_X12_findMay τ Z gi gr h0 = u.1)) (fun (u : th_i × th_r) t => th_H D cA τ u.1 u.2 t.heap) (th_A τ s.heap.size)) [.ref h0].toArray s 0 0 (th_A τ s.heap.size)) (F0 m 94 ls []) := by
        intro n94
        induction n94 with
        | zero =>
          intro gi_94 H locs ls y94_2 w94_0 hn
          exact absurd hn (Nat.not_lt_zero _)
        | succ n94 ih94 =>
          intro gi_94 H locs ls y94_2 w94_0 hn94 hH hS hM hl fy94_1 fy94_2 ew94_0 fw94_0 hF
          have J104 : ∀ (n104 : Nat) (gi_104 : th_i) (H : Heap) (locs : List Loc) (ls : Array Slot) (y104_3 : Int32) (w104_0 : Int32) (w104_1 : Int32), (4 - y104_3.toInt).toNat < n104 → th_H D cA τ gi_104 gr H → va_S (th_A τ s.heap.size) s.heap H locs → th_Mod [6100, 6400] τ gi gr gi_104 gr → lv_has ls 4 [(0, .ref h0), (1, .int y84_1), (2, .int y94_2), (3, .int y104_3)] → rg 0 4 y84_1 → rg 0 11 y94_2 → rg 0 4 y104_3 → w104_0 = gi_104 h0 0 → rg 1 12 w104_0 → w104_1 = gi_104 h0 27 → rg 1 5 w104_1 → F_X12_findMay τ Z gi gr h0 = f_X12_findMay_104 τ Z gi gr h0 gi_84 y84_1 gi_94 y94_2 (f_X12_findMay_84 τ Z gi gr h0 n84) (f_X12_findMay_94 τ Z gi gr h0 gi_84 y84_1 (f_X12_findMay_84 τ Z gi gr h0 n84) n94) n104 gi_104 y104_3 → W p l e (headSpec wsX12_findMay ({ frames := 5, cells := 0, slots := 0, locals := 152 })).room s m [.ref h0].toArray below meth c H locs 0 0 (MQ below (va_Qv (fun (u : th_i × th_r) => th_Mod [6100, 6400] τ gi gr u.1 u.2 ∧ u.2 = gr ∧ (F_X12_findMay τ Z gi gr h0 = u.1)) (fun (u : th_i × th_r) t => th_H D cA τ u.1 u.2 t.heap) (th_A τ s.heap.size)) [.ref h0].toArray s 0 0 (th_A τ s.heap.size)) (F0 m 104 ls []) := by
            intro n104
            induction n104 with
            | zero =>
              intro gi_104 H locs ls y104_3 w104_0 w104_1 hn
              exact absurd hn (Nat.not_lt_zero _)
            | succ n104 ih104 =>
              intro gi_104 H locs ls y104_3 w104_0 w104_1 hn104 hH hS hM hl fy104_1 fy104_2 fy104_3 ew104_0 fw104_0 ew104_1 fw104_1 hF
              have J148 : ∀ (gi_148 : th_i) (H : Heap) (locs : List Loc) (ls : Array Slot) (z148_0 : Nat) (z148_1 : Int32) (z148_2 : Int32) (w148_0 : Int32) (w148_1 : Int32), th_H D cA τ gi_148 gr H → va_S (th_A τ s.heap.size) s.heap H locs → th_Mod [6100, 6400] τ gi gr gi_148 gr → lv_has ls 4 [(0, .ref h0), (1, .int y84_1), (2, .int y94_2), (3, .int y104_3)] → rg 1 4 y84_1 → rg 0 11 y94_2 → rg 0 3 y104_3 → (τ z148_0 = 64) → rg 60 298 z148_1 → w148_0 = gi_148 h0 0 → rg 1 12 w148_0 → w148_1 = gi_148 h0 27 → rg 1 5 w148_1 → F_X12_findMay τ Z gi gr h0 = f_X12_findMay_148 τ Z gi gr h0 gi_84 y84_1 gi_94 y94_2 gi_104 y104_3 (f_X12_findMay_84 τ Z gi gr h0 n84) (f_X12_findMay_94 τ Z gi gr h0 gi_84 y84_1 (f_X12_findMay_84 τ Z gi gr h0 n84) n94) (f_X12_findMay_104 τ Z gi gr h0 gi_84 y84_1 gi_94 y94_2 (f_X12_findMay_84 τ Z gi gr h0 n84) (f_X12_findMay_94 τ Z gi gr h0 gi_84 y84_1 (f_X12_findMay_84 τ Z gi gr h0 n84) n94) n104) gi_148 z148_0 z148_1 z148_2 → W p l e (headSpec wsX12_findMay ({ frames := 5, cells := 0, slots := 0, locals := 152 })).room s m [.ref h0].toArray below meth c H locs 0 0 (MQ below (va_Qv (fun (u : th_i × th_r) => th_Mod [6100, 6400] τ gi gr u.1 u.2 ∧ u.2 = gr ∧ (F_X12_findMay τ Z gi gr h0 = u.1)) (fun (u : th_i × th_r) t => th_H D cA τ u.1 u.2 t.heap) (th_A τ s.heap.size)) [.ref h0].toArray s 0 0 (th_A τ s.heap.size)) (F0 m 148 ls [.int z148_2, .int z148_1, .ref z148_0]) := by
                intro gi_148 H locs ls z148_0 z148_1 z148_2 w148_0 w148_1 hH hS hM hl fy148_1 fy148_2 fy148_3 tz148_0 fz148_1 ew148_0 fw148_0 ew148_1 fw148_1 hF
                refine th_iast hx hb hK hH hS tz148_0 (th_nz rfl) (Or.inl (th_nzE tz148_0 rfl)) 0 (fun _ => thE_64 _ _ _) rfl (rg_in (n := 300) fz148_1 (th_leI rfl) (th_ltI rfl)) (trivial) dX12_findMay_148 (fun gi1 H locs hu1 ho1 hH hS => ?_)
                have eg1 : gi1 = va_up gi_148 z148_0 (upd (gi_148 z148_0) z148_1.toNatClampNeg z148_2) := th_upE hu1 ho1
                have e2 : w148_0 = gi1 h0 0 := Eq.trans ew148_0 (Eq.symm (ho1 _ _ (Or.inl (th_ne t_h0 tz148_0 (th_nz rfl)))))
                have e3 : w148_1 = gi1 h0 27 := Eq.trans ew148_1 (Eq.symm (ho1 _ _ (Or.inl (th_ne t_h0 tz148_0 (th_nz rfl)))))
                have hM := hM.i tz148_0 (th_mem (a := 6400) rfl) ho1
                obtain ⟨x4, e4⟩ : ∃ y : Int32, y = y104_3 + 1 := ⟨_, rfl⟩
                have f4 : rg 1 4 x4 := rg_e e4 (rg_w (rg_add fy148_3 rgc_1 (th_leI rfl) (th_leI rfl)) (th_leI rfl) (th_leI rfl))
                refine lv_iinc (v := x4) (lv' := [(3, .int x4), (0, .ref h0), (1, .int y84_1), (2, .int y94_2)]) hx hb dX12_findMay_149 hl (k := 3) rfl (by rw [e4]; rfl) (th_ltN rfl) rfl (fun ls hl => ?_)
                refine lv_goto (tgt := 104) hx hb dX12_findMay_152 (th_eqI rfl) ?_
                exact ih104 gi1 _ _ _ x4 w148_0 w148_1 (th_up (rg_dA e4 fy148_3 rgc_1 (th_leI rfl) (th_leI rfl)) fy148_3 hn104 (th_ltI rfl)) hH hS hM (lv_sub hl [1, 2, 3, 0] rfl) (rg_w fy148_1 (th_leI rfl) (th_leI rfl)) fy148_2 (rg_w f4 (th_leI rfl) (th_leI rfl)) e2 fw148_0 e3 fw148_1 (hF.trans (by simp only [f_X12_findMay_148, ← ew148_0, ← ew148_1, ← eg1, ← e4]))
              refine lv_iload_n hx hb dX12_findMay_104 rfl (lv_at hl 3 rfl) ?_
              refine lv_iload_n hx hb dX12_findMay_105 rfl (lv_at hl 1 rfl) ?_
              refine lv_icmp_ge (tgt := 155) hx hb dX12_findMay_106 (th_eqI rfl) (fun c5 => ?_) (fun c5 => ?_)
              · skip
                obtain ⟨x6, e6⟩ : ∃ y : Int32, y = y94_2 + 1 := ⟨_, rfl⟩
                have f6 : rg 1 12 x6 := rg_e e6 (rg_w (rg_add fy104_2 rgc_1 (th_leI rfl) (th_leI rfl)) (th_leI rfl) (th_leI rfl))
                refine lv_iinc (v := x6) (lv' := [(2, .int x6), (0, .ref h0), (1, .int y84_1), (3, .int y104_3)]) hx hb dX12_findMay_155 hl (k := 2) rfl (by rw [e6]; rfl) (th_ltN rfl) rfl (fun ls hl => ?_)
                refine lv_goto (tgt := 94) hx hb dX12_findMay_158 (th_eqI rfl) ?_
                exact ih94 gi_104 _ _ _ x6 w104_1 (th_up (rg_dA e6 fy104_2 rgc_1 (th_leI rfl) (th_leI rfl)) fy104_2 hn94 (th_ltI rfl)) hH hS hM (lv_sub hl [1, 2, 0] rfl) fy104_1 (rg_w f6 (th_leI rfl) (th_leI rfl)) ew104_1 fw104_1 (hF.trans (by simp only [↓reduceIte, f_X12_findMay_104, ← ew104_0, ← ew104_1, eq_true c5, ← e6]))
              · skip
                have f7 : rg 1 4 y84_1 := rg_w (rg_nle fy104_1 fy104_3 c5).1 (th_leI rfl) (th_leI rfl)
                have f8 : rg 0 3 y104_3 := rg_w (rg_nle fy104_1 fy104_3 c5).2 (th_leI rfl) (th_leI rfl)
                refine lv_aload_n hx hb dX12_findMay_109 rfl (lv_at hl 0 rfl) ?_
                obtain ⟨q9, r9, t9⟩ : ∃ q, gr h0 32 = some q ∧ τ q = 64 := (thI_12 hH t_h0).2.2.2.2.2.2.2.2.2.2.2.2.2.2.2.2.2.2.2.2.2.2.2.2.2.2.2.2.2.1
                refine th_get (ci := 11) (v := .ref q9) (T := TX12) (C := RX12) (N := 38) hx hb hts (fun w h => List.mem_cons_of_mem _ (List.mem_append_right _ h)) hown hK hH t_h0 (th_nz rfl) (thE_12 _ _ _) rfl 32 (th_ltN rfl) (hts (.fieldLink RX12 92 "BayMooringsModel" "touching" "[I") (List.mem_cons_of_mem _ (List.mem_append_left _ (List.mem_append_left _ (List.mem_of_getElem? (i := 6) rfl))))) (fun _ h9 => h9) (th_fR r9 rfl) dX12_findMay_110 ?_
                refine lv_iconst (v := 5) hx hb dX12_findMay_113 ic_5 ?_
                refine lv_bipush (v := 12) hx hb dX12_findMay_114 bp_12 ?_
                refine lv_iload_n hx hb dX12_findMay_116 rfl (lv_at hl 1 rfl) ?_
                refine lv_imul hx hb dX12_findMay_117 ?_
                refine lv_topi (fun x10 e10 => ?_)
                have f10 : rg 12 48 x10 := rg_e e10 (rg_w (rg_mul rgc_12 f7 (th_leI rfl) (th_leI rfl) (th_leI rfl)) (th_leI rfl) (th_leI rfl))
                refine lv_iload_n hx hb dX12_findMay_118 rfl (lv_at hl 2 rfl) ?_
                refine lv_iadd hx hb dX12_findMay_119 ?_
                refine lv_topi (fun x11 e11 => ?_)
                have f11 : rg 12 59 x11 := rg_e e11 (rg_w (rg_add f10 fy104_2 (th_leI rfl) (th_leI rfl)) (th_leI rfl) (th_leI rfl))
                refine lv_imul hx hb dX12_findMay_120 ?_
                refine lv_topi (fun x12 e12 => ?_)
                have f12 : rg 60 295 x12 := rg_e e12 (rg_w (rg_mul rgc_5 f11 (th_leI rfl) (th_leI rfl) (th_leI rfl)) (th_leI rfl) (th_leI rfl))
                refine lv_iload_n hx hb dX12_findMay_121 rfl (lv_at hl 3 rfl) ?_
                refine lv_iadd hx hb dX12_findMay_122 ?_
                refine lv_topi (fun x13 e13 => ?_)
                have f13 : rg 60 298 x13 := rg_e e13 (rg_w (rg_add f12 f8 (th_leI rfl) (th_leI rfl)) (th_leI rfl) (th_leI rfl))
                refine lv_aload_n hx hb dX12_findMay_123 rfl (lv_at hl 0 rfl) ?_
                obtain ⟨q14, r14, t14⟩ : ∃ q, gr h0 29 = some q ∧ τ q = 61 := (thI_12 hH t_h0).2.2.2.2.2.2.2.2.2.2.2.2.2.2.2.2.2.2.2.2.2.2.2.2.2.2.1
                refine th_get (ci := 11) (v := .ref q14) (T := TX12) (C := RX12) (N := 38) hx hb hts (fun w h => List.mem_cons_of_mem _ (List.mem_append_right _ h)) hown hK hH t_h0 (th_nz rfl) (thE_12 _ _ _) rfl 29 (th_ltN rfl) (hts (.fieldLink RX12 83 "BayMooringsModel" "may" "[I") (List.mem_cons_of_mem _ (List.mem_append_left _ (List.mem_append_left _ (List.mem_of_getElem? (i := 1) rfl))))) (fun _ h9 => h9) (th_fR r14 rfl) dX12_findMay_124 ?_
                refine lv_iload_n hx hb dX12_findMay_127 rfl (lv_at hl 1 rfl) ?_
                refine th_iald hx hb hK hH t14 (th_nz rfl) 0 (thE_61 _ _ _) rfl (rg_in (n := 5) f7 (th_leI rfl) (th_ltI rfl)) dX12_findMay_128 ?_
                refine lv_topi (fun x15 e15 => ?_)
                refine lv_iload_n hx hb dX12_findMay_129 rfl (lv_at hl 2 rfl) ?_
                refine lv_ishr hx hb dX12_findMay_130 ?_
                refine lv_topi (fun x16 e16 => ?_)
                refine lv_iconst (v := 1) hx hb dX12_findMay_131 ic_1 ?_
                refine lv_iand hx hb dX12_findMay_132 ?_
                refine lv_topi (fun x17 e17 => ?_)
                have f17 : rg 0 1 x17 := rg_e e17 (rg_and 1 (by decide) (th_leN rfl) (th_eqI rfl))
                refine lv_iconst (v := 1) hx hb dX12_findMay_133 ic_1 ?_
                refine lv_icmp_ne (tgt := 147) hx hb dX12_findMay_134 (th_eqI rfl) (fun c18 => ?_) (fun c18 => ?_)
                · skip
                  have f19 : rg 0 0 x17 := rg_w (rg_neR f17 rgc_1 c18) (th_leI rfl) (th_leI rfl)
                  refine lv_iconst (v := 0) hx hb dX12_findMay_147 ic_0 ?_
                  exact J148 gi_104 _ _ _ q9 x13 0 w104_0 w104_1 hH hS hM (lv_sub hl [0, 1, 2, 3] rfl) f7 fy104_2 f8 t9 f13 ew104_0 fw104_0 ew104_1 fw104_1 (hF.trans (by simp only [↓reduceIte, f_X12_findMay_104, ← ew104_0, ← ew104_1, eq_false c5, r9, Option.getD_some, ← e10, ← e11, ← e12, ← e13, r14, ← e15, ← e16, ← e17, eq_false c18]))
                · skip
                  have f20 : rg 1 1 x17 := rg_w (rg_eq f17 rgc_1 c18).1 (th_leI rfl) (th_leI rfl)
                  refine lv_aload_n hx hb dX12_findMay_137 rfl (lv_at hl 0 rfl) ?_
                  refine lv_iload_n hx hb dX12_findMay_138 rfl (lv_at hl 1 rfl) ?_
                  refine lv_iload_n hx hb dX12_findMay_139 rfl (lv_at hl 2 rfl) ?_
                  refine lv_iload_n hx hb dX12_findMay_140 rfl (lv_at hl 3 rfl) ?_
                  have hA21 := th_Asub (τ := τ) hS
                  refine va_calli (va_runV (As := [.int y84_1, .int y94_2, .int y104_3]) (rest := [.int x13, .ref q9]) ⟨hx, hb, hml, hown, hts⟩ (k_X12_touchingOf l D cA Z τ gi_104 gr _ h0 t_h0 y84_1 (rg_w f7 (th_leI rfl) (th_leI rfl)) y94_2 fy104_2 y104_3 (rg_w f8 (th_leI rfl) (th_leI rfl))) (cwV 3 hts gX12_findMay_X12_touchingOf rfl rfl rfl hd_X12_touchingOf__3 ⟨Nat.le_of_ble_eq_true rfl, Nat.le_of_ble_eq_true rfl⟩) ⟨th_blind, tr_12 hK hH t_h0, (th_pre hH hK hN hZ hS hA21)⟩ rfl rfl hl.1 rfl (lv_room (Nat.le_of_ble_eq_true rfl)) dX12_findMay_141 ⟨Nat.le_of_ble_eq_true rfl, Nat.le_of_ble_eq_true rfl⟩) hS (fun q _ h => hA21 q h) hA21 (fun x22 u t H locs ht hvm hw22 hB hz1 hk1 hS => ?_)
                  try dsimp only at hw22 hB
                  rw [ht] at hB
                  have hH := hB
                  refine lv_goto (tgt := 148) hx hb dX12_findMay_144 (th_eqI rfl) ?_
                  exact J148 gi_104 _ _ _ q9 x13 x22 w104_0 w104_1 hH hS hM (lv_sub hl [0, 1, 2, 3] rfl) f7 fy104_2 f8 t9 f13 ew104_0 fw104_0 ew104_1 fw104_1 (hF.trans (by simp only [↓reduceIte, f_X12_findMay_104, ← ew104_0, ← ew104_1, eq_false c5, r9, Option.getD_some, ← e10, ← e11, ← e12, ← e13, r14, ← e15, ← e16, ← e17, eq_true c18, hw22]))
          refine lv_iload_n hx hb dX12_findMay_94 rfl (lv_at hl 2 rfl) ?_
          refine lv_aload_n hx hb dX12_findMay_95 rfl (lv_at hl 0 rfl) ?_
          obtain ⟨x23, e23⟩ : ∃ y : Int32, y = gi_94 h0 0 := ⟨_, rfl⟩
          refine th_get (ci := 11) (v := .int x23) (T := TX12) (C := RX12) (N := 38) hx hb hts (fun w h => List.mem_cons_of_mem _ (List.mem_append_right _ h)) hown hK hH t_h0 (th_nz rfl) (thE_12 _ _ _) rfl 0 (th_ltN rfl) (hts (.fieldLink RX12 109 "BayMooringsModel" "buoys" "I") (List.mem_cons_of_mem _ (List.mem_append_left _ (List.mem_append_left _ (List.mem_of_getElem? (i := 2) rfl))))) (fun _ h9 => h9) (th_fI e23 rfl) dX12_findMay_96 ?_
          have f23 : rg 0 12 x23 := rg_e e23 ((thI_12 hH t_h0).1)
          refine lv_icmp_ge (tgt := 161) hx hb dX12_findMay_99 (th_eqI rfl) (fun c24 => ?_) (fun c24 => ?_)
          · skip
            obtain ⟨x25, e25⟩ : ∃ y : Int32, y = y84_1 + 1 := ⟨_, rfl⟩
            have f25 : rg 1 5 x25 := rg_e e25 (rg_w (rg_add fy94_1 rgc_1 (th_leI rfl) (th_leI rfl)) (th_leI rfl) (th_leI rfl))
            refine lv_iinc (v := x25) (lv' := [(1, .int x25), (0, .ref h0), (2, .int y94_2)]) hx hb dX12_findMay_161 hl (k := 1) rfl (by rw [e25]; rfl) (th_ltN rfl) rfl (fun ls hl => ?_)
            refine lv_goto (tgt := 84) hx hb dX12_findMay_164 (th_eqI rfl) ?_
            exact ih84 gi_94 _ _ _ x25 w94_0 (th_up (rg_dA e25 fy94_1 rgc_1 (th_leI rfl) (th_leI rfl)) fy94_1 hn84 (th_ltI rfl)) hH hS hM (lv_sub hl [1, 0] rfl) (rg_w f25 (th_leI rfl) (th_leI rfl)) ew94_0 (rg_w fw94_0 (th_leI rfl) (th_leI rfl)) (hF.trans (by simp only [↓reduceIte, f_X12_findMay_94, ← ew94_0, ← e23, eq_true c24, ← e25]))
          · skip
            have f26 : rg 1 12 x23 := rg_w (rg_nle f23 fy94_2 c24).1 (th_leI rfl) (th_leI rfl)
            have f27 : rg 0 11 y94_2 := rg_w (rg_nle f23 fy94_2 c24).2 (th_leI rfl) (th_leI rfl)
            refine lv_iconst (v := 0) hx hb dX12_findMay_102 ic_0 ?_
            refine lv_istore_n (i := 3) (lv' := [(3, .int 0), (0, .ref h0), (1, .int y84_1), (2, .int y94_2)]) hx hb dX12_findMay_103 rfl hl (th_ltN rfl) rfl (fun ls hl => ?_)
            exact J104 _ gi_94 _ _ _ 0 x23 w94_0 (Nat.lt_add_one _) hH hS hM (lv_sub hl [1, 2, 3, 0] rfl) fy94_1 f27 (rg_w rgc_0 (th_leI rfl) (th_leI rfl)) e23 f26 ew94_0 fw94_0 (hF.trans (by simp only [↓reduceIte, f_X12_findMay_94, ← ew94_0, ← e23, eq_false c24]))
      refine lv_iload_n hx hb dX12_findMay_84 rfl (lv_at hl 1 rfl) ?_
      refine lv_aload_n hx hb dX12_findMay_85 rfl (lv_at hl 0 rfl) ?_
      refine th_get (ci := 11) (v := .int w84_0) (T := TX12) (C := RX12) (N := 38) hx hb hts (fun w h => List.mem_cons_of_mem _ (List.mem_append_right _ h)) hown hK hH t_h0 (th_nz rfl) (thE_12 _ _ _) rfl 27 (th_ltN rfl) (hts (.fieldLink RX12 200 "BayMooringsModel" "some" "I") (List.mem_cons_of_mem _ (List.mem_append_left _ (List.mem_append_left _ (List.mem_of_getElem? (i := 0) rfl))))) (fun _ h9 => h9) (th_fI ew84_0 rfl) dX12_findMay_86 ?_
      refine lv_icmp_ge (tgt := 167) hx hb dX12_findMay_89 (th_eqI rfl) (fun c29 => ?_) (fun c29 => ?_)
      · skip
        exact W.vret hx hb hr (fun t ht hW => ⟨⟨(gi_84, gr), rfl, ⟨hM, rfl, (hF.trans (by simp only [↓reduceIte, f_X12_findMay_84, ← ew84_0, eq_true c29]))⟩, th_Ht ht hH⟩, hS.F ht⟩) hS.2.2 dX12_findMay_167
      · skip
        have f30 : rg 1 5 w84_0 := rg_w (rg_nle fw84_0 fy84_1 c29).1 (th_leI rfl) (th_leI rfl)
        have f31 : rg 0 4 y84_1 := rg_w (rg_nle fw84_0 fy84_1 c29).2 (th_leI rfl) (th_leI rfl)
        refine lv_iconst (v := 0) hx hb dX12_findMay_92 ic_0 ?_
        refine lv_istore_n (i := 2) (lv' := [(2, .int 0), (0, .ref h0), (1, .int y84_1)]) hx hb dX12_findMay_93 rfl hl (th_ltN rfl) rfl (fun ls hl => ?_)
        exact J94 _ gi_84 _ _ _ 0 w84_0 (Nat.lt_add_one _) hH hS hM (lv_sub hl [1, 2, 0] rfl) f31 (rg_w rgc_0 (th_leI rfl) (th_leI rfl)) ew84_0 f30 (hF.trans (by simp only [↓reduceIte, f_X12_findMay_84, ← ew84_0, eq_false c29]))
  have J2 : ∀ (n2 : Nat) (gi_2 : th_i) (H : Heap) (locs : List Loc) (ls : Array Slot) (y2_1 : Int32), (5 - y2_1.toInt).toNat < n2 → th_H D cA τ gi_2 gr H → va_S (th_A τ s.heap.size) s.heap H locs → th_Mod [6100, 6400] τ gi gr gi_2 gr → lv_has ls 4 [(0, .ref h0), (1, .int y2_1)] → rg 0 5 y2_1 → F_X12_findMay τ Z gi gr h0 = f_X12_findMay_2 τ Z gi gr h0 n2 gi_2 y2_1 → W p l e (headSpec wsX12_findMay ({ frames := 5, cells := 0, slots := 0, locals := 152 })).room s m [.ref h0].toArray below meth c H locs 0 0 (MQ below (va_Qv (fun (u : th_i × th_r) => th_Mod [6100, 6400] τ gi gr u.1 u.2 ∧ u.2 = gr ∧ (F_X12_findMay τ Z gi gr h0 = u.1)) (fun (u : th_i × th_r) t => th_H D cA τ u.1 u.2 t.heap) (th_A τ s.heap.size)) [.ref h0].toArray s 0 0 (th_A τ s.heap.size)) (F0 m 2 ls []) := by
    intro n2
    induction n2 with
    | zero =>
      intro gi_2 H locs ls y2_1 hn
      exact absurd hn (Nat.not_lt_zero _)
    | succ n2 ih2 =>
      intro gi_2 H locs ls y2_1 hn2 hH hS hM hl fy2_1 hF
      have J19 : ∀ (n19 : Nat) (gi_19 : th_i) (H : Heap) (locs : List Loc) (ls : Array Slot) (y19_2 : Int32) (w19_0 : Int32), (12 - y19_2.toInt).toNat < n19 → th_H D cA τ gi_19 gr H → va_S (th_A τ s.heap.size) s.heap H locs → th_Mod [6100, 6400] τ gi gr gi_19 gr → lv_has ls 4 [(0, .ref h0), (1, .int y2_1), (2, .int y19_2)] → rg 0 4 y2_1 → rg 0 12 y19_2 → w19_0 = gi_19 h0 27 → rg 1 5 w19_0 → F_X12_findMay τ Z gi gr h0 = f_X12_findMay_19 τ Z gi gr h0 gi_2 y2_1 (f_X12_findMay_2 τ Z gi gr h0 n2) n19 gi_19 y19_2 → W p l e (headSpec wsX12_findMay ({ frames := 5, cells := 0, slots := 0, locals := 152 })).room s m [.ref h0].toArray below meth c H locs 0 0 (MQ below (va_Qv (fun (u : th_i × th_r) => th_Mod [6100, 6400] τ gi gr u.1 u.2 ∧ u.2 = gr ∧ (F_X12_findMay τ Z gi gr h0 = u.1)) (fun (u : th_i × th_r) t => th_H D cA τ u.1 u.2 t.heap) (th_A τ s.heap.size)) [.ref h0].toArray s 0 0 (th_A τ s.heap.size)) (F0 m 19 ls []) := by
        intro n19
        induction n19 with
        | zero =>
          intro gi_19 H locs ls y19_2 w19_0 hn
          exact absurd hn (Nat.not_lt_zero _)
        | succ n19 ih19 =>
          intro gi_19 H locs ls y19_2 w19_0 hn19 hH hS hM hl fy19_1 fy19_2 ew19_0 fw19_0 hF
          have J68 : ∀ (gi_68 : th_i) (H : Heap) (locs : List Loc) (ls : Array Slot) (z68_0 : Nat) (z68_2 : Int32) (z68_3 : Int32) (w68_0 : Int32) (w68_1 : Int32), th_H D cA τ gi_68 gr H → va_S (th_A τ s.heap.size) s.heap H locs → th_Mod [6100, 6400] τ gi gr gi_68 gr → lv_has ls 4 [(0, .ref h0), (1, .int y2_1), (2, .int y19_2)] → rg 0 4 y2_1 → rg 0 11 y19_2 → (τ z68_0 = 61) → rg 0 4 y2_1 → w68_0 = gi_68 h0 0 → rg 1 12 w68_0 → w68_1 = gi_68 h0 27 → rg 1 5 w68_1 → F_X12_findMay τ Z gi gr h0 = f_X12_findMay_68 τ Z gi gr h0 gi_2 y2_1 gi_19 y19_2 (f_X12_findMay_2 τ Z gi gr h0 n2) (f_X12_findMay_19 τ Z gi gr h0 gi_2 y2_1 (f_X12_findMay_2 τ Z gi gr h0 n2) n19) gi_68 z68_0 z68_2 z68_3 → W p l e (headSpec wsX12_findMay ({ frames := 5, cells := 0, slots := 0, locals := 152 })).room s m [.ref h0].toArray below meth c H locs 0 0 (MQ below (va_Qv (fun (u : th_i × th_r) => th_Mod [6100, 6400] τ gi gr u.1 u.2 ∧ u.2 = gr ∧ (F_X12_findMay τ Z gi gr h0 = u.1)) (fun (u : th_i × th_r) t => th_H D cA τ u.1 u.2 t.heap) (th_A τ s.heap.size)) [.ref h0].toArray s 0 0 (th_A τ s.heap.size)) (F0 m 68 ls [.int z68_3, .int z68_2, .int y2_1, .ref z68_0]) := by
            intro gi_68 H locs ls z68_0 z68_2 z68_3 w68_0 w68_1 hH hS hM hl fy68_1 fy68_2 tz68_0 fz68_1 ew68_0 fw68_0 ew68_1 fw68_1 hF
            refine lv_ior hx hb dX12_findMay_68 ?_
            refine lv_topi (fun x32 e32 => ?_)
            refine th_iast hx hb hK hH hS tz68_0 (th_nz rfl) (Or.inl (th_nzE tz68_0 rfl)) 0 (fun _ => thE_61 _ _ _) rfl (rg_in (n := 5) fz68_1 (th_leI rfl) (th_ltI rfl)) (trivial) dX12_findMay_69 (fun gi33 H locs hu33 ho33 hH hS => ?_)
            have eg33 : gi33 = va_up gi_68 z68_0 (upd (gi_68 z68_0) y2_1.toNatClampNeg x32) := th_upE hu33 ho33
            have e34 : w68_0 = gi33 h0 0 := Eq.trans ew68_0 (Eq.symm (ho33 _ _ (Or.inl (th_ne t_h0 tz68_0 (th_nz rfl)))))
            have e35 : w68_1 = gi33 h0 27 := Eq.trans ew68_1 (Eq.symm (ho33 _ _ (Or.inl (th_ne t_h0 tz68_0 (th_nz rfl)))))
            have hM := hM.i tz68_0 (th_mem (a := 6100) rfl) ho33
            obtain ⟨x36, e36⟩ : ∃ y : Int32, y = y19_2 + 1 := ⟨_, rfl⟩
            have f36 : rg 1 12 x36 := rg_e e36 (rg_w (rg_add fy68_2 rgc_1 (th_leI rfl) (th_leI rfl)) (th_leI rfl) (th_leI rfl))
            refine lv_iinc (v := x36) (lv' := [(2, .int x36), (0, .ref h0), (1, .int y2_1)]) hx hb dX12_findMay_70 hl (k := 2) rfl (by rw [e36]; rfl) (th_ltN rfl) rfl (fun ls hl => ?_)
            refine lv_goto (tgt := 19) hx hb dX12_findMay_73 (th_eqI rfl) ?_
            exact ih19 gi33 _ _ _ x36 w68_1 (th_up (rg_dA e36 fy68_2 rgc_1 (th_leI rfl) (th_leI rfl)) fy68_2 hn19 (th_ltI rfl)) hH hS hM (lv_sub hl [1, 2, 0] rfl) fz68_1 (rg_w f36 (th_leI rfl) (th_leI rfl)) e35 fw68_1 (hF.trans (by simp only [f_X12_findMay_68, ← ew68_0, ← ew68_1, ← e32, ← eg33, ← e36]))
          have J67 : ∀ (gi_67 : th_i) (H : Heap) (locs : List Loc) (ls : Array Slot) (z67_0 : Nat) (z67_2 : Int32) (w67_0 : Int32) (w67_1 : Int32), th_H D cA τ gi_67 gr H → va_S (th_A τ s.heap.size) s.heap H locs → th_Mod [6100, 6400] τ gi gr gi_67 gr → lv_has ls 4 [(0, .ref h0), (1, .int y2_1), (2, .int y19_2)] → rg 0 4 y2_1 → rg 0 11 y19_2 → (τ z67_0 = 61) → rg 0 4 y2_1 → w67_0 = gi_67 h0 0 → rg 1 12 w67_0 → w67_1 = gi_67 h0 27 → rg 1 5 w67_1 → F_X12_findMay τ Z gi gr h0 = f_X12_findMay_67 τ Z gi gr h0 gi_2 y2_1 gi_19 y19_2 (f_X12_findMay_2 τ Z gi gr h0 n2) (f_X12_findMay_19 τ Z gi gr h0 gi_2 y2_1 (f_X12_findMay_2 τ Z gi gr h0 n2) n19) gi_67 z67_0 z67_2 → W p l e (headSpec wsX12_findMay ({ frames := 5, cells := 0, slots := 0, locals := 152 })).room s m [.ref h0].toArray below meth c H locs 0 0 (MQ below (va_Qv (fun (u : th_i × th_r) => th_Mod [6100, 6400] τ gi gr u.1 u.2 ∧ u.2 = gr ∧ (F_X12_findMay τ Z gi gr h0 = u.1)) (fun (u : th_i × th_r) t => th_H D cA τ u.1 u.2 t.heap) (th_A τ s.heap.size)) [.ref h0].toArray s 0 0 (th_A τ s.heap.size)) (F0 m 67 ls [.int z67_2, .int y2_1, .ref z67_0]) := by
            intro gi_67 H locs ls z67_0 z67_2 w67_0 w67_1 hH hS hM hl fy67_1 fy67_2 tz67_0 fz67_1 ew67_0 fw67_0 ew67_1 fw67_1 hF
            refine lv_iconst (v := 0) hx hb dX12_findMay_67 ic_0 ?_
            exact J68 gi_67 _ _ _ z67_0 z67_2 0 w67_0 w67_1 hH hS hM (lv_sub hl [0, 1, 2] rfl) fz67_1 fy67_2 tz67_0 fz67_1 ew67_0 fw67_0 ew67_1 fw67_1 (hF.trans (by simp only [f_X12_findMay_67, ← ew67_0, ← ew67_1]))
          refine lv_iload_n hx hb dX12_findMay_19 rfl (lv_at hl 2 rfl) ?_
          refine lv_aload_n hx hb dX12_findMay_20 rfl (lv_at hl 0 rfl) ?_
          obtain ⟨x37, e37⟩ : ∃ y : Int32, y = gi_19 h0 0 := ⟨_, rfl⟩
          refine th_get (ci := 11) (v := .int x37) (T := TX12) (C := RX12) (N := 38) hx hb hts (fun w h => List.mem_cons_of_mem _ (List.mem_append_right _ h)) hown hK hH t_h0 (th_nz rfl) (thE_12 _ _ _) rfl 0 (th_ltN rfl) (hts (.fieldLink RX12 109 "BayMooringsModel" "buoys" "I") (List.mem_cons_of_mem _ (List.mem_append_left _ (List.mem_append_left _ (List.mem_of_getElem? (i := 2) rfl))))) (fun _ h9 => h9) (th_fI e37 rfl) dX12_findMay_21 ?_
          have f37 : rg 0 12 x37 := rg_e e37 ((thI_12 hH t_h0).1)
          refine lv_icmp_ge (tgt := 76) hx hb dX12_findMay_24 (th_eqI rfl) (fun c38 => ?_) (fun c38 => ?_)
          · skip
            obtain ⟨x39, e39⟩ : ∃ y : Int32, y = y2_1 + 1 := ⟨_, rfl⟩
            have f39 : rg 1 5 x39 := rg_e e39 (rg_w (rg_add fy19_1 rgc_1 (th_leI rfl) (th_leI rfl)) (th_leI rfl) (th_leI rfl))
            refine lv_iinc (v := x39) (lv' := [(1, .int x39), (0, .ref h0), (2, .int y19_2)]) hx hb dX12_findMay_76 hl (k := 1) rfl (by rw [e39]; rfl) (th_ltN rfl) rfl (fun ls hl => ?_)
            refine lv_goto (tgt := 2) hx hb dX12_findMay_79 (th_eqI rfl) ?_
            exact ih2 gi_19 _ _ _ x39 (th_up (rg_dA e39 fy19_1 rgc_1 (th_leI rfl) (th_leI rfl)) fy19_1 hn2 (th_ltI rfl)) hH hS hM (lv_sub hl [1, 0] rfl) (rg_w f39 (th_leI rfl) (th_leI rfl)) (hF.trans (by simp only [↓reduceIte, f_X12_findMay_19, ← ew19_0, ← e37, eq_true c38, ← e39]))
          · skip
            have f40 : rg 1 12 x37 := rg_w (rg_nle f37 fy19_2 c38).1 (th_leI rfl) (th_leI rfl)
            have f41 : rg 0 11 y19_2 := rg_w (rg_nle f37 fy19_2 c38).2 (th_leI rfl) (th_leI rfl)
            refine lv_aload_n hx hb dX12_findMay_27 rfl (lv_at hl 0 rfl) ?_
            obtain ⟨q42, r42, t42⟩ : ∃ q, gr h0 29 = some q ∧ τ q = 61 := (thI_12 hH t_h0).2.2.2.2.2.2.2.2.2.2.2.2.2.2.2.2.2.2.2.2.2.2.2.2.2.2.1
            refine th_get (ci := 11) (v := .ref q42) (T := TX12) (C := RX12) (N := 38) hx hb hts (fun w h => List.mem_cons_of_mem _ (List.mem_append_right _ h)) hown hK hH t_h0 (th_nz rfl) (thE_12 _ _ _) rfl 29 (th_ltN rfl) (hts (.fieldLink RX12 83 "BayMooringsModel" "may" "[I") (List.mem_cons_of_mem _ (List.mem_append_left _ (List.mem_append_left _ (List.mem_of_getElem? (i := 1) rfl))))) (fun _ h9 => h9) (th_fR r42 rfl) dX12_findMay_28 ?_
            refine lv_iload_n hx hb dX12_findMay_31 rfl (lv_at hl 1 rfl) ?_
            refine lv_dup2_11 hx hb dX12_findMay_32 rfl rfl ?_
            refine th_iald hx hb hK hH t42 (th_nz rfl) 0 (thE_61 _ _ _) rfl (rg_in (n := 5) fy19_1 (th_leI rfl) (th_ltI rfl)) dX12_findMay_33 ?_
            refine lv_topi (fun x43 e43 => ?_)
            refine lv_aload_n hx hb dX12_findMay_34 rfl (lv_at hl 0 rfl) ?_
            obtain ⟨q44, r44, t44⟩ : ∃ q, gr h0 7 = some q ∧ τ q = 46 := (thI_12 hH t_h0).2.2.2.2.2.2.2.1
            refine th_get (ci := 11) (v := .ref q44) (T := TX12) (C := RX12) (N := 38) hx hb hts (fun w h => List.mem_cons_of_mem _ (List.mem_append_right _ h)) hown hK hH t_h0 (th_nz rfl) (thE_12 _ _ _) rfl 7 (th_ltN rfl) (hts (.fieldLink RX12 28 "BayMooringsModel" "boatAt" "[I") (List.mem_cons_of_mem _ (List.mem_append_left _ (List.mem_append_left _ (List.mem_of_getElem? (i := 3) rfl))))) (fun _ h9 => h9) (th_fR r44 rfl) dX12_findMay_35 ?_
            refine lv_iload_n hx hb dX12_findMay_38 rfl (lv_at hl 2 rfl) ?_
            refine th_iald hx hb hK hH t44 (th_nz rfl) 0 (thE_46 _ _ _) rfl (rg_in (n := 12) f41 (th_leI rfl) (th_ltI rfl)) dX12_findMay_39 ?_
            refine lv_topi (fun x45 e45 => ?_)
            have f45 : rg (-1) 15 x45 := rg_e e45 ((thI_46 hH t44) _ (rg_cl (n := 12) f41 (th_leI rfl) (th_ltI rfl)))
            refine lv_if_ge (tgt := 67) hx hb dX12_findMay_40 (th_eqI rfl) (fun c46 => ?_) (fun c46 => ?_)
            · skip
              have f47 : rg 0 15 x45 := rg_w (rg_le rgc_0 f45 c46).2 (th_leI rfl) (th_leI rfl)
              exact J67 gi_19 _ _ _ q42 x43 x37 w19_0 hH hS hM (lv_sub hl [0, 1, 2] rfl) fy19_1 f41 t42 fy19_1 e37 f40 ew19_0 fw19_0 (hF.trans (by simp only [↓reduceIte, f_X12_findMay_19, ← ew19_0, ← e37, eq_false c38, r42, Option.getD_some, ← e43, r44, ← e45, eq_true c46]))
            · skip
              have f48 : rg (-1) (-1) x45 := rg_w (rg_nle rgc_0 f45 c46).2 (th_leI rfl) (th_leI rfl)
              refine lv_aload_n hx hb dX12_findMay_43 rfl (lv_at hl 0 rfl) ?_
              refine lv_aload_n hx hb dX12_findMay_44 rfl (lv_at hl 0 rfl) ?_
              obtain ⟨q49, r49, t49⟩ : ∃ q, gr h0 28 = some q ∧ τ q = 60 := (thI_12 hH t_h0).2.2.2.2.2.2.2.2.2.2.2.2.2.2.2.2.2.2.2.2.2.2.2.2.2.1
              refine th_get (ci := 11) (v := .ref q49) (T := TX12) (C := RX12) (N := 38) hx hb hts (fun w h => List.mem_cons_of_mem _ (List.mem_append_right _ h)) hown hK hH t_h0 (th_nz rfl) (thE_12 _ _ _) rfl 28 (th_ltN rfl) (hts (.fieldLink RX12 80 "BayMooringsModel" "someOf" "[I") (List.mem_cons_of_mem _ (List.mem_append_left _ (List.mem_append_left _ (List.mem_of_getElem? (i := 4) rfl))))) (fun _ h9 => h9) (th_fR r49 rfl) dX12_findMay_45 ?_
              refine lv_iload_n hx hb dX12_findMay_48 rfl (lv_at hl 1 rfl) ?_
              refine th_iald hx hb hK hH t49 (th_nz rfl) 0 (thE_60 _ _ _) rfl (rg_in (n := 5) fy19_1 (th_leI rfl) (th_ltI rfl)) dX12_findMay_49 ?_
              refine lv_topi (fun x50 e50 => ?_)
              have f50 : rg 0 15 x50 := rg_e e50 ((thI_60 hH t49) _ (rg_cl (n := 5) fy19_1 (th_leI rfl) (th_ltI rfl)))
              refine lv_iload_n hx hb dX12_findMay_50 rfl (lv_at hl 2 rfl) ?_
              refine lv_aload_n hx hb dX12_findMay_51 rfl (lv_at hl 0 rfl) ?_
              obtain ⟨q51, r51, t51⟩ : ∃ q, gr h0 12 = some q ∧ τ q = 50 := (thI_12 hH t_h0).2.2.2.2.2.2.2.2.2.2.2.2.1
              refine th_get (ci := 11) (v := .ref q51) (T := TX12) (C := RX12) (N := 38) hx hb hts (fun w h => List.mem_cons_of_mem _ (List.mem_append_right _ h)) hown hK hH t_h0 (th_nz rfl) (thE_12 _ _ _) rfl 12 (th_ltN rfl) (hts (.fieldLink RX12 40 "BayMooringsModel" "buoyOf" "[I") (List.mem_cons_of_mem _ (List.mem_append_left _ (List.mem_append_left _ (List.mem_of_getElem? (i := 5) rfl))))) (fun _ h9 => h9) (th_fR r51 rfl) dX12_findMay_52 ?_
              have hA52 := th_Asub (τ := τ) hS
              refine va_calli (va_runV (As := [.int x50, .int y19_2, .ref q51]) (rest := [.int x43, .int y2_1, .ref q42]) ⟨hx, hb, hml, hown, hts⟩ (k_X12_mayLie l D cA Z τ gi_19 gr _ h0 t_h0 x50 f50 y19_2 f41 q51 (Or.inl t51)) (cwV 3 hts gX12_findMay_X12_mayLie rfl rfl rfl hd_X12_mayLie__3 ⟨Nat.le_of_ble_eq_true rfl, Nat.le_of_ble_eq_true rfl⟩) ⟨th_blind, tr_12 hK hH t_h0, (th_pre hH hK hN hZ hS hA52)⟩ rfl rfl hl.1 rfl (lv_room (Nat.le_of_ble_eq_true rfl)) dX12_findMay_55 ⟨Nat.le_of_ble_eq_true rfl, Nat.le_of_ble_eq_true rfl⟩) hS (fun q _ h => hA52 q h) hA52 (fun x53 u t H locs ht hvm hw53 hB hz1 hk1 hS => ?_)
              try dsimp only at hw53 hB
              rw [ht] at hB
              have hH := hB
              refine lv_if_eq (tgt := 67) hx hb dX12_findMay_58 (th_eqI rfl) (fun c54 => ?_) (fun c54 => ?_)
              · skip
                have f55 : rg 0 0 x53 := rg_w (rg_eq hw53.1 rgc_0 c54).1 (th_leI rfl) (th_leI rfl)
                exact J67 gi_19 _ _ _ q42 x43 x37 w19_0 hH hS hM (lv_sub hl [0, 1, 2] rfl) fy19_1 f41 t42 fy19_1 e37 f40 ew19_0 fw19_0 (hF.trans (by simp only [↓reduceIte, f_X12_findMay_19, ← ew19_0, ← e37, eq_false c38, r42, Option.getD_some, ← e43, r44, ← e45, eq_false c46, r49, ← e50, r51, hw53.2, eq_true c54]))
              · skip
                have f56 : rg 1 1 x53 := rg_w (rg_neL hw53.1 rgc_0 c54) (th_leI rfl) (th_leI rfl)
                refine lv_iconst (v := 1) hx hb dX12_findMay_61 ic_1 ?_
                refine lv_iload_n hx hb dX12_findMay_62 rfl (lv_at hl 2 rfl) ?_
                refine lv_ishl hx hb dX12_findMay_63 ?_
                refine lv_topi (fun x57 e57 => ?_)
                refine lv_goto (tgt := 68) hx hb dX12_findMay_64 (th_eqI rfl) ?_
                exact J68 gi_19 _ _ _ q42 x43 x57 x37 w19_0 hH hS hM (lv_sub hl [0, 1, 2] rfl) fy19_1 f41 t42 fy19_1 e37 f40 ew19_0 fw19_0 (hF.trans (by simp only [↓reduceIte, f_X12_findMay_19, ← ew19_0, ← e37, eq_false c38, r42, Option.getD_some, ← e43, r44, ← e45, eq_false c46, r49, ← e50, r51, hw53.2, eq_false c54, ← e57]))
      refine lv_iload_n hx hb dX12_findMay_2 rfl (lv_at hl 1 rfl) ?_
      refine lv_aload_n hx hb dX12_findMay_3 rfl (lv_at hl 0 rfl) ?_
      obtain ⟨x58, e58⟩ : ∃ y : Int32, y = gi_2 h0 27 := ⟨_, rfl⟩
      refine th_get (ci := 11) (v := .int x58) (T := TX12) (C := RX12) (N := 38) hx hb hts (fun w h => List.mem_cons_of_mem _ (List.mem_append_right _ h)) hown hK hH t_h0 (th_nz rfl) (thE_12 _ _ _) rfl 27 (th_ltN rfl) (hts (.fieldLink RX12 200 "BayMooringsModel" "some" "I") (List.mem_cons_of_mem _ (List.mem_append_left _ (List.mem_append_left _ (List.mem_of_getElem? (i := 0) rfl))))) (fun _ h9 => h9) (th_fI e58 rfl) dX12_findMay_4 ?_
      have f58 : rg 0 5 x58 := rg_e e58 ((thI_12 hH t_h0).2.2.2.2.2.2.2.2.2.2.2.2.2.2.2.2.2.2.2.2.2.2.2.2.1)
      refine lv_icmp_ge (tgt := 82) hx hb dX12_findMay_7 (th_eqI rfl) (fun c59 => ?_) (fun c59 => ?_)
      · skip
        refine lv_iconst (v := 0) hx hb dX12_findMay_82 ic_0 ?_
        refine lv_istore_n (i := 1) (lv' := [(1, .int 0), (0, .ref h0)]) hx hb dX12_findMay_83 rfl hl (th_ltN rfl) rfl (fun ls hl => ?_)
        exact J84 _ gi_2 _ _ _ 0 x58 (Nat.lt_add_one _) hH hS hM (lv_sub hl [1, 0] rfl) (rg_w rgc_0 (th_leI rfl) (th_leI rfl)) e58 f58 (hF.trans (by simp only [↓reduceIte, f_X12_findMay_2, ← e58, eq_true c59]))
      · skip
        have f60 : rg 1 5 x58 := rg_w (rg_nle f58 fy2_1 c59).1 (th_leI rfl) (th_leI rfl)
        have f61 : rg 0 4 y2_1 := rg_w (rg_nle f58 fy2_1 c59).2 (th_leI rfl) (th_leI rfl)
        refine lv_aload_n hx hb dX12_findMay_10 rfl (lv_at hl 0 rfl) ?_
        obtain ⟨q62, r62, t62⟩ : ∃ q, gr h0 29 = some q ∧ τ q = 61 := (thI_12 hH t_h0).2.2.2.2.2.2.2.2.2.2.2.2.2.2.2.2.2.2.2.2.2.2.2.2.2.2.1
        refine th_get (ci := 11) (v := .ref q62) (T := TX12) (C := RX12) (N := 38) hx hb hts (fun w h => List.mem_cons_of_mem _ (List.mem_append_right _ h)) hown hK hH t_h0 (th_nz rfl) (thE_12 _ _ _) rfl 29 (th_ltN rfl) (hts (.fieldLink RX12 83 "BayMooringsModel" "may" "[I") (List.mem_cons_of_mem _ (List.mem_append_left _ (List.mem_append_left _ (List.mem_of_getElem? (i := 1) rfl))))) (fun _ h9 => h9) (th_fR r62 rfl) dX12_findMay_11 ?_
        refine lv_iload_n hx hb dX12_findMay_14 rfl (lv_at hl 1 rfl) ?_
        refine lv_iconst (v := 0) hx hb dX12_findMay_15 ic_0 ?_
        refine th_iast hx hb hK hH hS t62 (th_nz rfl) (Or.inl (th_nzE t62 rfl)) 0 (fun _ => thE_61 _ _ _) rfl (rg_in (n := 5) f61 (th_leI rfl) (th_ltI rfl)) (trivial) dX12_findMay_16 (fun gi63 H locs hu63 ho63 hH hS => ?_)
        have eg63 : gi63 = va_up gi_2 q62 (upd (gi_2 q62) y2_1.toNatClampNeg 0) := th_upE hu63 ho63
        have e64 : x58 = gi63 h0 27 := Eq.trans e58 (Eq.symm (ho63 _ _ (Or.inl (th_ne t_h0 t62 (th_nz rfl)))))
        have hM := hM.i t62 (th_mem (a := 6100) rfl) ho63
        refine lv_iconst (v := 0) hx hb dX12_findMay_17 ic_0 ?_
        refine lv_istore_n (i := 2) (lv' := [(2, .int 0), (0, .ref h0), (1, .int y2_1)]) hx hb dX12_findMay_18 rfl hl (th_ltN rfl) rfl (fun ls hl => ?_)
        exact J19 _ gi63 _ _ _ 0 x58 (Nat.lt_add_one _) hH hS hM (lv_sub hl [1, 2, 0] rfl) f61 (rg_w rgc_0 (th_leI rfl) (th_leI rfl)) e64 f60 (hF.trans (by simp only [↓reduceIte, f_X12_findMay_2, ← e58, eq_false c59, r62, Option.getD_some, ← eg63]))
  have hS : va_S (th_A τ s.heap.size) s.heap s.heap [] := va_S.rf
  have hl := lv_entry ([.ref h0]) (n := 4) (Nat.le_of_ble_eq_true rfl)
  rw [lg_entry_eq]
  generalize (lg_sl ([.ref h0]) ++ List.replicate (4 - (lg_sl ([.ref h0])).length) Slot.unset).toArray = ls at hl ⊢
  have hl : lv_has ls 4 [(0, .ref h0)] := hl
  have hF : F_X12_findMay τ Z gi gr h0 = F_X12_findMay τ Z gi gr h0 := rfl
  refine lv_iconst (v := 0) hx hb dX12_findMay_0 ic_0 ?_
  refine lv_istore_n (i := 1) (lv' := [(1, .int 0), (0, .ref h0)]) hx hb dX12_findMay_1 rfl hl (th_ltN rfl) rfl (fun ls hl => ?_)
  exact J2 _ gi _ _ _ 0 (Nat.lt_add_one _) hH hS hM (lv_sub hl [1, 0] rfl) (rg_w rgc_0 (th_leI rfl) (th_leI rfl)) (hF.trans (by simp only [F_X12_findMay]))

noncomputable def f_X12_canHave_79 (τ : th_t) (Z : th_Zt) (gi : th_i) (gr : th_r) (h0 : Nat) (p1 : Int32) (p2 : Int32) (y23_3 : Int32) (y23_4 : Int32) (k_23 : Int32 → Int32 → Int32) (z79_0 : Int32) : Int32 :=
  let x1 : Int32 := y23_4 + 1
  k_23 z79_0 x1
noncomputable def f_X12_canHave_74 (τ : th_t) (Z : th_Zt) (gi : th_i) (gr : th_r) (h0 : Nat) (p1 : Int32) (p2 : Int32) (y23_3 : Int32) (y23_4 : Int32) (k_23 : Int32 → Int32 → Int32) : Int32 :=
  f_X12_canHave_79 τ Z gi gr h0 p1 p2 y23_3 y23_4 k_23 1
noncomputable def f_X12_canHave_23 (τ : th_t) (Z : th_Zt) (gi : th_i) (gr : th_r) (h0 : Nat) (p1 : Int32) (p2 : Int32) : Nat → Int32 → Int32 → Int32
  | 0, y23_3, y23_4 => 0
  | n23 + 1, y23_3, y23_4 =>
    if p1 ≤ y23_4 then (
      y23_3) else (
      if y23_3 = (0 : Int32) then (
        y23_3) else (
        let q8 : Nat := (gr h0 30).getD 0
        let x9 : Int32 := gi q8 y23_4.toNatClampNeg
        if x9 = (12 : Int32) then (
          f_X12_canHave_74 τ Z gi gr h0 p1 p2 y23_3 y23_4 (f_X12_canHave_23 τ Z gi gr h0 p1 p2 n23) ) else (
          let q12 : Nat := (gr h0 32).getD 0
          let x13 : Int32 := 12 * p1
          let x14 : Int32 := x13 + p2
          let x15 : Int32 := 5 * x14
          let x16 : Int32 := x15 + y23_4
          let x17 : Int32 := gi q12 x16.toNatClampNeg
          let x20 : Int32 := x17 >>> (x9 &&& 31)
          let x21 : Int32 := x20 &&& 1
          if x21 = (0 : Int32) then (
            f_X12_canHave_74 τ Z gi gr h0 p1 p2 y23_3 y23_4 (f_X12_canHave_23 τ Z gi gr h0 p1 p2 n23) ) else (
            f_X12_canHave_79 τ Z gi gr h0 p1 p2 y23_3 y23_4 (f_X12_canHave_23 τ Z gi gr h0 p1 p2 n23) 0))))
noncomputable def f_X12_canHave_19 (τ : th_t) (Z : th_Zt) (gi : th_i) (gr : th_r) (h0 : Nat) (p1 : Int32) (p2 : Int32) (z19_0 : Int32) : Int32 :=
  f_X12_canHave_23 τ Z gi gr h0 p1 p2 ((4 - (0 : Int32).toInt).toNat + 1) z19_0 0
noncomputable def F_X12_canHave (τ : th_t) (Z : th_Zt) (gi : th_i) (gr : th_r) (h0 : Nat) (p1 : Int32) (p2 : Int32) : Int32 :=
  let q25 : Nat := (gr h0 29).getD 0
  let x26 : Int32 := gi q25 p1.toNatClampNeg
  let x27 : Int32 := x26 >>> (p2 &&& 31)
  let x28 : Int32 := x27 &&& 1
  if x28 = (1 : Int32) then (
    f_X12_canHave_19 τ Z gi gr h0 p1 p2 1) else (
    f_X12_canHave_19 τ Z gi gr h0 p1 p2 0)
set_option maxHeartbeats 8000000 in
set_option maxRecDepth 100000 in
theorem k_X12_canHave (l : Launch) (D : va_G) (cA : Nat → ClassId) (Z : th_Zt) (τ : th_t) (gi : th_i) (gr : th_r) (sz : Nat) (h0 : Nat) (t_h0 : τ h0 = 12) (p1 : Int32) (f_p1 : rg 0 4 p1) (p2 : Int32) (f_p2 : rg 0 11 p2) : Met l yX12_canHave wsX12_canHave ({ frames := 0, cells := 0, slots := 0, locals := 0 }) (va_Pc [.ref h0, .int p1, .int p2] (th_Pre D cA Z τ gi gr sz)) (va_Qi (fun (r : Int32) (_ : Unit) => rg 0 1 r ∧ (F_X12_canHave τ Z gi gr h0 p1 p2 = r)) (fun (_ : Unit) t => th_H D cA τ gi gr t.heap) (th_A τ sz)) 0 0 (th_A τ sz) := by
  refine Met.ofW (cc := cX12_canHave) (maxL := 5) (ret := (some .boolean)) (by decide) rfl ?_
  intro p e s m args below meth c s₁ B hml hv
  obtain ⟨rfl, hsz, hH, hK, hN, hZ⟩ := hv
  have hx := B.exec
  have hb := B.bytes
  have hr := B.returns
  have hts := atoms_spec (ws := wsX12_canHave) B.pre
  have hown : s.vm.findClass RX12 = some m.cls := findClass_of_methodNamed B.named
  have hlocks := B.notSynchronized
  subst hsz
  have J23 : ∀ (n23 : Nat) (H : Heap) (locs : List Loc) (ls : Array Slot) (y23_3 : Int32) (y23_4 : Int32), (4 - y23_4.toInt).toNat < n23 → th_H D cA τ gi gr H → va_S (th_A τ s.heap.size) s.heap H locs → lv_has ls 5 [(0, .ref h0), (1, .int p1), (2, .int p2), (3, .int y23_3), (4, .int y23_4)] → rg 0 4 p1 → rg 0 11 p2 → rg 0 1 y23_3 → rg 0 4 y23_4 → F_X12_canHave τ Z gi gr h0 p1 p2 = f_X12_canHave_23 τ Z gi gr h0 p1 p2 n23 y23_3 y23_4 → W p l e (headSpec wsX12_canHave ({ frames := 0, cells := 0, slots := 0, locals := 0 })).room s m [.ref h0, .int p1, .int p2].toArray below meth c H locs 0 0 (MQ below (va_Qi (fun (r : Int32) (_ : Unit) => rg 0 1 r ∧ (F_X12_canHave τ Z gi gr h0 p1 p2 = r)) (fun (_ : Unit) t => th_H D cA τ gi gr t.heap) (th_A τ s.heap.size)) [.ref h0, .int p1, .int p2].toArray s 0 0 (th_A τ s.heap.size)) (F0 m 23 ls []) := by
    intro n23
    induction n23 with
    | zero =>
      intro H locs ls y23_3 y23_4 hn
      exact absurd hn (Nat.not_lt_zero _)
    | succ n23 ih23 =>
      intro H locs ls y23_3 y23_4 hn23 hH hS hl fy23_1 fy23_2 fy23_3 fy23_4 hF
      have J79 : ∀ (H : Heap) (locs : List Loc) (ls : Array Slot) (z79_0 : Int32), th_H D cA τ gi gr H → va_S (th_A τ s.heap.size) s.heap H locs → lv_has ls 5 [(0, .ref h0), (1, .int p1), (2, .int p2), (4, .int y23_4)] → rg 1 4 p1 → rg 0 11 p2 → rg 0 3 y23_4 → rg 0 1 z79_0 → F_X12_canHave τ Z gi gr h0 p1 p2 = f_X12_canHave_79 τ Z gi gr h0 p1 p2 y23_3 y23_4 (f_X12_canHave_23 τ Z gi gr h0 p1 p2 n23) z79_0 → W p l e (headSpec wsX12_canHave ({ frames := 0, cells := 0, slots := 0, locals := 0 })).room s m [.ref h0, .int p1, .int p2].toArray below meth c H locs 0 0 (MQ below (va_Qi (fun (r : Int32) (_ : Unit) => rg 0 1 r ∧ (F_X12_canHave τ Z gi gr h0 p1 p2 = r)) (fun (_ : Unit) t => th_H D cA τ gi gr t.heap) (th_A τ s.heap.size)) [.ref h0, .int p1, .int p2].toArray s 0 0 (th_A τ s.heap.size)) (F0 m 79 ls [.int z79_0]) := by
        intro H locs ls z79_0 hH hS hl fy79_1 fy79_2 fy79_4 fz79_0 hF
        refine lv_istore_n (i := 3) (lv' := [(3, .int z79_0), (0, .ref h0), (1, .int p1), (2, .int p2), (4, .int y23_4)]) hx hb dX12_canHave_79 rfl hl (th_ltN rfl) rfl (fun ls hl => ?_)
        obtain ⟨x1, e1⟩ : ∃ y : Int32, y = y23_4 + 1 := ⟨_, rfl⟩
        have f1 : rg 1 4 x1 := rg_e e1 (rg_w (rg_add fy79_4 rgc_1 (th_leI rfl) (th_leI rfl)) (th_leI rfl) (th_leI rfl))
        refine lv_iinc (v := x1) (lv' := [(4, .int x1), (3, .int z79_0), (0, .ref h0), (1, .int p1), (2, .int p2)]) hx hb dX12_canHave_80 hl (k := 4) rfl (by rw [e1]; rfl) (th_ltN rfl) rfl (fun ls hl => ?_)
        refine lv_goto (tgt := 23) hx hb dX12_canHave_83 (th_eqI rfl) ?_
        exact ih23 _ _ _ z79_0 x1 (th_up (rg_dA e1 fy79_4 rgc_1 (th_leI rfl) (th_leI rfl)) fy79_4 hn23 (th_ltI rfl)) hH hS (lv_sub hl [2, 3, 4, 1, 0] rfl) (rg_w fy79_1 (th_leI rfl) (th_leI rfl)) fy79_2 fz79_0 (rg_w f1 (th_leI rfl) (th_leI rfl)) (hF.trans (by simp only [f_X12_canHave_79, ← e1]))
      have J74 : ∀ (H : Heap) (locs : List Loc) (ls : Array Slot), th_H D cA τ gi gr H → va_S (th_A τ s.heap.size) s.heap H locs → lv_has ls 5 [(0, .ref h0), (1, .int p1), (2, .int p2), (4, .int y23_4)] → rg 1 4 p1 → rg 0 11 p2 → rg 0 3 y23_4 → F_X12_canHave τ Z gi gr h0 p1 p2 = f_X12_canHave_74 τ Z gi gr h0 p1 p2 y23_3 y23_4 (f_X12_canHave_23 τ Z gi gr h0 p1 p2 n23) → W p l e (headSpec wsX12_canHave ({ frames := 0, cells := 0, slots := 0, locals := 0 })).room s m [.ref h0, .int p1, .int p2].toArray below meth c H locs 0 0 (MQ below (va_Qi (fun (r : Int32) (_ : Unit) => rg 0 1 r ∧ (F_X12_canHave τ Z gi gr h0 p1 p2 = r)) (fun (_ : Unit) t => th_H D cA τ gi gr t.heap) (th_A τ s.heap.size)) [.ref h0, .int p1, .int p2].toArray s 0 0 (th_A τ s.heap.size)) (F0 m 74 ls []) := by
        intro H locs ls hH hS hl fy74_1 fy74_2 fy74_4 hF
        refine lv_iconst (v := 1) hx hb dX12_canHave_74 ic_1 ?_
        refine lv_goto (tgt := 79) hx hb dX12_canHave_75 (th_eqI rfl) ?_
        exact J79 _ _ _ 1 hH hS (lv_sub hl [0, 1, 2, 3] rfl) fy74_1 fy74_2 fy74_4 (rg_w rgc_1 (th_leI rfl) (th_leI rfl)) (hF.trans (by simp only [f_X12_canHave_74]))
      refine lv_iload hx hb dX12_canHave_23 (lv_at hl 4 rfl) ?_
      refine lv_iload_n hx hb dX12_canHave_25 rfl (lv_at hl 1 rfl) ?_
      refine lv_icmp_ge (tgt := 86) hx hb dX12_canHave_26 (th_eqI rfl) (fun c2 => ?_) (fun c2 => ?_)
      · skip
        refine lv_iload_n hx hb dX12_canHave_86 rfl (lv_at hl 3 rfl) ?_
        exact W.zret (v := y23_3) hx hb hr (rg_nb fy23_3) (fun t ht hW => ⟨⟨y23_3, (), rfl, ⟨fy23_3, (hF.trans (by simp only [↓reduceIte, f_X12_canHave_23, eq_true c2]))⟩, th_Ht ht hH⟩, hS.F ht⟩) hS.2.2 dX12_canHave_87
      · skip
        have f3 : rg 1 4 p1 := rg_w (rg_nle fy23_1 fy23_4 c2).1 (th_leI rfl) (th_leI rfl)
        have f4 : rg 0 3 y23_4 := rg_w (rg_nle fy23_1 fy23_4 c2).2 (th_leI rfl) (th_leI rfl)
        refine lv_iload_n hx hb dX12_canHave_29 rfl (lv_at hl 3 rfl) ?_
        refine lv_if_eq (tgt := 86) hx hb dX12_canHave_30 (th_eqI rfl) (fun c5 => ?_) (fun c5 => ?_)
        · skip
          have f6 : rg 0 0 y23_3 := rg_w (rg_eq fy23_3 rgc_0 c5).1 (th_leI rfl) (th_leI rfl)
          refine lv_iload_n hx hb dX12_canHave_86 rfl (lv_at hl 3 rfl) ?_
          exact W.zret (v := y23_3) hx hb hr (rg_nb (rg_w f6 (th_leI rfl) (th_leI rfl))) (fun t ht hW => ⟨⟨y23_3, (), rfl, ⟨(rg_w f6 (th_leI rfl) (th_leI rfl)), (hF.trans (by simp only [↓reduceIte, f_X12_canHave_23, eq_false c2, eq_true c5]))⟩, th_Ht ht hH⟩, hS.F ht⟩) hS.2.2 dX12_canHave_87
        · skip
          have f7 : rg 1 1 y23_3 := rg_w (rg_neL fy23_3 rgc_0 c5) (th_leI rfl) (th_leI rfl)
          refine lv_aload_n hx hb dX12_canHave_33 rfl (lv_at hl 0 rfl) ?_
          obtain ⟨q8, r8, t8⟩ : ∃ q, gr h0 30 = some q ∧ τ q = 62 := (thI_12 hH t_h0).2.2.2.2.2.2.2.2.2.2.2.2.2.2.2.2.2.2.2.2.2.2.2.2.2.2.2.1
          refine th_get (ci := 11) (v := .ref q8) (T := TX12) (C := RX12) (N := 38) hx hb hts (fun w h => List.mem_cons_of_mem _ (List.mem_append_right _ h)) hown hK hH t_h0 (th_nz rfl) (thE_12 _ _ _) rfl 30 (th_ltN rfl) (hts (.fieldLink RX12 86 "BayMooringsModel" "tried" "[I") (List.mem_cons_of_mem _ (List.mem_append_left _ (List.mem_of_getElem? (i := 1) rfl)))) (fun _ h9 => h9) (th_fR r8 rfl) dX12_canHave_34 ?_
          refine lv_iload hx hb dX12_canHave_37 (lv_at hl 4 rfl) ?_
          refine th_iald hx hb hK hH t8 (th_nz rfl) 0 (thE_62 _ _ _) rfl (rg_in (n := 6) f4 (th_leI rfl) (th_ltI rfl)) dX12_canHave_39 ?_
          refine lv_topi (fun x9 e9 => ?_)
          have f9 : rg (-1) 13 x9 := rg_e e9 ((thI_62 hH t8) _ (rg_cl (n := 6) f4 (th_leI rfl) (th_ltI rfl)))
          refine lv_bipush (v := 12) hx hb dX12_canHave_40 bp_12 ?_
          refine lv_icmp_eq (tgt := 74) hx hb dX12_canHave_42 (th_eqI rfl) (fun c10 => ?_) (fun c10 => ?_)
          · skip
            have f11 : rg 12 12 x9 := rg_w (rg_eq f9 rgc_12 c10).1 (th_leI rfl) (th_leI rfl)
            exact J74 _ _ _ hH hS (lv_sub hl [0, 1, 2, 4] rfl) f3 fy23_2 f4 (hF.trans (by simp only [↓reduceIte, f_X12_canHave_23, eq_false c2, eq_false c5, r8, Option.getD_some, ← e9, eq_true c10]))
          · skip
            refine lv_aload_n hx hb dX12_canHave_45 rfl (lv_at hl 0 rfl) ?_
            obtain ⟨q12, r12, t12⟩ : ∃ q, gr h0 32 = some q ∧ τ q = 64 := (thI_12 hH t_h0).2.2.2.2.2.2.2.2.2.2.2.2.2.2.2.2.2.2.2.2.2.2.2.2.2.2.2.2.2.1
            refine th_get (ci := 11) (v := .ref q12) (T := TX12) (C := RX12) (N := 38) hx hb hts (fun w h => List.mem_cons_of_mem _ (List.mem_append_right _ h)) hown hK hH t_h0 (th_nz rfl) (thE_12 _ _ _) rfl 32 (th_ltN rfl) (hts (.fieldLink RX12 92 "BayMooringsModel" "touching" "[I") (List.mem_cons_of_mem _ (List.mem_append_left _ (List.mem_of_getElem? (i := 2) rfl)))) (fun _ h9 => h9) (th_fR r12 rfl) dX12_canHave_46 ?_
            refine lv_iconst (v := 5) hx hb dX12_canHave_49 ic_5 ?_
            refine lv_bipush (v := 12) hx hb dX12_canHave_50 bp_12 ?_
            refine lv_iload_n hx hb dX12_canHave_52 rfl (lv_at hl 1 rfl) ?_
            refine lv_imul hx hb dX12_canHave_53 ?_
            refine lv_topi (fun x13 e13 => ?_)
            have f13 : rg 12 48 x13 := rg_e e13 (rg_w (rg_mul rgc_12 f3 (th_leI rfl) (th_leI rfl) (th_leI rfl)) (th_leI rfl) (th_leI rfl))
            refine lv_iload_n hx hb dX12_canHave_54 rfl (lv_at hl 2 rfl) ?_
            refine lv_iadd hx hb dX12_canHave_55 ?_
            refine lv_topi (fun x14 e14 => ?_)
            have f14 : rg 12 59 x14 := rg_e e14 (rg_w (rg_add f13 fy23_2 (th_leI rfl) (th_leI rfl)) (th_leI rfl) (th_leI rfl))
            refine lv_imul hx hb dX12_canHave_56 ?_
            refine lv_topi (fun x15 e15 => ?_)
            have f15 : rg 60 295 x15 := rg_e e15 (rg_w (rg_mul rgc_5 f14 (th_leI rfl) (th_leI rfl) (th_leI rfl)) (th_leI rfl) (th_leI rfl))
            refine lv_iload hx hb dX12_canHave_57 (lv_at hl 4 rfl) ?_
            refine lv_iadd hx hb dX12_canHave_59 ?_
            refine lv_topi (fun x16 e16 => ?_)
            have f16 : rg 60 298 x16 := rg_e e16 (rg_w (rg_add f15 f4 (th_leI rfl) (th_leI rfl)) (th_leI rfl) (th_leI rfl))
            refine th_iald hx hb hK hH t12 (th_nz rfl) 0 (thE_64 _ _ _) rfl (rg_in (n := 300) f16 (th_leI rfl) (th_ltI rfl)) dX12_canHave_60 ?_
            refine lv_topi (fun x17 e17 => ?_)
            refine lv_aload_n hx hb dX12_canHave_61 rfl (lv_at hl 0 rfl) ?_
            refine th_get (ci := 11) (v := .ref q8) (T := TX12) (C := RX12) (N := 38) hx hb hts (fun w h => List.mem_cons_of_mem _ (List.mem_append_right _ h)) hown hK hH t_h0 (th_nz rfl) (thE_12 _ _ _) rfl 30 (th_ltN rfl) (hts (.fieldLink RX12 86 "BayMooringsModel" "tried" "[I") (List.mem_cons_of_mem _ (List.mem_append_left _ (List.mem_of_getElem? (i := 1) rfl)))) (fun _ h9 => h9) (th_fR r8 rfl) dX12_canHave_62 ?_
            refine lv_iload hx hb dX12_canHave_65 (lv_at hl 4 rfl) ?_
            refine th_iald hx hb hK hH t8 (th_nz rfl) 0 (thE_62 _ _ _) rfl (rg_in (n := 6) f4 (th_leI rfl) (th_ltI rfl)) dX12_canHave_67 ?_
            rw [← e9]
            refine lv_ishr hx hb dX12_canHave_68 ?_
            refine lv_topi (fun x20 e20 => ?_)
            refine lv_iconst (v := 1) hx hb dX12_canHave_69 ic_1 ?_
            refine lv_iand hx hb dX12_canHave_70 ?_
            refine lv_topi (fun x21 e21 => ?_)
            have f21 : rg 0 1 x21 := rg_e e21 (rg_and 1 (by decide) (th_leN rfl) (th_eqI rfl))
            refine lv_if_ne (tgt := 78) hx hb dX12_canHave_71 (th_eqI rfl) (fun c22 => ?_) (fun c22 => ?_)
            · skip
              have f23 : rg 1 1 x21 := rg_w (rg_neL f21 rgc_0 c22) (th_leI rfl) (th_leI rfl)
              refine lv_iconst (v := 0) hx hb dX12_canHave_78 ic_0 ?_
              exact J79 _ _ _ 0 hH hS (lv_sub hl [0, 1, 2, 4] rfl) f3 fy23_2 f4 (rg_w rgc_0 (th_leI rfl) (th_leI rfl)) (hF.trans (by simp only [↓reduceIte, f_X12_canHave_23, eq_false c2, eq_false c5, r8, Option.getD_some, ← e9, eq_false c10, r12, ← e13, ← e14, ← e15, ← e16, ← e17, ← e20, ← e21, eq_false c22]))
            · skip
              have f24 : rg 0 0 x21 := rg_w (rg_eq f21 rgc_0 c22).1 (th_leI rfl) (th_leI rfl)
              exact J74 _ _ _ hH hS (lv_sub hl [0, 1, 2, 4] rfl) f3 fy23_2 f4 (hF.trans (by simp only [↓reduceIte, f_X12_canHave_23, eq_false c2, eq_false c5, r8, Option.getD_some, ← e9, eq_false c10, r12, ← e13, ← e14, ← e15, ← e16, ← e17, ← e20, ← e21, eq_true c22]))
  have J19 : ∀ (H : Heap) (locs : List Loc) (ls : Array Slot) (z19_0 : Int32), th_H D cA τ gi gr H → va_S (th_A τ s.heap.size) s.heap H locs → lv_has ls 5 [(0, .ref h0), (1, .int p1), (2, .int p2)] → rg 0 4 p1 → rg 0 11 p2 → rg 0 1 z19_0 → F_X12_canHave τ Z gi gr h0 p1 p2 = f_X12_canHave_19 τ Z gi gr h0 p1 p2 z19_0 → W p l e (headSpec wsX12_canHave ({ frames := 0, cells := 0, slots := 0, locals := 0 })).room s m [.ref h0, .int p1, .int p2].toArray below meth c H locs 0 0 (MQ below (va_Qi (fun (r : Int32) (_ : Unit) => rg 0 1 r ∧ (F_X12_canHave τ Z gi gr h0 p1 p2 = r)) (fun (_ : Unit) t => th_H D cA τ gi gr t.heap) (th_A τ s.heap.size)) [.ref h0, .int p1, .int p2].toArray s 0 0 (th_A τ s.heap.size)) (F0 m 19 ls [.int z19_0]) := by
    intro H locs ls z19_0 hH hS hl fy19_1 fy19_2 fz19_0 hF
    refine lv_istore_n (i := 3) (lv' := [(3, .int z19_0), (0, .ref h0), (1, .int p1), (2, .int p2)]) hx hb dX12_canHave_19 rfl hl (th_ltN rfl) rfl (fun ls hl => ?_)
    refine lv_iconst (v := 0) hx hb dX12_canHave_20 ic_0 ?_
    refine lv_istore (i := 4) (lv' := [(4, .int 0), (3, .int z19_0), (0, .ref h0), (1, .int p1), (2, .int p2)]) hx hb dX12_canHave_21 hl (th_ltN rfl) rfl (fun ls hl => ?_)
    exact J23 _ _ _ _ z19_0 0 (Nat.lt_add_one _) hH hS (lv_sub hl [2, 3, 4, 1, 0] rfl) fy19_1 fy19_2 fz19_0 (rg_w rgc_0 (th_leI rfl) (th_leI rfl)) (hF.trans (by simp only [f_X12_canHave_19]))
  have hS : va_S (th_A τ s.heap.size) s.heap s.heap [] := va_S.rf
  have hl := lv_entry ([.ref h0, .int p1, .int p2]) (n := 5) (Nat.le_of_ble_eq_true rfl)
  rw [lg_entry_eq]
  generalize (lg_sl ([.ref h0, .int p1, .int p2]) ++ List.replicate (5 - (lg_sl ([.ref h0, .int p1, .int p2])).length) Slot.unset).toArray = ls at hl ⊢
  have hl : lv_has ls 5 [(0, .ref h0), (1, .int p1), (2, .int p2)] := hl
  have hF : F_X12_canHave τ Z gi gr h0 p1 p2 = F_X12_canHave τ Z gi gr h0 p1 p2 := rfl
  refine lv_aload_n hx hb dX12_canHave_0 rfl (lv_at hl 0 rfl) ?_
  obtain ⟨q25, r25, t25⟩ : ∃ q, gr h0 29 = some q ∧ τ q = 61 := (thI_12 hH t_h0).2.2.2.2.2.2.2.2.2.2.2.2.2.2.2.2.2.2.2.2.2.2.2.2.2.2.1
  refine th_get (ci := 11) (v := .ref q25) (T := TX12) (C := RX12) (N := 38) hx hb hts (fun w h => List.mem_cons_of_mem _ (List.mem_append_right _ h)) hown hK hH t_h0 (th_nz rfl) (thE_12 _ _ _) rfl 29 (th_ltN rfl) (hts (.fieldLink RX12 83 "BayMooringsModel" "may" "[I") (List.mem_cons_of_mem _ (List.mem_append_left _ (List.mem_of_getElem? (i := 0) rfl)))) (fun _ h9 => h9) (th_fR r25 rfl) dX12_canHave_1 ?_
  refine lv_iload_n hx hb dX12_canHave_4 rfl (lv_at hl 1 rfl) ?_
  refine th_iald hx hb hK hH t25 (th_nz rfl) 0 (thE_61 _ _ _) rfl (rg_in (n := 5) f_p1 (th_leI rfl) (th_ltI rfl)) dX12_canHave_5 ?_
  refine lv_topi (fun x26 e26 => ?_)
  refine lv_iload_n hx hb dX12_canHave_6 rfl (lv_at hl 2 rfl) ?_
  refine lv_ishr hx hb dX12_canHave_7 ?_
  refine lv_topi (fun x27 e27 => ?_)
  refine lv_iconst (v := 1) hx hb dX12_canHave_8 ic_1 ?_
  refine lv_iand hx hb dX12_canHave_9 ?_
  refine lv_topi (fun x28 e28 => ?_)
  have f28 : rg 0 1 x28 := rg_e e28 (rg_and 1 (by decide) (th_leN rfl) (th_eqI rfl))
  refine lv_iconst (v := 1) hx hb dX12_canHave_10 ic_1 ?_
  refine lv_icmp_ne (tgt := 18) hx hb dX12_canHave_11 (th_eqI rfl) (fun c29 => ?_) (fun c29 => ?_)
  · skip
    have f30 : rg 0 0 x28 := rg_w (rg_neR f28 rgc_1 c29) (th_leI rfl) (th_leI rfl)
    refine lv_iconst (v := 0) hx hb dX12_canHave_18 ic_0 ?_
    exact J19 _ _ _ 0 hH hS (lv_sub hl [0, 1, 2] rfl) f_p1 f_p2 (rg_w rgc_0 (th_leI rfl) (th_leI rfl)) (hF.trans (by simp only [↓reduceIte, F_X12_canHave, r25, Option.getD_some, ← e26, ← e27, ← e28, eq_false c29]))
  · skip
    have f31 : rg 1 1 x28 := rg_w (rg_eq f28 rgc_1 c29).1 (th_leI rfl) (th_leI rfl)
    refine lv_iconst (v := 1) hx hb dX12_canHave_14 ic_1 ?_
    refine lv_goto (tgt := 19) hx hb dX12_canHave_15 (th_eqI rfl) ?_
    exact J19 _ _ _ 1 hH hS (lv_sub hl [0, 1, 2] rfl) f_p1 f_p2 (rg_w rgc_1 (th_leI rfl) (th_leI rfl)) (hF.trans (by simp only [↓reduceIte, F_X12_canHave, r25, Option.getD_some, ← e26, ← e27, ← e28, eq_true c29]))

noncomputable def f_X12_findMost_84 (τ : th_t) (Z : th_Zt) (gi : th_i) (gr : th_r) (h0 : Nat) (gi_16 : th_i) (y16_1 : Int32) (y16_2 : Int32) (k_16 : th_i → Int32 → Int32 → th_i) (gi_84 : th_i) : th_i :=
  let w84_0 : Int32 := gi_84 h0 27
  let w84_1 : Int32 := gi_84 h0 33
  let x53 : Int32 := y16_1 + (-1)
  k_16 gi_84 x53 y16_2
noncomputable def f_X12_findMost_77 (τ : th_t) (Z : th_Zt) (gi : th_i) (gr : th_r) (h0 : Nat) (gi_16 : th_i) (y16_1 : Int32) (y16_2 : Int32) (gi_43 : th_i) (y43_3 : Int32) (k_16 : th_i → Int32 → Int32 → th_i) (k_43 : th_i → Int32 → th_i) (gi_77 : th_i) (z77_0 : Nat) (z77_2 : Int32) : th_i :=
  let w77_0 : Int32 := gi_77 h0 27
  let w77_1 : Int32 := gi_77 h0 33
  let gi54 : th_i := va_up gi_77 z77_0 (upd (gi_77 z77_0) y43_3.toNatClampNeg z77_2)
  let x57 : Int32 := y43_3 + 1
  k_43 gi54 x57
noncomputable def f_X12_findMost_43 (τ : th_t) (Z : th_Zt) (gi : th_i) (gr : th_r) (h0 : Nat) (gi_16 : th_i) (y16_1 : Int32) (y16_2 : Int32) (k_16 : th_i → Int32 → Int32 → th_i) : Nat → th_i → Int32 → th_i
  | 0, gi_43, y43_3 => (gi_43)
  | n43 + 1, gi_43, y43_3 =>
    let w43_0 : Int32 := gi_43 h0 27
    let w43_1 : Int32 := gi_43 h0 33
    if w43_0 ≤ y43_3 then (
      f_X12_findMost_84 τ Z gi gr h0 gi_16 y16_1 y16_2 k_16 gi_43) else (
      let q62 : Nat := (gr h0 31).getD 0
      let q63 : Nat := (gr h0 30).getD 0
      let x64 : Int32 := gi_43 q63 y43_3.toNatClampNeg
      if x64 = (12 : Int32) then (
        f_X12_findMost_77 τ Z gi gr h0 gi_16 y16_1 y16_2 gi_43 y43_3 k_16 (f_X12_findMost_43 τ Z gi gr h0 gi_16 y16_1 y16_2 k_16 n43) gi_43 q62 (-1)) else (
        f_X12_findMost_77 τ Z gi gr h0 gi_16 y16_1 y16_2 gi_43 y43_3 k_16 (f_X12_findMost_43 τ Z gi gr h0 gi_16 y16_1 y16_2 k_16 n43) gi_43 q62 x64))
noncomputable def f_X12_findMost_221 (τ : th_t) (Z : th_Zt) (gi : th_i) (gr : th_r) (h0 : Nat) (gi_16 : th_i) (y16_1 : Int32) (y16_2 : Int32) (k_16 : th_i → Int32 → Int32 → th_i) (gi_221 : th_i) (z221_0 : Int32) (z221_1 : Int32) : th_i :=
  let w221_0 : Int32 := gi_221 h0 27
  let w221_1 : Int32 := gi_221 h0 33
  let x1 : Int32 := z221_0 + z221_1
  let x2 : Int32 := y16_1 + 1
  let q3 : Nat := (gr h0 30).getD 0
  let gi4 : th_i := va_up gi_221 q3 (upd (gi_221 q3) x2.toNatClampNeg (-1))
  k_16 gi4 x2 x1
noncomputable def f_X12_findMost_187 (τ : th_t) (Z : th_Zt) (gi : th_i) (gr : th_r) (h0 : Nat) (gi_16 : th_i) (y16_1 : Int32) (y16_2 : Int32) (k_16 : th_i → Int32 → Int32 → th_i) (gi_187 : th_i) (y187_2 : Int32) : th_i :=
  let w187_0 : Int32 := gi_187 h0 27
  let w187_1 : Int32 := gi_187 h0 33
  let q7 : Nat := (gr h0 30).getD 0
  let x8 : Int32 := gi_187 q7 y16_1.toNatClampNeg
  if x8 ≤ (12 : Int32) then (
    if (12 : Int32) ≤ x8 then (
      f_X12_findMost_221 τ Z gi gr h0 gi_16 y16_1 y16_2 k_16 gi_187 y187_2 0) else (
      f_X12_findMost_221 τ Z gi gr h0 gi_16 y16_1 y16_2 k_16 gi_187 y187_2 1)) else (
    let x17 : Int32 := y16_1 + (-1)
    k_16 gi_187 x17 y187_2)
noncomputable def f_X12_findMost_149 (τ : th_t) (Z : th_Zt) (gi : th_i) (gr : th_r) (h0 : Nat) (gi_16 : th_i) (y16_1 : Int32) (y16_2 : Int32) (k_16 : th_i → Int32 → Int32 → th_i) : Nat → th_i → Int32 → th_i
  | 0, gi_149, y149_2 => (gi_149)
  | n149 + 1, gi_149, y149_2 =>
    let w149_0 : Int32 := gi_149 h0 27
    let w149_1 : Int32 := gi_149 h0 33
    let q18 : Nat := (gr h0 30).getD 0
    let x19 : Int32 := gi_149 q18 y16_1.toNatClampNeg
    if (12 : Int32) ≤ x19 then (
      f_X12_findMost_187 τ Z gi gr h0 gi_16 y16_1 y16_2 k_16 gi_149 y149_2) else (
      let x27 : Int32 := F_X12_canHave τ Z gi_149 gr h0 y16_1 x19
      if x27 = (0 : Int32) then (
        let x33 : Int32 := x19 + 1
        let gi34 : th_i := va_up gi_149 q18 (upd (gi_149 q18) y16_1.toNatClampNeg x33)
        (f_X12_findMost_149 τ Z gi gr h0 gi_16 y16_1 y16_2 k_16 n149) gi34 y149_2) else (
        f_X12_findMost_187 τ Z gi gr h0 gi_16 y16_1 y16_2 k_16 gi_149 y149_2))
noncomputable def f_X12_findMost_116 (τ : th_t) (Z : th_Zt) (gi : th_i) (gr : th_r) (h0 : Nat) (gi_16 : th_i) (y16_1 : Int32) (y16_2 : Int32) (k_16 : th_i → Int32 → Int32 → th_i) (gi_116 : th_i) (z116_1 : Int32) : th_i :=
  let w116_0 : Int32 := gi_116 h0 27
  let w116_1 : Int32 := gi_116 h0 33
  let x38 : Int32 := y16_2 - z116_1
  let x40 : Int32 := x38 + w116_0
  let x41 : Int32 := x40 - y16_1
  if w116_1 < x41 then (
    let q44 : Nat := (gr h0 30).getD 0
    let x45 : Int32 := gi_116 q44 y16_1.toNatClampNeg
    let x47 : Int32 := x45 + 1
    let gi48 : th_i := va_up gi_116 q44 (upd (gi_116 q44) y16_1.toNatClampNeg x47)
    f_X12_findMost_149 τ Z gi gr h0 gi_16 y16_1 y16_2 k_16 ((13 - mo_T gi48 gr h0 y16_1.toNatClampNeg).toNat + 1) gi48 x38) else (
    let x52 : Int32 := y16_1 + (-1)
    k_16 gi_116 x52 x38)
noncomputable def f_X12_findMost_115 (τ : th_t) (Z : th_Zt) (gi : th_i) (gr : th_r) (h0 : Nat) (gi_16 : th_i) (y16_1 : Int32) (y16_2 : Int32) (k_16 : th_i → Int32 → Int32 → th_i) (gi_115 : th_i) : th_i :=
  let w115_0 : Int32 := gi_115 h0 27
  let w115_1 : Int32 := gi_115 h0 33
  f_X12_findMost_116 τ Z gi gr h0 gi_16 y16_1 y16_2 k_16 gi_115 0
noncomputable def f_X12_findMost_16 (τ : th_t) (Z : th_Zt) (gi : th_i) (gr : th_r) (h0 : Nat) : Nat → th_i → Int32 → Int32 → th_i
  | 0, gi_16, y16_1, y16_2 => (gi_16)
  | n16 + 1, gi_16, y16_1, y16_2 =>
    let w16_0 : Int32 := gi_16 h0 33
    if y16_1 < (0 : Int32) then (
      (gi_16)) else (
      let x72 : Int32 := gi_16 h0 27
      if y16_1 = x72 then (
        if y16_2 ≤ w16_0 then (
          f_X12_findMost_84 τ Z gi gr h0 gi_16 y16_1 y16_2 (f_X12_findMost_16 τ Z gi gr h0 n16) gi_16) else (
          let gi87 : th_i := va_up gi_16 h0 (upd (gi_16 h0) 33 y16_2)
          f_X12_findMost_43 τ Z gi gr h0 gi_16 y16_1 y16_2 (f_X12_findMost_16 τ Z gi gr h0 n16) ((5 - (0 : Int32).toInt).toNat + 1) gi87 0)) else (
        let q75 : Nat := (gr h0 30).getD 0
        let x76 : Int32 := gi_16 q75 y16_1.toNatClampNeg
        if x76 < (0 : Int32) then (
          f_X12_findMost_115 τ Z gi gr h0 gi_16 y16_1 y16_2 (f_X12_findMost_16 τ Z gi gr h0 n16) gi_16) else (
          if (12 : Int32) ≤ x76 then (
            f_X12_findMost_115 τ Z gi gr h0 gi_16 y16_1 y16_2 (f_X12_findMost_16 τ Z gi gr h0 n16) gi_16) else (
            f_X12_findMost_116 τ Z gi gr h0 gi_16 y16_1 y16_2 (f_X12_findMost_16 τ Z gi gr h0 n16) gi_16 1))))
noncomputable def F_X12_findMost (τ : th_t) (Z : th_Zt) (gi : th_i) (gr : th_r) (h0 : Nat) : th_i :=
  let gi90 : th_i := va_up gi h0 (upd (gi h0) 33 (-1))
  let q91 : Nat := (gr h0 30).getD 0
  let gi92 : th_i := va_up gi90 q91 (upd (gi90 q91) (0 : Int32).toNatClampNeg (-1))
  f_X12_findMost_16 τ Z gi gr h0 (mo_m (mo_T gi92 gr h0) (0 : Int32).toInt + 1) gi92 0 0
set_option maxHeartbeats 8000000 in
set_option maxRecDepth 100000 in
theorem k_X12_findMost (l : Launch) (D : va_G) (cA : Nat → ClassId) (Z : th_Zt) (τ : th_t) (gi : th_i) (gr : th_r) (sz : Nat) (h0 : Nat) (t_h0 : τ h0 = 12) : Met l yX12_findMost wsX12_findMost ({ frames := 1, cells := 0, slots := 0, locals := 24 }) (va_Pc [.ref h0] (th_Pre D cA Z τ gi gr sz)) (va_Qv (fun (u : th_i × th_r) => th_Mod [1233, 6200, 6300] τ gi gr u.1 u.2 ∧ u.2 = gr ∧ (F_X12_findMost τ Z gi gr h0 = u.1)) (fun (u : th_i × th_r) t => th_H D cA τ u.1 u.2 t.heap) (th_A τ sz)) 0 0 (th_A τ sz) := by
  refine Met.ofW (cc := cX12_findMost) (maxL := 4) (ret := none) (by decide) rfl ?_
  intro p e s m args below meth c s₁ B hml hv
  obtain ⟨rfl, hsz, hH, hK, hN, hZ⟩ := hv
  have hx := B.exec
  have hb := B.bytes
  have hr := B.returns
  have hts := atoms_spec (ws := wsX12_findMost) B.pre
  have hown : s.vm.findClass RX12 = some m.cls := findClass_of_methodNamed B.named
  have hlocks := B.notSynchronized
  subst hsz
  have hM : th_Mod [1233, 6200, 6300] τ gi gr gi gr := th_Mod.rf
  have J16 : ∀ (n16 : Nat) (gi_16 : th_i) (H : Heap) (locs : List Loc) (ls : Array Slot) (y16_1 : Int32) (y16_2 : Int32) (w16_0 : Int32), mo_m (mo_T gi_16 gr h0) y16_1.toInt < n16 → th_H D cA τ gi_16 gr H → va_S (th_A τ s.heap.size) s.heap H locs → th_Mod [1233, 6200, 6300] τ gi gr gi_16 gr → lv_has ls 4 [(0, .ref h0), (1, .int y16_1), (2, .int y16_2)] → rg (-1) 5 y16_1 → w16_0 = gi_16 h0 33 → (y16_1.toInt ≤ (gi_16 h0 27).toInt) → (∀ j : Nat, (j : Int) ≤ y16_1.toInt → mo_T gi_16 gr h0 j ≤ 12) → F_X12_findMost τ Z gi gr h0 = f_X12_findMost_16 τ Z gi gr h0 n16 gi_16 y16_1 y16_2 → W p l e (headSpec wsX12_findMost ({ frames := 1, cells := 0, slots := 0, locals := 24 })).room s m [.ref h0].toArray below meth c H locs 0 0 (MQ below (va_Qv (fun (u : th_i × th_r) => th_Mod [1233, 6200, 6300] τ gi gr u.1 u.2 ∧ u.2 = gr ∧ (F_X12_findMost τ Z gi gr h0 = u.1)) (fun (u : th_i × th_r) t => th_H D cA τ u.1 u.2 t.heap) (th_A τ s.heap.size)) [.ref h0].toArray s 0 0 (th_A τ s.heap.size)) (F0 m 16 ls []) := by
    intro n16
    induction n16 with
    | zero =>
      intro gi_16 H locs ls y16_1 y16_2 w16_0 hn
      exact absurd hn (Nat.not_lt_zero _)
    | succ n16 ih16 =>
      intro gi_16 H locs ls y16_1 y16_2 w16_0 hn16 hH hS hM hl fy16_1 ew16_0 im1 im2 hF
      have J221 : ∀ (gi_221 : th_i) (H : Heap) (locs : List Loc) (ls : Array Slot) (z221_0 : Int32) (z221_1 : Int32) (w221_0 : Int32) (w221_1 : Int32), th_H D cA τ gi_221 gr H → va_S (th_A τ s.heap.size) s.heap H locs → th_Mod [1233, 6200, 6300] τ gi gr gi_221 gr → lv_has ls 4 [(0, .ref h0), (1, .int y16_1)] → rg 0 4 y16_1 → rg 0 1 z221_1 → w221_0 = gi_221 h0 27 → rg 0 5 w221_0 → w221_1 = gi_221 h0 33 → (mo_up gi_16 gr gi_221 gr h0 y16_1.toInt) → (y16_1.toInt < (gi_16 h0 27).toInt) → (mo_T gi_221 gr h0 y16_1.toNatClampNeg ≤ 12) → F_X12_findMost τ Z gi gr h0 = f_X12_findMost_221 τ Z gi gr h0 gi_16 y16_1 y16_2 (f_X12_findMost_16 τ Z gi gr h0 n16) gi_221 z221_0 z221_1 → W p l e (headSpec wsX12_findMost ({ frames := 1, cells := 0, slots := 0, locals := 24 })).room s m [.ref h0].toArray below meth c H locs 0 0 (MQ below (va_Qv (fun (u : th_i × th_r) => th_Mod [1233, 6200, 6300] τ gi gr u.1 u.2 ∧ u.2 = gr ∧ (F_X12_findMost τ Z gi gr h0 = u.1)) (fun (u : th_i × th_r) t => th_H D cA τ u.1 u.2 t.heap) (th_A τ s.heap.size)) [.ref h0].toArray s 0 0 (th_A τ s.heap.size)) (F0 m 221 ls [.int z221_1, .int z221_0]) := by
        intro gi_221 H locs ls z221_0 z221_1 w221_0 w221_1 hH hS hM hl fy221_1 fz221_1 ew221_0 fw221_0 ew221_1 imo221 ilt i12 hF
        refine lv_iadd hx hb dX12_findMost_221 ?_
        refine lv_topi (fun x1 e1 => ?_)
        refine lv_istore_n (i := 2) (lv' := [(2, .int x1), (0, .ref h0), (1, .int y16_1)]) hx hb dX12_findMost_222 rfl hl (th_ltN rfl) rfl (fun ls hl => ?_)
        obtain ⟨x2, e2⟩ : ∃ y : Int32, y = y16_1 + 1 := ⟨_, rfl⟩
        have f2 : rg 1 5 x2 := rg_e e2 (rg_w (rg_add fy221_1 rgc_1 (th_leI rfl) (th_leI rfl)) (th_leI rfl) (th_leI rfl))
        refine lv_iinc (v := x2) (lv' := [(1, .int x2), (2, .int x1), (0, .ref h0)]) hx hb dX12_findMost_223 hl (k := 2) rfl (by rw [e2]; rfl) (th_ltN rfl) rfl (fun ls hl => ?_)
        refine lv_aload_n hx hb dX12_findMost_226 rfl (lv_at hl 2 rfl) ?_
        obtain ⟨q3, r3, t3⟩ : ∃ q, gr h0 30 = some q ∧ τ q = 62 := (thI_12 hH t_h0).2.2.2.2.2.2.2.2.2.2.2.2.2.2.2.2.2.2.2.2.2.2.2.2.2.2.2.1
        refine th_get (ci := 11) (v := .ref q3) (T := TX12) (C := RX12) (N := 38) hx hb hts (fun w h => List.mem_cons_of_mem _ (List.mem_append_right _ h)) hown hK hH t_h0 (th_nz rfl) (thE_12 _ _ _) rfl 30 (th_ltN rfl) (hts (.fieldLink RX12 86 "BayMooringsModel" "tried" "[I") (List.mem_cons_of_mem _ (List.mem_append_left _ (List.mem_of_getElem? (i := 1) rfl)))) (fun _ h9 => h9) (th_fR r3 rfl) dX12_findMost_227 ?_
        refine lv_iload_n hx hb dX12_findMost_230 rfl (lv_at hl 0 rfl) ?_
        refine lv_iconst (v := (-1)) hx hb dX12_findMost_231 ic_m1 ?_
        refine th_iast hx hb hK hH hS t3 (th_nz rfl) (Or.inl (th_nzE t3 rfl)) 0 (fun _ => thE_62 _ _ _) rfl (rg_in (n := 6) f2 (th_leI rfl) (th_ltI rfl)) (th_ai (P := rg (-1) 13) (thI_62 hH t3) (rg_w rgc_m1 (th_leI rfl) (th_leI rfl))) dX12_findMost_232 (fun gi4 H locs hu4 ho4 hH hS => ?_)
        have eg4 : gi4 = va_up gi_221 q3 (upd (gi_221 q3) x2.toNatClampNeg (-1)) := th_upE hu4 ho4
        have e5 : w221_0 = gi4 h0 27 := Eq.trans ew221_0 (Eq.symm (ho4 _ _ (Or.inl (th_ne t_h0 t3 (th_nz rfl)))))
        have e6 : w221_1 = gi4 h0 33 := Eq.trans ew221_1 (Eq.symm (ho4 _ _ (Or.inl (th_ne t_h0 t3 (th_nz rfl)))))
        have hM := hM.i t3 (th_mem (a := 6200) rfl) ho4
        refine lv_goto (tgt := 16) hx hb dX12_findMost_233 (th_eqI rfl) ?_
        exact ih16 gi4 _ _ _ x2 x1 w221_1 (mo_f3 fy221_1 (by decide) imo221 i12 r3 (rg_dA e2 fy221_1 rgc_1 (th_leI rfl) (th_leI rfl)) hu4 ho4 hn16) hH hS hM (lv_sub hl [2, 0, 1] rfl) (rg_w f2 (th_leI rfl) (th_leI rfl)) e6 (mo_f1 ilt ((ho4 h0 27 (Or.inl (th_ne t_h0 t3 (by decide)))).trans imo221.1) (rg_dA e2 fy221_1 rgc_1 (th_leI rfl) (th_leI rfl))) (mo_f2 im2 imo221 i12 r3 (fy221_1).1 (rg_dA e2 fy221_1 rgc_1 (th_leI rfl) (th_leI rfl)) hu4 ho4) (hF.trans (by simp only [f_X12_findMost_221, ← ew221_0, ← ew221_1, ← e1, ← e2, r3, Option.getD_some, ← eg4]))
      have J187 : ∀ (gi_187 : th_i) (H : Heap) (locs : List Loc) (ls : Array Slot) (y187_2 : Int32) (w187_0 : Int32) (w187_1 : Int32), th_H D cA τ gi_187 gr H → va_S (th_A τ s.heap.size) s.heap H locs → th_Mod [1233, 6200, 6300] τ gi gr gi_187 gr → lv_has ls 4 [(0, .ref h0), (1, .int y16_1), (2, .int y187_2)] → rg 0 4 y16_1 → w187_0 = gi_187 h0 27 → rg 0 5 w187_0 → w187_1 = gi_187 h0 33 → (mo_up gi_16 gr gi_187 gr h0 y16_1.toInt) → (y16_1.toInt < (gi_16 h0 27).toInt) → F_X12_findMost τ Z gi gr h0 = f_X12_findMost_187 τ Z gi gr h0 gi_16 y16_1 y16_2 (f_X12_findMost_16 τ Z gi gr h0 n16) gi_187 y187_2 → W p l e (headSpec wsX12_findMost ({ frames := 1, cells := 0, slots := 0, locals := 24 })).room s m [.ref h0].toArray below meth c H locs 0 0 (MQ below (va_Qv (fun (u : th_i × th_r) => th_Mod [1233, 6200, 6300] τ gi gr u.1 u.2 ∧ u.2 = gr ∧ (F_X12_findMost τ Z gi gr h0 = u.1)) (fun (u : th_i × th_r) t => th_H D cA τ u.1 u.2 t.heap) (th_A τ s.heap.size)) [.ref h0].toArray s 0 0 (th_A τ s.heap.size)) (F0 m 187 ls []) := by
        intro gi_187 H locs ls y187_2 w187_0 w187_1 hH hS hM hl fy187_1 ew187_0 fw187_0 ew187_1 imo187 ilt hF
        refine lv_aload_n hx hb dX12_findMost_187 rfl (lv_at hl 0 rfl) ?_
        obtain ⟨q7, r7, t7⟩ : ∃ q, gr h0 30 = some q ∧ τ q = 62 := (thI_12 hH t_h0).2.2.2.2.2.2.2.2.2.2.2.2.2.2.2.2.2.2.2.2.2.2.2.2.2.2.2.1
        refine th_get (ci := 11) (v := .ref q7) (T := TX12) (C := RX12) (N := 38) hx hb hts (fun w h => List.mem_cons_of_mem _ (List.mem_append_right _ h)) hown hK hH t_h0 (th_nz rfl) (thE_12 _ _ _) rfl 30 (th_ltN rfl) (hts (.fieldLink RX12 86 "BayMooringsModel" "tried" "[I") (List.mem_cons_of_mem _ (List.mem_append_left _ (List.mem_of_getElem? (i := 1) rfl)))) (fun _ h9 => h9) (th_fR r7 rfl) dX12_findMost_188 ?_
        refine lv_iload_n hx hb dX12_findMost_191 rfl (lv_at hl 1 rfl) ?_
        refine th_iald hx hb hK hH t7 (th_nz rfl) 0 (thE_62 _ _ _) rfl (rg_in (n := 6) fy187_1 (th_leI rfl) (th_ltI rfl)) dX12_findMost_192 ?_
        refine lv_topi (fun x8 e8 => ?_)
        have f8 : rg (-1) 13 x8 := rg_e e8 ((thI_62 hH t7) _ (rg_cl (n := 6) fy187_1 (th_leI rfl) (th_ltI rfl)))
        refine lv_bipush (v := 12) hx hb dX12_findMost_193 bp_12 ?_
        refine lv_icmp_le (tgt := 204) hx hb dX12_findMost_195 (th_eqI rfl) (fun c9 => ?_) (fun c9 => ?_)
        · skip
          have f10 : rg (-1) 12 x8 := rg_w (rg_le f8 rgc_12 c9).1 (th_leI rfl) (th_leI rfl)
          refine lv_iload_n hx hb dX12_findMost_204 rfl (lv_at hl 2 rfl) ?_
          refine lv_aload_n hx hb dX12_findMost_205 rfl (lv_at hl 0 rfl) ?_
          refine th_get (ci := 11) (v := .ref q7) (T := TX12) (C := RX12) (N := 38) hx hb hts (fun w h => List.mem_cons_of_mem _ (List.mem_append_right _ h)) hown hK hH t_h0 (th_nz rfl) (thE_12 _ _ _) rfl 30 (th_ltN rfl) (hts (.fieldLink RX12 86 "BayMooringsModel" "tried" "[I") (List.mem_cons_of_mem _ (List.mem_append_left _ (List.mem_of_getElem? (i := 1) rfl)))) (fun _ h9 => h9) (th_fR r7 rfl) dX12_findMost_206 ?_
          refine lv_iload_n hx hb dX12_findMost_209 rfl (lv_at hl 1 rfl) ?_
          refine th_iald hx hb hK hH t7 (th_nz rfl) 0 (thE_62 _ _ _) rfl (rg_in (n := 6) fy187_1 (th_leI rfl) (th_ltI rfl)) dX12_findMost_210 ?_
          rw [← e8]
          refine lv_bipush (v := 12) hx hb dX12_findMost_211 bp_12 ?_
          refine lv_icmp_ge (tgt := 220) hx hb dX12_findMost_213 (th_eqI rfl) (fun c13 => ?_) (fun c13 => ?_)
          · skip
            have f14 : rg 12 12 x8 := rg_w (rg_le rgc_12 f10 c13).2 (th_leI rfl) (th_leI rfl)
            refine lv_iconst (v := 0) hx hb dX12_findMost_220 ic_0 ?_
            exact J221 gi_187 _ _ _ y187_2 0 w187_0 w187_1 hH hS hM (lv_sub hl [0, 1] rfl) fy187_1 (rg_w rgc_0 (th_leI rfl) (th_leI rfl)) ew187_0 fw187_0 ew187_1 imo187 ilt (by rw [mo_Ti r7, ← e8]; exact (show rg (-1) 12 x8 from (rg_w f14 (th_leI rfl) (th_leI rfl))).2) (hF.trans (by simp only [↓reduceIte, f_X12_findMost_187, ← ew187_0, ← ew187_1, r7, Option.getD_some, ← e8, eq_true c9, eq_true c13]))
          · skip
            have f15 : rg (-1) 11 x8 := rg_w (rg_nle rgc_12 f10 c13).2 (th_leI rfl) (th_leI rfl)
            refine lv_iconst (v := 1) hx hb dX12_findMost_216 ic_1 ?_
            refine lv_goto (tgt := 221) hx hb dX12_findMost_217 (th_eqI rfl) ?_
            exact J221 gi_187 _ _ _ y187_2 1 w187_0 w187_1 hH hS hM (lv_sub hl [0, 1] rfl) fy187_1 (rg_w rgc_1 (th_leI rfl) (th_leI rfl)) ew187_0 fw187_0 ew187_1 imo187 ilt (by rw [mo_Ti r7, ← e8]; exact (show rg (-1) 12 x8 from (rg_w f15 (th_leI rfl) (th_leI rfl))).2) (hF.trans (by simp only [↓reduceIte, f_X12_findMost_187, ← ew187_0, ← ew187_1, r7, Option.getD_some, ← e8, eq_true c9, eq_false c13]))
        · skip
          have f16 : rg 13 13 x8 := rg_w (rg_nle f8 rgc_12 c9).1 (th_leI rfl) (th_leI rfl)
          obtain ⟨x17, e17⟩ : ∃ y : Int32, y = y16_1 + (-1) := ⟨_, rfl⟩
          have f17 : rg (-1) 3 x17 := rg_e e17 (rg_w (rg_add fy187_1 rgc_m1 (th_leI rfl) (th_leI rfl)) (th_leI rfl) (th_leI rfl))
          refine lv_iinc (v := x17) (lv' := [(1, .int x17), (0, .ref h0), (2, .int y187_2)]) hx hb dX12_findMost_198 hl (k := 1) rfl (by rw [e17]; rfl) (th_ltN rfl) rfl (fun ls hl => ?_)
          refine lv_goto (tgt := 16) hx hb dX12_findMost_201 (th_eqI rfl) ?_
          exact ih16 gi_187 _ _ _ x17 y187_2 w187_1 (mo_b3 fy187_1 (by decide) im2 imo187.2.1 (rg_dA e17 fy187_1 rgc_m1 (th_leI rfl) (th_leI rfl)) hn16) hH hS hM (lv_sub hl [1, 0, 2] rfl) (rg_w f17 (th_leI rfl) (th_leI rfl)) ew187_1 (mo_b1 im1 imo187.1 (rg_dA e17 fy187_1 rgc_m1 (th_leI rfl) (th_leI rfl))) (mo_b2 im2 imo187.2.1 (rg_dA e17 fy187_1 rgc_m1 (th_leI rfl) (th_leI rfl))) (hF.trans (by simp only [↓reduceIte, f_X12_findMost_187, ← ew187_0, ← ew187_1, r7, Option.getD_some, ← e8, eq_false c9, ← e17]))
      have J149 : ∀ (n149 : Nat) (gi_149 : th_i) (H : Heap) (locs : List Loc) (ls : Array Slot) (y149_2 : Int32) (w149_0 : Int32) (w149_1 : Int32), (13 - mo_T gi_149 gr h0 y16_1.toNatClampNeg).toNat < n149 → th_H D cA τ gi_149 gr H → va_S (th_A τ s.heap.size) s.heap H locs → th_Mod [1233, 6200, 6300] τ gi gr gi_149 gr → lv_has ls 4 [(0, .ref h0), (1, .int y16_1), (2, .int y149_2)] → rg 0 4 y16_1 → w149_0 = gi_149 h0 27 → rg 0 5 w149_0 → w149_1 = gi_149 h0 33 → (mo_up gi_16 gr gi_149 gr h0 y16_1.toInt) → (y16_1.toInt < (gi_16 h0 27).toInt) → (-1 ≤ mo_T gi_16 gr h0 y16_1.toNatClampNeg) → (0 ≤ mo_T gi_149 gr h0 y16_1.toNatClampNeg) → F_X12_findMost τ Z gi gr h0 = f_X12_findMost_149 τ Z gi gr h0 gi_16 y16_1 y16_2 (f_X12_findMost_16 τ Z gi gr h0 n16) n149 gi_149 y149_2 → W p l e (headSpec wsX12_findMost ({ frames := 1, cells := 0, slots := 0, locals := 24 })).room s m [.ref h0].toArray below meth c H locs 0 0 (MQ below (va_Qv (fun (u : th_i × th_r) => th_Mod [1233, 6200, 6300] τ gi gr u.1 u.2 ∧ u.2 = gr ∧ (F_X12_findMost τ Z gi gr h0 = u.1)) (fun (u : th_i × th_r) t => th_H D cA τ u.1 u.2 t.heap) (th_A τ s.heap.size)) [.ref h0].toArray s 0 0 (th_A τ s.heap.size)) (F0 m 149 ls []) := by
        intro n149
        induction n149 with
        | zero =>
          intro gi_149 H locs ls y149_2 w149_0 w149_1 hn
          exact absurd hn (Nat.not_lt_zero _)
        | succ n149 ih149 =>
          intro gi_149 H locs ls y149_2 w149_0 w149_1 hn149 hH hS hM hl fy149_1 ew149_0 fw149_0 ew149_1 imo149 ilt hlow ilo hF
          refine lv_aload_n hx hb dX12_findMost_149 rfl (lv_at hl 0 rfl) ?_
          obtain ⟨q18, r18, t18⟩ : ∃ q, gr h0 30 = some q ∧ τ q = 62 := (thI_12 hH t_h0).2.2.2.2.2.2.2.2.2.2.2.2.2.2.2.2.2.2.2.2.2.2.2.2.2.2.2.1
          refine th_get (ci := 11) (v := .ref q18) (T := TX12) (C := RX12) (N := 38) hx hb hts (fun w h => List.mem_cons_of_mem _ (List.mem_append_right _ h)) hown hK hH t_h0 (th_nz rfl) (thE_12 _ _ _) rfl 30 (th_ltN rfl) (hts (.fieldLink RX12 86 "BayMooringsModel" "tried" "[I") (List.mem_cons_of_mem _ (List.mem_append_left _ (List.mem_of_getElem? (i := 1) rfl)))) (fun _ h9 => h9) (th_fR r18 rfl) dX12_findMost_150 ?_
          refine lv_iload_n hx hb dX12_findMost_153 rfl (lv_at hl 1 rfl) ?_
          refine th_iald hx hb hK hH t18 (th_nz rfl) 0 (thE_62 _ _ _) rfl (rg_in (n := 6) fy149_1 (th_leI rfl) (th_ltI rfl)) dX12_findMost_154 ?_
          refine lv_topi (fun x19 e19 => ?_)
          have f19 : rg (-1) 13 x19 := rg_e e19 ((thI_62 hH t18) _ (rg_cl (n := 6) fy149_1 (th_leI rfl) (th_ltI rfl)))
          have f20 : rg 0 13 x19 := rg_w (mo_ge r18 e19 ilo f19) (th_leI rfl) (th_leI rfl)
          refine lv_bipush (v := 12) hx hb dX12_findMost_155 bp_12 ?_
          refine lv_icmp_ge (tgt := 187) hx hb dX12_findMost_157 (th_eqI rfl) (fun c21 => ?_) (fun c21 => ?_)
          · skip
            have f22 : rg 12 13 x19 := rg_w (rg_le rgc_12 f20 c21).2 (th_leI rfl) (th_leI rfl)
            exact J187 gi_149 _ _ _ y149_2 w149_0 w149_1 hH hS hM (lv_sub hl [0, 1, 2] rfl) fy149_1 ew149_0 fw149_0 ew149_1 imo149 ilt (hF.trans (by simp only [↓reduceIte, f_X12_findMost_149, ← ew149_0, ← ew149_1, r18, Option.getD_some, ← e19, eq_true c21]))
          · skip
            have f23 : rg 0 11 x19 := rg_w (rg_nle rgc_12 f20 c21).2 (th_leI rfl) (th_leI rfl)
            refine lv_aload_n hx hb dX12_findMost_160 rfl (lv_at hl 0 rfl) ?_
            refine lv_iload_n hx hb dX12_findMost_161 rfl (lv_at hl 1 rfl) ?_
            refine lv_aload_n hx hb dX12_findMost_162 rfl (lv_at hl 0 rfl) ?_
            refine th_get (ci := 11) (v := .ref q18) (T := TX12) (C := RX12) (N := 38) hx hb hts (fun w h => List.mem_cons_of_mem _ (List.mem_append_right _ h)) hown hK hH t_h0 (th_nz rfl) (thE_12 _ _ _) rfl 30 (th_ltN rfl) (hts (.fieldLink RX12 86 "BayMooringsModel" "tried" "[I") (List.mem_cons_of_mem _ (List.mem_append_left _ (List.mem_of_getElem? (i := 1) rfl)))) (fun _ h9 => h9) (th_fR r18 rfl) dX12_findMost_163 ?_
            refine lv_iload_n hx hb dX12_findMost_166 rfl (lv_at hl 1 rfl) ?_
            refine th_iald hx hb hK hH t18 (th_nz rfl) 0 (thE_62 _ _ _) rfl (rg_in (n := 6) fy149_1 (th_leI rfl) (th_ltI rfl)) dX12_findMost_167 ?_
            rw [← e19]
            have hA26 := th_Asub (τ := τ) hS
            refine va_calli (va_runV (As := [.int y16_1, .int x19]) (rest := []) ⟨hx, hb, hml, hown, hts⟩ (k_X12_canHave l D cA Z τ gi_149 gr _ h0 t_h0 y16_1 fy149_1 x19 f23) (cwV 2 hts gX12_findMost_X12_canHave rfl rfl rfl hd_X12_canHave__2 ⟨Nat.le_of_ble_eq_true rfl, Nat.le_of_ble_eq_true rfl⟩) ⟨th_blind, tr_12 hK hH t_h0, (th_pre hH hK hN hZ hS hA26)⟩ rfl rfl hl.1 rfl (lv_room (Nat.le_of_ble_eq_true rfl)) dX12_findMost_168 ⟨Nat.le_of_ble_eq_true rfl, Nat.le_of_ble_eq_true rfl⟩) hS (fun q _ h => hA26 q h) hA26 (fun x27 u t H locs ht hvm hw27 hB hz1 hk1 hS => ?_)
            try dsimp only at hw27 hB
            rw [ht] at hB
            have hH := hB
            refine lv_if_ne (tgt := 187) hx hb dX12_findMost_171 (th_eqI rfl) (fun c28 => ?_) (fun c28 => ?_)
            · skip
              have f29 : rg 1 1 x27 := rg_w (rg_neL hw27.1 rgc_0 c28) (th_leI rfl) (th_leI rfl)
              exact J187 gi_149 _ _ _ y149_2 w149_0 w149_1 hH hS hM (lv_sub hl [0, 1, 2] rfl) fy149_1 ew149_0 fw149_0 ew149_1 imo149 ilt (hF.trans (by simp only [↓reduceIte, f_X12_findMost_149, ← ew149_0, ← ew149_1, r18, Option.getD_some, ← e19, eq_false c21, hw27.2, eq_false c28]))
            · skip
              have f30 : rg 0 0 x27 := rg_w (rg_eq hw27.1 rgc_0 c28).1 (th_leI rfl) (th_leI rfl)
              refine lv_aload_n hx hb dX12_findMost_174 rfl (lv_at hl 0 rfl) ?_
              refine th_get (ci := 11) (v := .ref q18) (T := TX12) (C := RX12) (N := 38) hx hb hts (fun w h => List.mem_cons_of_mem _ (List.mem_append_right _ h)) hown hK hH t_h0 (th_nz rfl) (thE_12 _ _ _) rfl 30 (th_ltN rfl) (hts (.fieldLink RX12 86 "BayMooringsModel" "tried" "[I") (List.mem_cons_of_mem _ (List.mem_append_left _ (List.mem_of_getElem? (i := 1) rfl)))) (fun _ h9 => h9) (th_fR r18 rfl) dX12_findMost_175 ?_
              refine lv_iload_n hx hb dX12_findMost_178 rfl (lv_at hl 1 rfl) ?_
              refine lv_dup2_11 hx hb dX12_findMost_179 rfl rfl ?_
              refine th_iald hx hb hK hH t18 (th_nz rfl) 0 (thE_62 _ _ _) rfl (rg_in (n := 6) fy149_1 (th_leI rfl) (th_ltI rfl)) dX12_findMost_180 ?_
              rw [← e19]
              refine lv_iconst (v := 1) hx hb dX12_findMost_181 ic_1 ?_
              refine lv_iadd hx hb dX12_findMost_182 ?_
              refine lv_topi (fun x33 e33 => ?_)
              have f33 : rg 1 12 x33 := rg_e e33 (rg_w (rg_add f23 rgc_1 (th_leI rfl) (th_leI rfl)) (th_leI rfl) (th_leI rfl))
              refine th_iast hx hb hK hH hS t18 (th_nz rfl) (Or.inl (th_nzE t18 rfl)) 0 (fun _ => thE_62 _ _ _) rfl (rg_in (n := 6) fy149_1 (th_leI rfl) (th_ltI rfl)) (th_ai (P := rg (-1) 13) (thI_62 hH t18) (rg_w f33 (th_leI rfl) (th_leI rfl))) dX12_findMost_183 (fun gi34 H locs hu34 ho34 hH hS => ?_)
              have eg34 : gi34 = va_up gi_149 q18 (upd (gi_149 q18) y16_1.toNatClampNeg x33) := th_upE hu34 ho34
              have e35 : w149_0 = gi34 h0 27 := Eq.trans ew149_0 (Eq.symm (ho34 _ _ (Or.inl (th_ne t_h0 t18 (th_nz rfl)))))
              have e36 : w149_1 = gi34 h0 33 := Eq.trans ew149_1 (Eq.symm (ho34 _ _ (Or.inl (th_ne t_h0 t18 (th_nz rfl)))))
              have hM := hM.i t18 (th_mem (a := 6200) rfl) ho34
              have mo34 := mo_inc2 imo149 r18 (th_ne t_h0 t18 (by decide)) (fy149_1).1 e19 (rg_dA e33 f23 rgc_1 (th_leI rfl) (th_leI rfl)) hu34 ho34
              refine lv_goto (tgt := 149) hx hb dX12_findMost_184 (th_eqI rfl) ?_
              exact ih149 gi34 _ _ _ y149_2 w149_0 w149_1 (mo_in r18 e19 hu34 (rg_dA e33 f23 rgc_1 (th_leI rfl) (th_leI rfl)) f23 hn149) hH hS hM (lv_sub hl [0, 1, 2] rfl) fy149_1 e35 fw149_0 e36 mo34 ilt hlow (mo_low mo34 (fy149_1).1 (by have h9 := hlow; omega)) (hF.trans (by simp only [↓reduceIte, f_X12_findMost_149, ← ew149_0, ← ew149_1, r18, Option.getD_some, ← e19, eq_false c21, hw27.2, eq_true c28, ← e33, ← eg34]))
      have J116 : ∀ (gi_116 : th_i) (H : Heap) (locs : List Loc) (ls : Array Slot) (z116_1 : Int32) (w116_0 : Int32) (w116_1 : Int32), th_H D cA τ gi_116 gr H → va_S (th_A τ s.heap.size) s.heap H locs → th_Mod [1233, 6200, 6300] τ gi gr gi_116 gr → lv_has ls 4 [(0, .ref h0), (1, .int y16_1)] → rg 0 4 y16_1 → rg 0 1 z116_1 → w116_0 = gi_116 h0 27 → rg 0 5 w116_0 → w116_1 = gi_116 h0 33 → (mo_eq gi_16 gr gi_116 gr h0 y16_1.toInt) → (y16_1.toInt < (gi_16 h0 27).toInt) → (-1 ≤ mo_T gi_16 gr h0 y16_1.toNatClampNeg) → F_X12_findMost τ Z gi gr h0 = f_X12_findMost_116 τ Z gi gr h0 gi_16 y16_1 y16_2 (f_X12_findMost_16 τ Z gi gr h0 n16) gi_116 z116_1 → W p l e (headSpec wsX12_findMost ({ frames := 1, cells := 0, slots := 0, locals := 24 })).room s m [.ref h0].toArray below meth c H locs 0 0 (MQ below (va_Qv (fun (u : th_i × th_r) => th_Mod [1233, 6200, 6300] τ gi gr u.1 u.2 ∧ u.2 = gr ∧ (F_X12_findMost τ Z gi gr h0 = u.1)) (fun (u : th_i × th_r) t => th_H D cA τ u.1 u.2 t.heap) (th_A τ s.heap.size)) [.ref h0].toArray s 0 0 (th_A τ s.heap.size)) (F0 m 116 ls [.int z116_1, .int y16_2]) := by
        intro gi_116 H locs ls z116_1 w116_0 w116_1 hH hS hM hl fy116_1 fz116_1 ew116_0 fw116_0 ew116_1 imo116 ilt hlow hF
        refine lv_isub hx hb dX12_findMost_116 ?_
        refine lv_topi (fun x38 e38 => ?_)
        refine lv_istore_n (i := 2) (lv' := [(2, .int x38), (0, .ref h0), (1, .int y16_1)]) hx hb dX12_findMost_117 rfl hl (th_ltN rfl) rfl (fun ls hl => ?_)
        refine lv_iload_n hx hb dX12_findMost_118 rfl (lv_at hl 0 rfl) ?_
        refine lv_aload_n hx hb dX12_findMost_119 rfl (lv_at hl 1 rfl) ?_
        refine th_get (ci := 11) (v := .int w116_0) (T := TX12) (C := RX12) (N := 38) hx hb hts (fun w h => List.mem_cons_of_mem _ (List.mem_append_right _ h)) hown hK hH t_h0 (th_nz rfl) (thE_12 _ _ _) rfl 27 (th_ltN rfl) (hts (.fieldLink RX12 200 "BayMooringsModel" "some" "I") (List.mem_cons_of_mem _ (List.mem_append_left _ (List.mem_of_getElem? (i := 2) rfl)))) (fun _ h9 => h9) (th_fI ew116_0 rfl) dX12_findMost_120 ?_
        refine lv_iadd hx hb dX12_findMost_123 ?_
        refine lv_topi (fun x40 e40 => ?_)
        refine lv_iload_n hx hb dX12_findMost_124 rfl (lv_at hl 2 rfl) ?_
        refine lv_isub hx hb dX12_findMost_125 ?_
        refine lv_topi (fun x41 e41 => ?_)
        refine lv_aload_n hx hb dX12_findMost_126 rfl (lv_at hl 1 rfl) ?_
        refine th_get (ci := 11) (v := .int w116_1) (T := TX12) (C := RX12) (N := 38) hx hb hts (fun w h => List.mem_cons_of_mem _ (List.mem_append_right _ h)) hown hK hH t_h0 (th_nz rfl) (thE_12 _ _ _) rfl 33 (th_ltN rfl) (hts (.fieldLink RX12 206 "BayMooringsModel" "most" "I") (List.mem_cons_of_mem _ (List.mem_append_left _ (List.mem_of_getElem? (i := 0) rfl)))) (fun _ h9 => h9) (th_fI ew116_1 rfl) dX12_findMost_127 ?_
        refine lv_icmp_gt (tgt := 139) hx hb dX12_findMost_130 (th_eqI rfl) (fun c43 => ?_) (fun c43 => ?_)
        · skip
          refine lv_aload_n hx hb dX12_findMost_139 rfl (lv_at hl 1 rfl) ?_
          obtain ⟨q44, r44, t44⟩ : ∃ q, gr h0 30 = some q ∧ τ q = 62 := (thI_12 hH t_h0).2.2.2.2.2.2.2.2.2.2.2.2.2.2.2.2.2.2.2.2.2.2.2.2.2.2.2.1
          refine th_get (ci := 11) (v := .ref q44) (T := TX12) (C := RX12) (N := 38) hx hb hts (fun w h => List.mem_cons_of_mem _ (List.mem_append_right _ h)) hown hK hH t_h0 (th_nz rfl) (thE_12 _ _ _) rfl 30 (th_ltN rfl) (hts (.fieldLink RX12 86 "BayMooringsModel" "tried" "[I") (List.mem_cons_of_mem _ (List.mem_append_left _ (List.mem_of_getElem? (i := 1) rfl)))) (fun _ h9 => h9) (th_fR r44 rfl) dX12_findMost_140 ?_
          refine lv_iload_n hx hb dX12_findMost_143 rfl (lv_at hl 2 rfl) ?_
          refine lv_dup2_11 hx hb dX12_findMost_144 rfl rfl ?_
          refine th_iald hx hb hK hH t44 (th_nz rfl) 0 (thE_62 _ _ _) rfl (rg_in (n := 6) fy116_1 (th_leI rfl) (th_ltI rfl)) dX12_findMost_145 ?_
          refine lv_topi (fun x45 e45 => ?_)
          have f45 : rg (-1) 13 x45 := rg_e e45 ((thI_62 hH t44) _ (rg_cl (n := 6) fy116_1 (th_leI rfl) (th_ltI rfl)))
          have f46 : rg (-1) 12 x45 := rg_w (mo_le r44 e45 (by rw [imo116.2 _ (by rw [th_clamp (fy116_1).1]; exact Int.le_refl _)]; exact im2 _ (by rw [th_clamp (fy116_1).1]; exact Int.le_refl _)) f45) (th_leI rfl) (th_leI rfl)
          refine lv_iconst (v := 1) hx hb dX12_findMost_146 ic_1 ?_
          refine lv_iadd hx hb dX12_findMost_147 ?_
          refine lv_topi (fun x47 e47 => ?_)
          have f47 : rg 0 13 x47 := rg_e e47 (rg_w (rg_add f46 rgc_1 (th_leI rfl) (th_leI rfl)) (th_leI rfl) (th_leI rfl))
          refine th_iast hx hb hK hH hS t44 (th_nz rfl) (Or.inl (th_nzE t44 rfl)) 0 (fun _ => thE_62 _ _ _) rfl (rg_in (n := 6) fy116_1 (th_leI rfl) (th_ltI rfl)) (th_ai (P := rg (-1) 13) (thI_62 hH t44) (rg_w f47 (th_leI rfl) (th_leI rfl))) dX12_findMost_148 (fun gi48 H locs hu48 ho48 hH hS => ?_)
          have eg48 : gi48 = va_up gi_116 q44 (upd (gi_116 q44) y16_1.toNatClampNeg x47) := th_upE hu48 ho48
          have e49 : w116_0 = gi48 h0 27 := Eq.trans ew116_0 (Eq.symm (ho48 _ _ (Or.inl (th_ne t_h0 t44 (th_nz rfl)))))
          have e50 : w116_1 = gi48 h0 33 := Eq.trans ew116_1 (Eq.symm (ho48 _ _ (Or.inl (th_ne t_h0 t44 (th_nz rfl)))))
          have hM := hM.i t44 (th_mem (a := 6200) rfl) ho48
          have mo48 := mo_inc imo116 r44 (th_ne t_h0 t44 (by decide)) (fy116_1).1 e45 (rg_dA e47 f46 rgc_1 (th_leI rfl) (th_leI rfl)) hu48 ho48
          exact J149 _ gi48 _ _ _ x38 w116_0 w116_1 (Nat.lt_add_one _) hH hS hM (lv_sub hl [1, 2, 0] rfl) fy116_1 e49 fw116_0 e50 mo48 ilt hlow (mo_low mo48 (fy116_1).1 (by have h9 := hlow; omega)) (hF.trans (by simp only [↓reduceIte, f_X12_findMost_116, ← ew116_0, ← ew116_1, ← e38, ← e40, ← e41, eq_true c43, r44, Option.getD_some, ← e45, ← e47, ← eg48]))
        · skip
          obtain ⟨x52, e52⟩ : ∃ y : Int32, y = y16_1 + (-1) := ⟨_, rfl⟩
          have f52 : rg (-1) 3 x52 := rg_e e52 (rg_w (rg_add fy116_1 rgc_m1 (th_leI rfl) (th_leI rfl)) (th_leI rfl) (th_leI rfl))
          refine lv_iinc (v := x52) (lv' := [(1, .int x52), (2, .int x38), (0, .ref h0)]) hx hb dX12_findMost_133 hl (k := 2) rfl (by rw [e52]; rfl) (th_ltN rfl) rfl (fun ls hl => ?_)
          refine lv_goto (tgt := 16) hx hb dX12_findMost_136 (th_eqI rfl) ?_
          exact ih16 gi_116 _ _ _ x52 x38 w116_1 (mo_b3 fy116_1 (by decide) im2 (mo_eqlt imo116) (rg_dA e52 fy116_1 rgc_m1 (th_leI rfl) (th_leI rfl)) hn16) hH hS hM (lv_sub hl [2, 0, 1] rfl) (rg_w f52 (th_leI rfl) (th_leI rfl)) ew116_1 (mo_b1 im1 imo116.1 (rg_dA e52 fy116_1 rgc_m1 (th_leI rfl) (th_leI rfl))) (mo_b2 im2 (mo_eqlt imo116) (rg_dA e52 fy116_1 rgc_m1 (th_leI rfl) (th_leI rfl))) (hF.trans (by simp only [↓reduceIte, f_X12_findMost_116, ← ew116_0, ← ew116_1, ← e38, ← e40, ← e41, eq_false c43, ← e52]))
      have J115 : ∀ (gi_115 : th_i) (H : Heap) (locs : List Loc) (ls : Array Slot) (w115_0 : Int32) (w115_1 : Int32), th_H D cA τ gi_115 gr H → va_S (th_A τ s.heap.size) s.heap H locs → th_Mod [1233, 6200, 6300] τ gi gr gi_115 gr → lv_has ls 4 [(0, .ref h0), (1, .int y16_1)] → rg 0 4 y16_1 → w115_0 = gi_115 h0 27 → rg 0 5 w115_0 → w115_1 = gi_115 h0 33 → (mo_eq gi_16 gr gi_115 gr h0 y16_1.toInt) → (y16_1.toInt < (gi_16 h0 27).toInt) → (-1 ≤ mo_T gi_16 gr h0 y16_1.toNatClampNeg) → F_X12_findMost τ Z gi gr h0 = f_X12_findMost_115 τ Z gi gr h0 gi_16 y16_1 y16_2 (f_X12_findMost_16 τ Z gi gr h0 n16) gi_115 → W p l e (headSpec wsX12_findMost ({ frames := 1, cells := 0, slots := 0, locals := 24 })).room s m [.ref h0].toArray below meth c H locs 0 0 (MQ below (va_Qv (fun (u : th_i × th_r) => th_Mod [1233, 6200, 6300] τ gi gr u.1 u.2 ∧ u.2 = gr ∧ (F_X12_findMost τ Z gi gr h0 = u.1)) (fun (u : th_i × th_r) t => th_H D cA τ u.1 u.2 t.heap) (th_A τ s.heap.size)) [.ref h0].toArray s 0 0 (th_A τ s.heap.size)) (F0 m 115 ls [.int y16_2]) := by
        intro gi_115 H locs ls w115_0 w115_1 hH hS hM hl fy115_1 ew115_0 fw115_0 ew115_1 imo115 ilt hlow hF
        refine lv_iconst (v := 0) hx hb dX12_findMost_115 ic_0 ?_
        exact J116 gi_115 _ _ _ 0 w115_0 w115_1 hH hS hM (lv_sub hl [0, 1] rfl) fy115_1 (rg_w rgc_0 (th_leI rfl) (th_leI rfl)) ew115_0 fw115_0 ew115_1 imo115 ilt hlow (hF.trans (by simp only [f_X12_findMost_115, ← ew115_0, ← ew115_1]))
      have J84 : ∀ (gi_84 : th_i) (H : Heap) (locs : List Loc) (ls : Array Slot) (w84_0 : Int32) (w84_1 : Int32), th_H D cA τ gi_84 gr H → va_S (th_A τ s.heap.size) s.heap H locs → th_Mod [1233, 6200, 6300] τ gi gr gi_84 gr → lv_has ls 4 [(0, .ref h0), (1, .int y16_1), (2, .int y16_2)] → rg 0 5 y16_1 → w84_0 = gi_84 h0 27 → rg 0 5 w84_0 → w84_1 = gi_84 h0 33 → (mo_eq gi_16 gr gi_84 gr h0 y16_1.toInt) → F_X12_findMost τ Z gi gr h0 = f_X12_findMost_84 τ Z gi gr h0 gi_16 y16_1 y16_2 (f_X12_findMost_16 τ Z gi gr h0 n16) gi_84 → W p l e (headSpec wsX12_findMost ({ frames := 1, cells := 0, slots := 0, locals := 24 })).room s m [.ref h0].toArray below meth c H locs 0 0 (MQ below (va_Qv (fun (u : th_i × th_r) => th_Mod [1233, 6200, 6300] τ gi gr u.1 u.2 ∧ u.2 = gr ∧ (F_X12_findMost τ Z gi gr h0 = u.1)) (fun (u : th_i × th_r) t => th_H D cA τ u.1 u.2 t.heap) (th_A τ s.heap.size)) [.ref h0].toArray s 0 0 (th_A τ s.heap.size)) (F0 m 84 ls []) := by
        intro gi_84 H locs ls w84_0 w84_1 hH hS hM hl fy84_1 ew84_0 fw84_0 ew84_1 imo84 hF
        obtain ⟨x53, e53⟩ : ∃ y : Int32, y = y16_1 + (-1) := ⟨_, rfl⟩
        have f53 : rg (-1) 4 x53 := rg_e e53 (rg_w (rg_add fy84_1 rgc_m1 (th_leI rfl) (th_leI rfl)) (th_leI rfl) (th_leI rfl))
        refine lv_iinc (v := x53) (lv' := [(1, .int x53), (0, .ref h0), (2, .int y16_2)]) hx hb dX12_findMost_84 hl (k := 1) rfl (by rw [e53]; rfl) (th_ltN rfl) rfl (fun ls hl => ?_)
        refine lv_goto (tgt := 16) hx hb dX12_findMost_87 (th_eqI rfl) ?_
        exact ih16 gi_84 _ _ _ x53 y16_2 w84_1 (mo_b3 fy84_1 (by decide) im2 (mo_eqlt imo84) (rg_dA e53 fy84_1 rgc_m1 (th_leI rfl) (th_leI rfl)) hn16) hH hS hM (lv_sub hl [1, 0, 2] rfl) (rg_w f53 (th_leI rfl) (th_leI rfl)) ew84_1 (mo_b1 im1 imo84.1 (rg_dA e53 fy84_1 rgc_m1 (th_leI rfl) (th_leI rfl))) (mo_b2 im2 (mo_eqlt imo84) (rg_dA e53 fy84_1 rgc_m1 (th_leI rfl) (th_leI rfl))) (hF.trans (by simp only [f_X12_findMost_84, ← ew84_0, ← ew84_1, ← e53]))
      have J43 : ∀ (n43 : Nat) (gi_43 : th_i) (H : Heap) (locs : List Loc) (ls : Array Slot) (y43_3 : Int32) (w43_0 : Int32) (w43_1 : Int32), (5 - y43_3.toInt).toNat < n43 → th_H D cA τ gi_43 gr H → va_S (th_A τ s.heap.size) s.heap H locs → th_Mod [1233, 6200, 6300] τ gi gr gi_43 gr → lv_has ls 4 [(0, .ref h0), (1, .int y16_1), (2, .int y16_2), (3, .int y43_3)] → rg 0 5 y16_1 → rg 0 5 y43_3 → w43_0 = gi_43 h0 27 → rg 0 5 w43_0 → w43_1 = gi_43 h0 33 → (mo_eq gi_16 gr gi_43 gr h0 y16_1.toInt) → F_X12_findMost τ Z gi gr h0 = f_X12_findMost_43 τ Z gi gr h0 gi_16 y16_1 y16_2 (f_X12_findMost_16 τ Z gi gr h0 n16) n43 gi_43 y43_3 → W p l e (headSpec wsX12_findMost ({ frames := 1, cells := 0, slots := 0, locals := 24 })).room s m [.ref h0].toArray below meth c H locs 0 0 (MQ below (va_Qv (fun (u : th_i × th_r) => th_Mod [1233, 6200, 6300] τ gi gr u.1 u.2 ∧ u.2 = gr ∧ (F_X12_findMost τ Z gi gr h0 = u.1)) (fun (u : th_i × th_r) t => th_H D cA τ u.1 u.2 t.heap) (th_A τ s.heap.size)) [.ref h0].toArray s 0 0 (th_A τ s.heap.size)) (F0 m 43 ls []) := by
        intro n43
        induction n43 with
        | zero =>
          intro gi_43 H locs ls y43_3 w43_0 w43_1 hn
          exact absurd hn (Nat.not_lt_zero _)
        | succ n43 ih43 =>
          intro gi_43 H locs ls y43_3 w43_0 w43_1 hn43 hH hS hM hl fy43_1 fy43_3 ew43_0 fw43_0 ew43_1 imo43 hF
          have J77 : ∀ (gi_77 : th_i) (H : Heap) (locs : List Loc) (ls : Array Slot) (z77_0 : Nat) (z77_2 : Int32) (w77_0 : Int32) (w77_1 : Int32), th_H D cA τ gi_77 gr H → va_S (th_A τ s.heap.size) s.heap H locs → th_Mod [1233, 6200, 6300] τ gi gr gi_77 gr → lv_has ls 4 [(0, .ref h0), (1, .int y16_1), (2, .int y16_2), (3, .int y43_3)] → rg 0 5 y16_1 → rg 0 4 y43_3 → (τ z77_0 = 63) → rg 0 4 y43_3 → rg (-1) 13 z77_2 → w77_0 = gi_77 h0 27 → rg 1 5 w77_0 → w77_1 = gi_77 h0 33 → (mo_eq gi_16 gr gi_77 gr h0 y16_1.toInt) → F_X12_findMost τ Z gi gr h0 = f_X12_findMost_77 τ Z gi gr h0 gi_16 y16_1 y16_2 gi_43 y43_3 (f_X12_findMost_16 τ Z gi gr h0 n16) (f_X12_findMost_43 τ Z gi gr h0 gi_16 y16_1 y16_2 (f_X12_findMost_16 τ Z gi gr h0 n16) n43) gi_77 z77_0 z77_2 → W p l e (headSpec wsX12_findMost ({ frames := 1, cells := 0, slots := 0, locals := 24 })).room s m [.ref h0].toArray below meth c H locs 0 0 (MQ below (va_Qv (fun (u : th_i × th_r) => th_Mod [1233, 6200, 6300] τ gi gr u.1 u.2 ∧ u.2 = gr ∧ (F_X12_findMost τ Z gi gr h0 = u.1)) (fun (u : th_i × th_r) t => th_H D cA τ u.1 u.2 t.heap) (th_A τ s.heap.size)) [.ref h0].toArray s 0 0 (th_A τ s.heap.size)) (F0 m 77 ls [.int z77_2, .int y43_3, .ref z77_0]) := by
            intro gi_77 H locs ls z77_0 z77_2 w77_0 w77_1 hH hS hM hl fy77_1 fy77_3 tz77_0 fz77_1 fz77_2 ew77_0 fw77_0 ew77_1 imo77 hF
            have hq62 : ∃ q, gr h0 30 = some q ∧ τ q = 62 := (hH.at t_h0 (by decide)).2.2.2.2.2.2.2.2.2.2.2.2.2.2.2.2.2.2.2.2.2.2.2.2.2.2.2.2.1
            refine th_iast hx hb hK hH hS tz77_0 (th_nz rfl) (Or.inl (th_nzE tz77_0 rfl)) 0 (fun _ => thE_63 _ _ _) rfl (rg_in (n := 5) fz77_1 (th_leI rfl) (th_ltI rfl)) (trivial) dX12_findMost_77 (fun gi54 H locs hu54 ho54 hH hS => ?_)
            have eg54 : gi54 = va_up gi_77 z77_0 (upd (gi_77 z77_0) y43_3.toNatClampNeg z77_2) := th_upE hu54 ho54
            have e55 : w77_0 = gi54 h0 27 := Eq.trans ew77_0 (Eq.symm (ho54 _ _ (Or.inl (th_ne t_h0 tz77_0 (th_nz rfl)))))
            have e56 : w77_1 = gi54 h0 33 := Eq.trans ew77_1 (Eq.symm (ho54 _ _ (Or.inl (th_ne t_h0 tz77_0 (th_nz rfl)))))
            have hM := hM.i tz77_0 (th_mem (a := 6300) rfl) ho54
            have mo54 := mo_eq.k (i := y16_1.toInt) imo77 (fun q h => th_ne (th_q62 hq62 h) tz77_0 (by decide)) (Or.inl (th_ne t_h0 tz77_0 (by decide))) ho54
            obtain ⟨x57, e57⟩ : ∃ y : Int32, y = y43_3 + 1 := ⟨_, rfl⟩
            have f57 : rg 1 5 x57 := rg_e e57 (rg_w (rg_add fz77_1 rgc_1 (th_leI rfl) (th_leI rfl)) (th_leI rfl) (th_leI rfl))
            refine lv_iinc (v := x57) (lv' := [(3, .int x57), (0, .ref h0), (1, .int y16_1), (2, .int y16_2)]) hx hb dX12_findMost_78 hl (k := 3) rfl (by rw [e57]; rfl) (th_ltN rfl) rfl (fun ls hl => ?_)
            refine lv_goto (tgt := 43) hx hb dX12_findMost_81 (th_eqI rfl) ?_
            exact ih43 gi54 _ _ _ x57 w77_0 w77_1 (th_up (rg_dA e57 fz77_1 rgc_1 (th_leI rfl) (th_leI rfl)) fz77_1 hn43 (th_ltI rfl)) hH hS hM (lv_sub hl [1, 2, 3, 0] rfl) fy77_1 (rg_w f57 (th_leI rfl) (th_leI rfl)) e55 (rg_w fw77_0 (th_leI rfl) (th_leI rfl)) e56 mo54 (hF.trans (by simp only [f_X12_findMost_77, ← ew77_0, ← ew77_1, ← eg54, ← e57]))
          refine lv_iload_n hx hb dX12_findMost_43 rfl (lv_at hl 3 rfl) ?_
          refine lv_aload_n hx hb dX12_findMost_44 rfl (lv_at hl 0 rfl) ?_
          refine th_get (ci := 11) (v := .int w43_0) (T := TX12) (C := RX12) (N := 38) hx hb hts (fun w h => List.mem_cons_of_mem _ (List.mem_append_right _ h)) hown hK hH t_h0 (th_nz rfl) (thE_12 _ _ _) rfl 27 (th_ltN rfl) (hts (.fieldLink RX12 200 "BayMooringsModel" "some" "I") (List.mem_cons_of_mem _ (List.mem_append_left _ (List.mem_of_getElem? (i := 2) rfl)))) (fun _ h9 => h9) (th_fI ew43_0 rfl) dX12_findMost_45 ?_
          refine lv_icmp_ge (tgt := 84) hx hb dX12_findMost_48 (th_eqI rfl) (fun c59 => ?_) (fun c59 => ?_)
          · skip
            exact J84 gi_43 _ _ _ w43_0 w43_1 hH hS hM (lv_sub hl [0, 1, 2] rfl) fy43_1 ew43_0 fw43_0 ew43_1 imo43 (hF.trans (by simp only [↓reduceIte, f_X12_findMost_43, ← ew43_0, ← ew43_1, eq_true c59]))
          · skip
            have f60 : rg 1 5 w43_0 := rg_w (rg_nle fw43_0 fy43_3 c59).1 (th_leI rfl) (th_leI rfl)
            have f61 : rg 0 4 y43_3 := rg_w (rg_nle fw43_0 fy43_3 c59).2 (th_leI rfl) (th_leI rfl)
            refine lv_aload_n hx hb dX12_findMost_51 rfl (lv_at hl 0 rfl) ?_
            obtain ⟨q62, r62, t62⟩ : ∃ q, gr h0 31 = some q ∧ τ q = 63 := (thI_12 hH t_h0).2.2.2.2.2.2.2.2.2.2.2.2.2.2.2.2.2.2.2.2.2.2.2.2.2.2.2.2.1
            refine th_get (ci := 11) (v := .ref q62) (T := TX12) (C := RX12) (N := 38) hx hb hts (fun w h => List.mem_cons_of_mem _ (List.mem_append_right _ h)) hown hK hH t_h0 (th_nz rfl) (thE_12 _ _ _) rfl 31 (th_ltN rfl) (hts (.fieldLink RX12 89 "BayMooringsModel" "best" "[I") (List.mem_cons_of_mem _ (List.mem_append_left _ (List.mem_of_getElem? (i := 3) rfl)))) (fun _ h9 => h9) (th_fR r62 rfl) dX12_findMost_52 ?_
            refine lv_iload_n hx hb dX12_findMost_55 rfl (lv_at hl 3 rfl) ?_
            refine lv_aload_n hx hb dX12_findMost_56 rfl (lv_at hl 0 rfl) ?_
            obtain ⟨q63, r63, t63⟩ : ∃ q, gr h0 30 = some q ∧ τ q = 62 := (thI_12 hH t_h0).2.2.2.2.2.2.2.2.2.2.2.2.2.2.2.2.2.2.2.2.2.2.2.2.2.2.2.1
            refine th_get (ci := 11) (v := .ref q63) (T := TX12) (C := RX12) (N := 38) hx hb hts (fun w h => List.mem_cons_of_mem _ (List.mem_append_right _ h)) hown hK hH t_h0 (th_nz rfl) (thE_12 _ _ _) rfl 30 (th_ltN rfl) (hts (.fieldLink RX12 86 "BayMooringsModel" "tried" "[I") (List.mem_cons_of_mem _ (List.mem_append_left _ (List.mem_of_getElem? (i := 1) rfl)))) (fun _ h9 => h9) (th_fR r63 rfl) dX12_findMost_57 ?_
            refine lv_iload_n hx hb dX12_findMost_60 rfl (lv_at hl 3 rfl) ?_
            refine th_iald hx hb hK hH t63 (th_nz rfl) 0 (thE_62 _ _ _) rfl (rg_in (n := 6) f61 (th_leI rfl) (th_ltI rfl)) dX12_findMost_61 ?_
            refine lv_topi (fun x64 e64 => ?_)
            have f64 : rg (-1) 13 x64 := rg_e e64 ((thI_62 hH t63) _ (rg_cl (n := 6) f61 (th_leI rfl) (th_ltI rfl)))
            refine lv_bipush (v := 12) hx hb dX12_findMost_62 bp_12 ?_
            refine lv_icmp_ne (tgt := 71) hx hb dX12_findMost_64 (th_eqI rfl) (fun c65 => ?_) (fun c65 => ?_)
            · skip
              refine lv_aload_n hx hb dX12_findMost_71 rfl (lv_at hl 0 rfl) ?_
              refine th_get (ci := 11) (v := .ref q63) (T := TX12) (C := RX12) (N := 38) hx hb hts (fun w h => List.mem_cons_of_mem _ (List.mem_append_right _ h)) hown hK hH t_h0 (th_nz rfl) (thE_12 _ _ _) rfl 30 (th_ltN rfl) (hts (.fieldLink RX12 86 "BayMooringsModel" "tried" "[I") (List.mem_cons_of_mem _ (List.mem_append_left _ (List.mem_of_getElem? (i := 1) rfl)))) (fun _ h9 => h9) (th_fR r63 rfl) dX12_findMost_72 ?_
              refine lv_iload_n hx hb dX12_findMost_75 rfl (lv_at hl 3 rfl) ?_
              refine th_iald hx hb hK hH t63 (th_nz rfl) 0 (thE_62 _ _ _) rfl (rg_in (n := 6) f61 (th_leI rfl) (th_ltI rfl)) dX12_findMost_76 ?_
              rw [← e64]
              exact J77 gi_43 _ _ _ q62 x64 w43_0 w43_1 hH hS hM (lv_sub hl [0, 1, 2, 3] rfl) fy43_1 f61 t62 f61 f64 ew43_0 f60 ew43_1 imo43 (hF.trans (by simp only [↓reduceIte, f_X12_findMost_43, ← ew43_0, ← ew43_1, eq_false c59, r62, Option.getD_some, r63, ← e64, eq_false c65]))
            · skip
              have f68 : rg 12 12 x64 := rg_w (rg_eq f64 rgc_12 c65).1 (th_leI rfl) (th_leI rfl)
              refine lv_iconst (v := (-1)) hx hb dX12_findMost_67 ic_m1 ?_
              refine lv_goto (tgt := 77) hx hb dX12_findMost_68 (th_eqI rfl) ?_
              exact J77 gi_43 _ _ _ q62 (-1) w43_0 w43_1 hH hS hM (lv_sub hl [0, 1, 2, 3] rfl) fy43_1 f61 t62 f61 (rg_w rgc_m1 (th_leI rfl) (th_leI rfl)) ew43_0 f60 ew43_1 imo43 (hF.trans (by simp only [↓reduceIte, f_X12_findMost_43, ← ew43_0, ← ew43_1, eq_false c59, r62, Option.getD_some, r63, ← e64, eq_true c65]))
      obtain ⟨q16, r16, t16⟩ : ∃ q, gr h0 30 = some q ∧ τ q = 62 := (hH.at t_h0 (by decide)).2.2.2.2.2.2.2.2.2.2.2.2.2.2.2.2.2.2.2.2.2.2.2.2.2.2.2.2.1
      have hI16 := (hH.at t16 (by decide)).2
      refine lv_iload_n hx hb dX12_findMost_16 rfl (lv_at hl 1 rfl) ?_
      refine lv_if_lt (tgt := 236) hx hb dX12_findMost_17 (th_eqI rfl) (fun c69 => ?_) (fun c69 => ?_)
      · skip
        have f70 : rg (-1) (-1) y16_1 := rg_w (rg_lt fy16_1 rgc_0 c69).1 (th_leI rfl) (th_leI rfl)
        exact W.vret hx hb hr (fun t ht hW => ⟨⟨(gi_16, gr), rfl, ⟨hM, rfl, (hF.trans (by simp only [↓reduceIte, f_X12_findMost_16, ← ew16_0, eq_true c69]))⟩, th_Ht ht hH⟩, hS.F ht⟩) hS.2.2 dX12_findMost_236
      · skip
        have f71 : rg 0 5 y16_1 := rg_w (rg_nlt fy16_1 rgc_0 c69).1 (th_leI rfl) (th_leI rfl)
        have hlow : -1 ≤ mo_T gi_16 gr h0 y16_1.toNatClampNeg := by rw [mo_Ti r16]; exact (hI16 _ (rg_cl (n := 6) f71 (by decide) (by decide))).1
        refine lv_iload_n hx hb dX12_findMost_20 rfl (lv_at hl 1 rfl) ?_
        refine lv_aload_n hx hb dX12_findMost_21 rfl (lv_at hl 0 rfl) ?_
        obtain ⟨x72, e72⟩ : ∃ y : Int32, y = gi_16 h0 27 := ⟨_, rfl⟩
        refine th_get (ci := 11) (v := .int x72) (T := TX12) (C := RX12) (N := 38) hx hb hts (fun w h => List.mem_cons_of_mem _ (List.mem_append_right _ h)) hown hK hH t_h0 (th_nz rfl) (thE_12 _ _ _) rfl 27 (th_ltN rfl) (hts (.fieldLink RX12 200 "BayMooringsModel" "some" "I") (List.mem_cons_of_mem _ (List.mem_append_left _ (List.mem_of_getElem? (i := 2) rfl)))) (fun _ h9 => h9) (th_fI e72 rfl) dX12_findMost_22 ?_
        have f72 : rg 0 5 x72 := rg_e e72 ((thI_12 hH t_h0).2.2.2.2.2.2.2.2.2.2.2.2.2.2.2.2.2.2.2.2.2.2.2.2.1)
        refine lv_icmp_ne (tgt := 90) hx hb dX12_findMost_25 (th_eqI rfl) (fun c73 => ?_) (fun c73 => ?_)
        · skip
          have ilt : y16_1.toInt < (gi_16 h0 27).toInt := mo_lt im1 e72 c73
          have f74 : rg 0 4 y16_1 := rg_w (show rg 0 4 y16_1 from ⟨(f71).1, by have h1 := (f72).2; rw [e72] at h1; omega⟩) (th_leI rfl) (th_leI rfl)
          refine lv_iload_n hx hb dX12_findMost_90 rfl (lv_at hl 2 rfl) ?_
          refine lv_aload_n hx hb dX12_findMost_91 rfl (lv_at hl 0 rfl) ?_
          obtain ⟨q75, r75, t75⟩ : ∃ q, gr h0 30 = some q ∧ τ q = 62 := (thI_12 hH t_h0).2.2.2.2.2.2.2.2.2.2.2.2.2.2.2.2.2.2.2.2.2.2.2.2.2.2.2.1
          refine th_get (ci := 11) (v := .ref q75) (T := TX12) (C := RX12) (N := 38) hx hb hts (fun w h => List.mem_cons_of_mem _ (List.mem_append_right _ h)) hown hK hH t_h0 (th_nz rfl) (thE_12 _ _ _) rfl 30 (th_ltN rfl) (hts (.fieldLink RX12 86 "BayMooringsModel" "tried" "[I") (List.mem_cons_of_mem _ (List.mem_append_left _ (List.mem_of_getElem? (i := 1) rfl)))) (fun _ h9 => h9) (th_fR r75 rfl) dX12_findMost_92 ?_
          refine lv_iload_n hx hb dX12_findMost_95 rfl (lv_at hl 1 rfl) ?_
          refine th_iald hx hb hK hH t75 (th_nz rfl) 0 (thE_62 _ _ _) rfl (rg_in (n := 6) f74 (th_leI rfl) (th_ltI rfl)) dX12_findMost_96 ?_
          refine lv_topi (fun x76 e76 => ?_)
          have f76 : rg (-1) 13 x76 := rg_e e76 ((thI_62 hH t75) _ (rg_cl (n := 6) f74 (th_leI rfl) (th_ltI rfl)))
          refine lv_if_lt (tgt := 115) hx hb dX12_findMost_97 (th_eqI rfl) (fun c77 => ?_) (fun c77 => ?_)
          · skip
            have f78 : rg (-1) (-1) x76 := rg_w (rg_lt f76 rgc_0 c77).1 (th_leI rfl) (th_leI rfl)
            exact J115 gi_16 _ _ _ x72 w16_0 hH hS hM (lv_sub hl [0, 1] rfl) f74 e72 f72 ew16_0 mo_rf ilt hlow (hF.trans (by simp only [↓reduceIte, f_X12_findMost_16, ← ew16_0, eq_false c69, ← e72, eq_false c73, r75, Option.getD_some, ← e76, eq_true c77]))
          · skip
            have f79 : rg 0 13 x76 := rg_w (rg_nlt f76 rgc_0 c77).1 (th_leI rfl) (th_leI rfl)
            refine lv_aload_n hx hb dX12_findMost_100 rfl (lv_at hl 0 rfl) ?_
            refine th_get (ci := 11) (v := .ref q75) (T := TX12) (C := RX12) (N := 38) hx hb hts (fun w h => List.mem_cons_of_mem _ (List.mem_append_right _ h)) hown hK hH t_h0 (th_nz rfl) (thE_12 _ _ _) rfl 30 (th_ltN rfl) (hts (.fieldLink RX12 86 "BayMooringsModel" "tried" "[I") (List.mem_cons_of_mem _ (List.mem_append_left _ (List.mem_of_getElem? (i := 1) rfl)))) (fun _ h9 => h9) (th_fR r75 rfl) dX12_findMost_101 ?_
            refine lv_iload_n hx hb dX12_findMost_104 rfl (lv_at hl 1 rfl) ?_
            refine th_iald hx hb hK hH t75 (th_nz rfl) 0 (thE_62 _ _ _) rfl (rg_in (n := 6) f74 (th_leI rfl) (th_ltI rfl)) dX12_findMost_105 ?_
            rw [← e76]
            refine lv_bipush (v := 12) hx hb dX12_findMost_106 bp_12 ?_
            refine lv_icmp_ge (tgt := 115) hx hb dX12_findMost_108 (th_eqI rfl) (fun c82 => ?_) (fun c82 => ?_)
            · skip
              have f83 : rg 12 13 x76 := rg_w (rg_le rgc_12 f79 c82).2 (th_leI rfl) (th_leI rfl)
              exact J115 gi_16 _ _ _ x72 w16_0 hH hS hM (lv_sub hl [0, 1] rfl) f74 e72 f72 ew16_0 mo_rf ilt hlow (hF.trans (by simp only [↓reduceIte, f_X12_findMost_16, ← ew16_0, eq_false c69, ← e72, eq_false c73, r75, Option.getD_some, ← e76, eq_false c77, eq_true c82]))
            · skip
              have f84 : rg 0 11 x76 := rg_w (rg_nle rgc_12 f79 c82).2 (th_leI rfl) (th_leI rfl)
              refine lv_iconst (v := 1) hx hb dX12_findMost_111 ic_1 ?_
              refine lv_goto (tgt := 116) hx hb dX12_findMost_112 (th_eqI rfl) ?_
              exact J116 gi_16 _ _ _ 1 x72 w16_0 hH hS hM (lv_sub hl [0, 1] rfl) f74 (rg_w rgc_1 (th_leI rfl) (th_leI rfl)) e72 f72 ew16_0 mo_rf ilt hlow (hF.trans (by simp only [↓reduceIte, f_X12_findMost_16, ← ew16_0, eq_false c69, ← e72, eq_false c73, r75, Option.getD_some, ← e76, eq_false c77, eq_false c82]))
        · skip
          refine lv_iload_n hx hb dX12_findMost_28 rfl (lv_at hl 2 rfl) ?_
          refine lv_aload_n hx hb dX12_findMost_29 rfl (lv_at hl 0 rfl) ?_
          refine th_get (ci := 11) (v := .int w16_0) (T := TX12) (C := RX12) (N := 38) hx hb hts (fun w h => List.mem_cons_of_mem _ (List.mem_append_right _ h)) hown hK hH t_h0 (th_nz rfl) (thE_12 _ _ _) rfl 33 (th_ltN rfl) (hts (.fieldLink RX12 206 "BayMooringsModel" "most" "I") (List.mem_cons_of_mem _ (List.mem_append_left _ (List.mem_of_getElem? (i := 0) rfl)))) (fun _ h9 => h9) (th_fI ew16_0 rfl) dX12_findMost_30 ?_
          refine lv_icmp_le (tgt := 84) hx hb dX12_findMost_33 (th_eqI rfl) (fun c86 => ?_) (fun c86 => ?_)
          · skip
            exact J84 gi_16 _ _ _ x72 w16_0 hH hS hM (lv_sub hl [0, 1, 2] rfl) f71 e72 f72 ew16_0 mo_rf (hF.trans (by simp only [↓reduceIte, f_X12_findMost_16, ← ew16_0, eq_false c69, ← e72, eq_true c73, eq_true c86]))
          · skip
            have hq62 : ∃ q, gr h0 30 = some q ∧ τ q = 62 := (hH.at t_h0 (by decide)).2.2.2.2.2.2.2.2.2.2.2.2.2.2.2.2.2.2.2.2.2.2.2.2.2.2.2.2.1
            refine lv_aload_n hx hb dX12_findMost_36 rfl (lv_at hl 0 rfl) ?_
            refine lv_iload_n hx hb dX12_findMost_37 rfl (lv_at hl 2 rfl) ?_
            refine th_put (ci := 11) (v := .int y16_2) (T := TX12) (C := RX12) (N := 38) (ty := .int) (gi' := va_up gi_16 h0 (upd (gi_16 h0) 33 y16_2)) (gr' := gr) hx hb hts (fun w h => List.mem_cons_of_mem _ (List.mem_append_right _ h)) tyX12 tyX12_ok nmX12 hown hK hH hS t_h0 (th_nz rfl) (Or.inl (th_nzE t_h0 rfl)) rfl rfl 33 (th_ltN rfl) (hts (.fieldLink RX12 206 "BayMooringsModel" "most" "I") (List.mem_cons_of_mem _ (List.mem_append_left _ (List.mem_of_getElem? (i := 0) rfl)))) (fun _ h9 => h9) rfl (by decide +kernel) rfl rfl (Nat.le_of_ble_eq_true rfl) (by rw [va_up_self]; rfl) (by rw [va_up_self]; show rg 0 12 (gi_16 h0 0) ∧ (∃ q, gr h0 1 = some q ∧ τ q = 40) ∧ (∃ q, gr h0 2 = some q ∧ τ q = 41) ∧ (∃ q, gr h0 3 = some q ∧ τ q = 42) ∧ (∃ q, gr h0 4 = some q ∧ τ q = 43) ∧ (∃ q, gr h0 5 = some q ∧ τ q = 44) ∧ (∃ q, gr h0 6 = some q ∧ τ q = 45) ∧ (∃ q, gr h0 7 = some q ∧ τ q = 46) ∧ rg 0 16 (gi_16 h0 8) ∧ (∃ q, gr h0 9 = some q ∧ τ q = 47) ∧ (∃ q, gr h0 10 = some q ∧ τ q = 48) ∧ (∃ q, gr h0 11 = some q ∧ τ q = 49) ∧ (∃ q, gr h0 12 = some q ∧ τ q = 50) ∧ (∃ q, gr h0 13 = some q ∧ τ q = 51) ∧ (∃ q, gr h0 15 = some q ∧ τ q = 52) ∧ (∃ q, gr h0 16 = some q ∧ τ q = 53) ∧ rg 0 10 (gi_16 h0 17) ∧ (∃ q, gr h0 18 = some q ∧ τ q = 54) ∧ (∃ q, gr h0 19 = some q ∧ τ q = 55) ∧ (∃ q, gr h0 21 = some q ∧ τ q = 56) ∧ (∃ q, gr h0 22 = some q ∧ τ q = 57) ∧ rg 0 24 (gi_16 h0 24) ∧ (∃ q, gr h0 25 = some q ∧ τ q = 58) ∧ (∃ q, gr h0 26 = some q ∧ τ q = 59) ∧ rg 0 5 (gi_16 h0 27) ∧ (∃ q, gr h0 28 = some q ∧ τ q = 60) ∧ (∃ q, gr h0 29 = some q ∧ τ q = 61) ∧ (∃ q, gr h0 30 = some q ∧ τ q = 62) ∧ (∃ q, gr h0 31 = some q ∧ τ q = 63) ∧ (∃ q, gr h0 32 = some q ∧ τ q = 64) ∧ (∃ q, gr h0 34 = some q ∧ τ q = 65) ∧ (∃ q, gr h0 35 = some q ∧ τ q = 66) ∧ (∃ q, gr h0 36 = some q ∧ τ q = 67) ∧ (∃ q, gr h0 37 = some q ∧ τ q = 68); exact ⟨(thI_12 hH t_h0).1, (thI_12 hH t_h0).2.1, (thI_12 hH t_h0).2.2.1, (thI_12 hH t_h0).2.2.2.1, (thI_12 hH t_h0).2.2.2.2.1, (thI_12 hH t_h0).2.2.2.2.2.1, (thI_12 hH t_h0).2.2.2.2.2.2.1, (thI_12 hH t_h0).2.2.2.2.2.2.2.1, (thI_12 hH t_h0).2.2.2.2.2.2.2.2.1, (thI_12 hH t_h0).2.2.2.2.2.2.2.2.2.1, (thI_12 hH t_h0).2.2.2.2.2.2.2.2.2.2.1, (thI_12 hH t_h0).2.2.2.2.2.2.2.2.2.2.2.1, (thI_12 hH t_h0).2.2.2.2.2.2.2.2.2.2.2.2.1, (thI_12 hH t_h0).2.2.2.2.2.2.2.2.2.2.2.2.2.1, (thI_12 hH t_h0).2.2.2.2.2.2.2.2.2.2.2.2.2.2.1, (thI_12 hH t_h0).2.2.2.2.2.2.2.2.2.2.2.2.2.2.2.1, (thI_12 hH t_h0).2.2.2.2.2.2.2.2.2.2.2.2.2.2.2.2.1, (thI_12 hH t_h0).2.2.2.2.2.2.2.2.2.2.2.2.2.2.2.2.2.1, (thI_12 hH t_h0).2.2.2.2.2.2.2.2.2.2.2.2.2.2.2.2.2.2.1, (thI_12 hH t_h0).2.2.2.2.2.2.2.2.2.2.2.2.2.2.2.2.2.2.2.1, (thI_12 hH t_h0).2.2.2.2.2.2.2.2.2.2.2.2.2.2.2.2.2.2.2.2.1, (thI_12 hH t_h0).2.2.2.2.2.2.2.2.2.2.2.2.2.2.2.2.2.2.2.2.2.1, (thI_12 hH t_h0).2.2.2.2.2.2.2.2.2.2.2.2.2.2.2.2.2.2.2.2.2.2.1, (thI_12 hH t_h0).2.2.2.2.2.2.2.2.2.2.2.2.2.2.2.2.2.2.2.2.2.2.2.1, (thI_12 hH t_h0).2.2.2.2.2.2.2.2.2.2.2.2.2.2.2.2.2.2.2.2.2.2.2.2.1, (thI_12 hH t_h0).2.2.2.2.2.2.2.2.2.2.2.2.2.2.2.2.2.2.2.2.2.2.2.2.2.1, (thI_12 hH t_h0).2.2.2.2.2.2.2.2.2.2.2.2.2.2.2.2.2.2.2.2.2.2.2.2.2.2.1, (thI_12 hH t_h0).2.2.2.2.2.2.2.2.2.2.2.2.2.2.2.2.2.2.2.2.2.2.2.2.2.2.2.1, (thI_12 hH t_h0).2.2.2.2.2.2.2.2.2.2.2.2.2.2.2.2.2.2.2.2.2.2.2.2.2.2.2.2.1, (thI_12 hH t_h0).2.2.2.2.2.2.2.2.2.2.2.2.2.2.2.2.2.2.2.2.2.2.2.2.2.2.2.2.2.1, (thI_12 hH t_h0).2.2.2.2.2.2.2.2.2.2.2.2.2.2.2.2.2.2.2.2.2.2.2.2.2.2.2.2.2.2.1, (thI_12 hH t_h0).2.2.2.2.2.2.2.2.2.2.2.2.2.2.2.2.2.2.2.2.2.2.2.2.2.2.2.2.2.2.2.1, (thI_12 hH t_h0).2.2.2.2.2.2.2.2.2.2.2.2.2.2.2.2.2.2.2.2.2.2.2.2.2.2.2.2.2.2.2.2.1, (thI_12 hH t_h0).2.2.2.2.2.2.2.2.2.2.2.2.2.2.2.2.2.2.2.2.2.2.2.2.2.2.2.2.2.2.2.2.2⟩) (fun b hb => ⟨va_up_ne _ _ hb, rfl⟩) dX12_findMost_38 (fun H locs hH hS => ?_)
            obtain ⟨gi87, eg87⟩ : ∃ g, g = va_up gi_16 h0 (upd (gi_16 h0) 33 y16_2) := ⟨_, rfl⟩
            rw [← eg87] at hH
            have hu87 : gi87 h0 33 = y16_2 := (th_uI eg87).1
            have ho87 : ∀ b j, b ≠ h0 ∨ j ≠ 33 → gi87 b j = gi_16 b j := (th_uI eg87).2
            have e89 : x72 = gi87 h0 27 := Eq.trans e72 (Eq.symm (ho87 _ _ (Or.inr (th_nz rfl))))
            have hM := hM.i t_h0 (th_mem (a := 1233) rfl) ho87
            have mo87 := mo_eq.k (i := y16_1.toInt) mo_rf (fun q h => th_ne (th_q62 hq62 h) t_h0 (by decide)) (Or.inr (by decide)) ho87
            refine lv_iconst (v := 0) hx hb dX12_findMost_41 ic_0 ?_
            refine lv_istore_n (i := 3) (lv' := [(3, .int 0), (0, .ref h0), (1, .int y16_1), (2, .int y16_2)]) hx hb dX12_findMost_42 rfl hl (th_ltN rfl) rfl (fun ls hl => ?_)
            exact J43 _ gi87 _ _ _ 0 x72 y16_2 (Nat.lt_add_one _) hH hS hM (lv_sub hl [1, 2, 3, 0] rfl) f71 (rg_w rgc_0 (th_leI rfl) (th_leI rfl)) e89 f72 hu87.symm mo87 (hF.trans (by simp only [↓reduceIte, f_X12_findMost_16, ← ew16_0, eq_false c69, ← e72, eq_true c73, eq_false c86, ← eg87]))
  have hS : va_S (th_A τ s.heap.size) s.heap s.heap [] := va_S.rf
  have hl := lv_entry ([.ref h0]) (n := 4) (Nat.le_of_ble_eq_true rfl)
  rw [lg_entry_eq]
  generalize (lg_sl ([.ref h0]) ++ List.replicate (4 - (lg_sl ([.ref h0])).length) Slot.unset).toArray = ls at hl ⊢
  have hl : lv_has ls 4 [(0, .ref h0)] := hl
  have hF : F_X12_findMost τ Z gi gr h0 = F_X12_findMost τ Z gi gr h0 := rfl
  refine lv_aload_n hx hb dX12_findMost_0 rfl (lv_at hl 0 rfl) ?_
  refine lv_iconst (v := (-1)) hx hb dX12_findMost_1 ic_m1 ?_
  refine th_put (ci := 11) (v := .int (-1)) (T := TX12) (C := RX12) (N := 38) (ty := .int) (gi' := va_up gi h0 (upd (gi h0) 33 (-1))) (gr' := gr) hx hb hts (fun w h => List.mem_cons_of_mem _ (List.mem_append_right _ h)) tyX12 tyX12_ok nmX12 hown hK hH hS t_h0 (th_nz rfl) (Or.inl (th_nzE t_h0 rfl)) rfl rfl 33 (th_ltN rfl) (hts (.fieldLink RX12 206 "BayMooringsModel" "most" "I") (List.mem_cons_of_mem _ (List.mem_append_left _ (List.mem_of_getElem? (i := 0) rfl)))) (fun _ h9 => h9) rfl (by decide +kernel) rfl rfl (Nat.le_of_ble_eq_true rfl) (by rw [va_up_self]; rfl) (by rw [va_up_self]; show rg 0 12 (gi h0 0) ∧ (∃ q, gr h0 1 = some q ∧ τ q = 40) ∧ (∃ q, gr h0 2 = some q ∧ τ q = 41) ∧ (∃ q, gr h0 3 = some q ∧ τ q = 42) ∧ (∃ q, gr h0 4 = some q ∧ τ q = 43) ∧ (∃ q, gr h0 5 = some q ∧ τ q = 44) ∧ (∃ q, gr h0 6 = some q ∧ τ q = 45) ∧ (∃ q, gr h0 7 = some q ∧ τ q = 46) ∧ rg 0 16 (gi h0 8) ∧ (∃ q, gr h0 9 = some q ∧ τ q = 47) ∧ (∃ q, gr h0 10 = some q ∧ τ q = 48) ∧ (∃ q, gr h0 11 = some q ∧ τ q = 49) ∧ (∃ q, gr h0 12 = some q ∧ τ q = 50) ∧ (∃ q, gr h0 13 = some q ∧ τ q = 51) ∧ (∃ q, gr h0 15 = some q ∧ τ q = 52) ∧ (∃ q, gr h0 16 = some q ∧ τ q = 53) ∧ rg 0 10 (gi h0 17) ∧ (∃ q, gr h0 18 = some q ∧ τ q = 54) ∧ (∃ q, gr h0 19 = some q ∧ τ q = 55) ∧ (∃ q, gr h0 21 = some q ∧ τ q = 56) ∧ (∃ q, gr h0 22 = some q ∧ τ q = 57) ∧ rg 0 24 (gi h0 24) ∧ (∃ q, gr h0 25 = some q ∧ τ q = 58) ∧ (∃ q, gr h0 26 = some q ∧ τ q = 59) ∧ rg 0 5 (gi h0 27) ∧ (∃ q, gr h0 28 = some q ∧ τ q = 60) ∧ (∃ q, gr h0 29 = some q ∧ τ q = 61) ∧ (∃ q, gr h0 30 = some q ∧ τ q = 62) ∧ (∃ q, gr h0 31 = some q ∧ τ q = 63) ∧ (∃ q, gr h0 32 = some q ∧ τ q = 64) ∧ (∃ q, gr h0 34 = some q ∧ τ q = 65) ∧ (∃ q, gr h0 35 = some q ∧ τ q = 66) ∧ (∃ q, gr h0 36 = some q ∧ τ q = 67) ∧ (∃ q, gr h0 37 = some q ∧ τ q = 68); exact ⟨(thI_12 hH t_h0).1, (thI_12 hH t_h0).2.1, (thI_12 hH t_h0).2.2.1, (thI_12 hH t_h0).2.2.2.1, (thI_12 hH t_h0).2.2.2.2.1, (thI_12 hH t_h0).2.2.2.2.2.1, (thI_12 hH t_h0).2.2.2.2.2.2.1, (thI_12 hH t_h0).2.2.2.2.2.2.2.1, (thI_12 hH t_h0).2.2.2.2.2.2.2.2.1, (thI_12 hH t_h0).2.2.2.2.2.2.2.2.2.1, (thI_12 hH t_h0).2.2.2.2.2.2.2.2.2.2.1, (thI_12 hH t_h0).2.2.2.2.2.2.2.2.2.2.2.1, (thI_12 hH t_h0).2.2.2.2.2.2.2.2.2.2.2.2.1, (thI_12 hH t_h0).2.2.2.2.2.2.2.2.2.2.2.2.2.1, (thI_12 hH t_h0).2.2.2.2.2.2.2.2.2.2.2.2.2.2.1, (thI_12 hH t_h0).2.2.2.2.2.2.2.2.2.2.2.2.2.2.2.1, (thI_12 hH t_h0).2.2.2.2.2.2.2.2.2.2.2.2.2.2.2.2.1, (thI_12 hH t_h0).2.2.2.2.2.2.2.2.2.2.2.2.2.2.2.2.2.1, (thI_12 hH t_h0).2.2.2.2.2.2.2.2.2.2.2.2.2.2.2.2.2.2.1, (thI_12 hH t_h0).2.2.2.2.2.2.2.2.2.2.2.2.2.2.2.2.2.2.2.1, (thI_12 hH t_h0).2.2.2.2.2.2.2.2.2.2.2.2.2.2.2.2.2.2.2.2.1, (thI_12 hH t_h0).2.2.2.2.2.2.2.2.2.2.2.2.2.2.2.2.2.2.2.2.2.1, (thI_12 hH t_h0).2.2.2.2.2.2.2.2.2.2.2.2.2.2.2.2.2.2.2.2.2.2.1, (thI_12 hH t_h0).2.2.2.2.2.2.2.2.2.2.2.2.2.2.2.2.2.2.2.2.2.2.2.1, (thI_12 hH t_h0).2.2.2.2.2.2.2.2.2.2.2.2.2.2.2.2.2.2.2.2.2.2.2.2.1, (thI_12 hH t_h0).2.2.2.2.2.2.2.2.2.2.2.2.2.2.2.2.2.2.2.2.2.2.2.2.2.1, (thI_12 hH t_h0).2.2.2.2.2.2.2.2.2.2.2.2.2.2.2.2.2.2.2.2.2.2.2.2.2.2.1, (thI_12 hH t_h0).2.2.2.2.2.2.2.2.2.2.2.2.2.2.2.2.2.2.2.2.2.2.2.2.2.2.2.1, (thI_12 hH t_h0).2.2.2.2.2.2.2.2.2.2.2.2.2.2.2.2.2.2.2.2.2.2.2.2.2.2.2.2.1, (thI_12 hH t_h0).2.2.2.2.2.2.2.2.2.2.2.2.2.2.2.2.2.2.2.2.2.2.2.2.2.2.2.2.2.1, (thI_12 hH t_h0).2.2.2.2.2.2.2.2.2.2.2.2.2.2.2.2.2.2.2.2.2.2.2.2.2.2.2.2.2.2.1, (thI_12 hH t_h0).2.2.2.2.2.2.2.2.2.2.2.2.2.2.2.2.2.2.2.2.2.2.2.2.2.2.2.2.2.2.2.1, (thI_12 hH t_h0).2.2.2.2.2.2.2.2.2.2.2.2.2.2.2.2.2.2.2.2.2.2.2.2.2.2.2.2.2.2.2.2.1, (thI_12 hH t_h0).2.2.2.2.2.2.2.2.2.2.2.2.2.2.2.2.2.2.2.2.2.2.2.2.2.2.2.2.2.2.2.2.2⟩) (fun b hb => ⟨va_up_ne _ _ hb, rfl⟩) dX12_findMost_2 (fun H locs hH hS => ?_)
  obtain ⟨gi90, eg90⟩ : ∃ g, g = va_up gi h0 (upd (gi h0) 33 (-1)) := ⟨_, rfl⟩
  rw [← eg90] at hH
  have hu90 : gi90 h0 33 = (-1) := (th_uI eg90).1
  have ho90 : ∀ b j, b ≠ h0 ∨ j ≠ 33 → gi90 b j = gi b j := (th_uI eg90).2
  have hM := hM.i t_h0 (th_mem (a := 1233) rfl) ho90
  refine lv_iconst (v := 0) hx hb dX12_findMost_5 ic_0 ?_
  refine lv_istore_n (i := 1) (lv' := [(1, .int 0), (0, .ref h0)]) hx hb dX12_findMost_6 rfl hl (th_ltN rfl) rfl (fun ls hl => ?_)
  refine lv_iconst (v := 0) hx hb dX12_findMost_7 ic_0 ?_
  refine lv_istore_n (i := 2) (lv' := [(2, .int 0), (1, .int 0), (0, .ref h0)]) hx hb dX12_findMost_8 rfl hl (th_ltN rfl) rfl (fun ls hl => ?_)
  refine lv_aload_n hx hb dX12_findMost_9 rfl (lv_at hl 2 rfl) ?_
  obtain ⟨q91, r91, t91⟩ : ∃ q, gr h0 30 = some q ∧ τ q = 62 := (thI_12 hH t_h0).2.2.2.2.2.2.2.2.2.2.2.2.2.2.2.2.2.2.2.2.2.2.2.2.2.2.2.1
  refine th_get (ci := 11) (v := .ref q91) (T := TX12) (C := RX12) (N := 38) hx hb hts (fun w h => List.mem_cons_of_mem _ (List.mem_append_right _ h)) hown hK hH t_h0 (th_nz rfl) (thE_12 _ _ _) rfl 30 (th_ltN rfl) (hts (.fieldLink RX12 86 "BayMooringsModel" "tried" "[I") (List.mem_cons_of_mem _ (List.mem_append_left _ (List.mem_of_getElem? (i := 1) rfl)))) (fun _ h9 => h9) (th_fR r91 rfl) dX12_findMost_10 ?_
  refine lv_iconst (v := 0) hx hb dX12_findMost_13 ic_0 ?_
  refine lv_iconst (v := (-1)) hx hb dX12_findMost_14 ic_m1 ?_
  refine th_iast hx hb hK hH hS t91 (th_nz rfl) (Or.inl (th_nzE t91 rfl)) 0 (fun _ => thE_62 _ _ _) rfl (rg_in (n := 6) rgc_0 (th_leI rfl) (th_ltI rfl)) (th_ai (P := rg (-1) 13) (thI_62 hH t91) (rg_w rgc_m1 (th_leI rfl) (th_leI rfl))) dX12_findMost_15 (fun gi92 H locs hu92 ho92 hH hS => ?_)
  have eg92 : gi92 = va_up gi90 q91 (upd (gi90 q91) (0 : Int32).toNatClampNeg (-1)) := th_upE hu92 ho92
  have e93 : (-1) = gi92 h0 33 := Eq.trans hu90.symm (Eq.symm (ho92 _ _ (Or.inl (th_ne t_h0 t91 (th_nz rfl)))))
  have hM := hM.i t91 (th_mem (a := 6200) rfl) ho92
  exact J16 _ gi92 _ _ _ 0 0 (-1) (Nat.lt_add_one _) hH hS hM (lv_sub hl [2, 1, 0] rfl) (rg_w rgc_0 (th_leI rfl) (th_leI rfl)) e93 (by have h9 := (hH.at t_h0 (by decide)).2.2.2.2.2.2.2.2.2.2.2.2.2.2.2.2.2.2.2.2.2.2.2.2.2.1; have h8 : (0 : Int32).toInt = 0 := (by decide); rw [h8]; exact h9.1) (mo_i0 (g := gi) r91 hu92) (hF.trans (by simp only [F_X12_findMost, ← eg90, r91, Option.getD_some, ← eg92]))

noncomputable def f_X12_most_14 (τ : th_t) (Z : th_Zt) (gi : th_i) (gr : th_r) (h0 : Nat) (p1 : Int32) (p2 : Int32) (gi_14 : th_i) : Int32 × th_i :=
  let u65 : Int32 × th_i := F_X12_finding τ Z gi_14 gr h0 (-1000001)
  let x65 : Int32 := u65.1
  let gi65 : th_i := u65.2
  (x65, gi65)
noncomputable def f_X12_most_106 (τ : th_t) (Z : th_Zt) (gi : th_i) (gr : th_r) (h0 : Nat) (p1 : Int32) (p2 : Int32) (gi_106 : th_i) : Int32 × th_i :=
  let w106_0 : Int32 := gi_106 h0 8
  let u2 : Int32 × th_i := F_X12_finding τ Z gi_106 gr h0 (-1000001)
  let x2 : Int32 := u2.1
  let gi2 : th_i := u2.2
  (x2, gi2)
noncomputable def f_X12_most_86 (τ : th_t) (Z : th_Zt) (gi : th_i) (gr : th_r) (h0 : Nat) (p1 : Int32) (p2 : Int32) (gi_29 : th_i) (y29_3 : Int32) (y29_4 : Int32) (y29_5 : Int32) (k_29 : th_i → Int32 → Int32 → Int32 → Int32 × th_i) (gi_86 : th_i) (y86_3 : Int32) (y86_4 : Int32) : Int32 × th_i :=
  let w86_0 : Int32 := gi_86 h0 8
  let x4 : Int32 := y29_5 + 1
  k_29 gi_86 y86_3 y86_4 x4
noncomputable def f_X12_most_84 (τ : th_t) (Z : th_Zt) (gi : th_i) (gr : th_r) (h0 : Nat) (p1 : Int32) (p2 : Int32) (gi_29 : th_i) (y29_3 : Int32) (y29_4 : Int32) (y29_5 : Int32) (k_29 : th_i → Int32 → Int32 → Int32 → Int32 × th_i) (gi_84 : th_i) (y84_3 : Int32) (z84_0 : Int32) : Int32 × th_i :=
  let w84_0 : Int32 := gi_84 h0 8
  f_X12_most_86 τ Z gi gr h0 p1 p2 gi_29 y29_3 y29_4 y29_5 k_29 gi_84 y84_3 z84_0
noncomputable def f_X12_most_83 (τ : th_t) (Z : th_Zt) (gi : th_i) (gr : th_r) (h0 : Nat) (p1 : Int32) (p2 : Int32) (gi_29 : th_i) (y29_3 : Int32) (y29_4 : Int32) (y29_5 : Int32) (k_29 : th_i → Int32 → Int32 → Int32 → Int32 × th_i) (gi_83 : th_i) (y83_3 : Int32) : Int32 × th_i :=
  let w83_0 : Int32 := gi_83 h0 8
  f_X12_most_84 τ Z gi gr h0 p1 p2 gi_29 y29_3 y29_4 y29_5 k_29 gi_83 y83_3 0
noncomputable def f_X12_most_61 (τ : th_t) (Z : th_Zt) (gi : th_i) (gr : th_r) (h0 : Nat) (p1 : Int32) (p2 : Int32) (gi_29 : th_i) (y29_3 : Int32) (y29_4 : Int32) (y29_5 : Int32) (k_29 : th_i → Int32 → Int32 → Int32 → Int32 × th_i) (gi_61 : th_i) : Int32 × th_i :=
  let w61_0 : Int32 := gi_61 h0 8
  let x5 : Int32 := y29_3 + 1
  if y29_4 = (0 : Int32) then (
    f_X12_most_83 τ Z gi gr h0 p1 p2 gi_29 y29_3 y29_4 y29_5 k_29 gi_61 x5) else (
    let q9 : Nat := (gr h0 12).getD 0
    let x10 : Int32 := gi_61 q9 y29_5.toNatClampNeg
    if (0 : Int32) ≤ x10 then (
      f_X12_most_83 τ Z gi gr h0 p1 p2 gi_29 y29_3 y29_4 y29_5 k_29 gi_61 x5) else (
      f_X12_most_84 τ Z gi gr h0 p1 p2 gi_29 y29_3 y29_4 y29_5 k_29 gi_61 x5 1))
noncomputable def f_X12_most_29 (τ : th_t) (Z : th_Zt) (gi : th_i) (gr : th_r) (h0 : Nat) (p1 : Int32) (p2 : Int32) : Nat → th_i → Int32 → Int32 → Int32 → Int32 × th_i
  | 0, gi_29, y29_3, y29_4, y29_5 => (0, gi_29)
  | n29 + 1, gi_29, y29_3, y29_4, y29_5 =>
    let w29_0 : Int32 := gi_29 h0 8
    if w29_0 ≤ y29_5 then (
      if (5 : Int32) < y29_3 then (
        f_X12_most_106 τ Z gi gr h0 p1 p2 gi_29) else (
        let x20 : Int32 := F_X12_within τ Z gi_29 gr p2 0 y29_3
        if x20 = (0 : Int32) then (
          f_X12_most_106 τ Z gi gr h0 p1 p2 gi_29) else (
          if y29_4 = (0 : Int32) then (
            let u47 : Int32 × th_i := F_X12_finding τ Z gi_29 gr h0 (-1000003)
            let x47 : Int32 := u47.1
            let gi47 : th_i := u47.2
            (x47, gi47)) else (
            let gi28 : th_i := va_up gi_29 h0 (upd (gi_29 h0) 27 y29_3)
            let gi31 : th_i := F_X12_findMay τ Z gi28 gr h0
            let gi35 : th_i := F_X12_findMost τ Z gi31 gr h0
            if p2 = (0 : Int32) then (
              let x44 : Int32 := gi35 h0 33
              (x44, gi35)) else (
              let q40 : Nat := (gr h0 31).getD 0
              let x41 : Int32 := p2 - 1
              let x42 : Int32 := gi35 q40 x41.toNatClampNeg
              (x42, gi35)))))) else (
      let x53 : Int32 := p1 >>> (y29_5 &&& 31)
      let x54 : Int32 := x53 &&& 1
      if x54 = (1 : Int32) then (
        if (5 : Int32) ≤ y29_3 then (
          f_X12_most_61 τ Z gi gr h0 p1 p2 gi_29 y29_3 y29_4 y29_5 (f_X12_most_29 τ Z gi gr h0 p1 p2 n29) gi_29) else (
          let q61 : Nat := (gr h0 28).getD 0
          let gi62 : th_i := va_up gi_29 q61 (upd (gi_29 q61) y29_3.toNatClampNeg y29_5)
          f_X12_most_61 τ Z gi gr h0 p1 p2 gi_29 y29_3 y29_4 y29_5 (f_X12_most_29 τ Z gi gr h0 p1 p2 n29) gi62)) else (
        f_X12_most_86 τ Z gi gr h0 p1 p2 gi_29 y29_3 y29_4 y29_5 (f_X12_most_29 τ Z gi gr h0 p1 p2 n29) gi_29 y29_3 y29_4))
noncomputable def F_X12_most (τ : th_t) (Z : th_Zt) (gi : th_i) (gr : th_r) (h0 : Nat) (p1 : Int32) (p2 : Int32) : Int32 × th_i :=
  if p1 < (0 : Int32) then (
    f_X12_most_14 τ Z gi gr h0 p1 p2 gi) else (
    let x69 : Int32 := gi h0 8
    let x70 : Int32 := 1 <<< (x69 &&& 31)
    if p1 < x70 then (
      f_X12_most_29 τ Z gi gr h0 p1 p2 ((16 - (0 : Int32).toInt).toNat + 1) gi 0 1 0) else (
      f_X12_most_14 τ Z gi gr h0 p1 p2 gi))
set_option maxHeartbeats 8000000 in
set_option maxRecDepth 100000 in
theorem k_X12_most (l : Launch) (D : va_G) (cA : Nat → ClassId) (Z : th_Zt) (τ : th_t) (gi : th_i) (gr : th_r) (sz : Nat) (h0 : Nat) (t_h0 : τ h0 = 12) (p1 : Int32) (p2 : Int32) : Met l yX12_most wsX12_most ({ frames := 6, cells := 0, slots := 0, locals := 175 }) (va_Pc [.ref h0, .int p1, .int p2] (th_Pre D cA Z τ gi gr sz)) (va_Qi (fun (r : Int32) (u : th_i × th_r) => th_Mod [1227, 1233, 5900, 6000, 6100, 6200, 6300, 6400] τ gi gr u.1 u.2 ∧ u.2 = gr ∧ (F_X12_most τ Z gi gr h0 p1 p2 = (r, u.1))) (fun (u : th_i × th_r) t => th_H D cA τ u.1 u.2 t.heap) (th_A τ sz)) 0 0 (th_A τ sz) := by
  refine Met.ofW (cc := cX12_most) (maxL := 6) (ret := (some .int)) (by decide) rfl ?_
  intro p e s m args below meth c s₁ B hml hv
  obtain ⟨rfl, hsz, hH, hK, hN, hZ⟩ := hv
  have hx := B.exec
  have hb := B.bytes
  have hr := B.returns
  have hts := atoms_spec (ws := wsX12_most) B.pre
  have hown : s.vm.findClass RX12 = some m.cls := findClass_of_methodNamed B.named
  have hlocks := B.notSynchronized
  subst hsz
  have hM : th_Mod [1227, 1233, 5900, 6000, 6100, 6200, 6300, 6400] τ gi gr gi gr := th_Mod.rf
  have J106 : ∀ (gi_106 : th_i) (H : Heap) (locs : List Loc) (ls : Array Slot) (w106_0 : Int32), th_H D cA τ gi_106 gr H → va_S (th_A τ s.heap.size) s.heap H locs → th_Mod [1227, 1233, 5900, 6000, 6100, 6200, 6300, 6400] τ gi gr gi_106 gr → lv_has ls 6 [(0, .ref h0)] → w106_0 = gi_106 h0 8 → rg 0 16 w106_0 → F_X12_most τ Z gi gr h0 p1 p2 = f_X12_most_106 τ Z gi gr h0 p1 p2 gi_106 → W p l e (headSpec wsX12_most ({ frames := 6, cells := 0, slots := 0, locals := 175 })).room s m [.ref h0, .int p1, .int p2].toArray below meth c H locs 0 0 (MQ below (va_Qi (fun (r : Int32) (u : th_i × th_r) => th_Mod [1227, 1233, 5900, 6000, 6100, 6200, 6300, 6400] τ gi gr u.1 u.2 ∧ u.2 = gr ∧ (F_X12_most τ Z gi gr h0 p1 p2 = (r, u.1))) (fun (u : th_i × th_r) t => th_H D cA τ u.1 u.2 t.heap) (th_A τ s.heap.size)) [.ref h0, .int p1, .int p2].toArray s 0 0 (th_A τ s.heap.size)) (F0 m 106 ls []) := by
    intro gi_106 H locs ls w106_0 hH hS hM hl ew106_0 fw106_0 hF
    refine lv_aload_n hx hb dX12_most_106 rfl (lv_at hl 0 rfl) ?_
    refine lv_ldc (v := (-1000001)) hx hb hown (hts (.constant RX12 119 (-1000001)) (List.mem_cons_of_mem _ (List.mem_append_left _ (List.mem_append_left _ (List.mem_of_getElem? (i := 1) rfl))))) dX12_most_107 ?_
    have hA1 := th_Asub (τ := τ) hS
    refine va_calli (va_runV (As := [.int (-1000001)]) (rest := []) ⟨hx, hb, hml, hown, hts⟩ (k_X12_finding l D cA Z τ gi_106 gr _ h0 t_h0 (-1000001) (rg_w rgc_m1000001 (th_leI rfl) (th_leI rfl))) (cwV 1 hts gX12_most_X12_finding rfl rfl rfl hd_X12_finding__1 ⟨Nat.le_of_ble_eq_true rfl, Nat.le_of_ble_eq_true rfl⟩) ⟨th_blind, tr_12 hK hH t_h0, (th_pre hH hK hN hZ hS hA1)⟩ rfl rfl hl.1 rfl (lv_room (Nat.le_of_ble_eq_true rfl)) dX12_most_109 ⟨Nat.le_of_ble_eq_true rfl, Nat.le_of_ble_eq_true rfl⟩) hS (fun q _ h => hA1 q h) hA1 (fun x2 u t H locs ht hvm hw2 hB hz1 hk1 hS => ?_)
    try dsimp only at hw2 hB
    rw [ht] at hB
    have hH := hB
    obtain ⟨gi2, gr2⟩ := u
    try dsimp only at hw2 hH
    obtain rfl : gr = gr2 := (hw2.2.1).symm
    have hM := hM.tr hw2.1 (fun _ h => h) (th_sub rfl)
    have e3 : w106_0 = gi2 h0 8 := Eq.trans ew106_0 (Eq.symm (hw2.1 h0 8 (th_nzE t_h0 rfl) (th_nmE (key := 1208) t_h0 rfl rfl)).1)
    exact W.iret (v := x2) hx hb hr (fun t ht hW => ⟨⟨x2, (gi2, gr), rfl, ⟨hM, rfl, (hF.trans (by simp only [f_X12_most_106, ← ew106_0, hw2.2.2.1]))⟩, th_Ht ht hH⟩, hS.F ht⟩) hS.2.2 dX12_most_112
  have J29 : ∀ (n29 : Nat) (gi_29 : th_i) (H : Heap) (locs : List Loc) (ls : Array Slot) (y29_3 : Int32) (y29_4 : Int32) (y29_5 : Int32) (w29_0 : Int32), (16 - y29_5.toInt).toNat < n29 → th_H D cA τ gi_29 gr H → va_S (th_A τ s.heap.size) s.heap H locs → th_Mod [1227, 1233, 5900, 6000, 6100, 6200, 6300, 6400] τ gi gr gi_29 gr → lv_has ls 6 [(0, .ref h0), (1, .int p1), (2, .int p2), (3, .int y29_3), (4, .int y29_4), (5, .int y29_5)] → rg 0 2147483646 p1 → rg 0 16 y29_3 → rg 0 1 y29_4 → rg 0 16 y29_5 → w29_0 = gi_29 h0 8 → rg 0 16 w29_0 → (y29_3.toInt ≤ y29_5.toInt) → F_X12_most τ Z gi gr h0 p1 p2 = f_X12_most_29 τ Z gi gr h0 p1 p2 n29 gi_29 y29_3 y29_4 y29_5 → W p l e (headSpec wsX12_most ({ frames := 6, cells := 0, slots := 0, locals := 175 })).room s m [.ref h0, .int p1, .int p2].toArray below meth c H locs 0 0 (MQ below (va_Qi (fun (r : Int32) (u : th_i × th_r) => th_Mod [1227, 1233, 5900, 6000, 6100, 6200, 6300, 6400] τ gi gr u.1 u.2 ∧ u.2 = gr ∧ (F_X12_most τ Z gi gr h0 p1 p2 = (r, u.1))) (fun (u : th_i × th_r) t => th_H D cA τ u.1 u.2 t.heap) (th_A τ s.heap.size)) [.ref h0, .int p1, .int p2].toArray s 0 0 (th_A τ s.heap.size)) (F0 m 29 ls []) := by
    intro n29
    induction n29 with
    | zero =>
      intro gi_29 H locs ls y29_3 y29_4 y29_5 w29_0 hn
      exact absurd hn (Nat.not_lt_zero _)
    | succ n29 ih29 =>
      intro gi_29 H locs ls y29_3 y29_4 y29_5 w29_0 hn29 hH hS hM hl fy29_1 fy29_3 fy29_4 fy29_5 ew29_0 fw29_0 inb hF
      have J86 : ∀ (gi_86 : th_i) (H : Heap) (locs : List Loc) (ls : Array Slot) (y86_3 : Int32) (y86_4 : Int32) (w86_0 : Int32), th_H D cA τ gi_86 gr H → va_S (th_A τ s.heap.size) s.heap H locs → th_Mod [1227, 1233, 5900, 6000, 6100, 6200, 6300, 6400] τ gi gr gi_86 gr → lv_has ls 6 [(0, .ref h0), (1, .int p1), (2, .int p2), (3, .int y86_3), (4, .int y86_4), (5, .int y29_5)] → rg 0 2147483646 p1 → rg 0 16 y86_3 → rg 0 1 y86_4 → rg 0 15 y29_5 → w86_0 = gi_86 h0 8 → rg 1 16 w86_0 → (y86_3.toInt ≤ y29_5.toInt + 1) → F_X12_most τ Z gi gr h0 p1 p2 = f_X12_most_86 τ Z gi gr h0 p1 p2 gi_29 y29_3 y29_4 y29_5 (f_X12_most_29 τ Z gi gr h0 p1 p2 n29) gi_86 y86_3 y86_4 → W p l e (headSpec wsX12_most ({ frames := 6, cells := 0, slots := 0, locals := 175 })).room s m [.ref h0, .int p1, .int p2].toArray below meth c H locs 0 0 (MQ below (va_Qi (fun (r : Int32) (u : th_i × th_r) => th_Mod [1227, 1233, 5900, 6000, 6100, 6200, 6300, 6400] τ gi gr u.1 u.2 ∧ u.2 = gr ∧ (F_X12_most τ Z gi gr h0 p1 p2 = (r, u.1))) (fun (u : th_i × th_r) t => th_H D cA τ u.1 u.2 t.heap) (th_A τ s.heap.size)) [.ref h0, .int p1, .int p2].toArray s 0 0 (th_A τ s.heap.size)) (F0 m 86 ls []) := by
        intro gi_86 H locs ls y86_3 y86_4 w86_0 hH hS hM hl fy86_1 fy86_3 fy86_4 fy86_5 ew86_0 fw86_0 inb86 hF
        obtain ⟨x4, e4⟩ : ∃ y : Int32, y = y29_5 + 1 := ⟨_, rfl⟩
        have f4 : rg 1 16 x4 := rg_e e4 (rg_w (rg_add fy86_5 rgc_1 (th_leI rfl) (th_leI rfl)) (th_leI rfl) (th_leI rfl))
        refine lv_iinc (v := x4) (lv' := [(5, .int x4), (0, .ref h0), (1, .int p1), (2, .int p2), (3, .int y86_3), (4, .int y86_4)]) hx hb dX12_most_86 hl (k := 5) rfl (by rw [e4]; rfl) (th_ltN rfl) rfl (fun ls hl => ?_)
        refine lv_goto (tgt := 29) hx hb dX12_most_89 (th_eqI rfl) ?_
        exact ih29 gi_86 _ _ _ y86_3 y86_4 x4 w86_0 (th_up (rg_dA e4 fy86_5 rgc_1 (th_leI rfl) (th_leI rfl)) fy86_5 hn29 (th_ltI rfl)) hH hS hM (lv_sub hl [1, 2, 3, 4, 5, 0] rfl) fy86_1 fy86_3 fy86_4 (rg_w f4 (th_leI rfl) (th_leI rfl)) ew86_0 (rg_w fw86_0 (th_leI rfl) (th_leI rfl)) (by have h9 := inb86; have h8 := (rg_dA e4 fy86_5 rgc_1 (th_leI rfl) (th_leI rfl)); omega) (hF.trans (by simp only [f_X12_most_86, ← ew86_0, ← e4]))
      have J84 : ∀ (gi_84 : th_i) (H : Heap) (locs : List Loc) (ls : Array Slot) (y84_3 : Int32) (z84_0 : Int32) (w84_0 : Int32), th_H D cA τ gi_84 gr H → va_S (th_A τ s.heap.size) s.heap H locs → th_Mod [1227, 1233, 5900, 6000, 6100, 6200, 6300, 6400] τ gi gr gi_84 gr → lv_has ls 6 [(0, .ref h0), (1, .int p1), (2, .int p2), (3, .int y84_3), (5, .int y29_5)] → rg 0 2147483646 p1 → rg 1 16 y84_3 → rg 0 15 y29_5 → rg 0 1 z84_0 → w84_0 = gi_84 h0 8 → rg 1 16 w84_0 → (y84_3.toInt ≤ y29_5.toInt + 1) → F_X12_most τ Z gi gr h0 p1 p2 = f_X12_most_84 τ Z gi gr h0 p1 p2 gi_29 y29_3 y29_4 y29_5 (f_X12_most_29 τ Z gi gr h0 p1 p2 n29) gi_84 y84_3 z84_0 → W p l e (headSpec wsX12_most ({ frames := 6, cells := 0, slots := 0, locals := 175 })).room s m [.ref h0, .int p1, .int p2].toArray below meth c H locs 0 0 (MQ below (va_Qi (fun (r : Int32) (u : th_i × th_r) => th_Mod [1227, 1233, 5900, 6000, 6100, 6200, 6300, 6400] τ gi gr u.1 u.2 ∧ u.2 = gr ∧ (F_X12_most τ Z gi gr h0 p1 p2 = (r, u.1))) (fun (u : th_i × th_r) t => th_H D cA τ u.1 u.2 t.heap) (th_A τ s.heap.size)) [.ref h0, .int p1, .int p2].toArray s 0 0 (th_A τ s.heap.size)) (F0 m 84 ls [.int z84_0]) := by
        intro gi_84 H locs ls y84_3 z84_0 w84_0 hH hS hM hl fy84_1 fy84_3 fy84_5 fz84_0 ew84_0 fw84_0 inb84 hF
        refine lv_istore (i := 4) (lv' := [(4, .int z84_0), (0, .ref h0), (1, .int p1), (2, .int p2), (3, .int y84_3), (5, .int y29_5)]) hx hb dX12_most_84 hl (th_ltN rfl) rfl (fun ls hl => ?_)
        exact J86 gi_84 _ _ _ y84_3 z84_0 w84_0 hH hS hM (lv_sub hl [1, 2, 3, 4, 0, 5] rfl) fy84_1 (rg_w fy84_3 (th_leI rfl) (th_leI rfl)) fz84_0 fy84_5 ew84_0 fw84_0 (by have h9 := inb84; omega) (hF.trans (by simp only [f_X12_most_84, ← ew84_0]))
      have J83 : ∀ (gi_83 : th_i) (H : Heap) (locs : List Loc) (ls : Array Slot) (y83_3 : Int32) (w83_0 : Int32), th_H D cA τ gi_83 gr H → va_S (th_A τ s.heap.size) s.heap H locs → th_Mod [1227, 1233, 5900, 6000, 6100, 6200, 6300, 6400] τ gi gr gi_83 gr → lv_has ls 6 [(0, .ref h0), (1, .int p1), (2, .int p2), (3, .int y83_3), (5, .int y29_5)] → rg 0 2147483646 p1 → rg 1 16 y83_3 → rg 0 15 y29_5 → w83_0 = gi_83 h0 8 → rg 1 16 w83_0 → (y83_3.toInt ≤ y29_5.toInt + 1) → F_X12_most τ Z gi gr h0 p1 p2 = f_X12_most_83 τ Z gi gr h0 p1 p2 gi_29 y29_3 y29_4 y29_5 (f_X12_most_29 τ Z gi gr h0 p1 p2 n29) gi_83 y83_3 → W p l e (headSpec wsX12_most ({ frames := 6, cells := 0, slots := 0, locals := 175 })).room s m [.ref h0, .int p1, .int p2].toArray below meth c H locs 0 0 (MQ below (va_Qi (fun (r : Int32) (u : th_i × th_r) => th_Mod [1227, 1233, 5900, 6000, 6100, 6200, 6300, 6400] τ gi gr u.1 u.2 ∧ u.2 = gr ∧ (F_X12_most τ Z gi gr h0 p1 p2 = (r, u.1))) (fun (u : th_i × th_r) t => th_H D cA τ u.1 u.2 t.heap) (th_A τ s.heap.size)) [.ref h0, .int p1, .int p2].toArray s 0 0 (th_A τ s.heap.size)) (F0 m 83 ls []) := by
        intro gi_83 H locs ls y83_3 w83_0 hH hS hM hl fy83_1 fy83_3 fy83_5 ew83_0 fw83_0 inb83 hF
        refine lv_iconst (v := 0) hx hb dX12_most_83 ic_0 ?_
        exact J84 gi_83 _ _ _ y83_3 0 w83_0 hH hS hM (lv_sub hl [0, 1, 2, 3, 4] rfl) fy83_1 fy83_3 fy83_5 (rg_w rgc_0 (th_leI rfl) (th_leI rfl)) ew83_0 fw83_0 (by have h9 := inb83; omega) (hF.trans (by simp only [f_X12_most_83, ← ew83_0]))
      have J61 : ∀ (gi_61 : th_i) (H : Heap) (locs : List Loc) (ls : Array Slot) (w61_0 : Int32), th_H D cA τ gi_61 gr H → va_S (th_A τ s.heap.size) s.heap H locs → th_Mod [1227, 1233, 5900, 6000, 6100, 6200, 6300, 6400] τ gi gr gi_61 gr → lv_has ls 6 [(0, .ref h0), (1, .int p1), (2, .int p2), (3, .int y29_3), (4, .int y29_4), (5, .int y29_5)] → rg 0 2147483646 p1 → rg 0 15 y29_3 → rg 0 1 y29_4 → rg 0 15 y29_5 → w61_0 = gi_61 h0 8 → rg 1 16 w61_0 → F_X12_most τ Z gi gr h0 p1 p2 = f_X12_most_61 τ Z gi gr h0 p1 p2 gi_29 y29_3 y29_4 y29_5 (f_X12_most_29 τ Z gi gr h0 p1 p2 n29) gi_61 → W p l e (headSpec wsX12_most ({ frames := 6, cells := 0, slots := 0, locals := 175 })).room s m [.ref h0, .int p1, .int p2].toArray below meth c H locs 0 0 (MQ below (va_Qi (fun (r : Int32) (u : th_i × th_r) => th_Mod [1227, 1233, 5900, 6000, 6100, 6200, 6300, 6400] τ gi gr u.1 u.2 ∧ u.2 = gr ∧ (F_X12_most τ Z gi gr h0 p1 p2 = (r, u.1))) (fun (u : th_i × th_r) t => th_H D cA τ u.1 u.2 t.heap) (th_A τ s.heap.size)) [.ref h0, .int p1, .int p2].toArray s 0 0 (th_A τ s.heap.size)) (F0 m 61 ls []) := by
        intro gi_61 H locs ls w61_0 hH hS hM hl fy61_1 fy61_3 fy61_4 fy61_5 ew61_0 fw61_0 hF
        obtain ⟨x5, e5⟩ : ∃ y : Int32, y = y29_3 + 1 := ⟨_, rfl⟩
        have f5 : rg 1 16 x5 := rg_e e5 (rg_w (rg_add fy61_3 rgc_1 (th_leI rfl) (th_leI rfl)) (th_leI rfl) (th_leI rfl))
        refine lv_iinc (v := x5) (lv' := [(3, .int x5), (0, .ref h0), (1, .int p1), (2, .int p2), (4, .int y29_4), (5, .int y29_5)]) hx hb dX12_most_61 hl (k := 3) rfl (by rw [e5]; rfl) (th_ltN rfl) rfl (fun ls hl => ?_)
        refine lv_iload hx hb dX12_most_64 (lv_at hl 4 rfl) ?_
        refine lv_if_eq (tgt := 83) hx hb dX12_most_66 (th_eqI rfl) (fun c6 => ?_) (fun c6 => ?_)
        · skip
          have f7 : rg 0 0 y29_4 := rg_w (rg_eq fy61_4 rgc_0 c6).1 (th_leI rfl) (th_leI rfl)
          exact J83 gi_61 _ _ _ x5 w61_0 hH hS hM (lv_sub hl [1, 2, 3, 0, 5] rfl) fy61_1 f5 fy61_5 ew61_0 fw61_0 (by have h9 := inb; have h8 := (rg_dA e5 fy61_3 rgc_1 (th_leI rfl) (th_leI rfl)); omega) (hF.trans (by simp only [↓reduceIte, f_X12_most_61, ← ew61_0, ← e5, eq_true c6]))
        · skip
          have f8 : rg 1 1 y29_4 := rg_w (rg_neL fy61_4 rgc_0 c6) (th_leI rfl) (th_leI rfl)
          refine lv_aload_n hx hb dX12_most_69 rfl (lv_at hl 1 rfl) ?_
          obtain ⟨q9, r9, t9⟩ : ∃ q, gr h0 12 = some q ∧ τ q = 50 := (thI_12 hH t_h0).2.2.2.2.2.2.2.2.2.2.2.2.1
          refine th_get (ci := 11) (v := .ref q9) (T := TX12) (C := RX12) (N := 38) hx hb hts (fun w h => List.mem_cons_of_mem _ (List.mem_append_right _ h)) hown hK hH t_h0 (th_nz rfl) (thE_12 _ _ _) rfl 12 (th_ltN rfl) (hts (.fieldLink RX12 40 "BayMooringsModel" "buoyOf" "[I") (List.mem_cons_of_mem _ (List.mem_append_left _ (List.mem_append_left _ (List.mem_of_getElem? (i := 3) rfl))))) (fun _ h9 => h9) (th_fR r9 rfl) dX12_most_70 ?_
          refine lv_iload hx hb dX12_most_73 (lv_at hl 5 rfl) ?_
          refine th_iald hx hb hK hH t9 (th_nz rfl) 0 (thE_50 _ _ _) rfl (rg_in (n := 16) fy61_5 (th_leI rfl) (th_ltI rfl)) dX12_most_75 ?_
          refine lv_topi (fun x10 e10 => ?_)
          have f10 : rg (-1) 11 x10 := rg_e e10 ((thI_50 hH t9) _ (rg_cl (n := 16) fy61_5 (th_leI rfl) (th_ltI rfl)))
          refine lv_if_ge (tgt := 83) hx hb dX12_most_76 (th_eqI rfl) (fun c11 => ?_) (fun c11 => ?_)
          · skip
            have f12 : rg 0 11 x10 := rg_w (rg_le rgc_0 f10 c11).2 (th_leI rfl) (th_leI rfl)
            exact J83 gi_61 _ _ _ x5 w61_0 hH hS hM (lv_sub hl [1, 2, 3, 0, 5] rfl) fy61_1 f5 fy61_5 ew61_0 fw61_0 (by have h9 := inb; have h8 := (rg_dA e5 fy61_3 rgc_1 (th_leI rfl) (th_leI rfl)); omega) (hF.trans (by simp only [↓reduceIte, f_X12_most_61, ← ew61_0, ← e5, eq_false c6, r9, Option.getD_some, ← e10, eq_true c11]))
          · skip
            have f13 : rg (-1) (-1) x10 := rg_w (rg_nle rgc_0 f10 c11).2 (th_leI rfl) (th_leI rfl)
            refine lv_iconst (v := 1) hx hb dX12_most_79 ic_1 ?_
            refine lv_goto (tgt := 84) hx hb dX12_most_80 (th_eqI rfl) ?_
            exact J84 gi_61 _ _ _ x5 1 w61_0 hH hS hM (lv_sub hl [1, 2, 3, 0, 5] rfl) fy61_1 f5 fy61_5 (rg_w rgc_1 (th_leI rfl) (th_leI rfl)) ew61_0 fw61_0 (by have h9 := inb; have h8 := (rg_dA e5 fy61_3 rgc_1 (th_leI rfl) (th_leI rfl)); omega) (hF.trans (by simp only [↓reduceIte, f_X12_most_61, ← ew61_0, ← e5, eq_false c6, r9, Option.getD_some, ← e10, eq_false c11]))
      refine lv_iload hx hb dX12_most_29 (lv_at hl 5 rfl) ?_
      refine lv_aload_n hx hb dX12_most_31 rfl (lv_at hl 0 rfl) ?_
      refine th_get (ci := 11) (v := .int w29_0) (T := TX12) (C := RX12) (N := 38) hx hb hts (fun w h => List.mem_cons_of_mem _ (List.mem_append_right _ h)) hown hK hH t_h0 (th_nz rfl) (thE_12 _ _ _) rfl 8 (th_ltN rfl) (hts (.fieldLink RX12 116 "BayMooringsModel" "boats" "I") (List.mem_cons_of_mem _ (List.mem_append_left _ (List.mem_append_left _ (List.mem_of_getElem? (i := 0) rfl))))) (fun _ h9 => h9) (th_fI ew29_0 rfl) dX12_most_32 ?_
      refine lv_icmp_ge (tgt := 92) hx hb dX12_most_35 (th_eqI rfl) (fun c15 => ?_) (fun c15 => ?_)
      · skip
        refine lv_iload_n hx hb dX12_most_92 rfl (lv_at hl 3 rfl) ?_
        refine lv_iconst (v := 5) hx hb dX12_most_93 ic_5 ?_
        refine lv_icmp_gt (tgt := 106) hx hb dX12_most_94 (th_eqI rfl) (fun c16 => ?_) (fun c16 => ?_)
        · skip
          have f17 : rg 6 16 y29_3 := rg_w (rg_lt rgc_5 fy29_3 c16).2 (th_leI rfl) (th_leI rfl)
          exact J106 gi_29 _ _ _ w29_0 hH hS hM (lv_sub hl [0] rfl) ew29_0 fw29_0 (hF.trans (by simp only [↓reduceIte, f_X12_most_29, ← ew29_0, eq_true c15, eq_true c16]))
        · skip
          have f18 : rg 0 5 y29_3 := rg_w (rg_nlt rgc_5 fy29_3 c16).2 (th_leI rfl) (th_leI rfl)
          refine lv_iload_n hx hb dX12_most_97 rfl (lv_at hl 2 rfl) ?_
          refine lv_iconst (v := 0) hx hb dX12_most_98 ic_0 ?_
          refine lv_iload_n hx hb dX12_most_99 rfl (lv_at hl 3 rfl) ?_
          have hA19 := th_Asub (τ := τ) hS
          refine va_calli (va_runS (As := [.int p2, .int 0, .int y29_3]) (rest := []) ⟨hx, hb, hml, hown, hts⟩ (k_X12_within l D cA Z τ gi_29 gr _ p2 0 y29_3) (va_cwS 3 hts gX12_most_X12_within rfl rfl rfl (by decide +kernel) ⟨Nat.le_of_ble_eq_true rfl, Nat.le_of_ble_eq_true rfl⟩) ⟨th_blind, (th_pre hH hK hN hZ hS hA19)⟩ rfl rfl hl.1 rfl (lv_room (Nat.le_of_ble_eq_true rfl)) dX12_most_100 ⟨Nat.le_of_ble_eq_true rfl, Nat.le_of_ble_eq_true rfl⟩) hS (fun q _ h => hA19 q h) hA19 (fun x20 u t H locs ht hvm hw20 hB hz1 hk1 hS => ?_)
          try dsimp only at hw20 hB
          rw [ht] at hB
          have hH := hB
          refine lv_if_ne (tgt := 113) hx hb dX12_most_103 (th_eqI rfl) (fun c21 => ?_) (fun c21 => ?_)
          · skip
            have f22 : rg 1 1 x20 := rg_w (rg_neL hw20.1 rgc_0 c21) (th_leI rfl) (th_leI rfl)
            have g23 := hw20.2.1 c21
            have f24 : rg 0 2147483647 p2 := rg_w (rg_le rgc_0 (rg_any p2) g23.1).2 (th_leI rfl) (th_leI rfl)
            have f25 : rg 0 5 p2 := rg_w (rg_le f24 f18 g23.2).1 (th_leI rfl) (th_leI rfl)
            refine lv_iload hx hb dX12_most_113 (lv_at hl 4 rfl) ?_
            refine lv_if_ne (tgt := 125) hx hb dX12_most_115 (th_eqI rfl) (fun c26 => ?_) (fun c26 => ?_)
            · skip
              have f27 : rg 1 1 y29_4 := rg_w (rg_neL fy29_4 rgc_0 c26) (th_leI rfl) (th_leI rfl)
              refine lv_aload_n hx hb dX12_most_125 rfl (lv_at hl 0 rfl) ?_
              refine lv_iload_n hx hb dX12_most_126 rfl (lv_at hl 3 rfl) ?_
              refine th_put (ci := 11) (v := .int y29_3) (T := TX12) (C := RX12) (N := 38) (ty := .int) (gi' := va_up gi_29 h0 (upd (gi_29 h0) 27 y29_3)) (gr' := gr) hx hb hts (fun w h => List.mem_cons_of_mem _ (List.mem_append_right _ h)) tyX12 tyX12_ok nmX12 hown hK hH hS t_h0 (th_nz rfl) (Or.inl (th_nzE t_h0 rfl)) rfl rfl 27 (th_ltN rfl) (hts (.fieldLink RX12 200 "BayMooringsModel" "some" "I") (List.mem_cons_of_mem _ (List.mem_append_left _ (List.mem_append_left _ (List.mem_of_getElem? (i := 5) rfl))))) (fun _ h9 => h9) rfl (by decide +kernel) rfl rfl (Nat.le_of_ble_eq_true rfl) (by rw [va_up_self]; rfl) (by rw [va_up_self]; show rg 0 12 (gi_29 h0 0) ∧ (∃ q, gr h0 1 = some q ∧ τ q = 40) ∧ (∃ q, gr h0 2 = some q ∧ τ q = 41) ∧ (∃ q, gr h0 3 = some q ∧ τ q = 42) ∧ (∃ q, gr h0 4 = some q ∧ τ q = 43) ∧ (∃ q, gr h0 5 = some q ∧ τ q = 44) ∧ (∃ q, gr h0 6 = some q ∧ τ q = 45) ∧ (∃ q, gr h0 7 = some q ∧ τ q = 46) ∧ rg 0 16 (gi_29 h0 8) ∧ (∃ q, gr h0 9 = some q ∧ τ q = 47) ∧ (∃ q, gr h0 10 = some q ∧ τ q = 48) ∧ (∃ q, gr h0 11 = some q ∧ τ q = 49) ∧ (∃ q, gr h0 12 = some q ∧ τ q = 50) ∧ (∃ q, gr h0 13 = some q ∧ τ q = 51) ∧ (∃ q, gr h0 15 = some q ∧ τ q = 52) ∧ (∃ q, gr h0 16 = some q ∧ τ q = 53) ∧ rg 0 10 (gi_29 h0 17) ∧ (∃ q, gr h0 18 = some q ∧ τ q = 54) ∧ (∃ q, gr h0 19 = some q ∧ τ q = 55) ∧ (∃ q, gr h0 21 = some q ∧ τ q = 56) ∧ (∃ q, gr h0 22 = some q ∧ τ q = 57) ∧ rg 0 24 (gi_29 h0 24) ∧ (∃ q, gr h0 25 = some q ∧ τ q = 58) ∧ (∃ q, gr h0 26 = some q ∧ τ q = 59) ∧ rg 0 5 y29_3 ∧ (∃ q, gr h0 28 = some q ∧ τ q = 60) ∧ (∃ q, gr h0 29 = some q ∧ τ q = 61) ∧ (∃ q, gr h0 30 = some q ∧ τ q = 62) ∧ (∃ q, gr h0 31 = some q ∧ τ q = 63) ∧ (∃ q, gr h0 32 = some q ∧ τ q = 64) ∧ (∃ q, gr h0 34 = some q ∧ τ q = 65) ∧ (∃ q, gr h0 35 = some q ∧ τ q = 66) ∧ (∃ q, gr h0 36 = some q ∧ τ q = 67) ∧ (∃ q, gr h0 37 = some q ∧ τ q = 68); exact ⟨(thI_12 hH t_h0).1, (thI_12 hH t_h0).2.1, (thI_12 hH t_h0).2.2.1, (thI_12 hH t_h0).2.2.2.1, (thI_12 hH t_h0).2.2.2.2.1, (thI_12 hH t_h0).2.2.2.2.2.1, (thI_12 hH t_h0).2.2.2.2.2.2.1, (thI_12 hH t_h0).2.2.2.2.2.2.2.1, (thI_12 hH t_h0).2.2.2.2.2.2.2.2.1, (thI_12 hH t_h0).2.2.2.2.2.2.2.2.2.1, (thI_12 hH t_h0).2.2.2.2.2.2.2.2.2.2.1, (thI_12 hH t_h0).2.2.2.2.2.2.2.2.2.2.2.1, (thI_12 hH t_h0).2.2.2.2.2.2.2.2.2.2.2.2.1, (thI_12 hH t_h0).2.2.2.2.2.2.2.2.2.2.2.2.2.1, (thI_12 hH t_h0).2.2.2.2.2.2.2.2.2.2.2.2.2.2.1, (thI_12 hH t_h0).2.2.2.2.2.2.2.2.2.2.2.2.2.2.2.1, (thI_12 hH t_h0).2.2.2.2.2.2.2.2.2.2.2.2.2.2.2.2.1, (thI_12 hH t_h0).2.2.2.2.2.2.2.2.2.2.2.2.2.2.2.2.2.1, (thI_12 hH t_h0).2.2.2.2.2.2.2.2.2.2.2.2.2.2.2.2.2.2.1, (thI_12 hH t_h0).2.2.2.2.2.2.2.2.2.2.2.2.2.2.2.2.2.2.2.1, (thI_12 hH t_h0).2.2.2.2.2.2.2.2.2.2.2.2.2.2.2.2.2.2.2.2.1, (thI_12 hH t_h0).2.2.2.2.2.2.2.2.2.2.2.2.2.2.2.2.2.2.2.2.2.1, (thI_12 hH t_h0).2.2.2.2.2.2.2.2.2.2.2.2.2.2.2.2.2.2.2.2.2.2.1, (thI_12 hH t_h0).2.2.2.2.2.2.2.2.2.2.2.2.2.2.2.2.2.2.2.2.2.2.2.1, f18, (thI_12 hH t_h0).2.2.2.2.2.2.2.2.2.2.2.2.2.2.2.2.2.2.2.2.2.2.2.2.2.1, (thI_12 hH t_h0).2.2.2.2.2.2.2.2.2.2.2.2.2.2.2.2.2.2.2.2.2.2.2.2.2.2.1, (thI_12 hH t_h0).2.2.2.2.2.2.2.2.2.2.2.2.2.2.2.2.2.2.2.2.2.2.2.2.2.2.2.1, (thI_12 hH t_h0).2.2.2.2.2.2.2.2.2.2.2.2.2.2.2.2.2.2.2.2.2.2.2.2.2.2.2.2.1, (thI_12 hH t_h0).2.2.2.2.2.2.2.2.2.2.2.2.2.2.2.2.2.2.2.2.2.2.2.2.2.2.2.2.2.1, (thI_12 hH t_h0).2.2.2.2.2.2.2.2.2.2.2.2.2.2.2.2.2.2.2.2.2.2.2.2.2.2.2.2.2.2.1, (thI_12 hH t_h0).2.2.2.2.2.2.2.2.2.2.2.2.2.2.2.2.2.2.2.2.2.2.2.2.2.2.2.2.2.2.2.1, (thI_12 hH t_h0).2.2.2.2.2.2.2.2.2.2.2.2.2.2.2.2.2.2.2.2.2.2.2.2.2.2.2.2.2.2.2.2.1, (thI_12 hH t_h0).2.2.2.2.2.2.2.2.2.2.2.2.2.2.2.2.2.2.2.2.2.2.2.2.2.2.2.2.2.2.2.2.2⟩) (fun b hb => ⟨va_up_ne _ _ hb, rfl⟩) dX12_most_127 (fun H locs hH hS => ?_)
              obtain ⟨gi28, eg28⟩ : ∃ g, g = va_up gi_29 h0 (upd (gi_29 h0) 27 y29_3) := ⟨_, rfl⟩
              rw [← eg28] at hH
              have hu28 : gi28 h0 27 = y29_3 := (th_uI eg28).1
              have ho28 : ∀ b j, b ≠ h0 ∨ j ≠ 27 → gi28 b j = gi_29 b j := (th_uI eg28).2
              have e29 : w29_0 = gi28 h0 8 := Eq.trans ew29_0 (Eq.symm (ho28 _ _ (Or.inr (th_nz rfl))))
              have hM := hM.i t_h0 (th_mem (a := 1227) rfl) ho28
              refine lv_aload_n hx hb dX12_most_130 rfl (lv_at hl 0 rfl) ?_
              have hA30 := th_Asub (τ := τ) hS
              refine va_callv (va_runV (As := []) (rest := []) ⟨hx, hb, hml, hown, hts⟩ (k_X12_findMay l D cA Z τ gi28 gr _ h0 t_h0) (cwV 0 hts gX12_most_X12_findMay rfl rfl rfl hd_X12_findMay__0 ⟨Nat.le_of_ble_eq_true rfl, Nat.le_of_ble_eq_true rfl⟩) ⟨th_blind, tr_12 hK hH t_h0, (th_pre hH hK hN hZ hS hA30)⟩ rfl rfl hl.1 rfl (lv_room (Nat.le_of_ble_eq_true rfl)) dX12_most_131 ⟨Nat.le_of_ble_eq_true rfl, Nat.le_of_ble_eq_true rfl⟩) hS (fun q _ h => hA30 q h) hA30 (fun  u t H locs ht hvm hw31 hB hz1 hk1 hS => ?_)
              try dsimp only at hw31 hB
              rw [ht] at hB
              have hH := hB
              obtain ⟨gi31, gr31⟩ := u
              try dsimp only at hw31 hH
              obtain rfl : gr = gr31 := (hw31.2.1).symm
              have hM := hM.tr hw31.1 (fun _ h => h) (th_sub rfl)
              have e32 : w29_0 = gi31 h0 8 := Eq.trans e29 (Eq.symm (hw31.1 h0 8 (th_nzE t_h0 rfl) (th_nmE (key := 1208) t_h0 rfl rfl)).1)
              have e33 : y29_3 = gi31 h0 27 := Eq.trans hu28.symm (Eq.symm (hw31.1 h0 27 (th_nzE t_h0 rfl) (th_nmE (key := 1227) t_h0 rfl rfl)).1)
              refine lv_aload_n hx hb dX12_most_134 rfl (lv_at hl 0 rfl) ?_
              have hA34 := th_Asub (τ := τ) hS
              refine va_callv (va_runV (As := []) (rest := []) ⟨hx, hb, hml, hown, hts⟩ (k_X12_findMost l D cA Z τ gi31 gr _ h0 t_h0) (cwV 0 hts gX12_most_X12_findMost rfl rfl rfl hd_X12_findMost__0 ⟨Nat.le_of_ble_eq_true rfl, Nat.le_of_ble_eq_true rfl⟩) ⟨th_blind, tr_12 hK hH t_h0, (th_pre hH hK hN hZ hS hA34)⟩ rfl rfl hl.1 rfl (lv_room (Nat.le_of_ble_eq_true rfl)) dX12_most_135 ⟨Nat.le_of_ble_eq_true rfl, Nat.le_of_ble_eq_true rfl⟩) hS (fun q _ h => hA34 q h) hA34 (fun  u t H locs ht hvm hw35 hB hz1 hk1 hS => ?_)
              try dsimp only at hw35 hB
              rw [ht] at hB
              have hH := hB
              obtain ⟨gi35, gr35⟩ := u
              try dsimp only at hw35 hH
              obtain rfl : gr = gr35 := (hw35.2.1).symm
              have hM := hM.tr hw35.1 (fun _ h => h) (th_sub rfl)
              have e36 : w29_0 = gi35 h0 8 := Eq.trans e32 (Eq.symm (hw35.1 h0 8 (th_nzE t_h0 rfl) (th_nmE (key := 1208) t_h0 rfl rfl)).1)
              have e37 : y29_3 = gi35 h0 27 := Eq.trans e33 (Eq.symm (hw35.1 h0 27 (th_nzE t_h0 rfl) (th_nmE (key := 1227) t_h0 rfl rfl)).1)
              refine lv_iload_n hx hb dX12_most_138 rfl (lv_at hl 2 rfl) ?_
              refine lv_if_ne (tgt := 149) hx hb dX12_most_139 (th_eqI rfl) (fun c38 => ?_) (fun c38 => ?_)
              · skip
                have f39 : rg 1 5 p2 := rg_w (rg_neL f25 rgc_0 c38) (th_leI rfl) (th_leI rfl)
                refine lv_aload_n hx hb dX12_most_149 rfl (lv_at hl 0 rfl) ?_
                obtain ⟨q40, r40, t40⟩ : ∃ q, gr h0 31 = some q ∧ τ q = 63 := (thI_12 hH t_h0).2.2.2.2.2.2.2.2.2.2.2.2.2.2.2.2.2.2.2.2.2.2.2.2.2.2.2.2.1
                refine th_get (ci := 11) (v := .ref q40) (T := TX12) (C := RX12) (N := 38) hx hb hts (fun w h => List.mem_cons_of_mem _ (List.mem_append_right _ h)) hown hK hH t_h0 (th_nz rfl) (thE_12 _ _ _) rfl 31 (th_ltN rfl) (hts (.fieldLink RX12 89 "BayMooringsModel" "best" "[I") (List.mem_cons_of_mem _ (List.mem_append_left _ (List.mem_append_left _ (List.mem_of_getElem? (i := 7) rfl))))) (fun _ h9 => h9) (th_fR r40 rfl) dX12_most_150 ?_
                refine lv_iload_n hx hb dX12_most_153 rfl (lv_at hl 2 rfl) ?_
                refine lv_iconst (v := 1) hx hb dX12_most_154 ic_1 ?_
                refine lv_isub hx hb dX12_most_155 ?_
                refine lv_topi (fun x41 e41 => ?_)
                have f41 : rg 0 4 x41 := rg_e e41 (rg_w (rg_sub f39 rgc_1 (th_leI rfl) (th_leI rfl)) (th_leI rfl) (th_leI rfl))
                refine th_iald hx hb hK hH t40 (th_nz rfl) 0 (thE_63 _ _ _) rfl (rg_in (n := 5) f41 (th_leI rfl) (th_ltI rfl)) dX12_most_156 ?_
                refine lv_topi (fun x42 e42 => ?_)
                exact W.iret (v := x42) hx hb hr (fun t ht hW => ⟨⟨x42, (gi35, gr), rfl, ⟨hM, rfl, (hF.trans (by simp only [↓reduceIte, f_X12_most_29, ← ew29_0, eq_true c15, eq_false c16, hw20.2.2.1, eq_false c21, eq_false c26, ← eg28, hw31.2.2, hw35.2.2, eq_false c38, r40, Option.getD_some, ← e41, ← e42]))⟩, th_Ht ht hH⟩, hS.F ht⟩) hS.2.2 dX12_most_157
              · skip
                have f43 : rg 0 0 p2 := rg_w (rg_eq f25 rgc_0 c38).1 (th_leI rfl) (th_leI rfl)
                refine lv_aload_n hx hb dX12_most_142 rfl (lv_at hl 0 rfl) ?_
                obtain ⟨x44, e44⟩ : ∃ y : Int32, y = gi35 h0 33 := ⟨_, rfl⟩
                refine th_get (ci := 11) (v := .int x44) (T := TX12) (C := RX12) (N := 38) hx hb hts (fun w h => List.mem_cons_of_mem _ (List.mem_append_right _ h)) hown hK hH t_h0 (th_nz rfl) (thE_12 _ _ _) rfl 33 (th_ltN rfl) (hts (.fieldLink RX12 206 "BayMooringsModel" "most" "I") (List.mem_cons_of_mem _ (List.mem_append_left _ (List.mem_append_left _ (List.mem_of_getElem? (i := 6) rfl))))) (fun _ h9 => h9) (th_fI e44 rfl) dX12_most_143 ?_
                refine lv_goto (tgt := 157) hx hb dX12_most_146 (th_eqI rfl) ?_
                exact W.iret (v := x44) hx hb hr (fun t ht hW => ⟨⟨x44, (gi35, gr), rfl, ⟨hM, rfl, (hF.trans (by simp only [↓reduceIte, f_X12_most_29, ← ew29_0, eq_true c15, eq_false c16, hw20.2.2.1, eq_false c21, eq_false c26, ← eg28, hw31.2.2, hw35.2.2, eq_true c38, ← e44]))⟩, th_Ht ht hH⟩, hS.F ht⟩) hS.2.2 dX12_most_157
            · skip
              have f45 : rg 0 0 y29_4 := rg_w (rg_eq fy29_4 rgc_0 c26).1 (th_leI rfl) (th_leI rfl)
              refine lv_aload_n hx hb dX12_most_118 rfl (lv_at hl 0 rfl) ?_
              refine lv_ldc (v := (-1000003)) hx hb hown (hts (.constant RX12 186 (-1000003)) (List.mem_cons_of_mem _ (List.mem_append_left _ (List.mem_append_left _ (List.mem_of_getElem? (i := 4) rfl))))) dX12_most_119 ?_
              have hA46 := th_Asub (τ := τ) hS
              refine va_calli (va_runV (As := [.int (-1000003)]) (rest := []) ⟨hx, hb, hml, hown, hts⟩ (k_X12_finding l D cA Z τ gi_29 gr _ h0 t_h0 (-1000003) (rg_w rgc_m1000003 (th_leI rfl) (th_leI rfl))) (cwV 1 hts gX12_most_X12_finding rfl rfl rfl hd_X12_finding__1 ⟨Nat.le_of_ble_eq_true rfl, Nat.le_of_ble_eq_true rfl⟩) ⟨th_blind, tr_12 hK hH t_h0, (th_pre hH hK hN hZ hS hA46)⟩ rfl rfl hl.1 rfl (lv_room (Nat.le_of_ble_eq_true rfl)) dX12_most_121 ⟨Nat.le_of_ble_eq_true rfl, Nat.le_of_ble_eq_true rfl⟩) hS (fun q _ h => hA46 q h) hA46 (fun x47 u t H locs ht hvm hw47 hB hz1 hk1 hS => ?_)
              try dsimp only at hw47 hB
              rw [ht] at hB
              have hH := hB
              obtain ⟨gi47, gr47⟩ := u
              try dsimp only at hw47 hH
              obtain rfl : gr = gr47 := (hw47.2.1).symm
              have hM := hM.tr hw47.1 (fun _ h => h) (th_sub rfl)
              have e48 : w29_0 = gi47 h0 8 := Eq.trans ew29_0 (Eq.symm (hw47.1 h0 8 (th_nzE t_h0 rfl) (th_nmE (key := 1208) t_h0 rfl rfl)).1)
              exact W.iret (v := x47) hx hb hr (fun t ht hW => ⟨⟨x47, (gi47, gr), rfl, ⟨hM, rfl, (hF.trans (by simp only [↓reduceIte, f_X12_most_29, ← ew29_0, eq_true c15, eq_false c16, hw20.2.2.1, eq_false c21, eq_true c26, hw47.2.2.1]))⟩, th_Ht ht hH⟩, hS.F ht⟩) hS.2.2 dX12_most_124
          · skip
            have f49 : rg 0 0 x20 := rg_w (rg_eq hw20.1 rgc_0 c21).1 (th_leI rfl) (th_leI rfl)
            exact J106 gi_29 _ _ _ w29_0 hH hS hM (lv_sub hl [0] rfl) ew29_0 fw29_0 (hF.trans (by simp only [↓reduceIte, f_X12_most_29, ← ew29_0, eq_true c15, eq_false c16, hw20.2.2.1, eq_true c21]))
      · skip
        have f50 : rg 1 16 w29_0 := rg_w (rg_nle fw29_0 fy29_5 c15).1 (th_leI rfl) (th_leI rfl)
        have f51 : rg 0 15 y29_5 := rg_w (rg_nle fw29_0 fy29_5 c15).2 (th_leI rfl) (th_leI rfl)
        have f52 : rg 0 15 y29_3 := rg_w (show rg 0 15 y29_3 from ⟨(fy29_3).1, by have h9 := inb; have h8 := (f51).2; omega⟩) (th_leI rfl) (th_leI rfl)
        refine lv_iload_n hx hb dX12_most_38 rfl (lv_at hl 1 rfl) ?_
        refine lv_iload hx hb dX12_most_39 (lv_at hl 5 rfl) ?_
        refine lv_ishr hx hb dX12_most_41 ?_
        refine lv_topi (fun x53 e53 => ?_)
        refine lv_iconst (v := 1) hx hb dX12_most_42 ic_1 ?_
        refine lv_iand hx hb dX12_most_43 ?_
        refine lv_topi (fun x54 e54 => ?_)
        have f54 : rg 0 1 x54 := rg_e e54 (rg_and 1 (by decide) (th_leN rfl) (th_eqI rfl))
        refine lv_iconst (v := 1) hx hb dX12_most_44 ic_1 ?_
        refine lv_icmp_ne (tgt := 86) hx hb dX12_most_45 (th_eqI rfl) (fun c55 => ?_) (fun c55 => ?_)
        · skip
          have f56 : rg 0 0 x54 := rg_w (rg_neR f54 rgc_1 c55) (th_leI rfl) (th_leI rfl)
          exact J86 gi_29 _ _ _ y29_3 y29_4 w29_0 hH hS hM (lv_sub hl [0, 1, 2, 3, 4, 5] rfl) fy29_1 (rg_w f52 (th_leI rfl) (th_leI rfl)) fy29_4 f51 ew29_0 f50 (by have h9 := inb; omega) (hF.trans (by simp only [↓reduceIte, f_X12_most_29, ← ew29_0, eq_false c15, ← e53, ← e54, eq_false c55]))
        · skip
          have f57 : rg 1 1 x54 := rg_w (rg_eq f54 rgc_1 c55).1 (th_leI rfl) (th_leI rfl)
          refine lv_iload_n hx hb dX12_most_48 rfl (lv_at hl 3 rfl) ?_
          refine lv_iconst (v := 5) hx hb dX12_most_49 ic_5 ?_
          refine lv_icmp_ge (tgt := 61) hx hb dX12_most_50 (th_eqI rfl) (fun c58 => ?_) (fun c58 => ?_)
          · skip
            have f59 : rg 5 15 y29_3 := rg_w (rg_le rgc_5 f52 c58).2 (th_leI rfl) (th_leI rfl)
            exact J61 gi_29 _ _ _ w29_0 hH hS hM (lv_sub hl [0, 1, 2, 3, 4, 5] rfl) fy29_1 (rg_w f59 (th_leI rfl) (th_leI rfl)) fy29_4 f51 ew29_0 f50 (hF.trans (by simp only [↓reduceIte, f_X12_most_29, ← ew29_0, eq_false c15, ← e53, ← e54, eq_true c55, eq_true c58]))
          · skip
            have f60 : rg 0 4 y29_3 := rg_w (rg_nle rgc_5 f52 c58).2 (th_leI rfl) (th_leI rfl)
            refine lv_aload_n hx hb dX12_most_53 rfl (lv_at hl 0 rfl) ?_
            obtain ⟨q61, r61, t61⟩ : ∃ q, gr h0 28 = some q ∧ τ q = 60 := (thI_12 hH t_h0).2.2.2.2.2.2.2.2.2.2.2.2.2.2.2.2.2.2.2.2.2.2.2.2.2.1
            refine th_get (ci := 11) (v := .ref q61) (T := TX12) (C := RX12) (N := 38) hx hb hts (fun w h => List.mem_cons_of_mem _ (List.mem_append_right _ h)) hown hK hH t_h0 (th_nz rfl) (thE_12 _ _ _) rfl 28 (th_ltN rfl) (hts (.fieldLink RX12 80 "BayMooringsModel" "someOf" "[I") (List.mem_cons_of_mem _ (List.mem_append_left _ (List.mem_append_left _ (List.mem_of_getElem? (i := 2) rfl))))) (fun _ h9 => h9) (th_fR r61 rfl) dX12_most_54 ?_
            refine lv_iload_n hx hb dX12_most_57 rfl (lv_at hl 3 rfl) ?_
            refine lv_iload hx hb dX12_most_58 (lv_at hl 5 rfl) ?_
            refine th_iast hx hb hK hH hS t61 (th_nz rfl) (Or.inl (th_nzE t61 rfl)) 0 (fun _ => thE_60 _ _ _) rfl (rg_in (n := 5) f60 (th_leI rfl) (th_ltI rfl)) (th_ai (P := rg 0 15) (thI_60 hH t61) f51) dX12_most_60 (fun gi62 H locs hu62 ho62 hH hS => ?_)
            have eg62 : gi62 = va_up gi_29 q61 (upd (gi_29 q61) y29_3.toNatClampNeg y29_5) := th_upE hu62 ho62
            have e63 : w29_0 = gi62 h0 8 := Eq.trans ew29_0 (Eq.symm (ho62 _ _ (Or.inl (th_ne t_h0 t61 (th_nz rfl)))))
            have hM := hM.i t61 (th_mem (a := 6000) rfl) ho62
            exact J61 gi62 _ _ _ w29_0 hH hS hM (lv_sub hl [0, 1, 2, 3, 4, 5] rfl) fy29_1 (rg_w f60 (th_leI rfl) (th_leI rfl)) fy29_4 f51 e63 f50 (hF.trans (by simp only [↓reduceIte, f_X12_most_29, ← ew29_0, eq_false c15, ← e53, ← e54, eq_true c55, eq_false c58, r61, Option.getD_some, ← eg62]))
  have J14 : ∀ (gi_14 : th_i) (H : Heap) (locs : List Loc) (ls : Array Slot), th_H D cA τ gi_14 gr H → va_S (th_A τ s.heap.size) s.heap H locs → th_Mod [1227, 1233, 5900, 6000, 6100, 6200, 6300, 6400] τ gi gr gi_14 gr → lv_has ls 6 [(0, .ref h0)] → F_X12_most τ Z gi gr h0 p1 p2 = f_X12_most_14 τ Z gi gr h0 p1 p2 gi_14 → W p l e (headSpec wsX12_most ({ frames := 6, cells := 0, slots := 0, locals := 175 })).room s m [.ref h0, .int p1, .int p2].toArray below meth c H locs 0 0 (MQ below (va_Qi (fun (r : Int32) (u : th_i × th_r) => th_Mod [1227, 1233, 5900, 6000, 6100, 6200, 6300, 6400] τ gi gr u.1 u.2 ∧ u.2 = gr ∧ (F_X12_most τ Z gi gr h0 p1 p2 = (r, u.1))) (fun (u : th_i × th_r) t => th_H D cA τ u.1 u.2 t.heap) (th_A τ s.heap.size)) [.ref h0, .int p1, .int p2].toArray s 0 0 (th_A τ s.heap.size)) (F0 m 14 ls []) := by
    intro gi_14 H locs ls hH hS hM hl hF
    refine lv_aload_n hx hb dX12_most_14 rfl (lv_at hl 0 rfl) ?_
    refine lv_ldc (v := (-1000001)) hx hb hown (hts (.constant RX12 119 (-1000001)) (List.mem_cons_of_mem _ (List.mem_append_left _ (List.mem_append_left _ (List.mem_of_getElem? (i := 1) rfl))))) dX12_most_15 ?_
    have hA64 := th_Asub (τ := τ) hS
    refine va_calli (va_runV (As := [.int (-1000001)]) (rest := []) ⟨hx, hb, hml, hown, hts⟩ (k_X12_finding l D cA Z τ gi_14 gr _ h0 t_h0 (-1000001) (rg_w rgc_m1000001 (th_leI rfl) (th_leI rfl))) (cwV 1 hts gX12_most_X12_finding rfl rfl rfl hd_X12_finding__1 ⟨Nat.le_of_ble_eq_true rfl, Nat.le_of_ble_eq_true rfl⟩) ⟨th_blind, tr_12 hK hH t_h0, (th_pre hH hK hN hZ hS hA64)⟩ rfl rfl hl.1 rfl (lv_room (Nat.le_of_ble_eq_true rfl)) dX12_most_17 ⟨Nat.le_of_ble_eq_true rfl, Nat.le_of_ble_eq_true rfl⟩) hS (fun q _ h => hA64 q h) hA64 (fun x65 u t H locs ht hvm hw65 hB hz1 hk1 hS => ?_)
    try dsimp only at hw65 hB
    rw [ht] at hB
    have hH := hB
    obtain ⟨gi65, gr65⟩ := u
    try dsimp only at hw65 hH
    obtain rfl : gr = gr65 := (hw65.2.1).symm
    have hM := hM.tr hw65.1 (fun _ h => h) (th_sub rfl)
    exact W.iret (v := x65) hx hb hr (fun t ht hW => ⟨⟨x65, (gi65, gr), rfl, ⟨hM, rfl, (hF.trans (by simp only [f_X12_most_14, hw65.2.2.1]))⟩, th_Ht ht hH⟩, hS.F ht⟩) hS.2.2 dX12_most_20
  have hS : va_S (th_A τ s.heap.size) s.heap s.heap [] := va_S.rf
  have hl := lv_entry ([.ref h0, .int p1, .int p2]) (n := 6) (Nat.le_of_ble_eq_true rfl)
  rw [lg_entry_eq]
  generalize (lg_sl ([.ref h0, .int p1, .int p2]) ++ List.replicate (6 - (lg_sl ([.ref h0, .int p1, .int p2])).length) Slot.unset).toArray = ls at hl ⊢
  have hl : lv_has ls 6 [(0, .ref h0), (1, .int p1), (2, .int p2)] := hl
  have hF : F_X12_most τ Z gi gr h0 p1 p2 = F_X12_most τ Z gi gr h0 p1 p2 := rfl
  refine lv_iload_n hx hb dX12_most_0 rfl (lv_at hl 1 rfl) ?_
  refine lv_if_lt (tgt := 14) hx hb dX12_most_1 (th_eqI rfl) (fun c66 => ?_) (fun c66 => ?_)
  · skip
    have f67 : rg (-2147483648) (-1) p1 := rg_w (rg_lt (rg_any p1) rgc_0 c66).1 (th_leI rfl) (th_leI rfl)
    exact J14 gi _ _ _ hH hS hM (lv_sub hl [0] rfl) (hF.trans (by simp only [↓reduceIte, F_X12_most, eq_true c66]))
  · skip
    have f68 : rg 0 2147483647 p1 := rg_w (rg_nlt (rg_any p1) rgc_0 c66).1 (th_leI rfl) (th_leI rfl)
    refine lv_iload_n hx hb dX12_most_4 rfl (lv_at hl 1 rfl) ?_
    refine lv_iconst (v := 1) hx hb dX12_most_5 ic_1 ?_
    refine lv_aload_n hx hb dX12_most_6 rfl (lv_at hl 0 rfl) ?_
    obtain ⟨x69, e69⟩ : ∃ y : Int32, y = gi h0 8 := ⟨_, rfl⟩
    refine th_get (ci := 11) (v := .int x69) (T := TX12) (C := RX12) (N := 38) hx hb hts (fun w h => List.mem_cons_of_mem _ (List.mem_append_right _ h)) hown hK hH t_h0 (th_nz rfl) (thE_12 _ _ _) rfl 8 (th_ltN rfl) (hts (.fieldLink RX12 116 "BayMooringsModel" "boats" "I") (List.mem_cons_of_mem _ (List.mem_append_left _ (List.mem_append_left _ (List.mem_of_getElem? (i := 0) rfl))))) (fun _ h9 => h9) (th_fI e69 rfl) dX12_most_7 ?_
    have f69 : rg 0 16 x69 := rg_e e69 ((thI_12 hH t_h0).2.2.2.2.2.2.2.2.1)
    refine lv_ishl hx hb dX12_most_10 ?_
    refine lv_topi (fun x70 e70 => ?_)
    refine lv_icmp_lt (tgt := 21) hx hb dX12_most_11 (th_eqI rfl) (fun c71 => ?_) (fun c71 => ?_)
    · skip
      have f72 : rg 0 2147483646 p1 := rg_w (rg_lt f68 (rg_any x70) c71).1 (th_leI rfl) (th_leI rfl)
      have f73 : rg 1 2147483647 x70 := rg_w (rg_lt f68 (rg_any x70) c71).2 (th_leI rfl) (th_leI rfl)
      refine lv_iconst (v := 0) hx hb dX12_most_21 ic_0 ?_
      refine lv_istore_n (i := 3) (lv' := [(3, .int 0), (0, .ref h0), (1, .int p1), (2, .int p2)]) hx hb dX12_most_22 rfl hl (th_ltN rfl) rfl (fun ls hl => ?_)
      refine lv_iconst (v := 1) hx hb dX12_most_23 ic_1 ?_
      refine lv_istore (i := 4) (lv' := [(4, .int 1), (3, .int 0), (0, .ref h0), (1, .int p1), (2, .int p2)]) hx hb dX12_most_24 hl (th_ltN rfl) rfl (fun ls hl => ?_)
      refine lv_iconst (v := 0) hx hb dX12_most_26 ic_0 ?_
      refine lv_istore (i := 5) (lv' := [(5, .int 0), (4, .int 1), (3, .int 0), (0, .ref h0), (1, .int p1), (2, .int p2)]) hx hb dX12_most_27 hl (th_ltN rfl) rfl (fun ls hl => ?_)
      exact J29 _ gi _ _ _ 0 1 0 x69 (Nat.lt_add_one _) hH hS hM (lv_sub hl [3, 4, 5, 2, 1, 0] rfl) f72 (rg_w rgc_0 (th_leI rfl) (th_leI rfl)) (rg_w rgc_1 (th_leI rfl) (th_leI rfl)) (rg_w rgc_0 (th_leI rfl) (th_leI rfl)) e69 f69 (by decide) (hF.trans (by simp only [↓reduceIte, F_X12_most, eq_false c66, ← e69, ← e70, eq_true c71]))
    · skip
      exact J14 gi _ _ _ hH hS hM (lv_sub hl [0] rfl) (hF.trans (by simp only [↓reduceIte, F_X12_most, eq_false c66, ← e69, ← e70, eq_false c71]))
