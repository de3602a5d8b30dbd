section
noncomputable def f_X10_placeOf_2 (τ : th_t) (Z : th_Zt) (gi : th_i) (gr : th_r) (h0 : Nat) (p1 : Int32) : Nat → Int32 → Int32
  | 0, y2_2 => 0
  | n2 + 1, y2_2 =>
    let x1 : Int32 := gi h0 2
    if x1 ≤ y2_2 then (
      (-1)) else (
      let q5 : Nat := (gr h0 1).getD 0
      let x6 : Int32 := gi q5 y2_2.toNatClampNeg
      if x6 = p1 then (
        y2_2) else (
        let x8 : Int32 := y2_2 + 1
        (f_X10_placeOf_2 τ Z gi gr h0 p1 n2) x8))
noncomputable def F_X10_placeOf (τ : th_t) (Z : th_Zt) (gi : th_i) (gr : th_r) (h0 : Nat) (p1 : Int32) : Int32 :=
  f_X10_placeOf_2 τ Z gi gr h0 p1 ((10 - (0 : Int32).toInt).toNat + 1) 0
set_option maxHeartbeats 8000000 in
set_option maxRecDepth 100000 in
theorem k_X10_placeOf (l : Launch) (D : va_G) (cA : Nat → ClassId) (Z : th_Zt) (τ : th_t) (gi : th_i) (gr : th_r) (sz : Nat) (h0 : Nat) (t_h0 : τ h0 = 10) (p1 : Int32) : Met l yX10_placeOf wsX10_placeOf ({ frames := 0, cells := 0, slots := 0, locals := 0 }) (va_Pc [.ref h0, .int p1] (th_Pre D cA Z τ gi gr sz)) (va_Qi (fun (r : Int32) (_ : Unit) => (F_X10_placeOf τ Z gi gr h0 p1 = r)) (fun (_ : Unit) t => th_H D cA τ gi gr t.heap) (th_A τ sz)) 0 0 (th_A τ sz) := by
  refine Met.ofW (cc := cX10_placeOf) (maxL := 3) (ret := (some .int)) (by decide) rfl ?_
  intro p e s m args below meth c s₁ B hml hv
  obtain ⟨rfl, hsz, hH, hK, hN, hZ⟩ := hv
  have hx := B.exec
  have hb := B.bytes
  have hr := B.returns
  have hts := atoms_spec (ws := wsX10_placeOf) B.pre
  have hown : s.vm.findClass RX10 = some m.cls := findClass_of_methodNamed B.named
  have hlocks := B.notSynchronized
  subst hsz
  have J2 : ∀ (n2 : Nat) (H : Heap) (locs : List Loc) (ls : Array Slot) (y2_2 : Int32), (10 - y2_2.toInt).toNat < n2 → th_H D cA τ gi gr H → va_S (th_A τ s.heap.size) s.heap H locs → lv_has ls 3 [(0, .ref h0), (1, .int p1), (2, .int y2_2)] → rg 0 10 y2_2 → F_X10_placeOf τ Z gi gr h0 p1 = f_X10_placeOf_2 τ Z gi gr h0 p1 n2 y2_2 → W p l e (headSpec wsX10_placeOf ({ frames := 0, cells := 0, slots := 0, locals := 0 })).room s m [.ref h0, .int p1].toArray below meth c H locs 0 0 (MQ below (va_Qi (fun (r : Int32) (_ : Unit) => (F_X10_placeOf τ Z gi gr h0 p1 = r)) (fun (_ : Unit) t => th_H D cA τ gi gr t.heap) (th_A τ s.heap.size)) [.ref h0, .int p1].toArray s 0 0 (th_A τ s.heap.size)) (F0 m 2 ls []) := by
    intro n2
    induction n2 with
    | zero =>
      intro H locs ls y2_2 hn
      exact absurd hn (Nat.not_lt_zero _)
    | succ n2 ih2 =>
      intro H locs ls y2_2 hn2 hH hS hl fy2_2 hF
      refine lv_iload_n hx hb dX10_placeOf_2 rfl (lv_at hl 2 rfl) ?_
      refine lv_aload_n hx hb dX10_placeOf_3 rfl (lv_at hl 0 rfl) ?_
      obtain ⟨x1, e1⟩ : ∃ y : Int32, y = gi h0 2 := ⟨_, rfl⟩
      refine th_get (ci := 9) (v := .int x1) (T := TX10) (C := RX10) (N := 3) hx hb hts (fun w h => List.mem_cons_of_mem _ (List.mem_append_right _ h)) hown hK hH t_h0 (th_nz rfl) (thE_10 _ _ _) rfl 2 (th_ltN rfl) (hts (.fieldLink RX10 15 "BayMoorings$WaitingList" "size" "I") (List.mem_cons_of_mem _ (List.mem_append_left _ (List.mem_of_getElem? (i := 0) rfl)))) (fun _ h9 => h9) (th_fI e1 rfl) dX10_placeOf_4 ?_
      have f1 : rg 0 10 x1 := rg_e e1 ((thI_10 hH t_h0).2.2)
      refine lv_icmp_ge (tgt := 28) hx hb dX10_placeOf_7 (th_eqI rfl) (fun c2 => ?_) (fun c2 => ?_)
      · skip
        refine lv_iconst (v := (-1)) hx hb dX10_placeOf_28 ic_m1 ?_
        exact W.iret (v := (-1)) hx hb hr (fun t ht hW => ⟨⟨(-1), (), rfl, (hF.trans (by simp only [↓reduceIte, f_X10_placeOf_2, ← e1, eq_true c2])), th_Ht ht hH⟩, hS.F ht⟩) hS.2.2 dX10_placeOf_29
      · skip
        have f3 : rg 1 10 x1 := rg_w (rg_nle f1 fy2_2 c2).1 (th_leI rfl) (th_leI rfl)
        have f4 : rg 0 9 y2_2 := rg_w (rg_nle f1 fy2_2 c2).2 (th_leI rfl) (th_leI rfl)
        refine lv_aload_n hx hb dX10_placeOf_10 rfl (lv_at hl 0 rfl) ?_
        obtain ⟨q5, r5, t5⟩ : ∃ q, gr h0 1 = some q ∧ τ q = 35 := (thI_10 hH t_h0).2.1
        refine th_get (ci := 9) (v := .ref q5) (T := TX10) (C := RX10) (N := 3) hx hb hts (fun w h => List.mem_cons_of_mem _ (List.mem_append_right _ h)) hown hK hH t_h0 (th_nz rfl) (thE_10 _ _ _) rfl 1 (th_ltN rfl) (hts (.fieldLink RX10 9 "BayMoorings$WaitingList" "queue" "[I") (List.mem_cons_of_mem _ (List.mem_append_left _ (List.mem_of_getElem? (i := 1) rfl)))) (fun _ h9 => h9) (th_fR r5 rfl) dX10_placeOf_11 ?_
        refine lv_iload_n hx hb dX10_placeOf_14 rfl (lv_at hl 2 rfl) ?_
        refine th_iald hx hb hK hH t5 (th_nz rfl) 0 (thE_35 _ _ _) rfl (rg_in (n := 10) f4 (th_leI rfl) (th_ltI rfl)) dX10_placeOf_15 ?_
        refine lv_topi (fun x6 e6 => ?_)
        refine lv_iload_n hx hb dX10_placeOf_16 rfl (lv_at hl 1 rfl) ?_
        refine lv_icmp_ne (tgt := 22) hx hb dX10_placeOf_17 (th_eqI rfl) (fun c7 => ?_) (fun c7 => ?_)
        · skip
          obtain ⟨x8, e8⟩ : ∃ y : Int32, y = y2_2 + 1 := ⟨_, rfl⟩
          have f8 : rg 1 10 x8 := rg_e e8 (rg_w (rg_add f4 rgc_1 (th_leI rfl) (th_leI rfl)) (th_leI rfl) (th_leI rfl))
          refine lv_iinc (v := x8) (lv' := [(2, .int x8), (0, .ref h0), (1, .int p1)]) hx hb dX10_placeOf_22 hl (k := 2) rfl (by rw [e8]; rfl) (th_ltN rfl) rfl (fun ls hl => ?_)
          refine lv_goto (tgt := 2) hx hb dX10_placeOf_25 (th_eqI rfl) ?_
          exact ih2 _ _ _ x8 (th_up (rg_dA e8 f4 rgc_1 (th_leI rfl) (th_leI rfl)) f4 hn2 (th_ltI rfl)) hH hS (lv_sub hl [1, 2, 0] rfl) (rg_w f8 (th_leI rfl) (th_leI rfl)) (hF.trans (by simp only [↓reduceIte, f_X10_placeOf_2, ← e1, eq_false c2, r5, Option.getD_some, ← e6, eq_false c7, ← e8]))
        · skip
          refine lv_iload_n hx hb dX10_placeOf_20 rfl (lv_at hl 2 rfl) ?_
          exact W.iret (v := y2_2) hx hb hr (fun t ht hW => ⟨⟨y2_2, (), rfl, (hF.trans (by simp only [↓reduceIte, f_X10_placeOf_2, ← e1, eq_false c2, r5, Option.getD_some, ← e6, eq_true c7])), th_Ht ht hH⟩, hS.F ht⟩) hS.2.2 dX10_placeOf_21
  have hS : va_S (th_A τ s.heap.size) s.heap s.heap [] := va_S.rf
  have hl := lv_entry ([.ref h0, .int p1]) (n := 3) (Nat.le_of_ble_eq_true rfl)
  rw [lg_entry_eq]
  generalize (lg_sl ([.ref h0, .int p1]) ++ List.replicate (3 - (lg_sl ([.ref h0, .int p1])).length) Slot.unset).toArray = ls at hl ⊢
  have hl : lv_has ls 3 [(0, .ref h0), (1, .int p1)] := hl
  have hF : F_X10_placeOf τ Z gi gr h0 p1 = F_X10_placeOf τ Z gi gr h0 p1 := rfl
  refine lv_iconst (v := 0) hx hb dX10_placeOf_0 ic_0 ?_
  refine lv_istore_n (i := 2) (lv' := [(2, .int 0), (0, .ref h0), (1, .int p1)]) hx hb dX10_placeOf_1 rfl hl (th_ltN rfl) rfl (fun ls hl => ?_)
  exact J2 _ _ _ _ 0 (Nat.lt_add_one _) hH hS (lv_sub hl [1, 2, 0] rfl) (rg_w rgc_0 (th_leI rfl) (th_leI rfl)) (hF.trans (by simp only [F_X10_placeOf]))

noncomputable def F_X10_append (τ : th_t) (Z : th_Zt) (gi : th_i) (gr : th_r) (h0 : Nat) (p1 : Int32) : th_i :=
  let x1 : Int32 := gi h0 2
  if (10 : Int32) ≤ x1 then (
    (gi)) else (
    let q5 : Nat := (gr h0 1).getD 0
    let gi7 : th_i := va_up gi q5 (upd (gi q5) x1.toNatClampNeg p1)
    let x10 : Int32 := x1 + 1
    let gi11 : th_i := va_up gi7 h0 (upd (gi7 h0) 2 x10)
    (gi11))
set_option maxHeartbeats 8000000 in
set_option maxRecDepth 100000 in
theorem k_X10_append (l : Launch) (D : va_G) (cA : Nat → ClassId) (Z : th_Zt) (τ : th_t) (gi : th_i) (gr : th_r) (sz : Nat) (h0 : Nat) (t_h0 : τ h0 = 10) (p1 : Int32) : Met l yX10_append wsX10_append ({ frames := 0, cells := 0, slots := 0, locals := 0 }) (va_Pc [.ref h0, .int p1] (th_Pre D cA Z τ gi gr sz)) (va_Qv (fun (u : th_i × th_r) => th_Mod [1002, 3500] τ gi gr u.1 u.2 ∧ u.2 = gr ∧ (F_X10_append τ Z gi gr h0 p1 = u.1)) (fun (u : th_i × th_r) t => th_H D cA τ u.1 u.2 t.heap) (th_A τ sz)) 0 0 (th_A τ sz) := by
  refine Met.ofW (cc := cX10_append) (maxL := 2) (ret := none) (by decide) rfl ?_
  intro p e s m args below meth c s₁ B hml hv
  obtain ⟨rfl, hsz, hH, hK, hN, hZ⟩ := hv
  have hx := B.exec
  have hb := B.bytes
  have hr := B.returns
  have hts := atoms_spec (ws := wsX10_append) B.pre
  have hown : s.vm.findClass RX10 = some m.cls := findClass_of_methodNamed B.named
  have hlocks := B.notSynchronized
  subst hsz
  have hM : th_Mod [1002, 3500] τ gi gr gi gr := th_Mod.rf
  have hS : va_S (th_A τ s.heap.size) s.heap s.heap [] := va_S.rf
  have hl := lv_entry ([.ref h0, .int p1]) (n := 2) (Nat.le_of_ble_eq_true rfl)
  rw [lg_entry_eq]
  generalize (lg_sl ([.ref h0, .int p1]) ++ List.replicate (2 - (lg_sl ([.ref h0, .int p1])).length) Slot.unset).toArray = ls at hl ⊢
  have hl : lv_has ls 2 [(0, .ref h0), (1, .int p1)] := hl
  have hF : F_X10_append τ Z gi gr h0 p1 = F_X10_append τ Z gi gr h0 p1 := rfl
  refine lv_aload_n hx hb dX10_append_0 rfl (lv_at hl 0 rfl) ?_
  obtain ⟨x1, e1⟩ : ∃ y : Int32, y = gi h0 2 := ⟨_, rfl⟩
  refine th_get (ci := 9) (v := .int x1) (T := TX10) (C := RX10) (N := 3) hx hb hts (fun w h => List.mem_cons_of_mem _ (List.mem_append_right _ h)) hown hK hH t_h0 (th_nz rfl) (thE_10 _ _ _) rfl 2 (th_ltN rfl) (hts (.fieldLink RX10 15 "BayMoorings$WaitingList" "size" "I") (List.mem_cons_of_mem _ (List.mem_append_left _ (List.mem_of_getElem? (i := 0) rfl)))) (fun _ h9 => h9) (th_fI e1 rfl) dX10_append_1 ?_
  have f1 : rg 0 10 x1 := rg_e e1 ((thI_10 hH t_h0).2.2)
  refine lv_bipush (v := 10) hx hb dX10_append_4 bp_10 ?_
  refine lv_icmp_ge (tgt := 29) hx hb dX10_append_6 (th_eqI rfl) (fun c2 => ?_) (fun c2 => ?_)
  · skip
    have f3 : rg 10 10 x1 := rg_w (rg_le rgc_10 f1 c2).2 (th_leI rfl) (th_leI rfl)
    exact W.vret hx hb hr (fun t ht hW => ⟨⟨(gi, gr), rfl, ⟨hM, rfl, (hF.trans (by simp only [↓reduceIte, F_X10_append, ← e1, eq_true c2]))⟩, th_Ht ht hH⟩, hS.F ht⟩) hS.2.2 dX10_append_29
  · skip
    have f4 : rg 0 9 x1 := rg_w (rg_nle rgc_10 f1 c2).2 (th_leI rfl) (th_leI rfl)
    refine lv_aload_n hx hb dX10_append_9 rfl (lv_at hl 0 rfl) ?_
    obtain ⟨q5, r5, t5⟩ : ∃ q, gr h0 1 = some q ∧ τ q = 35 := (thI_10 hH t_h0).2.1
    refine th_get (ci := 9) (v := .ref q5) (T := TX10) (C := RX10) (N := 3) hx hb hts (fun w h => List.mem_cons_of_mem _ (List.mem_append_right _ h)) hown hK hH t_h0 (th_nz rfl) (thE_10 _ _ _) rfl 1 (th_ltN rfl) (hts (.fieldLink RX10 9 "BayMoorings$WaitingList" "queue" "[I") (List.mem_cons_of_mem _ (List.mem_append_left _ (List.mem_of_getElem? (i := 1) rfl)))) (fun _ h9 => h9) (th_fR r5 rfl) dX10_append_10 ?_
    refine lv_aload_n hx hb dX10_append_13 rfl (lv_at hl 0 rfl) ?_
    refine th_get (ci := 9) (v := .int x1) (T := TX10) (C := RX10) (N := 3) hx hb hts (fun w h => List.mem_cons_of_mem _ (List.mem_append_right _ h)) hown hK hH t_h0 (th_nz rfl) (thE_10 _ _ _) rfl 2 (th_ltN rfl) (hts (.fieldLink RX10 15 "BayMoorings$WaitingList" "size" "I") (List.mem_cons_of_mem _ (List.mem_append_left _ (List.mem_of_getElem? (i := 0) rfl)))) (fun _ h9 => h9) (th_fI e1 rfl) dX10_append_14 ?_
    refine lv_iload_n hx hb dX10_append_17 rfl (lv_at hl 1 rfl) ?_
    refine th_iast hx hb hK hH hS t5 (th_nz rfl) (Or.inl (th_nzE t5 rfl)) 0 (fun _ => thE_35 _ _ _) rfl (rg_in (n := 10) f4 (th_leI rfl) (th_ltI rfl)) (trivial) dX10_append_18 (fun gi7 H locs hu7 ho7 hH hS => ?_)
    have eg7 : gi7 = va_up gi q5 (upd (gi q5) x1.toNatClampNeg p1) := th_upE hu7 ho7
    have e8 : x1 = gi7 h0 2 := Eq.trans e1 (Eq.symm (ho7 _ _ (Or.inl (th_ne t_h0 t5 (th_nz rfl)))))
    have hM := hM.i t5 (th_mem (a := 3500) rfl) ho7
    refine lv_aload_n hx hb dX10_append_19 rfl (lv_at hl 0 rfl) ?_
    refine lv_dup hx hb dX10_append_20 rfl ?_
    refine th_get (ci := 9) (v := .int x1) (T := TX10) (C := RX10) (N := 3) hx hb hts (fun w h => List.mem_cons_of_mem _ (List.mem_append_right _ h)) hown hK hH t_h0 (th_nz rfl) (thE_10 _ _ _) rfl 2 (th_ltN rfl) (hts (.fieldLink RX10 15 "BayMoorings$WaitingList" "size" "I") (List.mem_cons_of_mem _ (List.mem_append_left _ (List.mem_of_getElem? (i := 0) rfl)))) (fun _ h9 => h9) (th_fI e8 rfl) dX10_append_21 ?_
    refine lv_iconst (v := 1) hx hb dX10_append_24 ic_1 ?_
    refine lv_iadd hx hb dX10_append_25 ?_
    refine lv_topi (fun x10 e10 => ?_)
    have f10 : rg 1 10 x10 := rg_e e10 (rg_w (rg_add f4 rgc_1 (th_leI rfl) (th_leI rfl)) (th_leI rfl) (th_leI rfl))
    refine th_put (ci := 9) (v := .int x10) (T := TX10) (C := RX10) (N := 3) (ty := .int) (gi' := va_up gi7 h0 (upd (gi7 h0) 2 x10)) (gr' := gr) hx hb hts (fun w h => List.mem_cons_of_mem _ (List.mem_append_right _ h)) tyX10 tyX10_ok nmX10 hown hK hH hS t_h0 (th_nz rfl) (Or.inl (th_nzE t_h0 rfl)) rfl rfl 2 (th_ltN rfl) (hts (.fieldLink RX10 15 "BayMoorings$WaitingList" "size" "I") (List.mem_cons_of_mem _ (List.mem_append_left _ (List.mem_of_getElem? (i := 0) rfl)))) (fun _ h9 => h9) rfl (by decide +kernel) rfl rfl (Nat.le_of_ble_eq_true rfl) (by rw [va_up_self]; rfl) (by rw [va_up_self]; show (∃ q, gr h0 0 = some q ∧ τ q = 1) ∧ (∃ q, gr h0 1 = some q ∧ τ q = 35) ∧ rg 0 10 x10; exact ⟨(thI_10 hH t_h0).1, (thI_10 hH t_h0).2.1, (rg_w f10 (th_leI rfl) (th_leI rfl))⟩) (fun b hb => ⟨va_up_ne _ _ hb, rfl⟩) dX10_append_26 (fun H locs hH hS => ?_)
    obtain ⟨gi11, eg11⟩ : ∃ g, g = va_up gi7 h0 (upd (gi7 h0) 2 x10) := ⟨_, rfl⟩
    rw [← eg11] at hH
    have hu11 : gi11 h0 2 = x10 := (th_uI eg11).1
    have ho11 : ∀ b j, b ≠ h0 ∨ j ≠ 2 → gi11 b j = gi7 b j := (th_uI eg11).2
    have e13 : p1 = gi11 q5 (x1.toNatClampNeg) := Eq.trans hu7.symm (Eq.symm (ho11 _ _ (Or.inl (th_ne t5 t_h0 (th_nz rfl)))))
    have hM := hM.i t_h0 (th_mem (a := 1002) rfl) ho11
    exact W.vret hx hb hr (fun t ht hW => ⟨⟨(gi11, gr), rfl, ⟨hM, rfl, (hF.trans (by simp only [↓reduceIte, F_X10_append, ← e1, eq_false c2, r5, Option.getD_some, ← eg7, ← e10, ← eg11]))⟩, th_Ht ht hH⟩, hS.F ht⟩) hS.2.2 dX10_append_29

noncomputable def f_X10_drop_19 (τ : th_t) (Z : th_Zt) (gi : th_i) (gr : th_r) (h0 : Nat) (p1 : Int32) : Nat → th_i → Int32 → th_i
  | 0, gi_19, y19_2 => (gi_19)
  | n19 + 1, gi_19, y19_2 =>
    let w19_0 : Int32 := gi_19 h0 2
    if w19_0 ≤ y19_2 then (
      let x4 : Int32 := w19_0 - 1
      let gi5 : th_i := va_up gi_19 h0 (upd (gi_19 h0) 2 x4)
      (gi5)) else (
      let q9 : Nat := (gr h0 1).getD 0
      let x10 : Int32 := y19_2 - 1
      let x12 : Int32 := gi_19 q9 y19_2.toNatClampNeg
      let gi13 : th_i := va_up gi_19 q9 (upd (gi_19 q9) x10.toNatClampNeg x12)
      let x16 : Int32 := y19_2 + 1
      (f_X10_drop_19 τ Z gi gr h0 p1 n19) gi13 x16)
noncomputable def F_X10_drop (τ : th_t) (Z : th_Zt) (gi : th_i) (gr : th_r) (h0 : Nat) (p1 : Int32) : th_i :=
  let x17 : Int32 := gi h0 2
  let x18 : Int32 := x17 - 1
  let x20 : Int32 := F_X11_within τ Z gi gr p1 0 x18
  if x20 = (0 : Int32) then (
    (gi)) else (
    let x28 : Int32 := p1 + 1
    f_X10_drop_19 τ Z gi gr h0 p1 ((10 - x28.toInt).toNat + 1) gi x28)
set_option maxHeartbeats 8000000 in
set_option maxRecDepth 100000 in
theorem k_X10_drop (l : Launch) (D : va_G) (cA : Nat → ClassId) (Z : th_Zt) (τ : th_t) (gi : th_i) (gr : th_r) (sz : Nat) (h0 : Nat) (t_h0 : τ h0 = 10) (p1 : Int32) : Met l yX10_drop wsX10_drop ({ frames := 1, cells := 0, slots := 0, locals := 22 }) (va_Pc [.ref h0, .int p1] (th_Pre D cA Z τ gi gr sz)) (va_Qv (fun (u : th_i × th_r) => th_Mod [1002, 3500] τ gi gr u.1 u.2 ∧ u.2 = gr ∧ (F_X10_drop τ Z gi gr h0 p1 = u.1)) (fun (u : th_i × th_r) t => th_H D cA τ u.1 u.2 t.heap) (th_A τ sz)) 0 0 (th_A τ sz) := by
  refine Met.ofW (cc := cX10_drop) (maxL := 3) (ret := none) (by decide) rfl ?_
  intro p e s m args below meth c s₁ B hml hv
  obtain ⟨rfl, hsz, hH, hK, hN, hZ⟩ := hv
  have hx := B.exec
  have hb := B.bytes
  have hr := B.returns
  have hts := atoms_spec (ws := wsX10_drop) B.pre
  have hown : s.vm.findClass RX10 = some m.cls := findClass_of_methodNamed B.named
  have hlocks := B.notSynchronized
  subst hsz
  have hM : th_Mod [1002, 3500] τ gi gr gi gr := th_Mod.rf
  have J19 : ∀ (n19 : Nat) (gi_19 : th_i) (H : Heap) (locs : List Loc) (ls : Array Slot) (y19_2 : Int32) (w19_0 : Int32), (10 - y19_2.toInt).toNat < n19 → th_H D cA τ gi_19 gr H → va_S (th_A τ s.heap.size) s.heap H locs → th_Mod [1002, 3500] τ gi gr gi_19 gr → lv_has ls 3 [(0, .ref h0), (2, .int y19_2)] → rg 1 10 y19_2 → w19_0 = gi_19 h0 2 → rg 1 10 w19_0 → F_X10_drop τ Z gi gr h0 p1 = f_X10_drop_19 τ Z gi gr h0 p1 n19 gi_19 y19_2 → W p l e (headSpec wsX10_drop ({ frames := 1, cells := 0, slots := 0, locals := 22 })).room s m [.ref h0, .int p1].toArray below meth c H locs 0 0 (MQ below (va_Qv (fun (u : th_i × th_r) => th_Mod [1002, 3500] τ gi gr u.1 u.2 ∧ u.2 = gr ∧ (F_X10_drop τ Z gi gr h0 p1 = u.1)) (fun (u : th_i × th_r) t => th_H D cA τ u.1 u.2 t.heap) (th_A τ s.heap.size)) [.ref h0, .int p1].toArray s 0 0 (th_A τ s.heap.size)) (F0 m 19 ls []) := by
    intro n19
    induction n19 with
    | zero =>
      intro gi_19 H locs ls y19_2 w19_0 hn
      exact absurd hn (Nat.not_lt_zero _)
    | succ n19 ih19 =>
      intro gi_19 H locs ls y19_2 w19_0 hn19 hH hS hM hl fy19_2 ew19_0 fw19_0 hF
      refine lv_iload_n hx hb dX10_drop_19 rfl (lv_at hl 1 rfl) ?_
      refine lv_aload_n hx hb dX10_drop_20 rfl (lv_at hl 0 rfl) ?_
      refine th_get (ci := 9) (v := .int w19_0) (T := TX10) (C := RX10) (N := 3) hx hb hts (fun w h => List.mem_cons_of_mem _ (List.mem_append_right _ h)) hown hK hH t_h0 (th_nz rfl) (thE_10 _ _ _) rfl 2 (th_ltN rfl) (hts (.fieldLink RX10 15 "BayMoorings$WaitingList" "size" "I") (List.mem_cons_of_mem _ (List.mem_append_left _ (List.mem_of_getElem? (i := 0) rfl)))) (fun _ h9 => h9) (th_fI ew19_0 rfl) dX10_drop_21 ?_
      refine lv_icmp_ge (tgt := 47) hx hb dX10_drop_24 (th_eqI rfl) (fun c2 => ?_) (fun c2 => ?_)
      · skip
        refine lv_aload_n hx hb dX10_drop_47 rfl (lv_at hl 0 rfl) ?_
        refine lv_dup hx hb dX10_drop_48 rfl ?_
        refine th_get (ci := 9) (v := .int w19_0) (T := TX10) (C := RX10) (N := 3) hx hb hts (fun w h => List.mem_cons_of_mem _ (List.mem_append_right _ h)) hown hK hH t_h0 (th_nz rfl) (thE_10 _ _ _) rfl 2 (th_ltN rfl) (hts (.fieldLink RX10 15 "BayMoorings$WaitingList" "size" "I") (List.mem_cons_of_mem _ (List.mem_append_left _ (List.mem_of_getElem? (i := 0) rfl)))) (fun _ h9 => h9) (th_fI ew19_0 rfl) dX10_drop_49 ?_
        refine lv_iconst (v := 1) hx hb dX10_drop_52 ic_1 ?_
        refine lv_isub hx hb dX10_drop_53 ?_
        refine lv_topi (fun x4 e4 => ?_)
        have f4 : rg 0 9 x4 := rg_e e4 (rg_w (rg_sub fw19_0 rgc_1 (th_leI rfl) (th_leI rfl)) (th_leI rfl) (th_leI rfl))
        refine th_put (ci := 9) (v := .int x4) (T := TX10) (C := RX10) (N := 3) (ty := .int) (gi' := va_up gi_19 h0 (upd (gi_19 h0) 2 x4)) (gr' := gr) hx hb hts (fun w h => List.mem_cons_of_mem _ (List.mem_append_right _ h)) tyX10 tyX10_ok nmX10 hown hK hH hS t_h0 (th_nz rfl) (Or.inl (th_nzE t_h0 rfl)) rfl rfl 2 (th_ltN rfl) (hts (.fieldLink RX10 15 "BayMoorings$WaitingList" "size" "I") (List.mem_cons_of_mem _ (List.mem_append_left _ (List.mem_of_getElem? (i := 0) rfl)))) (fun _ h9 => h9) rfl (by decide +kernel) rfl rfl (Nat.le_of_ble_eq_true rfl) (by rw [va_up_self]; rfl) (by rw [va_up_self]; show (∃ q, gr h0 0 = some q ∧ τ q = 1) ∧ (∃ q, gr h0 1 = some q ∧ τ q = 35) ∧ rg 0 10 x4; exact ⟨(thI_10 hH t_h0).1, (thI_10 hH t_h0).2.1, (rg_w f4 (th_leI rfl) (th_leI rfl))⟩) (fun b hb => ⟨va_up_ne _ _ hb, rfl⟩) dX10_drop_54 (fun H locs hH hS => ?_)
        obtain ⟨gi5, eg5⟩ : ∃ g, g = va_up gi_19 h0 (upd (gi_19 h0) 2 x4) := ⟨_, rfl⟩
        rw [← eg5] at hH
        have hu5 : gi5 h0 2 = x4 := (th_uI eg5).1
        have ho5 : ∀ b j, b ≠ h0 ∨ j ≠ 2 → gi5 b j = gi_19 b j := (th_uI eg5).2
        have hM := hM.i t_h0 (th_mem (a := 1002) rfl) ho5
        exact W.vret hx hb hr (fun t ht hW => ⟨⟨(gi5, gr), rfl, ⟨hM, rfl, (hF.trans (by simp only [↓reduceIte, f_X10_drop_19, ← ew19_0, eq_true c2, ← e4, ← eg5]))⟩, th_Ht ht hH⟩, hS.F ht⟩) hS.2.2 dX10_drop_57
      · skip
        have f7 : rg 2 10 w19_0 := rg_w (rg_nle fw19_0 fy19_2 c2).1 (th_leI rfl) (th_leI rfl)
        have f8 : rg 1 9 y19_2 := rg_w (rg_nle fw19_0 fy19_2 c2).2 (th_leI rfl) (th_leI rfl)
        refine lv_aload_n hx hb dX10_drop_27 rfl (lv_at hl 0 rfl) ?_
        obtain ⟨q9, r9, t9⟩ : ∃ q, gr h0 1 = some q ∧ τ q = 35 := (thI_10 hH t_h0).2.1
        refine th_get (ci := 9) (v := .ref q9) (T := TX10) (C := RX10) (N := 3) hx hb hts (fun w h => List.mem_cons_of_mem _ (List.mem_append_right _ h)) hown hK hH t_h0 (th_nz rfl) (thE_10 _ _ _) rfl 1 (th_ltN rfl) (hts (.fieldLink RX10 9 "BayMoorings$WaitingList" "queue" "[I") (List.mem_cons_of_mem _ (List.mem_append_left _ (List.mem_of_getElem? (i := 1) rfl)))) (fun _ h9 => h9) (th_fR r9 rfl) dX10_drop_28 ?_
        refine lv_iload_n hx hb dX10_drop_31 rfl (lv_at hl 1 rfl) ?_
        refine lv_iconst (v := 1) hx hb dX10_drop_32 ic_1 ?_
        refine lv_isub hx hb dX10_drop_33 ?_
        refine lv_topi (fun x10 e10 => ?_)
        have f10 : rg 0 8 x10 := rg_e e10 (rg_w (rg_sub f8 rgc_1 (th_leI rfl) (th_leI rfl)) (th_leI rfl) (th_leI rfl))
        refine lv_aload_n hx hb dX10_drop_34 rfl (lv_at hl 0 rfl) ?_
        refine th_get (ci := 9) (v := .ref q9) (T := TX10) (C := RX10) (N := 3) hx hb hts (fun w h => List.mem_cons_of_mem _ (List.mem_append_right _ h)) hown hK hH t_h0 (th_nz rfl) (thE_10 _ _ _) rfl 1 (th_ltN rfl) (hts (.fieldLink RX10 9 "BayMoorings$WaitingList" "queue" "[I") (List.mem_cons_of_mem _ (List.mem_append_left _ (List.mem_of_getElem? (i := 1) rfl)))) (fun _ h9 => h9) (th_fR r9 rfl) dX10_drop_35 ?_
        refine lv_iload_n hx hb dX10_drop_38 rfl (lv_at hl 1 rfl) ?_
        refine th_iald hx hb hK hH t9 (th_nz rfl) 0 (thE_35 _ _ _) rfl (rg_in (n := 10) f8 (th_leI rfl) (th_ltI rfl)) dX10_drop_39 ?_
        refine lv_topi (fun x12 e12 => ?_)
        refine th_iast hx hb hK hH hS t9 (th_nz rfl) (Or.inl (th_nzE t9 rfl)) 0 (fun _ => thE_35 _ _ _) rfl (rg_in (n := 10) f10 (th_leI rfl) (th_ltI rfl)) (trivial) dX10_drop_40 (fun gi13 H locs hu13 ho13 hH hS => ?_)
        have eg13 : gi13 = va_up gi_19 q9 (upd (gi_19 q9) x10.toNatClampNeg x12) := th_upE hu13 ho13
        have e14 : w19_0 = gi13 h0 2 := Eq.trans ew19_0 (Eq.symm (ho13 _ _ (Or.inl (th_ne t_h0 t9 (th_nz rfl)))))
        have hM := hM.i t9 (th_mem (a := 3500) rfl) ho13
        obtain ⟨x16, e16⟩ : ∃ y : Int32, y = y19_2 + 1 := ⟨_, rfl⟩
        have f16 : rg 2 10 x16 := rg_e e16 (rg_w (rg_add f8 rgc_1 (th_leI rfl) (th_leI rfl)) (th_leI rfl) (th_leI rfl))
        refine lv_iinc (v := x16) (lv' := [(2, .int x16), (0, .ref h0)]) hx hb dX10_drop_41 hl (k := 1) rfl (by rw [e16]; rfl) (th_ltN rfl) rfl (fun ls hl => ?_)
        refine lv_goto (tgt := 19) hx hb dX10_drop_44 (th_eqI rfl) ?_
        exact ih19 gi13 _ _ _ x16 w19_0 (th_up (rg_dA e16 f8 rgc_1 (th_leI rfl) (th_leI rfl)) f8 hn19 (th_ltI rfl)) hH hS hM (lv_sub hl [1, 0] rfl) (rg_w f16 (th_leI rfl) (th_leI rfl)) e14 (rg_w f7 (th_leI rfl) (th_leI rfl)) (hF.trans (by simp only [↓reduceIte, f_X10_drop_19, ← ew19_0, eq_false c2, r9, Option.getD_some, ← e10, ← e12, ← eg13, ← e16]))
  have hS : va_S (th_A τ s.heap.size) s.heap s.heap [] := va_S.rf
  have hl := lv_entry ([.ref h0, .int p1]) (n := 3) (Nat.le_of_ble_eq_true rfl)
  rw [lg_entry_eq]
  generalize (lg_sl ([.ref h0, .int p1]) ++ List.replicate (3 - (lg_sl ([.ref h0, .int p1])).length) Slot.unset).toArray = ls at hl ⊢
  have hl : lv_has ls 3 [(0, .ref h0), (1, .int p1)] := hl
  have hF : F_X10_drop τ Z gi gr h0 p1 = F_X10_drop τ Z gi gr h0 p1 := rfl
  refine lv_iload_n hx hb dX10_drop_0 rfl (lv_at hl 1 rfl) ?_
  refine lv_iconst (v := 0) hx hb dX10_drop_1 ic_0 ?_
  refine lv_aload_n hx hb dX10_drop_2 rfl (lv_at hl 0 rfl) ?_
  obtain ⟨x17, e17⟩ : ∃ y : Int32, y = gi h0 2 := ⟨_, rfl⟩
  refine th_get (ci := 9) (v := .int x17) (T := TX10) (C := RX10) (N := 3) hx hb hts (fun w h => List.mem_cons_of_mem _ (List.mem_append_right _ h)) hown hK hH t_h0 (th_nz rfl) (thE_10 _ _ _) rfl 2 (th_ltN rfl) (hts (.fieldLink RX10 15 "BayMoorings$WaitingList" "size" "I") (List.mem_cons_of_mem _ (List.mem_append_left _ (List.mem_of_getElem? (i := 0) rfl)))) (fun _ h9 => h9) (th_fI e17 rfl) dX10_drop_3 ?_
  have f17 : rg 0 10 x17 := rg_e e17 ((thI_10 hH t_h0).2.2)
  refine lv_iconst (v := 1) hx hb dX10_drop_6 ic_1 ?_
  refine lv_isub hx hb dX10_drop_7 ?_
  refine lv_topi (fun x18 e18 => ?_)
  have f18 : rg (-1) 9 x18 := rg_e e18 (rg_w (rg_sub f17 rgc_1 (th_leI rfl) (th_leI rfl)) (th_leI rfl) (th_leI rfl))
  have hA19 := th_Asub (τ := τ) hS
  refine va_calli (va_runSN (As := [.int p1, .int 0, .int x18]) (rest := []) ⟨hx, hb, hml, hown, hts⟩ (k_X11_within l D cA Z τ gi gr _ p1 0 x18) ⟨va_cnB (host := RX11) 3 hts gX10_drop_X11_within_n23 rfl rfl rfl hN.2.2.2.2.1 (hts (.initialized RX11) (List.mem_cons_of_mem _ (List.mem_append_left _ (List.mem_of_getElem? (i := 3) rfl)))) (by decide +kernel) ⟨Nat.le_of_ble_eq_true rfl, Nat.le_of_ble_eq_true rfl⟩, (hts (.static yX11_within) (List.mem_cons_of_mem _ (List.mem_append_left _ (List.mem_of_getElem? (i := 2) rfl)))), trivial⟩ ⟨th_blind, (th_pre hH hK hN hZ hS hA19)⟩ rfl rfl hl.1 rfl (lv_room (Nat.le_of_ble_eq_true rfl)) dX10_drop_8 ⟨Nat.le_of_ble_eq_true rfl, Nat.le_of_ble_eq_true rfl⟩) hS (fun q _ h => hA19 q h) hA19 (fun x20 u t H locs ht hvm hw20 hB hz1 hk1 hS => ?_)
  try dsimp only at hw20 hB
  rw [ht] at hB
  have hH := hB
  refine lv_if_ne (tgt := 15) hx hb dX10_drop_11 (th_eqI rfl) (fun c21 => ?_) (fun c21 => ?_)
  · skip
    have f22 : rg 1 1 x20 := rg_w (rg_neL hw20.1 rgc_0 c21) (th_leI rfl) (th_leI rfl)
    have g23 := hw20.2.1 c21
    have f24 : rg 0 2147483647 p1 := rg_w (rg_le rgc_0 (rg_any p1) g23.1).2 (th_leI rfl) (th_leI rfl)
    have f25 : rg 0 9 p1 := rg_w (rg_le f24 f18 g23.2).1 (th_leI rfl) (th_leI rfl)
    have f26 : rg 0 9 x18 := rg_w (rg_le f25 f18 g23.2).2 (th_leI rfl) (th_leI rfl)
    have f27 : rg 1 10 x17 := rg_back (rg_dS e18 f17 rgc_1 (th_leI rfl) (th_leI rfl)) f17 f26 (by decide) (by decide)
    refine lv_iload_n hx hb dX10_drop_15 rfl (lv_at hl 1 rfl) ?_
    refine lv_iconst (v := 1) hx hb dX10_drop_16 ic_1 ?_
    refine lv_iadd hx hb dX10_drop_17 ?_
    refine lv_topi (fun x28 e28 => ?_)
    have f28 : rg 1 10 x28 := rg_e e28 (rg_w (rg_add f25 rgc_1 (th_leI rfl) (th_leI rfl)) (th_leI rfl) (th_leI rfl))
    refine lv_istore_n (i := 2) (lv' := [(2, .int x28), (0, .ref h0), (1, .int p1)]) hx hb dX10_drop_18 rfl hl (th_ltN rfl) rfl (fun ls hl => ?_)
    exact J19 _ gi _ _ _ x28 x17 (Nat.lt_add_one _) hH hS hM (lv_sub hl [1, 0] rfl) f28 e17 f27 (hF.trans (by simp only [↓reduceIte, F_X10_drop, ← e17, ← e18, hw20.2.2.1, eq_false c21, ← e28]))
  · skip
    have f29 : rg 0 0 x20 := rg_w (rg_eq hw20.1 rgc_0 c21).1 (th_leI rfl) (th_leI rfl)
    exact W.vret hx hb hr (fun t ht hW => ⟨⟨(gi, gr), rfl, ⟨hM, rfl, (hF.trans (by simp only [↓reduceIte, F_X10_drop, ← e17, ← e18, hw20.2.2.1, eq_true c21]))⟩, th_Ht ht hH⟩, hS.F ht⟩) hS.2.2 dX10_drop_14

noncomputable def f_X10_firstFor_65 (τ : th_t) (Z : th_Zt) (gi : th_i) (gr : th_r) (h0 : Nat) (h1 : Nat) (y2_2 : Int32) (k_2 : Int32 → Int32) : Int32 :=
  let w65_0 : Int32 := gi h0 2
  let x1 : Int32 := y2_2 + 1
  k_2 x1
noncomputable def f_X10_firstFor_2 (τ : th_t) (Z : th_Zt) (gi : th_i) (gr : th_r) (h0 : Nat) (h1 : Nat) : Nat → Int32 → Int32
  | 0, y2_2 => 0
  | n2 + 1, y2_2 =>
    let x2 : Int32 := gi h0 2
    if x2 ≤ y2_2 then (
      (-1)) else (
      let q6 : Nat := (gr h0 0).getD 0
      let q7 : Nat := (gr h0 1).getD 0
      let x8 : Int32 := gi q7 y2_2.toNatClampNeg
      let r10 : Option Nat := F_X0_boatAt τ Z gi gr q6 x8
      Option.elim r10 (
        f_X10_firstFor_65 τ Z gi gr h0 h1 y2_2 (f_X10_firstFor_2 τ Z gi gr h0 h1 n2) ) (fun q11 =>
        let x12 : Int32 := gi h1 0
        let x14 : Int32 := F_X2_hasRefused τ Z gi gr q11 x12
        if x14 = (0 : Int32) then (
          let q20 : Nat := (gr q6 4).getD 0
          let x22 : Int32 := F_X0_mayLie τ Z gi gr q6 q11 h1 q20
          if x22 = (0 : Int32) then (
            f_X10_firstFor_65 τ Z gi gr h0 h1 y2_2 (f_X10_firstFor_2 τ Z gi gr h0 h1 n2) ) else (
            x8)) else (
          f_X10_firstFor_65 τ Z gi gr h0 h1 y2_2 (f_X10_firstFor_2 τ Z gi gr h0 h1 n2) )))
noncomputable def F_X10_firstFor (τ : th_t) (Z : th_Zt) (gi : th_i) (gr : th_r) (h0 : Nat) (h1 : Nat) : Int32 :=
  f_X10_firstFor_2 τ Z gi gr h0 h1 ((10 - (0 : Int32).toInt).toNat + 1) 0
set_option maxHeartbeats 8000000 in
set_option maxRecDepth 100000 in
theorem k_X10_firstFor (l : Launch) (D : va_G) (cA : Nat → ClassId) (Z : th_Zt) (τ : th_t) (gi : th_i) (gr : th_r) (sz : Nat) (h0 : Nat) (t_h0 : τ h0 = 10) (h1 : Nat) (t_h1 : τ h1 = 3) : Met l yX10_firstFor wsX10_firstFor ({ frames := 4, cells := 0, slots := 0, locals := 123 }) (va_Pc [.ref h0, .ref h1] (th_Pre D cA Z τ gi gr sz)) (va_Qi (fun (r : Int32) (_ : Unit) => (F_X10_firstFor τ Z gi gr h0 h1 = r)) (fun (_ : Unit) t => th_H D cA τ gi gr t.heap) (th_A τ sz)) 0 0 (th_A τ sz) := by
  refine Met.ofW (cc := cX10_firstFor) (maxL := 4) (ret := (some .int)) (by decide) rfl ?_
  intro p e s m args below meth c s₁ B hml hv
  obtain ⟨rfl, hsz, hH, hK, hN, hZ⟩ := hv
  have hx := B.exec
  have hb := B.bytes
  have hr := B.returns
  have hts := atoms_spec (ws := wsX10_firstFor) B.pre
  have hown : s.vm.findClass RX10 = some m.cls := findClass_of_methodNamed B.named
  have hlocks := B.notSynchronized
  subst hsz
  have J2 : ∀ (n2 : Nat) (H : Heap) (locs : List Loc) (ls : Array Slot) (y2_2 : Int32), (10 - y2_2.toInt).toNat < n2 → th_H D cA τ gi gr H → va_S (th_A τ s.heap.size) s.heap H locs → lv_has ls 4 [(0, .ref h0), (1, .ref h1), (2, .int y2_2)] → rg 0 10 y2_2 → F_X10_firstFor τ Z gi gr h0 h1 = f_X10_firstFor_2 τ Z gi gr h0 h1 n2 y2_2 → W p l e (headSpec wsX10_firstFor ({ frames := 4, cells := 0, slots := 0, locals := 123 })).room s m [.ref h0, .ref h1].toArray below meth c H locs 0 0 (MQ below (va_Qi (fun (r : Int32) (_ : Unit) => (F_X10_firstFor τ Z gi gr h0 h1 = r)) (fun (_ : Unit) t => th_H D cA τ gi gr t.heap) (th_A τ s.heap.size)) [.ref h0, .ref h1].toArray s 0 0 (th_A τ s.heap.size)) (F0 m 2 ls []) := by
    intro n2
    induction n2 with
    | zero =>
      intro H locs ls y2_2 hn
      exact absurd hn (Nat.not_lt_zero _)
    | succ n2 ih2 =>
      intro H locs ls y2_2 hn2 hH hS hl fy2_2 hF
      have J65 : ∀ (H : Heap) (locs : List Loc) (ls : Array Slot) (w65_0 : Int32), th_H D cA τ gi gr H → va_S (th_A τ s.heap.size) s.heap H locs → lv_has ls 4 [(0, .ref h0), (1, .ref h1), (2, .int y2_2)] → rg 0 9 y2_2 → w65_0 = gi h0 2 → rg 1 10 w65_0 → F_X10_firstFor τ Z gi gr h0 h1 = f_X10_firstFor_65 τ Z gi gr h0 h1 y2_2 (f_X10_firstFor_2 τ Z gi gr h0 h1 n2) → W p l e (headSpec wsX10_firstFor ({ frames := 4, cells := 0, slots := 0, locals := 123 })).room s m [.ref h0, .ref h1].toArray below meth c H locs 0 0 (MQ below (va_Qi (fun (r : Int32) (_ : Unit) => (F_X10_firstFor τ Z gi gr h0 h1 = r)) (fun (_ : Unit) t => th_H D cA τ gi gr t.heap) (th_A τ s.heap.size)) [.ref h0, .ref h1].toArray s 0 0 (th_A τ s.heap.size)) (F0 m 65 ls []) := by
        intro H locs ls w65_0 hH hS hl fy65_2 ew65_0 fw65_0 hF
        obtain ⟨x1, e1⟩ : ∃ y : Int32, y = y2_2 + 1 := ⟨_, rfl⟩
        have f1 : rg 1 10 x1 := rg_e e1 (rg_w (rg_add fy65_2 rgc_1 (th_leI rfl) (th_leI rfl)) (th_leI rfl) (th_leI rfl))
        refine lv_iinc (v := x1) (lv' := [(2, .int x1), (0, .ref h0), (1, .ref h1)]) hx hb dX10_firstFor_65 hl (k := 2) rfl (by rw [e1]; rfl) (th_ltN rfl) rfl (fun ls hl => ?_)
        refine lv_goto (tgt := 2) hx hb dX10_firstFor_68 (th_eqI rfl) ?_
        exact ih2 _ _ _ x1 (th_up (rg_dA e1 fy65_2 rgc_1 (th_leI rfl) (th_leI rfl)) fy65_2 hn2 (th_ltI rfl)) hH hS (lv_sub hl [1, 2, 0] rfl) (rg_w f1 (th_leI rfl) (th_leI rfl)) (hF.trans (by simp only [f_X10_firstFor_65, ← ew65_0, ← e1]))
      refine lv_iload_n hx hb dX10_firstFor_2 rfl (lv_at hl 2 rfl) ?_
      refine lv_aload_n hx hb dX10_firstFor_3 rfl (lv_at hl 0 rfl) ?_
      obtain ⟨x2, e2⟩ : ∃ y : Int32, y = gi h0 2 := ⟨_, rfl⟩
      refine th_get (ci := 9) (v := .int x2) (T := TX10) (C := RX10) (N := 3) hx hb hts (fun w h => List.mem_cons_of_mem _ (List.mem_append_left _ (List.mem_append_left _ (List.mem_append_left _ (List.mem_append_left _ (List.mem_append_left _ (List.mem_append_left _ (List.mem_append_right _ h)))))))) hown hK hH t_h0 (th_nz rfl) (thE_10 _ _ _) rfl 2 (th_ltN rfl) (hts (.fieldLink RX10 15 "BayMoorings$WaitingList" "size" "I") (List.mem_cons_of_mem _ (List.mem_append_left _ (List.mem_append_left _ (List.mem_append_left _ (List.mem_append_left _ (List.mem_append_left _ (List.mem_append_left _ (List.mem_append_left _ (List.mem_append_left _ (List.mem_of_getElem? (i := 0) rfl))))))))))) (fun _ h9 => h9) (th_fI e2 rfl) dX10_firstFor_4 ?_
      have f2 : rg 0 10 x2 := rg_e e2 ((thI_10 hH t_h0).2.2)
      refine lv_icmp_ge (tgt := 71) hx hb dX10_firstFor_7 (th_eqI rfl) (fun c3 => ?_) (fun c3 => ?_)
      · skip
        refine lv_iconst (v := (-1)) hx hb dX10_firstFor_71 ic_m1 ?_
        exact W.iret (v := (-1)) hx hb hr (fun t ht hW => ⟨⟨(-1), (), rfl, (hF.trans (by simp only [↓reduceIte, f_X10_firstFor_2, ← e2, eq_true c3])), th_Ht ht hH⟩, hS.F ht⟩) hS.2.2 dX10_firstFor_72
      · skip
        have f4 : rg 1 10 x2 := rg_w (rg_nle f2 fy2_2 c3).1 (th_leI rfl) (th_leI rfl)
        have f5 : rg 0 9 y2_2 := rg_w (rg_nle f2 fy2_2 c3).2 (th_leI rfl) (th_leI rfl)
        refine lv_aload_n hx hb dX10_firstFor_10 rfl (lv_at hl 0 rfl) ?_
        obtain ⟨q6, r6, t6⟩ : ∃ q, gr h0 0 = some q ∧ τ q = 1 := (thI_10 hH t_h0).1
        refine th_get (ci := 9) (v := .ref q6) (T := TX10) (C := RX10) (N := 3) hx hb hts (fun w h => List.mem_cons_of_mem _ (List.mem_append_left _ (List.mem_append_left _ (List.mem_append_left _ (List.mem_append_left _ (List.mem_append_left _ (List.mem_append_left _ (List.mem_append_right _ h)))))))) hown hK hH t_h0 (th_nz rfl) (thE_10 _ _ _) rfl 0 (th_ltN rfl) (hts (.fieldLink RX10 19 "BayMoorings$WaitingList" "bay" "LBayMoorings$Bay;") (List.mem_cons_of_mem _ (List.mem_append_left _ (List.mem_append_left _ (List.mem_append_left _ (List.mem_append_left _ (List.mem_append_left _ (List.mem_append_left _ (List.mem_append_left _ (List.mem_append_left _ (List.mem_of_getElem? (i := 1) rfl))))))))))) (fun _ h9 => h9) (th_fR r6 rfl) dX10_firstFor_11 ?_
        refine lv_aload_n hx hb dX10_firstFor_14 rfl (lv_at hl 0 rfl) ?_
        obtain ⟨q7, r7, t7⟩ : ∃ q, gr h0 1 = some q ∧ τ q = 35 := (thI_10 hH t_h0).2.1
        refine th_get (ci := 9) (v := .ref q7) (T := TX10) (C := RX10) (N := 3) hx hb hts (fun w h => List.mem_cons_of_mem _ (List.mem_append_left _ (List.mem_append_left _ (List.mem_append_left _ (List.mem_append_left _ (List.mem_append_left _ (List.mem_append_left _ (List.mem_append_right _ h)))))))) hown hK hH t_h0 (th_nz rfl) (thE_10 _ _ _) rfl 1 (th_ltN rfl) (hts (.fieldLink RX10 9 "BayMoorings$WaitingList" "queue" "[I") (List.mem_cons_of_mem _ (List.mem_append_left _ (List.mem_append_left _ (List.mem_append_left _ (List.mem_append_left _ (List.mem_append_left _ (List.mem_append_left _ (List.mem_append_left _ (List.mem_append_left _ (List.mem_of_getElem? (i := 2) rfl))))))))))) (fun _ h9 => h9) (th_fR r7 rfl) dX10_firstFor_15 ?_
        refine lv_iload_n hx hb dX10_firstFor_18 rfl (lv_at hl 2 rfl) ?_
        refine th_iald hx hb hK hH t7 (th_nz rfl) 0 (thE_35 _ _ _) rfl (rg_in (n := 10) f5 (th_leI rfl) (th_ltI rfl)) dX10_firstFor_19 ?_
        refine lv_topi (fun x8 e8 => ?_)
        have hA9 := th_Asub (τ := τ) hS
        refine va_callq (va_runV (As := [.int x8]) (rest := []) ⟨hx, hb, hml, hown, hts⟩ (k_X0_boatAt l D cA Z τ gi gr _ q6 t6 x8) (cwV 1 hts gX10_firstFor_X0_boatAt rfl rfl rfl hd_X0_boatAt__1 ⟨Nat.le_of_ble_eq_true rfl, Nat.le_of_ble_eq_true rfl⟩) ⟨th_blind, tr_1 hK hH t6, (th_pre hH hK hN hZ hS hA9)⟩ rfl rfl hl.1 rfl (lv_room (Nat.le_of_ble_eq_true rfl)) dX10_firstFor_20 ⟨Nat.le_of_ble_eq_true rfl, Nat.le_of_ble_eq_true rfl⟩) hS (fun q _ h => hA9 q h) hA9 (fun r10 u t H locs ht hvm hw10 hB hz1 hk1 hS => ?_)
        try dsimp only at hw10 hB
        rw [ht] at hB
        have hH := hB
        refine th_astoreq_n (i := 3) (lv' := [(3, va_rf r10), (0, .ref h0), (1, .ref h1), (2, .int y2_2)]) hx hb dX10_firstFor_23 rfl hl (th_ltN rfl) rfl (fun ls hl => ?_)
        refine th_aloadq_n hx hb dX10_firstFor_24 rfl (lv_at hl 0 rfl) ?_
        refine th_ifnull (tgt := 65) hx hb dX10_firstFor_25 (th_eqI rfl) (fun z11 => ?_) (fun q11 z11 => ?_)
        · skip
          subst z11
          have hl : lv_has ls 4 [(3, .null), (0, .ref h0), (1, .ref h1), (2, .int y2_2)] := hl
          exact J65 _ _ _ x2 hH hS (lv_sub hl [1, 2, 3] rfl) f5 e2 f4 (hF.trans (by simp only [↓reduceIte, f_X10_firstFor_2, ← e2, eq_false c3, r6, Option.getD_some, r7, ← e8, hw10.2, Option.elim_none]))
        · skip
          subst z11
          have t11 := hw10.1 q11 rfl
          have hl : lv_has ls 4 [(3, .ref q11), (0, .ref h0), (1, .ref h1), (2, .int y2_2)] := hl
          refine lv_aload_n hx hb dX10_firstFor_28 rfl (lv_at hl 0 rfl) ?_
          refine lv_aload_n hx hb dX10_firstFor_29 rfl (lv_at hl 2 rfl) ?_
          obtain ⟨x12, e12⟩ : ∃ y : Int32, y = gi h1 0 := ⟨_, rfl⟩
          refine th_get (ci := 2) (v := .int x12) (T := TX3) (C := RX3) (N := 8) hx hb hts (fun w h => List.mem_cons_of_mem _ (List.mem_append_left _ (List.mem_append_left _ (List.mem_append_left _ (List.mem_append_left _ (List.mem_append_left _ (List.mem_append_right _ h))))))) hown hK hH t_h1 (th_nz rfl) (thE_3 _ _ _) rfl 0 (th_ltN rfl) (hts (.fieldLink RX10 33 "BayMoorings$Buoy" "number" "I") (List.mem_cons_of_mem _ (List.mem_append_left _ (List.mem_append_left _ (List.mem_append_left _ (List.mem_append_left _ (List.mem_append_left _ (List.mem_append_left _ (List.mem_append_left _ (List.mem_append_left _ (List.mem_of_getElem? (i := 3) rfl))))))))))) (fun _ h9 => h9) (th_fI e12 rfl) dX10_firstFor_30 ?_
          have hA13 := th_Asub (τ := τ) hS
          refine va_calli (th_or3 t11 (fun t9 => va_runU (As := [.int x12]) (rest := []) ⟨hx, hb, hml, hown, hts⟩ (k_X2_hasRefused l D cA Z τ gi gr _ q11 (Or.inl t9) x12) (va_cwU 1 hts gX10_firstFor_X2_hasRefused_u38X8 rfl rfl rfl rfl (by decide +kernel) ⟨Nat.le_of_ble_eq_true rfl, Nat.le_of_ble_eq_true rfl⟩) ⟨th_blind, tr_8 hK hH t9, (th_pre hH hK hN hZ hS hA13)⟩ rfl rfl hl.1 rfl (lv_room (Nat.le_of_ble_eq_true rfl)) dX10_firstFor_33 ⟨Nat.le_of_ble_eq_true rfl, Nat.le_of_ble_eq_true rfl⟩) (fun t9 => va_runU (As := [.int x12]) (rest := []) ⟨hx, hb, hml, hown, hts⟩ (k_X2_hasRefused l D cA Z τ gi gr _ q11 (Or.inr (Or.inl t9)) x12) (va_cwU 1 hts gX10_firstFor_X2_hasRefused_u38X9 rfl rfl rfl rfl (by decide +kernel) ⟨Nat.le_of_ble_eq_true rfl, Nat.le_of_ble_eq_true rfl⟩) ⟨th_blind, tr_9 hK hH t9, (th_pre hH hK hN hZ hS hA13)⟩ rfl rfl hl.1 rfl (lv_room (Nat.le_of_ble_eq_true rfl)) dX10_firstFor_33 ⟨Nat.le_of_ble_eq_true rfl, Nat.le_of_ble_eq_true rfl⟩) (fun t9 => va_runU (As := [.int x12]) (rest := []) ⟨hx, hb, hml, hown, hts⟩ (k_X2_hasRefused l D cA Z τ gi gr _ q11 (Or.inr (Or.inr t9)) x12) (va_cwU 1 hts gX10_firstFor_X2_hasRefused_u38X4 rfl rfl rfl rfl (by decide +kernel) ⟨Nat.le_of_ble_eq_true rfl, Nat.le_of_ble_eq_true rfl⟩) ⟨th_blind, tr_4 hK hH t9, (th_pre hH hK hN hZ hS hA13)⟩ rfl rfl hl.1 rfl (lv_room (Nat.le_of_ble_eq_true rfl)) dX10_firstFor_33 ⟨Nat.le_of_ble_eq_true rfl, Nat.le_of_ble_eq_true rfl⟩)) hS (fun q _ h => hA13 q h) hA13 (fun x14 u t H locs ht hvm hw14 hB hz1 hk1 hS => ?_)
          try dsimp only at hw14 hB
          rw [ht] at hB
          have hH := hB
          refine lv_if_ne (tgt := 65) hx hb dX10_firstFor_36 (th_eqI rfl) (fun c15 => ?_) (fun c15 => ?_)
          · skip
            have f16 : rg 1 1 x14 := rg_w (rg_neL hw14.1 rgc_0 c15) (th_leI rfl) (th_leI rfl)
            exact J65 _ _ _ x2 hH hS (lv_sub hl [1, 2, 3] rfl) f5 e2 f4 (hF.trans (by simp only [↓reduceIte, f_X10_firstFor_2, ← e2, eq_false c3, r6, Option.getD_some, r7, ← e8, hw10.2, Option.elim_some, ← e12, hw14.2, eq_false c15]))
          · skip
            have f17 : rg 0 0 x14 := rg_w (rg_eq hw14.1 rgc_0 c15).1 (th_leI rfl) (th_leI rfl)
            refine lv_aload_n hx hb dX10_firstFor_39 rfl (lv_at hl 1 rfl) ?_
            refine th_get (ci := 9) (v := .ref q6) (T := TX10) (C := RX10) (N := 3) hx hb hts (fun w h => List.mem_cons_of_mem _ (List.mem_append_left _ (List.mem_append_left _ (List.mem_append_left _ (List.mem_append_left _ (List.mem_append_left _ (List.mem_append_left _ (List.mem_append_right _ h)))))))) hown hK hH t_h0 (th_nz rfl) (thE_10 _ _ _) rfl 0 (th_ltN rfl) (hts (.fieldLink RX10 19 "BayMoorings$WaitingList" "bay" "LBayMoorings$Bay;") (List.mem_cons_of_mem _ (List.mem_append_left _ (List.mem_append_left _ (List.mem_append_left _ (List.mem_append_left _ (List.mem_append_left _ (List.mem_append_left _ (List.mem_append_left _ (List.mem_append_left _ (List.mem_of_getElem? (i := 1) rfl))))))))))) (fun _ h9 => h9) (th_fR r6 rfl) dX10_firstFor_40 ?_
            refine lv_aload_n hx hb dX10_firstFor_43 rfl (lv_at hl 0 rfl) ?_
            refine lv_aload_n hx hb dX10_firstFor_44 rfl (lv_at hl 2 rfl) ?_
            refine lv_aload_n hx hb dX10_firstFor_45 rfl (lv_at hl 1 rfl) ?_
            refine th_get (ci := 9) (v := .ref q6) (T := TX10) (C := RX10) (N := 3) hx hb hts (fun w h => List.mem_cons_of_mem _ (List.mem_append_left _ (List.mem_append_left _ (List.mem_append_left _ (List.mem_append_left _ (List.mem_append_left _ (List.mem_append_left _ (List.mem_append_right _ h)))))))) hown hK hH t_h0 (th_nz rfl) (thE_10 _ _ _) rfl 0 (th_ltN rfl) (hts (.fieldLink RX10 19 "BayMoorings$WaitingList" "bay" "LBayMoorings$Bay;") (List.mem_cons_of_mem _ (List.mem_append_left _ (List.mem_append_left _ (List.mem_append_left _ (List.mem_append_left _ (List.mem_append_left _ (List.mem_append_left _ (List.mem_append_left _ (List.mem_append_left _ (List.mem_of_getElem? (i := 1) rfl))))))))))) (fun _ h9 => h9) (th_fR r6 rfl) dX10_firstFor_46 ?_
            obtain ⟨q20, r20, t20⟩ : ∃ q, gr q6 4 = some q ∧ τ q = 2 := (thI_1 hH t6).2.2.2.2.1
            refine th_get (ci := 0) (v := .ref q20) (T := TX0) (C := RX0) (N := 9) hx hb hts (fun w h => List.mem_cons_of_mem _ (List.mem_append_left _ (List.mem_append_left _ (List.mem_append_left _ (List.mem_append_left _ (List.mem_append_right _ h)))))) hown hK hH t6 (th_nz rfl) (thE_1 _ _ _) rfl 4 (th_ltN rfl) (hts (.fieldLink RX10 44 "BayMoorings$Bay" "berths" "LBayMoorings$Berths;") (List.mem_cons_of_mem _ (List.mem_append_left _ (List.mem_append_left _ (List.mem_append_left _ (List.mem_append_left _ (List.mem_append_left _ (List.mem_append_left _ (List.mem_append_left _ (List.mem_append_left _ (List.mem_of_getElem? (i := 4) rfl))))))))))) (fun _ h9 => h9) (th_fR r20 rfl) dX10_firstFor_49 ?_
            have hA21 := th_Asub (τ := τ) hS
            refine va_calli (va_runV (As := [.ref q11, .ref h1, .ref q20]) (rest := []) ⟨hx, hb, hml, hown, hts⟩ (k_X0_mayLie l D cA Z τ gi gr _ q6 t6 q11 t11 h1 t_h1 q20 t20) (cwV 3 hts gX10_firstFor_X0_mayLie rfl rfl rfl hd_X0_mayLie__3 ⟨Nat.le_of_ble_eq_true rfl, Nat.le_of_ble_eq_true rfl⟩) ⟨th_blind, tr_1 hK hH t6, (th_pre hH hK hN hZ hS hA21)⟩ rfl rfl hl.1 rfl (lv_room (Nat.le_of_ble_eq_true rfl)) dX10_firstFor_52 ⟨Nat.le_of_ble_eq_true rfl, Nat.le_of_ble_eq_true rfl⟩) hS (fun q _ h => hA21 q h) hA21 (fun x22 u t H locs ht hvm hw22 hB hz1 hk1 hS => ?_)
            try dsimp only at hw22 hB
            rw [ht] at hB
            have hH := hB
            refine lv_if_eq (tgt := 65) hx hb dX10_firstFor_55 (th_eqI rfl) (fun c23 => ?_) (fun c23 => ?_)
            · skip
              have f24 : rg 0 0 x22 := rg_w (rg_eq hw22.1 rgc_0 c23).1 (th_leI rfl) (th_leI rfl)
              exact J65 _ _ _ x2 hH hS (lv_sub hl [1, 2, 3] rfl) f5 e2 f4 (hF.trans (by simp only [↓reduceIte, f_X10_firstFor_2, ← e2, eq_false c3, r6, Option.getD_some, r7, ← e8, hw10.2, Option.elim_some, ← e12, hw14.2, eq_true c15, r20, hw22.2, eq_true c23]))
            · skip
              have f25 : rg 1 1 x22 := rg_w (rg_neL hw22.1 rgc_0 c23) (th_leI rfl) (th_leI rfl)
              refine lv_aload_n hx hb dX10_firstFor_58 rfl (lv_at hl 1 rfl) ?_
              refine th_get (ci := 9) (v := .ref q7) (T := TX10) (C := RX10) (N := 3) hx hb hts (fun w h => List.mem_cons_of_mem _ (List.mem_append_left _ (List.mem_append_left _ (List.mem_append_left _ (List.mem_append_left _ (List.mem_append_left _ (List.mem_append_left _ (List.mem_append_right _ h)))))))) hown hK hH t_h0 (th_nz rfl) (thE_10 _ _ _) rfl 1 (th_ltN rfl) (hts (.fieldLink RX10 9 "BayMoorings$WaitingList" "queue" "[I") (List.mem_cons_of_mem _ (List.mem_append_left _ (List.mem_append_left _ (List.mem_append_left _ (List.mem_append_left _ (List.mem_append_left _ (List.mem_append_left _ (List.mem_append_left _ (List.mem_append_left _ (List.mem_of_getElem? (i := 2) rfl))))))))))) (fun _ h9 => h9) (th_fR r7 rfl) dX10_firstFor_59 ?_
              refine lv_iload_n hx hb dX10_firstFor_62 rfl (lv_at hl 3 rfl) ?_
              refine th_iald hx hb hK hH t7 (th_nz rfl) 0 (thE_35 _ _ _) rfl (rg_in (n := 10) f5 (th_leI rfl) (th_ltI rfl)) dX10_firstFor_63 ?_
              rw [← e8]
              exact W.iret (v := x8) hx hb hr (fun t ht hW => ⟨⟨x8, (), rfl, (hF.trans (by simp only [↓reduceIte, f_X10_firstFor_2, ← e2, eq_false c3, r6, Option.getD_some, r7, ← e8, hw10.2, Option.elim_some, ← e12, hw14.2, eq_true c15, r20, hw22.2, eq_false c23])), th_Ht ht hH⟩, hS.F ht⟩) hS.2.2 dX10_firstFor_64
  have hS : va_S (th_A τ s.heap.size) s.heap s.heap [] := va_S.rf
  have hl := lv_entry ([.ref h0, .ref h1]) (n := 4) (Nat.le_of_ble_eq_true rfl)
  rw [lg_entry_eq]
  generalize (lg_sl ([.ref h0, .ref h1]) ++ List.replicate (4 - (lg_sl ([.ref h0, .ref h1])).length) Slot.unset).toArray = ls at hl ⊢
  have hl : lv_has ls 4 [(0, .ref h0), (1, .ref h1)] := hl
  have hF : F_X10_firstFor τ Z gi gr h0 h1 = F_X10_firstFor τ Z gi gr h0 h1 := rfl
  refine lv_iconst (v := 0) hx hb dX10_firstFor_0 ic_0 ?_
  refine lv_istore_n (i := 2) (lv' := [(2, .int 0), (0, .ref h0), (1, .ref h1)]) hx hb dX10_firstFor_1 rfl hl (th_ltN rfl) rfl (fun ls hl => ?_)
  exact J2 _ _ _ _ 0 (Nat.lt_add_one _) hH hS (lv_sub hl [1, 2, 0] rfl) (rg_w rgc_0 (th_leI rfl) (th_leI rfl)) (hF.trans (by simp only [F_X10_firstFor]))
end
section
noncomputable def F_X6_buoyFor (τ : th_t) (Z : th_Zt) (gi : th_i) (gr : th_r) (h0 : Nat) (p1 : Int32) : Int32 :=
  let x2 : Int32 := F_X11_within τ Z gi gr p1 0 15
  if x2 = (0 : Int32) then (
    (-1)) else (
    let q9 : Nat := (gr h0 1).getD 0
    let x10 : Int32 := gi q9 p1.toNatClampNeg
    x10)
set_option maxHeartbeats 8000000 in
set_option maxRecDepth 100000 in
theorem k_X6_buoyFor (l : Launch) (D : va_G) (cA : Nat → ClassId) (Z : th_Zt) (τ : th_t) (gi : th_i) (gr : th_r) (sz : Nat) (h0 : Nat) (t_h0 : τ h0 = 6) (p1 : Int32) : Met l yX6_buoyFor wsX6_buoyFor ({ frames := 1, cells := 0, slots := 0, locals := 22 }) (va_Pc [.ref h0, .int p1] (th_Pre D cA Z τ gi gr sz)) (va_Qi (fun (r : Int32) (_ : Unit) => (F_X6_buoyFor τ Z gi gr h0 p1 = r)) (fun (_ : Unit) t => th_H D cA τ gi gr t.heap) (th_A τ sz)) 0 0 (th_A τ sz) := by
  refine Met.ofW (cc := cX6_buoyFor) (maxL := 2) (ret := (some .int)) (by decide) rfl ?_
  intro p e s m args below meth c s₁ B hml hv
  obtain ⟨rfl, hsz, hH, hK, hN, hZ⟩ := hv
  have hx := B.exec
  have hb := B.bytes
  have hr := B.returns
  have hts := atoms_spec (ws := wsX6_buoyFor) B.pre
  have hown : s.vm.findClass RX6 = some m.cls := findClass_of_methodNamed B.named
  have hlocks := B.notSynchronized
  subst hsz
  have hS : va_S (th_A τ s.heap.size) s.heap s.heap [] := va_S.rf
  have hl := lv_entry ([.ref h0, .int p1]) (n := 2) (Nat.le_of_ble_eq_true rfl)
  rw [lg_entry_eq]
  generalize (lg_sl ([.ref h0, .int p1]) ++ List.replicate (2 - (lg_sl ([.ref h0, .int p1])).length) Slot.unset).toArray = ls at hl ⊢
  have hl : lv_has ls 2 [(0, .ref h0), (1, .int p1)] := hl
  have hF : F_X6_buoyFor τ Z gi gr h0 p1 = F_X6_buoyFor τ Z gi gr h0 p1 := rfl
  refine lv_iload_n hx hb dX6_buoyFor_0 rfl (lv_at hl 1 rfl) ?_
  refine lv_iconst (v := 0) hx hb dX6_buoyFor_1 ic_0 ?_
  refine lv_bipush (v := 15) hx hb dX6_buoyFor_2 bp_15 ?_
  have hA1 := th_Asub (τ := τ) hS
  refine va_calli (va_runSN (As := [.int p1, .int 0, .int 15]) (rest := []) ⟨hx, hb, hml, hown, hts⟩ (k_X11_within l D cA Z τ gi gr _ p1 0 15) ⟨va_cnB (host := RX11) 3 hts gX6_buoyFor_X11_within_n26 rfl rfl rfl hN.2.2.2.2.2.2.2.1 (hts (.initialized RX11) (List.mem_cons_of_mem _ (List.mem_append_left _ (List.mem_of_getElem? (i := 2) rfl)))) (by decide +kernel) ⟨Nat.le_of_ble_eq_true rfl, Nat.le_of_ble_eq_true rfl⟩, (hts (.static yX11_within) (List.mem_cons_of_mem _ (List.mem_append_left _ (List.mem_of_getElem? (i := 1) rfl)))), trivial⟩ ⟨th_blind, (th_pre hH hK hN hZ hS hA1)⟩ rfl rfl hl.1 rfl (lv_room (Nat.le_of_ble_eq_true rfl)) dX6_buoyFor_4 ⟨Nat.le_of_ble_eq_true rfl, Nat.le_of_ble_eq_true rfl⟩) hS (fun q _ h => hA1 q h) hA1 (fun x2 u t H locs ht hvm hw2 hB hz1 hk1 hS => ?_)
  try dsimp only at hw2 hB
  rw [ht] at hB
  have hH := hB
  refine lv_if_eq (tgt := 19) hx hb dX6_buoyFor_7 (th_eqI rfl) (fun c3 => ?_) (fun c3 => ?_)
  · skip
    have f4 : rg 0 0 x2 := rg_w (rg_eq hw2.1 rgc_0 c3).1 (th_leI rfl) (th_leI rfl)
    refine lv_iconst (v := (-1)) hx hb dX6_buoyFor_19 ic_m1 ?_
    exact W.iret (v := (-1)) hx hb hr (fun t ht hW => ⟨⟨(-1), (), rfl, (hF.trans (by simp only [↓reduceIte, F_X6_buoyFor, hw2.2.2.1, eq_true c3])), th_Ht ht hH⟩, hS.F ht⟩) hS.2.2 dX6_buoyFor_20
  · skip
    have f5 : rg 1 1 x2 := rg_w (rg_neL hw2.1 rgc_0 c3) (th_leI rfl) (th_leI rfl)
    have g6 := hw2.2.1 c3
    have f7 : rg 0 2147483647 p1 := rg_w (rg_le rgc_0 (rg_any p1) g6.1).2 (th_leI rfl) (th_leI rfl)
    have f8 : rg 0 15 p1 := rg_w (rg_le f7 rgc_15 g6.2).1 (th_leI rfl) (th_leI rfl)
    refine lv_aload_n hx hb dX6_buoyFor_10 rfl (lv_at hl 0 rfl) ?_
    obtain ⟨q9, r9, t9⟩ : ∃ q, gr h0 1 = some q ∧ τ q = 28 := (thI_6 hH t_h0).2.1
    refine th_get (ci := 5) (v := .ref q9) (T := TX6) (C := RX6) (N := 4) hx hb hts (fun w h => List.mem_cons_of_mem _ (List.mem_append_right _ h)) hown hK hH t_h0 (th_nz rfl) (thE_6 _ _ _) rfl 1 (th_ltN rfl) (hts (.fieldLink RX6 9 "BayMoorings$Rings" "gets" "[I") (List.mem_cons_of_mem _ (List.mem_append_left _ (List.mem_of_getElem? (i := 0) rfl)))) (fun _ h9 => h9) (th_fR r9 rfl) dX6_buoyFor_11 ?_
    refine lv_iload_n hx hb dX6_buoyFor_14 rfl (lv_at hl 1 rfl) ?_
    refine th_iald hx hb hK hH t9 (th_nz rfl) 0 (thE_28 _ _ _) rfl (rg_in (n := 16) f8 (th_leI rfl) (th_ltI rfl)) dX6_buoyFor_15 ?_
    refine lv_topi (fun x10 e10 => ?_)
    refine lv_goto (tgt := 20) hx hb dX6_buoyFor_16 (th_eqI rfl) ?_
    exact W.iret (v := x10) hx hb hr (fun t ht hW => ⟨⟨x10, (), rfl, (hF.trans (by simp only [↓reduceIte, F_X6_buoyFor, hw2.2.2.1, eq_false c3, r9, Option.getD_some, ← e10])), th_Ht ht hH⟩, hS.F ht⟩) hS.2.2 dX6_buoyFor_20

noncomputable def F_X6_isLeft (τ : th_t) (Z : th_Zt) (gi : th_i) (gr : th_r) (h0 : Nat) (p1 : Int32) : Int32 :=
  let x2 : Int32 := F_X11_within τ Z gi gr p1 0 15
  if x2 = (0 : Int32) then (
    0) else (
    let x9 : Int32 := gi h0 3
    let x10 : Int32 := x9 >>> (p1 &&& 31)
    let x11 : Int32 := x10 &&& 1
    if x11 = (0 : Int32) then (
      0) else (
      1))
set_option maxHeartbeats 8000000 in
set_option maxRecDepth 100000 in
theorem k_X6_isLeft (l : Launch) (D : va_G) (cA : Nat → ClassId) (Z : th_Zt) (τ : th_t) (gi : th_i) (gr : th_r) (sz : Nat) (h0 : Nat) (t_h0 : τ h0 = 6) (p1 : Int32) : Met l yX6_isLeft wsX6_isLeft ({ frames := 1, cells := 0, slots := 0, locals := 22 }) (va_Pc [.ref h0, .int p1] (th_Pre D cA Z τ gi gr sz)) (va_Qi (fun (r : Int32) (_ : Unit) => rg 0 1 r ∧ (¬ r = 0 → rg 0 15 p1) ∧ (F_X6_isLeft τ Z gi gr h0 p1 = r)) (fun (_ : Unit) t => th_H D cA τ gi gr t.heap) (th_A τ sz)) 0 0 (th_A τ sz) := by
  refine Met.ofW (cc := cX6_isLeft) (maxL := 2) (ret := (some .boolean)) (by decide) rfl ?_
  intro p e s m args below meth c s₁ B hml hv
  obtain ⟨rfl, hsz, hH, hK, hN, hZ⟩ := hv
  have hx := B.exec
  have hb := B.bytes
  have hr := B.returns
  have hts := atoms_spec (ws := wsX6_isLeft) B.pre
  have hown : s.vm.findClass RX6 = some m.cls := findClass_of_methodNamed B.named
  have hlocks := B.notSynchronized
  subst hsz
  have hS : va_S (th_A τ s.heap.size) s.heap s.heap [] := va_S.rf
  have hl := lv_entry ([.ref h0, .int p1]) (n := 2) (Nat.le_of_ble_eq_true rfl)
  rw [lg_entry_eq]
  generalize (lg_sl ([.ref h0, .int p1]) ++ List.replicate (2 - (lg_sl ([.ref h0, .int p1])).length) Slot.unset).toArray = ls at hl ⊢
  have hl : lv_has ls 2 [(0, .ref h0), (1, .int p1)] := hl
  have hF : F_X6_isLeft τ Z gi gr h0 p1 = F_X6_isLeft τ Z gi gr h0 p1 := rfl
  refine lv_iload_n hx hb dX6_isLeft_0 rfl (lv_at hl 1 rfl) ?_
  refine lv_iconst (v := 0) hx hb dX6_isLeft_1 ic_0 ?_
  refine lv_bipush (v := 15) hx hb dX6_isLeft_2 bp_15 ?_
  have hA1 := th_Asub (τ := τ) hS
  refine va_calli (va_runSN (As := [.int p1, .int 0, .int 15]) (rest := []) ⟨hx, hb, hml, hown, hts⟩ (k_X11_within l D cA Z τ gi gr _ p1 0 15) ⟨va_cnB (host := RX11) 3 hts gX6_isLeft_X11_within_n26 rfl rfl rfl hN.2.2.2.2.2.2.2.1 (hts (.initialized RX11) (List.mem_cons_of_mem _ (List.mem_append_left _ (List.mem_of_getElem? (i := 2) rfl)))) (by decide +kernel) ⟨Nat.le_of_ble_eq_true rfl, Nat.le_of_ble_eq_true rfl⟩, (hts (.static yX11_within) (List.mem_cons_of_mem _ (List.mem_append_left _ (List.mem_of_getElem? (i := 1) rfl)))), trivial⟩ ⟨th_blind, (th_pre hH hK hN hZ hS hA1)⟩ rfl rfl hl.1 rfl (lv_room (Nat.le_of_ble_eq_true rfl)) dX6_isLeft_4 ⟨Nat.le_of_ble_eq_true rfl, Nat.le_of_ble_eq_true rfl⟩) hS (fun q _ h => hA1 q h) hA1 (fun x2 u t H locs ht hvm hw2 hB hz1 hk1 hS => ?_)
  try dsimp only at hw2 hB
  rw [ht] at hB
  have hH := hB
  refine lv_if_eq (tgt := 25) hx hb dX6_isLeft_7 (th_eqI rfl) (fun c3 => ?_) (fun c3 => ?_)
  · skip
    have f4 : rg 0 0 x2 := rg_w (rg_eq hw2.1 rgc_0 c3).1 (th_leI rfl) (th_leI rfl)
    refine lv_iconst (v := 0) hx hb dX6_isLeft_25 ic_0 ?_
    exact W.zret (v := 0) hx hb hr (rg_nb (rg_w rgc_0 (th_leI rfl) (th_leI rfl))) (fun t ht hW => ⟨⟨0, (), rfl, ⟨(rg_w rgc_0 (th_leI rfl) (th_leI rfl)), (fun h9 => absurd rfl h9), (hF.trans (by simp only [↓reduceIte, F_X6_isLeft, hw2.2.2.1, eq_true c3]))⟩, th_Ht ht hH⟩, hS.F ht⟩) hS.2.2 dX6_isLeft_26
  · skip
    have f5 : rg 1 1 x2 := rg_w (rg_neL hw2.1 rgc_0 c3) (th_leI rfl) (th_leI rfl)
    have g6 := hw2.2.1 c3
    have f7 : rg 0 2147483647 p1 := rg_w (rg_le rgc_0 (rg_any p1) g6.1).2 (th_leI rfl) (th_leI rfl)
    have f8 : rg 0 15 p1 := rg_w (rg_le f7 rgc_15 g6.2).1 (th_leI rfl) (th_leI rfl)
    refine lv_aload_n hx hb dX6_isLeft_10 rfl (lv_at hl 0 rfl) ?_
    obtain ⟨x9, e9⟩ : ∃ y : Int32, y = gi h0 3 := ⟨_, rfl⟩
    refine th_get (ci := 5) (v := .int x9) (T := TX6) (C := RX6) (N := 4) hx hb hts (fun w h => List.mem_cons_of_mem _ (List.mem_append_right _ h)) hown hK hH t_h0 (th_nz rfl) (thE_6 _ _ _) rfl 3 (th_ltN rfl) (hts (.fieldLink RX6 18 "BayMoorings$Rings" "left" "I") (List.mem_cons_of_mem _ (List.mem_append_left _ (List.mem_of_getElem? (i := 0) rfl)))) (fun _ h9 => h9) (th_fI e9 rfl) dX6_isLeft_11 ?_
    refine lv_iload_n hx hb dX6_isLeft_14 rfl (lv_at hl 1 rfl) ?_
    refine lv_ishr hx hb dX6_isLeft_15 ?_
    refine lv_topi (fun x10 e10 => ?_)
    refine lv_iconst (v := 1) hx hb dX6_isLeft_16 ic_1 ?_
    refine lv_iand hx hb dX6_isLeft_17 ?_
    refine lv_topi (fun x11 e11 => ?_)
    have f11 : rg 0 1 x11 := rg_e e11 (rg_and 1 (by decide) (th_leN rfl) (th_eqI rfl))
    refine lv_if_eq (tgt := 25) hx hb dX6_isLeft_18 (th_eqI rfl) (fun c12 => ?_) (fun c12 => ?_)
    · skip
      have f13 : rg 0 0 x11 := rg_w (rg_eq f11 rgc_0 c12).1 (th_leI rfl) (th_leI rfl)
      refine lv_iconst (v := 0) hx hb dX6_isLeft_25 ic_0 ?_
      exact W.zret (v := 0) hx hb hr (rg_nb (rg_w rgc_0 (th_leI rfl) (th_leI rfl))) (fun t ht hW => ⟨⟨0, (), rfl, ⟨(rg_w rgc_0 (th_leI rfl) (th_leI rfl)), (fun h9 => absurd rfl h9), (hF.trans (by simp only [↓reduceIte, F_X6_isLeft, hw2.2.2.1, eq_false c3, ← e9, ← e10, ← e11, eq_true c12]))⟩, th_Ht ht hH⟩, hS.F ht⟩) hS.2.2 dX6_isLeft_26
    · skip
      have f14 : rg 1 1 x11 := rg_w (rg_neL f11 rgc_0 c12) (th_leI rfl) (th_leI rfl)
      refine lv_iconst (v := 1) hx hb dX6_isLeft_21 ic_1 ?_
      refine lv_goto (tgt := 26) hx hb dX6_isLeft_22 (th_eqI rfl) ?_
      exact W.zret (v := 1) hx hb hr (rg_nb (rg_w rgc_1 (th_leI rfl) (th_leI rfl))) (fun t ht hW => ⟨⟨1, (), rfl, ⟨(rg_w rgc_1 (th_leI rfl) (th_leI rfl)), (fun _ => f8), (hF.trans (by simp only [↓reduceIte, F_X6_isLeft, hw2.2.2.1, eq_false c3, ← e9, ← e10, ← e11, eq_false c12]))⟩, th_Ht ht hH⟩, hS.F ht⟩) hS.2.2 dX6_isLeft_26

noncomputable def F_X6_pointedAtBy (τ : th_t) (Z : th_Zt) (gi : th_i) (gr : th_r) (h0 : Nat) (p1 : Int32) : Int32 :=
  let x2 : Int32 := F_X11_within τ Z gi gr p1 0 15
  if x2 = (0 : Int32) then (
    (-1)) else (
    let q9 : Nat := (gr h0 2).getD 0
    let x10 : Int32 := gi q9 p1.toNatClampNeg
    x10)
set_option maxHeartbeats 8000000 in
set_option maxRecDepth 100000 in
theorem k_X6_pointedAtBy (l : Launch) (D : va_G) (cA : Nat → ClassId) (Z : th_Zt) (τ : th_t) (gi : th_i) (gr : th_r) (sz : Nat) (h0 : Nat) (t_h0 : τ h0 = 6) (p1 : Int32) : Met l yX6_pointedAtBy wsX6_pointedAtBy ({ frames := 1, cells := 0, slots := 0, locals := 22 }) (va_Pc [.ref h0, .int p1] (th_Pre D cA Z τ gi gr sz)) (va_Qi (fun (r : Int32) (_ : Unit) => (F_X6_pointedAtBy τ Z gi gr h0 p1 = r)) (fun (_ : Unit) t => th_H D cA τ gi gr t.heap) (th_A τ sz)) 0 0 (th_A τ sz) := by
  refine Met.ofW (cc := cX6_pointedAtBy) (maxL := 2) (ret := (some .int)) (by decide) rfl ?_
  intro p e s m args below meth c s₁ B hml hv
  obtain ⟨rfl, hsz, hH, hK, hN, hZ⟩ := hv
  have hx := B.exec
  have hb := B.bytes
  have hr := B.returns
  have hts := atoms_spec (ws := wsX6_pointedAtBy) B.pre
  have hown : s.vm.findClass RX6 = some m.cls := findClass_of_methodNamed B.named
  have hlocks := B.notSynchronized
  subst hsz
  have hS : va_S (th_A τ s.heap.size) s.heap s.heap [] := va_S.rf
  have hl := lv_entry ([.ref h0, .int p1]) (n := 2) (Nat.le_of_ble_eq_true rfl)
  rw [lg_entry_eq]
  generalize (lg_sl ([.ref h0, .int p1]) ++ List.replicate (2 - (lg_sl ([.ref h0, .int p1])).length) Slot.unset).toArray = ls at hl ⊢
  have hl : lv_has ls 2 [(0, .ref h0), (1, .int p1)] := hl
  have hF : F_X6_pointedAtBy τ Z gi gr h0 p1 = F_X6_pointedAtBy τ Z gi gr h0 p1 := rfl
  refine lv_iload_n hx hb dX6_pointedAtBy_0 rfl (lv_at hl 1 rfl) ?_
  refine lv_iconst (v := 0) hx hb dX6_pointedAtBy_1 ic_0 ?_
  refine lv_bipush (v := 15) hx hb dX6_pointedAtBy_2 bp_15 ?_
  have hA1 := th_Asub (τ := τ) hS
  refine va_calli (va_runSN (As := [.int p1, .int 0, .int 15]) (rest := []) ⟨hx, hb, hml, hown, hts⟩ (k_X11_within l D cA Z τ gi gr _ p1 0 15) ⟨va_cnB (host := RX11) 3 hts gX6_pointedAtBy_X11_within_n26 rfl rfl rfl hN.2.2.2.2.2.2.2.1 (hts (.initialized RX11) (List.mem_cons_of_mem _ (List.mem_append_left _ (List.mem_of_getElem? (i := 2) rfl)))) (by decide +kernel) ⟨Nat.le_of_ble_eq_true rfl, Nat.le_of_ble_eq_true rfl⟩, (hts (.static yX11_within) (List.mem_cons_of_mem _ (List.mem_append_left _ (List.mem_of_getElem? (i := 1) rfl)))), trivial⟩ ⟨th_blind, (th_pre hH hK hN hZ hS hA1)⟩ rfl rfl hl.1 rfl (lv_room (Nat.le_of_ble_eq_true rfl)) dX6_pointedAtBy_4 ⟨Nat.le_of_ble_eq_true rfl, Nat.le_of_ble_eq_true rfl⟩) hS (fun q _ h => hA1 q h) hA1 (fun x2 u t H locs ht hvm hw2 hB hz1 hk1 hS => ?_)
  try dsimp only at hw2 hB
  rw [ht] at hB
  have hH := hB
  refine lv_if_eq (tgt := 19) hx hb dX6_pointedAtBy_7 (th_eqI rfl) (fun c3 => ?_) (fun c3 => ?_)
  · skip
    have f4 : rg 0 0 x2 := rg_w (rg_eq hw2.1 rgc_0 c3).1 (th_leI rfl) (th_leI rfl)
    refine lv_iconst (v := (-1)) hx hb dX6_pointedAtBy_19 ic_m1 ?_
    exact W.iret (v := (-1)) hx hb hr (fun t ht hW => ⟨⟨(-1), (), rfl, (hF.trans (by simp only [↓reduceIte, F_X6_pointedAtBy, hw2.2.2.1, eq_true c3])), th_Ht ht hH⟩, hS.F ht⟩) hS.2.2 dX6_pointedAtBy_20
  · skip
    have f5 : rg 1 1 x2 := rg_w (rg_neL hw2.1 rgc_0 c3) (th_leI rfl) (th_leI rfl)
    have g6 := hw2.2.1 c3
    have f7 : rg 0 2147483647 p1 := rg_w (rg_le rgc_0 (rg_any p1) g6.1).2 (th_leI rfl) (th_leI rfl)
    have f8 : rg 0 15 p1 := rg_w (rg_le f7 rgc_15 g6.2).1 (th_leI rfl) (th_leI rfl)
    refine lv_aload_n hx hb dX6_pointedAtBy_10 rfl (lv_at hl 0 rfl) ?_
    obtain ⟨q9, r9, t9⟩ : ∃ q, gr h0 2 = some q ∧ τ q = 29 := (thI_6 hH t_h0).2.2
    refine th_get (ci := 5) (v := .ref q9) (T := TX6) (C := RX6) (N := 4) hx hb hts (fun w h => List.mem_cons_of_mem _ (List.mem_append_right _ h)) hown hK hH t_h0 (th_nz rfl) (thE_6 _ _ _) rfl 2 (th_ltN rfl) (hts (.fieldLink RX6 15 "BayMoorings$Rings" "pointsAt" "[I") (List.mem_cons_of_mem _ (List.mem_append_left _ (List.mem_of_getElem? (i := 0) rfl)))) (fun _ h9 => h9) (th_fR r9 rfl) dX6_pointedAtBy_11 ?_
    refine lv_iload_n hx hb dX6_pointedAtBy_14 rfl (lv_at hl 1 rfl) ?_
    refine th_iald hx hb hK hH t9 (th_nz rfl) 0 (thE_29 _ _ _) rfl (rg_in (n := 16) f8 (th_leI rfl) (th_ltI rfl)) dX6_pointedAtBy_15 ?_
    refine lv_topi (fun x10 e10 => ?_)
    refine lv_goto (tgt := 20) hx hb dX6_pointedAtBy_16 (th_eqI rfl) ?_
    exact W.iret (v := x10) hx hb hr (fun t ht hW => ⟨⟨x10, (), rfl, (hF.trans (by simp only [↓reduceIte, F_X6_pointedAtBy, hw2.2.2.1, eq_false c3, r9, Option.getD_some, ← e10])), th_Ht ht hH⟩, hS.F ht⟩) hS.2.2 dX6_pointedAtBy_20

noncomputable def f_X6_holderOfWish_75 (τ : th_t) (Z : th_Zt) (gi : th_i) (gr : th_r) (h0 : Nat) (h1 : Nat) (y2_2 : Int32) (k_2 : Int32 → Int32) : Int32 :=
  let x1 : Int32 := y2_2 + 1
  k_2 x1
noncomputable def f_X6_holderOfWish_2 (τ : th_t) (Z : th_Zt) (gi : th_i) (gr : th_r) (h0 : Nat) (h1 : Nat) : Nat → Int32 → Int32
  | 0, y2_2 => 0
  | n2 + 1, y2_2 =>
    let x2 : Int32 := gi h1 4
    if x2 ≤ y2_2 then (
      let x4 : Int32 := gi h1 0
      x4) else (
      let q7 : Nat := (gr h0 0).getD 0
      let x9 : Int32 := F_X2_wishAt τ Z gi gr h1 y2_2
      let r11 : Option Nat := F_X0_buoyAt τ Z gi gr q7 x9
      Option.elim r11 (
        f_X6_holderOfWish_75 τ Z gi gr h0 h1 y2_2 (f_X6_holderOfWish_2 τ Z gi gr h0 h1 n2) ) (fun q12 =>
        let q14 : Nat := (gr q7 4).getD 0
        let x15 : Int32 := gi q12 0
        let x17 : Int32 := F_X1_boatOf τ Z gi gr q14 x15
        let x19 : Int32 := F_X6_isLeft τ Z gi gr h0 x17
        if x19 = (0 : Int32) then (
          f_X6_holderOfWish_75 τ Z gi gr h0 h1 y2_2 (f_X6_holderOfWish_2 τ Z gi gr h0 h1 n2) ) else (
          let x26 : Int32 := F_X0_suits τ Z gi gr q7 h1 q12
          if x26 = (0 : Int32) then (
            f_X6_holderOfWish_75 τ Z gi gr h0 h1 y2_2 (f_X6_holderOfWish_2 τ Z gi gr h0 h1 n2) ) else (
            x17))))
noncomputable def F_X6_holderOfWish (τ : th_t) (Z : th_Zt) (gi : th_i) (gr : th_r) (h0 : Nat) (h1 : Nat) : Int32 :=
  f_X6_holderOfWish_2 τ Z gi gr h0 h1 ((4 - (0 : Int32).toInt).toNat + 1) 0
set_option maxHeartbeats 8000000 in
set_option maxRecDepth 100000 in
theorem k_X6_holderOfWish (l : Launch) (D : va_G) (cA : Nat → ClassId) (Z : th_Zt) (τ : th_t) (gi : th_i) (gr : th_r) (sz : Nat) (h0 : Nat) (t_h0 : τ h0 = 6) (h1 : Nat) (t_h1 : τ h1 = 8 ∨ τ h1 = 9 ∨ τ h1 = 4) : Met l yX6_holderOfWish wsX6_holderOfWish ({ frames := 2, cells := 0, slots := 0, locals := 43 }) (va_Pc [.ref h0, .ref h1] (th_Pre D cA Z τ gi gr sz)) (va_Qi (fun (r : Int32) (_ : Unit) => (F_X6_holderOfWish τ Z gi gr h0 h1 = r)) (fun (_ : Unit) t => th_H D cA τ gi gr t.heap) (th_A τ sz)) 0 0 (th_A τ sz) := by
  refine Met.ofW (cc := cX6_holderOfWish) (maxL := 4) (ret := (some .int)) (by decide) rfl ?_
  intro p e s m args below meth c s₁ B hml hv
  obtain ⟨rfl, hsz, hH, hK, hN, hZ⟩ := hv
  have hx := B.exec
  have hb := B.bytes
  have hr := B.returns
  have hts := atoms_spec (ws := wsX6_holderOfWish) B.pre
  have hown : s.vm.findClass RX6 = some m.cls := findClass_of_methodNamed B.named
  have hlocks := B.notSynchronized
  subst hsz
  have J2 : ∀ (n2 : Nat) (H : Heap) (locs : List Loc) (ls : Array Slot) (y2_2 : Int32), (4 - y2_2.toInt).toNat < n2 → th_H D cA τ gi gr H → va_S (th_A τ s.heap.size) s.heap H locs → lv_has ls 4 [(0, .ref h0), (1, .ref h1), (2, .int y2_2)] → rg 0 4 y2_2 → F_X6_holderOfWish τ Z gi gr h0 h1 = f_X6_holderOfWish_2 τ Z gi gr h0 h1 n2 y2_2 → W p l e (headSpec wsX6_holderOfWish ({ frames := 2, cells := 0, slots := 0, locals := 43 })).room s m [.ref h0, .ref h1].toArray below meth c H locs 0 0 (MQ below (va_Qi (fun (r : Int32) (_ : Unit) => (F_X6_holderOfWish τ Z gi gr h0 h1 = r)) (fun (_ : Unit) t => th_H D cA τ gi gr t.heap) (th_A τ s.heap.size)) [.ref h0, .ref h1].toArray s 0 0 (th_A τ s.heap.size)) (F0 m 2 ls []) := by
    intro n2
    induction n2 with
    | zero =>
      intro H locs ls y2_2 hn
      exact absurd hn (Nat.not_lt_zero _)
    | succ n2 ih2 =>
      intro H locs ls y2_2 hn2 hH hS hl fy2_2 hF
      have J75 : ∀ (H : Heap) (locs : List Loc) (ls : Array Slot), th_H D cA τ gi gr H → va_S (th_A τ s.heap.size) s.heap H locs → lv_has ls 4 [(0, .ref h0), (1, .ref h1), (2, .int y2_2)] → rg 0 3 y2_2 → F_X6_holderOfWish τ Z gi gr h0 h1 = f_X6_holderOfWish_75 τ Z gi gr h0 h1 y2_2 (f_X6_holderOfWish_2 τ Z gi gr h0 h1 n2) → W p l e (headSpec wsX6_holderOfWish ({ frames := 2, cells := 0, slots := 0, locals := 43 })).room s m [.ref h0, .ref h1].toArray below meth c H locs 0 0 (MQ below (va_Qi (fun (r : Int32) (_ : Unit) => (F_X6_holderOfWish τ Z gi gr h0 h1 = r)) (fun (_ : Unit) t => th_H D cA τ gi gr t.heap) (th_A τ s.heap.size)) [.ref h0, .ref h1].toArray s 0 0 (th_A τ s.heap.size)) (F0 m 75 ls []) := by
        intro H locs ls hH hS hl fy75_2 hF
        obtain ⟨x1, e1⟩ : ∃ y : Int32, y = y2_2 + 1 := ⟨_, rfl⟩
        have f1 : rg 1 4 x1 := rg_e e1 (rg_w (rg_add fy75_2 rgc_1 (th_leI rfl) (th_leI rfl)) (th_leI rfl) (th_leI rfl))
        refine lv_iinc (v := x1) (lv' := [(2, .int x1), (0, .ref h0), (1, .ref h1)]) hx hb dX6_holderOfWish_75 hl (k := 2) rfl (by rw [e1]; rfl) (th_ltN rfl) rfl (fun ls hl => ?_)
        refine lv_goto (tgt := 2) hx hb dX6_holderOfWish_78 (th_eqI rfl) ?_
        exact ih2 _ _ _ x1 (th_up (rg_dA e1 fy75_2 rgc_1 (th_leI rfl) (th_leI rfl)) fy75_2 hn2 (th_ltI rfl)) hH hS (lv_sub hl [1, 2, 0] rfl) (rg_w f1 (th_leI rfl) (th_leI rfl)) (hF.trans (by simp only [f_X6_holderOfWish_75, ← e1]))
      refine lv_iload_n hx hb dX6_holderOfWish_2 rfl (lv_at hl 2 rfl) ?_
      refine lv_aload_n hx hb dX6_holderOfWish_3 rfl (lv_at hl 1 rfl) ?_
      obtain ⟨x2, e2⟩ : ∃ y : Int32, y = gi h1 4 := ⟨_, rfl⟩
      refine th_any3 t_h1 (fun t9 k9 => th_get (ci := 7) (v := .int x2) (T := TX8) (C := RX8) (N := 6) hx hb hts (fun w h => List.mem_cons_of_mem _ (List.mem_append_left _ (List.mem_append_left _ (List.mem_append_left _ (List.mem_append_left _ (List.mem_append_left _ (List.mem_append_right _ h))))))) hown hK hH t9 (th_nz rfl) (thE_8 _ _ _) rfl 4 (th_ltN rfl) (hts (.fieldLink RX6 68 "BayMoorings$Boat" "wishCount" "I") (List.mem_cons_of_mem _ (List.mem_append_left _ (List.mem_append_left _ (List.mem_append_left _ (List.mem_append_left _ (List.mem_append_left _ (List.mem_append_left _ (List.mem_append_left _ (List.mem_append_left _ (List.mem_of_getElem? (i := 0) rfl))))))))))) (fun _ h9 => h9) (th_fI e2 rfl) dX6_holderOfWish_4 k9) (fun t9 k9 => th_get (ci := 8) (v := .int x2) (T := TX9) (C := RX9) (N := 6) hx hb hts (fun w h => List.mem_cons_of_mem _ (List.mem_append_left _ (List.mem_append_left _ (List.mem_append_left _ (List.mem_append_left _ (List.mem_append_right _ h)))))) hown hK hH t9 (th_nz rfl) (thE_9 _ _ _) rfl 4 (th_ltN rfl) (hts (.fieldLink RX6 68 "BayMoorings$Boat" "wishCount" "I") (List.mem_cons_of_mem _ (List.mem_append_left _ (List.mem_append_left _ (List.mem_append_left _ (List.mem_append_left _ (List.mem_append_left _ (List.mem_append_left _ (List.mem_append_left _ (List.mem_append_left _ (List.mem_of_getElem? (i := 0) rfl))))))))))) (fun _ h9 => h9) (th_fI e2 rfl) dX6_holderOfWish_4 k9) (fun t9 k9 => th_get (ci := 3) (v := .int x2) (T := TX4) (C := RX4) (N := 6) hx hb hts (fun w h => List.mem_cons_of_mem _ (List.mem_append_left _ (List.mem_append_left _ (List.mem_append_left _ (List.mem_append_left _ (List.mem_append_left _ (List.mem_append_left _ (List.mem_append_right _ h)))))))) hown hK hH t9 (th_nz rfl) (thE_4 _ _ _) rfl 4 (th_ltN rfl) (hts (.fieldLink RX6 68 "BayMoorings$Boat" "wishCount" "I") (List.mem_cons_of_mem _ (List.mem_append_left _ (List.mem_append_left _ (List.mem_append_left _ (List.mem_append_left _ (List.mem_append_left _ (List.mem_append_left _ (List.mem_append_left _ (List.mem_append_left _ (List.mem_of_getElem? (i := 0) rfl))))))))))) (fun _ h9 => h9) (th_fI e2 rfl) dX6_holderOfWish_4 k9) ?_
      have f2 : rg 0 4 x2 := rg_e e2 (th_or3 t_h1 (fun t9 => (thI_8 hH t9).2) (fun t9 => (thI_9 hH t9).2) (fun t9 => (thI_4 hH t9).2))
      refine lv_icmp_ge (tgt := 81) hx hb dX6_holderOfWish_7 (th_eqI rfl) (fun c3 => ?_) (fun c3 => ?_)
      · skip
        refine lv_aload_n hx hb dX6_holderOfWish_81 rfl (lv_at hl 1 rfl) ?_
        obtain ⟨x4, e4⟩ : ∃ y : Int32, y = gi h1 0 := ⟨_, rfl⟩
        refine th_any3 t_h1 (fun t9 k9 => th_get (ci := 7) (v := .int x4) (T := TX8) (C := RX8) (N := 6) hx hb hts (fun w h => List.mem_cons_of_mem _ (List.mem_append_left _ (List.mem_append_left _ (List.mem_append_left _ (List.mem_append_left _ (List.mem_append_left _ (List.mem_append_right _ h))))))) hown hK hH t9 (th_nz rfl) (thE_8 _ _ _) rfl 0 (th_ltN rfl) (hts (.fieldLink RX6 92 "BayMoorings$Boat" "number" "I") (List.mem_cons_of_mem _ (List.mem_append_left _ (List.mem_append_left _ (List.mem_append_left _ (List.mem_append_left _ (List.mem_append_left _ (List.mem_append_left _ (List.mem_append_left _ (List.mem_append_left _ (List.mem_of_getElem? (i := 4) rfl))))))))))) (fun _ h9 => h9) (th_fI e4 rfl) dX6_holderOfWish_82 k9) (fun t9 k9 => th_get (ci := 8) (v := .int x4) (T := TX9) (C := RX9) (N := 6) hx hb hts (fun w h => List.mem_cons_of_mem _ (List.mem_append_left _ (List.mem_append_left _ (List.mem_append_left _ (List.mem_append_left _ (List.mem_append_right _ h)))))) hown hK hH t9 (th_nz rfl) (thE_9 _ _ _) rfl 0 (th_ltN rfl) (hts (.fieldLink RX6 92 "BayMoorings$Boat" "number" "I") (List.mem_cons_of_mem _ (List.mem_append_left _ (List.mem_append_left _ (List.mem_append_left _ (List.mem_append_left _ (List.mem_append_left _ (List.mem_append_left _ (List.mem_append_left _ (List.mem_append_left _ (List.mem_of_getElem? (i := 4) rfl))))))))))) (fun _ h9 => h9) (th_fI e4 rfl) dX6_holderOfWish_82 k9) (fun t9 k9 => th_get (ci := 3) (v := .int x4) (T := TX4) (C := RX4) (N := 6) hx hb hts (fun w h => List.mem_cons_of_mem _ (List.mem_append_left _ (List.mem_append_left _ (List.mem_append_left _ (List.mem_append_left _ (List.mem_append_left _ (List.mem_append_left _ (List.mem_append_right _ h)))))))) hown hK hH t9 (th_nz rfl) (thE_4 _ _ _) rfl 0 (th_ltN rfl) (hts (.fieldLink RX6 92 "BayMoorings$Boat" "number" "I") (List.mem_cons_of_mem _ (List.mem_append_left _ (List.mem_append_left _ (List.mem_append_left _ (List.mem_append_left _ (List.mem_append_left _ (List.mem_append_left _ (List.mem_append_left _ (List.mem_append_left _ (List.mem_of_getElem? (i := 4) rfl))))))))))) (fun _ h9 => h9) (th_fI e4 rfl) dX6_holderOfWish_82 k9) ?_
        exact W.iret (v := x4) hx hb hr (fun t ht hW => ⟨⟨x4, (), rfl, (hF.trans (by simp only [↓reduceIte, f_X6_holderOfWish_2, ← e2, eq_true c3, ← e4])), th_Ht ht hH⟩, hS.F ht⟩) hS.2.2 dX6_holderOfWish_85
      · skip
        have f5 : rg 1 4 x2 := rg_w (rg_nle f2 fy2_2 c3).1 (th_leI rfl) (th_leI rfl)
        have f6 : rg 0 3 y2_2 := rg_w (rg_nle f2 fy2_2 c3).2 (th_leI rfl) (th_leI rfl)
        refine lv_aload_n hx hb dX6_holderOfWish_10 rfl (lv_at hl 0 rfl) ?_
        obtain ⟨q7, r7, t7⟩ : ∃ q, gr h0 0 = some q ∧ τ q = 1 := (thI_6 hH t_h0).1
        refine th_get (ci := 5) (v := .ref q7) (T := TX6) (C := RX6) (N := 4) hx hb hts (fun w h => List.mem_cons_of_mem _ (List.mem_append_left _ (List.mem_append_left _ (List.mem_append_left _ (List.mem_append_right _ h))))) hown hK hH t_h0 (th_nz rfl) (thE_6 _ _ _) rfl 0 (th_ltN rfl) (hts (.fieldLink RX6 22 "BayMoorings$Rings" "bay" "LBayMoorings$Bay;") (List.mem_cons_of_mem _ (List.mem_append_left _ (List.mem_append_left _ (List.mem_append_left _ (List.mem_append_left _ (List.mem_append_left _ (List.mem_append_left _ (List.mem_append_left _ (List.mem_append_left _ (List.mem_of_getElem? (i := 1) rfl))))))))))) (fun _ h9 => h9) (th_fR r7 rfl) dX6_holderOfWish_11 ?_
        refine lv_aload_n hx hb dX6_holderOfWish_14 rfl (lv_at hl 1 rfl) ?_
        refine lv_iload_n hx hb dX6_holderOfWish_15 rfl (lv_at hl 2 rfl) ?_
        have hA8 := th_Asub (τ := τ) hS
        refine va_calli (th_or3 t_h1 (fun t9 => va_runU (As := [.int y2_2]) (rest := [.ref q7]) ⟨hx, hb, hml, hown, hts⟩ (k_X2_wishAt l D cA Z τ gi gr _ h1 (Or.inl t9) y2_2) (va_cwU 1 hts gX6_holderOfWish_X2_wishAt_u73X8 rfl rfl rfl rfl (by decide +kernel) ⟨Nat.le_of_ble_eq_true rfl, Nat.le_of_ble_eq_true rfl⟩) ⟨th_blind, tr_8 hK hH t9, (th_pre hH hK hN hZ hS hA8)⟩ rfl rfl hl.1 rfl (lv_room (Nat.le_of_ble_eq_true rfl)) dX6_holderOfWish_16 ⟨Nat.le_of_ble_eq_true rfl, Nat.le_of_ble_eq_true rfl⟩) (fun t9 => va_runU (As := [.int y2_2]) (rest := [.ref q7]) ⟨hx, hb, hml, hown, hts⟩ (k_X2_wishAt l D cA Z τ gi gr _ h1 (Or.inr (Or.inl t9)) y2_2) (va_cwU 1 hts gX6_holderOfWish_X2_wishAt_u73X9 rfl rfl rfl rfl (by decide +kernel) ⟨Nat.le_of_ble_eq_true rfl, Nat.le_of_ble_eq_true rfl⟩) ⟨th_blind, tr_9 hK hH t9, (th_pre hH hK hN hZ hS hA8)⟩ rfl rfl hl.1 rfl (lv_room (Nat.le_of_ble_eq_true rfl)) dX6_holderOfWish_16 ⟨Nat.le_of_ble_eq_true rfl, Nat.le_of_ble_eq_true rfl⟩) (fun t9 => va_runU (As := [.int y2_2]) (rest := [.ref q7]) ⟨hx, hb, hml, hown, hts⟩ (k_X2_wishAt l D cA Z τ gi gr _ h1 (Or.inr (Or.inr t9)) y2_2) (va_cwU 1 hts gX6_holderOfWish_X2_wishAt_u73X4 rfl rfl rfl rfl (by decide +kernel) ⟨Nat.le_of_ble_eq_true rfl, Nat.le_of_ble_eq_true rfl⟩) ⟨th_blind, tr_4 hK hH t9, (th_pre hH hK hN hZ hS hA8)⟩ rfl rfl hl.1 rfl (lv_room (Nat.le_of_ble_eq_true rfl)) dX6_holderOfWish_16 ⟨Nat.le_of_ble_eq_true rfl, Nat.le_of_ble_eq_true rfl⟩)) hS (fun q _ h => hA8 q h) hA8 (fun x9 u t H locs ht hvm hw9 hB hz1 hk1 hS => ?_)
        try dsimp only at hw9 hB
        rw [ht] at hB
        have hH := hB
        have hA10 := th_Asub (τ := τ) hS
        refine va_callq (va_runV (As := [.int x9]) (rest := []) ⟨hx, hb, hml, hown, hts⟩ (k_X0_buoyAt l D cA Z τ gi gr _ q7 t7 x9) (cwV 1 hts gX6_holderOfWish_X0_buoyAt rfl rfl rfl hd_X0_buoyAt__1 ⟨Nat.le_of_ble_eq_true rfl, Nat.le_of_ble_eq_true rfl⟩) ⟨th_blind, tr_1 hK hH t7, (th_pre hH hK hN hZ hS hA10)⟩ rfl rfl hl.1 rfl (lv_room (Nat.le_of_ble_eq_true rfl)) dX6_holderOfWish_19 ⟨Nat.le_of_ble_eq_true rfl, Nat.le_of_ble_eq_true rfl⟩) hS (fun q _ h => hA10 q h) hA10 (fun r11 u t H locs ht hvm hw11 hB hz1 hk1 hS => ?_)
        try dsimp only at hw11 hB
        rw [ht] at hB
        have hH := hB
        refine th_astoreq_n (i := 3) (lv' := [(3, va_rf r11), (0, .ref h0), (1, .ref h1), (2, .int y2_2)]) hx hb dX6_holderOfWish_22 rfl hl (th_ltN rfl) rfl (fun ls hl => ?_)
        refine th_aloadq_n hx hb dX6_holderOfWish_23 rfl (lv_at hl 0 rfl) ?_
        refine th_ifnull (tgt := 75) hx hb dX6_holderOfWish_24 (th_eqI rfl) (fun z12 => ?_) (fun q12 z12 => ?_)
        · skip
          subst z12
          have hl : lv_has ls 4 [(3, .null), (0, .ref h0), (1, .ref h1), (2, .int y2_2)] := hl
          exact J75 _ _ _ hH hS (lv_sub hl [1, 2, 3] rfl) f6 (hF.trans (by simp only [↓reduceIte, f_X6_holderOfWish_2, ← e2, eq_false c3, r7, Option.getD_some, hw9, hw11.2, Option.elim_none]))
        · skip
          subst z12
          have t12 := hw11.1 q12 rfl
          have hl : lv_has ls 4 [(3, .ref q12), (0, .ref h0), (1, .ref h1), (2, .int y2_2)] := hl
          refine lv_aload_n hx hb dX6_holderOfWish_27 rfl (lv_at hl 1 rfl) ?_
          refine lv_aload_n hx hb dX6_holderOfWish_28 rfl (lv_at hl 1 rfl) ?_
          refine th_get (ci := 5) (v := .ref q7) (T := TX6) (C := RX6) (N := 4) hx hb hts (fun w h => List.mem_cons_of_mem _ (List.mem_append_left _ (List.mem_append_left _ (List.mem_append_left _ (List.mem_append_right _ h))))) hown hK hH t_h0 (th_nz rfl) (thE_6 _ _ _) rfl 0 (th_ltN rfl) (hts (.fieldLink RX6 22 "BayMoorings$Rings" "bay" "LBayMoorings$Bay;") (List.mem_cons_of_mem _ (List.mem_append_left _ (List.mem_append_left _ (List.mem_append_left _ (List.mem_append_left _ (List.mem_append_left _ (List.mem_append_left _ (List.mem_append_left _ (List.mem_append_left _ (List.mem_of_getElem? (i := 1) rfl))))))))))) (fun _ h9 => h9) (th_fR r7 rfl) dX6_holderOfWish_29 ?_
          obtain ⟨q14, r14, t14⟩ : ∃ q, gr q7 4 = some q ∧ τ q = 2 := (thI_1 hH t7).2.2.2.2.1
          refine th_get (ci := 0) (v := .ref q14) (T := TX0) (C := RX0) (N := 9) hx hb hts (fun w h => List.mem_cons_of_mem _ (List.mem_append_left _ (List.mem_append_left _ (List.mem_append_right _ h)))) hown hK hH t7 (th_nz rfl) (thE_1 _ _ _) rfl 4 (th_ltN rfl) (hts (.fieldLink RX6 35 "BayMoorings$Bay" "berths" "LBayMoorings$Berths;") (List.mem_cons_of_mem _ (List.mem_append_left _ (List.mem_append_left _ (List.mem_append_left _ (List.mem_append_left _ (List.mem_append_left _ (List.mem_append_left _ (List.mem_append_left _ (List.mem_append_left _ (List.mem_of_getElem? (i := 2) rfl))))))))))) (fun _ h9 => h9) (th_fR r14 rfl) dX6_holderOfWish_32 ?_
          refine lv_aload_n hx hb dX6_holderOfWish_35 rfl (lv_at hl 0 rfl) ?_
          obtain ⟨x15, e15⟩ : ∃ y : Int32, y = gi q12 0 := ⟨_, rfl⟩
          refine th_get (ci := 2) (v := .int x15) (T := TX3) (C := RX3) (N := 8) hx hb hts (fun w h => List.mem_cons_of_mem _ (List.mem_append_left _ (List.mem_append_right _ h))) hown hK hH t12 (th_nz rfl) (thE_3 _ _ _) rfl 0 (th_ltN rfl) (hts (.fieldLink RX6 80 "BayMoorings$Buoy" "number" "I") (List.mem_cons_of_mem _ (List.mem_append_left _ (List.mem_append_left _ (List.mem_append_left _ (List.mem_append_left _ (List.mem_append_left _ (List.mem_append_left _ (List.mem_append_left _ (List.mem_append_left _ (List.mem_of_getElem? (i := 3) rfl))))))))))) (fun _ h9 => h9) (th_fI e15 rfl) dX6_holderOfWish_36 ?_
          have hA16 := th_Asub (τ := τ) hS
          refine va_calli (va_runV (As := [.int x15]) (rest := [.ref h0]) ⟨hx, hb, hml, hown, hts⟩ (k_X1_boatOf l D cA Z τ gi gr _ q14 t14 x15) (cwV 1 hts gX6_holderOfWish_X1_boatOf rfl rfl rfl hd_X1_boatOf__1 ⟨Nat.le_of_ble_eq_true rfl, Nat.le_of_ble_eq_true rfl⟩) ⟨th_blind, tr_2 hK hH t14, (th_pre hH hK hN hZ hS hA16)⟩ rfl rfl hl.1 rfl (lv_room (Nat.le_of_ble_eq_true rfl)) dX6_holderOfWish_39 ⟨Nat.le_of_ble_eq_true rfl, Nat.le_of_ble_eq_true rfl⟩) hS (fun q _ h => hA16 q h) hA16 (fun x17 u t H locs ht hvm hw17 hB hz1 hk1 hS => ?_)
          try dsimp only at hw17 hB
          rw [ht] at hB
          have hH := hB
          have hA18 := th_Asub (τ := τ) hS
          refine va_calli (va_runV (As := [.int x17]) (rest := []) ⟨hx, hb, hml, hown, hts⟩ (k_X6_isLeft l D cA Z τ gi gr _ h0 t_h0 x17) (cwV 1 hts gX6_holderOfWish_X6_isLeft rfl rfl rfl hd_X6_isLeft__1 ⟨Nat.le_of_ble_eq_true rfl, Nat.le_of_ble_eq_true rfl⟩) ⟨th_blind, tr_6 hK hH t_h0, (th_pre hH hK hN hZ hS hA18)⟩ rfl rfl hl.1 rfl (lv_room (Nat.le_of_ble_eq_true rfl)) dX6_holderOfWish_42 ⟨Nat.le_of_ble_eq_true rfl, Nat.le_of_ble_eq_true rfl⟩) hS (fun q _ h => hA18 q h) hA18 (fun x19 u t H locs ht hvm hw19 hB hz1 hk1 hS => ?_)
          try dsimp only at hw19 hB
          rw [ht] at hB
          have hH := hB
          refine lv_if_eq (tgt := 75) hx hb dX6_holderOfWish_45 (th_eqI rfl) (fun c20 => ?_) (fun c20 => ?_)
          · skip
            have f21 : rg 0 0 x19 := rg_w (rg_eq hw19.1 rgc_0 c20).1 (th_leI rfl) (th_leI rfl)
            exact J75 _ _ _ hH hS (lv_sub hl [1, 2, 3] rfl) f6 (hF.trans (by simp only [↓reduceIte, f_X6_holderOfWish_2, ← e2, eq_false c3, r7, Option.getD_some, hw9, hw11.2, Option.elim_some, r14, ← e15, hw17, hw19.2.2, eq_true c20]))
          · skip
            have f22 : rg 1 1 x19 := rg_w (rg_neL hw19.1 rgc_0 c20) (th_leI rfl) (th_leI rfl)
            have f23 : rg 0 15 x17 := rg_w (hw19.2.1 c20) (th_leI rfl) (th_leI rfl)
            refine lv_aload_n hx hb dX6_holderOfWish_48 rfl (lv_at hl 1 rfl) ?_
            refine th_get (ci := 5) (v := .ref q7) (T := TX6) (C := RX6) (N := 4) hx hb hts (fun w h => List.mem_cons_of_mem _ (List.mem_append_left _ (List.mem_append_left _ (List.mem_append_left _ (List.mem_append_right _ h))))) hown hK hH t_h0 (th_nz rfl) (thE_6 _ _ _) rfl 0 (th_ltN rfl) (hts (.fieldLink RX6 22 "BayMoorings$Rings" "bay" "LBayMoorings$Bay;") (List.mem_cons_of_mem _ (List.mem_append_left _ (List.mem_append_left _ (List.mem_append_left _ (List.mem_append_left _ (List.mem_append_left _ (List.mem_append_left _ (List.mem_append_left _ (List.mem_append_left _ (List.mem_of_getElem? (i := 1) rfl))))))))))) (fun _ h9 => h9) (th_fR r7 rfl) dX6_holderOfWish_49 ?_
            refine lv_aload_n hx hb dX6_holderOfWish_52 rfl (lv_at hl 2 rfl) ?_
            refine lv_aload_n hx hb dX6_holderOfWish_53 rfl (lv_at hl 0 rfl) ?_
            have hA25 := th_Asub (τ := τ) hS
            refine va_calli (va_runV (As := [.ref h1, .ref q12]) (rest := []) ⟨hx, hb, hml, hown, hts⟩ (k_X0_suits l D cA Z τ gi gr _ q7 t7 h1 t_h1 q12 t12) (cwV 2 hts gX6_holderOfWish_X0_suits rfl rfl rfl hd_X0_suits__2 ⟨Nat.le_of_ble_eq_true rfl, Nat.le_of_ble_eq_true rfl⟩) ⟨th_blind, tr_1 hK hH t7, (th_pre hH hK hN hZ hS hA25)⟩ rfl rfl hl.1 rfl (lv_room (Nat.le_of_ble_eq_true rfl)) dX6_holderOfWish_54 ⟨Nat.le_of_ble_eq_true rfl, Nat.le_of_ble_eq_true rfl⟩) hS (fun q _ h => hA25 q h) hA25 (fun x26 u t H locs ht hvm hw26 hB hz1 hk1 hS => ?_)
            try dsimp only at hw26 hB
            rw [ht] at hB
            have hH := hB
            refine lv_if_eq (tgt := 75) hx hb dX6_holderOfWish_57 (th_eqI rfl) (fun c27 => ?_) (fun c27 => ?_)
            · skip
              have f28 : rg 0 0 x26 := rg_w (rg_eq hw26.1 rgc_0 c27).1 (th_leI rfl) (th_leI rfl)
              exact J75 _ _ _ hH hS (lv_sub hl [1, 2, 3] rfl) f6 (hF.trans (by simp only [↓reduceIte, f_X6_holderOfWish_2, ← e2, eq_false c3, r7, Option.getD_some, hw9, hw11.2, Option.elim_some, r14, ← e15, hw17, hw19.2.2, eq_false c20, hw26.2, eq_true c27]))
            · skip
              have f29 : rg 1 1 x26 := rg_w (rg_neL hw26.1 rgc_0 c27) (th_leI rfl) (th_leI rfl)
              refine lv_aload_n hx hb dX6_holderOfWish_60 rfl (lv_at hl 1 rfl) ?_
              refine th_get (ci := 5) (v := .ref q7) (T := TX6) (C := RX6) (N := 4) hx hb hts (fun w h => List.mem_cons_of_mem _ (List.mem_append_left _ (List.mem_append_left _ (List.mem_append_left _ (List.mem_append_right _ h))))) hown hK hH t_h0 (th_nz rfl) (thE_6 _ _ _) rfl 0 (th_ltN rfl) (hts (.fieldLink RX6 22 "BayMoorings$Rings" "bay" "LBayMoorings$Bay;") (List.mem_cons_of_mem _ (List.mem_append_left _ (List.mem_append_left _ (List.mem_append_left _ (List.mem_append_left _ (List.mem_append_left _ (List.mem_append_left _ (List.mem_append_left _ (List.mem_append_left _ (List.mem_of_getElem? (i := 1) rfl))))))))))) (fun _ h9 => h9) (th_fR r7 rfl) dX6_holderOfWish_61 ?_
              refine th_get (ci := 0) (v := .ref q14) (T := TX0) (C := RX0) (N := 9) hx hb hts (fun w h => List.mem_cons_of_mem _ (List.mem_append_left _ (List.mem_append_left _ (List.mem_append_right _ h)))) hown hK hH t7 (th_nz rfl) (thE_1 _ _ _) rfl 4 (th_ltN rfl) (hts (.fieldLink RX6 35 "BayMoorings$Bay" "berths" "LBayMoorings$Berths;") (List.mem_cons_of_mem _ (List.mem_append_left _ (List.mem_append_left _ (List.mem_append_left _ (List.mem_append_left _ (List.mem_append_left _ (List.mem_append_left _ (List.mem_append_left _ (List.mem_append_left _ (List.mem_of_getElem? (i := 2) rfl))))))))))) (fun _ h9 => h9) (th_fR r14 rfl) dX6_holderOfWish_64 ?_
              refine lv_aload_n hx hb dX6_holderOfWish_67 rfl (lv_at hl 0 rfl) ?_
              refine th_get (ci := 2) (v := .int x15) (T := TX3) (C := RX3) (N := 8) hx hb hts (fun w h => List.mem_cons_of_mem _ (List.mem_append_left _ (List.mem_append_right _ h))) hown hK hH t12 (th_nz rfl) (thE_3 _ _ _) rfl 0 (th_ltN rfl) (hts (.fieldLink RX6 80 "BayMoorings$Buoy" "number" "I") (List.mem_cons_of_mem _ (List.mem_append_left _ (List.mem_append_left _ (List.mem_append_left _ (List.mem_append_left _ (List.mem_append_left _ (List.mem_append_left _ (List.mem_append_left _ (List.mem_append_left _ (List.mem_of_getElem? (i := 3) rfl))))))))))) (fun _ h9 => h9) (th_fI e15 rfl) dX6_holderOfWish_68 ?_
              have hA33 := th_Asub (τ := τ) hS
              refine va_calli (va_runV (As := [.int x15]) (rest := []) ⟨hx, hb, hml, hown, hts⟩ (k_X1_boatOf l D cA Z τ gi gr _ q14 t14 x15) (cwV 1 hts gX6_holderOfWish_X1_boatOf rfl rfl rfl hd_X1_boatOf__1 ⟨Nat.le_of_ble_eq_true rfl, Nat.le_of_ble_eq_true rfl⟩) ⟨th_blind, tr_2 hK hH t14, (th_pre hH hK hN hZ hS hA33)⟩ rfl rfl hl.1 rfl (lv_room (Nat.le_of_ble_eq_true rfl)) dX6_holderOfWish_71 ⟨Nat.le_of_ble_eq_true rfl, Nat.le_of_ble_eq_true rfl⟩) hS (fun q _ h => hA33 q h) hA33 (fun x34 u t H locs ht hvm hw34 hB hz1 hk1 hS => ?_)
              try dsimp only at hw34 hB
              rw [ht] at hB
              have hH := hB
              obtain rfl : x17 = x34 := hw17.symm.trans hw34
              exact W.iret (v := x17) hx hb hr (fun t ht hW => ⟨⟨x17, (), rfl, (hF.trans (by simp only [↓reduceIte, f_X6_holderOfWish_2, ← e2, eq_false c3, r7, Option.getD_some, hw9, hw11.2, Option.elim_some, r14, ← e15, hw17, hw19.2.2, eq_false c20, hw26.2, eq_false c27])), th_Ht ht hH⟩, hS.F ht⟩) hS.2.2 dX6_holderOfWish_74
  have hS : va_S (th_A τ s.heap.size) s.heap s.heap [] := va_S.rf
  have hl := lv_entry ([.ref h0, .ref h1]) (n := 4) (Nat.le_of_ble_eq_true rfl)
  rw [lg_entry_eq]
  generalize (lg_sl ([.ref h0, .ref h1]) ++ List.replicate (4 - (lg_sl ([.ref h0, .ref h1])).length) Slot.unset).toArray = ls at hl ⊢
  have hl : lv_has ls 4 [(0, .ref h0), (1, .ref h1)] := hl
  have hF : F_X6_holderOfWish τ Z gi gr h0 h1 = F_X6_holderOfWish τ Z gi gr h0 h1 := rfl
  refine lv_iconst (v := 0) hx hb dX6_holderOfWish_0 ic_0 ?_
  refine lv_istore_n (i := 2) (lv' := [(2, .int 0), (0, .ref h0), (1, .ref h1)]) hx hb dX6_holderOfWish_1 rfl hl (th_ltN rfl) rfl (fun ls hl => ?_)
  exact J2 _ _ _ _ 0 (Nat.lt_add_one _) hH hS (lv_sub hl [1, 2, 0] rfl) (rg_w rgc_0 (th_leI rfl) (th_leI rfl)) (hF.trans (by simp only [F_X6_holderOfWish]))

noncomputable def f_X6_pointAll_49 (τ : th_t) (Z : th_Zt) (gi : th_i) (gr : th_r) (h0 : Nat) (gi_2 : th_i) (y2_1 : Int32) (k_2 : th_i → Int32 → th_i) (gi_49 : th_i) : th_i :=
  let x1 : Int32 := y2_1 + 1
  k_2 gi_49 x1
noncomputable def f_X6_pointAll_33 (τ : th_t) (Z : th_Zt) (gi : th_i) (gr : th_r) (h0 : Nat) (gi_2 : th_i) (y2_1 : Int32) (k_2 : th_i → Int32 → th_i) (gi_33 : th_i) (z33_0 : Option Nat) : th_i :=
  Option.elim z33_0 (
    f_X6_pointAll_49 τ Z gi gr h0 gi_2 y2_1 k_2 gi_33) (fun q2 =>
    let q3 : Nat := (gr h0 2).getD 0
    let x5 : Int32 := F_X6_holderOfWish τ Z gi_33 gr h0 q2
    let gi6 : th_i := va_up gi_33 q3 (upd (gi_33 q3) y2_1.toNatClampNeg x5)
    f_X6_pointAll_49 τ Z gi gr h0 gi_2 y2_1 k_2 gi6)
noncomputable def f_X6_pointAll_2 (τ : th_t) (Z : th_Zt) (gi : th_i) (gr : th_r) (h0 : Nat) : Nat → th_i → Int32 → th_i
  | 0, gi_2, y2_1 => (gi_2)
  | n2 + 1, gi_2, y2_1 =>
    let q7 : Nat := (gr h0 0).getD 0
    let x8 : Int32 := gi_2 q7 6
    if x8 ≤ y2_1 then (
      (gi_2)) else (
      let x13 : Int32 := F_X6_isLeft τ Z gi_2 gr h0 y2_1
      if x13 = (0 : Int32) then (
        f_X6_pointAll_33 τ Z gi gr h0 gi_2 y2_1 (f_X6_pointAll_2 τ Z gi gr h0 n2) gi_2 none) else (
        let r19 : Option Nat := F_X0_boatAt τ Z gi_2 gr q7 y2_1
        f_X6_pointAll_33 τ Z gi gr h0 gi_2 y2_1 (f_X6_pointAll_2 τ Z gi gr h0 n2) gi_2 r19))
noncomputable def F_X6_pointAll (τ : th_t) (Z : th_Zt) (gi : th_i) (gr : th_r) (h0 : Nat) : th_i :=
  f_X6_pointAll_2 τ Z gi gr h0 ((16 - (0 : Int32).toInt).toNat + 1) gi 0
set_option maxHeartbeats 8000000 in
set_option maxRecDepth 100000 in
theorem k_X6_pointAll (l : Launch) (D : va_G) (cA : Nat → ClassId) (Z : th_Zt) (τ : th_t) (gi : th_i) (gr : th_r) (sz : Nat) (h0 : Nat) (t_h0 : τ h0 = 6) : Met l yX6_pointAll wsX6_pointAll ({ frames := 3, cells := 0, slots := 0, locals := 66 }) (va_Pc [.ref h0] (th_Pre D cA Z τ gi gr sz)) (va_Qv (fun (u : th_i × th_r) => th_Mod [2900] τ gi gr u.1 u.2 ∧ u.2 = gr ∧ (F_X6_pointAll τ Z gi gr h0 = u.1)) (fun (u : th_i × th_r) t => th_H D cA τ u.1 u.2 t.heap) (th_A τ sz)) 0 0 (th_A τ sz) := by
  refine Met.ofW (cc := cX6_pointAll) (maxL := 3) (ret := none) (by decide) rfl ?_
  intro p e s m args below meth c s₁ B hml hv
  obtain ⟨rfl, hsz, hH, hK, hN, hZ⟩ := hv
  have hx := B.exec
  have hb := B.bytes
  have hr := B.returns
  have hts := atoms_spec (ws := wsX6_pointAll) B.pre
  have hown : s.vm.findClass RX6 = some m.cls := findClass_of_methodNamed B.named
  have hlocks := B.notSynchronized
  subst hsz
  have hM : th_Mod [2900] τ gi gr gi gr := th_Mod.rf
  have J2 : ∀ (n2 : Nat) (gi_2 : th_i) (H : Heap) (locs : List Loc) (ls : Array Slot) (y2_1 : Int32), (16 - y2_1.toInt).toNat < n2 → th_H D cA τ gi_2 gr H → va_S (th_A τ s.heap.size) s.heap H locs → th_Mod [2900] τ gi gr gi_2 gr → lv_has ls 3 [(0, .ref h0), (1, .int y2_1)] → rg 0 16 y2_1 → F_X6_pointAll τ Z gi gr h0 = f_X6_pointAll_2 τ Z gi gr h0 n2 gi_2 y2_1 → W p l e (headSpec wsX6_pointAll ({ frames := 3, cells := 0, slots := 0, locals := 66 })).room s m [.ref h0].toArray below meth c H locs 0 0 (MQ below (va_Qv (fun (u : th_i × th_r) => th_Mod [2900] τ gi gr u.1 u.2 ∧ u.2 = gr ∧ (F_X6_pointAll τ Z gi gr h0 = u.1)) (fun (u : th_i × th_r) t => th_H D cA τ u.1 u.2 t.heap) (th_A τ s.heap.size)) [.ref h0].toArray s 0 0 (th_A τ s.heap.size)) (F0 m 2 ls []) := by
    intro n2
    induction n2 with
    | zero =>
      intro gi_2 H locs ls y2_1 hn
      exact absurd hn (Nat.not_lt_zero _)
    | succ n2 ih2 =>
      intro gi_2 H locs ls y2_1 hn2 hH hS hM hl fy2_1 hF
      have J49 : ∀ (gi_49 : th_i) (H : Heap) (locs : List Loc) (ls : Array Slot), th_H D cA τ gi_49 gr H → va_S (th_A τ s.heap.size) s.heap H locs → th_Mod [2900] τ gi gr gi_49 gr → lv_has ls 3 [(0, .ref h0), (1, .int y2_1)] → rg 0 15 y2_1 → F_X6_pointAll τ Z gi gr h0 = f_X6_pointAll_49 τ Z gi gr h0 gi_2 y2_1 (f_X6_pointAll_2 τ Z gi gr h0 n2) gi_49 → W p l e (headSpec wsX6_pointAll ({ frames := 3, cells := 0, slots := 0, locals := 66 })).room s m [.ref h0].toArray below meth c H locs 0 0 (MQ below (va_Qv (fun (u : th_i × th_r) => th_Mod [2900] τ gi gr u.1 u.2 ∧ u.2 = gr ∧ (F_X6_pointAll τ Z gi gr h0 = u.1)) (fun (u : th_i × th_r) t => th_H D cA τ u.1 u.2 t.heap) (th_A τ s.heap.size)) [.ref h0].toArray s 0 0 (th_A τ s.heap.size)) (F0 m 49 ls []) := by
        intro gi_49 H locs ls hH hS hM hl fy49_1 hF
        obtain ⟨x1, e1⟩ : ∃ y : Int32, y = y2_1 + 1 := ⟨_, rfl⟩
        have f1 : rg 1 16 x1 := rg_e e1 (rg_w (rg_add fy49_1 rgc_1 (th_leI rfl) (th_leI rfl)) (th_leI rfl) (th_leI rfl))
        refine lv_iinc (v := x1) (lv' := [(1, .int x1), (0, .ref h0)]) hx hb dX6_pointAll_49 hl (k := 1) rfl (by rw [e1]; rfl) (th_ltN rfl) rfl (fun ls hl => ?_)
        refine lv_goto (tgt := 2) hx hb dX6_pointAll_52 (th_eqI rfl) ?_
        exact ih2 gi_49 _ _ _ x1 (th_up (rg_dA e1 fy49_1 rgc_1 (th_leI rfl) (th_leI rfl)) fy49_1 hn2 (th_ltI rfl)) hH hS hM (lv_sub hl [1, 0] rfl) (rg_w f1 (th_leI rfl) (th_leI rfl)) (hF.trans (by simp only [f_X6_pointAll_49, ← e1]))
      have J33 : ∀ (gi_33 : th_i) (H : Heap) (locs : List Loc) (ls : Array Slot) (z33_0 : Option Nat), th_H D cA τ gi_33 gr H → va_S (th_A τ s.heap.size) s.heap H locs → th_Mod [2900] τ gi gr gi_33 gr → lv_has ls 3 [(0, .ref h0), (1, .int y2_1)] → rg 0 15 y2_1 → (∀ q, z33_0 = some q → τ q = 8 ∨ τ q = 9 ∨ τ q = 4) → F_X6_pointAll τ Z gi gr h0 = f_X6_pointAll_33 τ Z gi gr h0 gi_2 y2_1 (f_X6_pointAll_2 τ Z gi gr h0 n2) gi_33 z33_0 → W p l e (headSpec wsX6_pointAll ({ frames := 3, cells := 0, slots := 0, locals := 66 })).room s m [.ref h0].toArray below meth c H locs 0 0 (MQ below (va_Qv (fun (u : th_i × th_r) => th_Mod [2900] τ gi gr u.1 u.2 ∧ u.2 = gr ∧ (F_X6_pointAll τ Z gi gr h0 = u.1)) (fun (u : th_i × th_r) t => th_H D cA τ u.1 u.2 t.heap) (th_A τ s.heap.size)) [.ref h0].toArray s 0 0 (th_A τ s.heap.size)) (F0 m 33 ls [va_rf z33_0]) := by
        intro gi_33 H locs ls z33_0 hH hS hM hl fy33_1 tz33_0 hF
        refine th_astoreq_n (i := 2) (lv' := [(2, va_rf z33_0), (0, .ref h0), (1, .int y2_1)]) hx hb dX6_pointAll_33 rfl hl (th_ltN rfl) rfl (fun ls hl => ?_)
        refine th_aloadq_n hx hb dX6_pointAll_34 rfl (lv_at hl 0 rfl) ?_
        refine th_ifnull (tgt := 49) hx hb dX6_pointAll_35 (th_eqI rfl) (fun z2 => ?_) (fun q2 z2 => ?_)
        · skip
          subst z2
          have hl : lv_has ls 3 [(2, .null), (0, .ref h0), (1, .int y2_1)] := hl
          exact J49 gi_33 _ _ _ hH hS hM (lv_sub hl [1, 2] rfl) fy33_1 (hF.trans (by simp only [f_X6_pointAll_33, Option.elim_none]))
        · skip
          subst z2
          have t2 := tz33_0 q2 rfl
          have hl : lv_has ls 3 [(2, .ref q2), (0, .ref h0), (1, .int y2_1)] := hl
          refine lv_aload_n hx hb dX6_pointAll_38 rfl (lv_at hl 1 rfl) ?_
          obtain ⟨q3, r3, t3⟩ : ∃ q, gr h0 2 = some q ∧ τ q = 29 := (thI_6 hH t_h0).2.2
          refine th_get (ci := 5) (v := .ref q3) (T := TX6) (C := RX6) (N := 4) hx hb hts (fun w h => List.mem_cons_of_mem _ (List.mem_append_left _ (List.mem_append_left _ (List.mem_append_left _ (List.mem_append_left _ (List.mem_append_left _ (List.mem_append_left _ (List.mem_append_right _ h)))))))) hown hK hH t_h0 (th_nz rfl) (thE_6 _ _ _) rfl 2 (th_ltN rfl) (hts (.fieldLink RX6 15 "BayMoorings$Rings" "pointsAt" "[I") (List.mem_cons_of_mem _ (List.mem_append_left _ (List.mem_append_left _ (List.mem_append_left _ (List.mem_append_left _ (List.mem_append_left _ (List.mem_append_left _ (List.mem_append_left _ (List.mem_append_left _ (List.mem_of_getElem? (i := 2) rfl))))))))))) (fun _ h9 => h9) (th_fR r3 rfl) dX6_pointAll_39 ?_
          refine lv_iload_n hx hb dX6_pointAll_42 rfl (lv_at hl 2 rfl) ?_
          refine lv_aload_n hx hb dX6_pointAll_43 rfl (lv_at hl 1 rfl) ?_
          refine lv_aload_n hx hb dX6_pointAll_44 rfl (lv_at hl 0 rfl) ?_
          have hA4 := th_Asub (τ := τ) hS
          refine va_calli (va_runV (As := [.ref q2]) (rest := [.int y2_1, .ref q3]) ⟨hx, hb, hml, hown, hts⟩ (k_X6_holderOfWish l D cA Z τ gi_33 gr _ h0 t_h0 q2 t2) (cwV 1 hts gX6_pointAll_X6_holderOfWish rfl rfl rfl hd_X6_holderOfWish__1 ⟨Nat.le_of_ble_eq_true rfl, Nat.le_of_ble_eq_true rfl⟩) ⟨th_blind, tr_6 hK hH t_h0, (th_pre hH hK hN hZ hS hA4)⟩ rfl rfl hl.1 rfl (lv_room (Nat.le_of_ble_eq_true rfl)) dX6_pointAll_45 ⟨Nat.le_of_ble_eq_true rfl, Nat.le_of_ble_eq_true rfl⟩) hS (fun q _ h => hA4 q h) hA4 (fun x5 u t H locs ht hvm hw5 hB hz1 hk1 hS => ?_)
          try dsimp only at hw5 hB
          rw [ht] at hB
          have hH := hB
          refine th_iast hx hb hK hH hS t3 (th_nz rfl) (Or.inl (th_nzE t3 rfl)) 0 (fun _ => thE_29 _ _ _) rfl (rg_in (n := 16) fy33_1 (th_leI rfl) (th_ltI rfl)) (trivial) dX6_pointAll_48 (fun gi6 H locs hu6 ho6 hH hS => ?_)
          have eg6 : gi6 = va_up gi_33 q3 (upd (gi_33 q3) y2_1.toNatClampNeg x5) := th_upE hu6 ho6
          have hM := hM.i t3 (th_mem (a := 2900) rfl) ho6
          exact J49 gi6 _ _ _ hH hS hM (lv_sub hl [1, 2] rfl) fy33_1 (hF.trans (by simp only [f_X6_pointAll_33, Option.elim_some, r3, Option.getD_some, hw5, ← eg6]))
      refine lv_iload_n hx hb dX6_pointAll_2 rfl (lv_at hl 1 rfl) ?_
      refine lv_aload_n hx hb dX6_pointAll_3 rfl (lv_at hl 0 rfl) ?_
      obtain ⟨q7, r7, t7⟩ : ∃ q, gr h0 0 = some q ∧ τ q = 1 := (thI_6 hH t_h0).1
      refine th_get (ci := 5) (v := .ref q7) (T := TX6) (C := RX6) (N := 4) hx hb hts (fun w h => List.mem_cons_of_mem _ (List.mem_append_left _ (List.mem_append_left _ (List.mem_append_left _ (List.mem_append_left _ (List.mem_append_left _ (List.mem_append_left _ (List.mem_append_right _ h)))))))) hown hK hH t_h0 (th_nz rfl) (thE_6 _ _ _) rfl 0 (th_ltN rfl) (hts (.fieldLink RX6 22 "BayMoorings$Rings" "bay" "LBayMoorings$Bay;") (List.mem_cons_of_mem _ (List.mem_append_left _ (List.mem_append_left _ (List.mem_append_left _ (List.mem_append_left _ (List.mem_append_left _ (List.mem_append_left _ (List.mem_append_left _ (List.mem_append_left _ (List.mem_of_getElem? (i := 0) rfl))))))))))) (fun _ h9 => h9) (th_fR r7 rfl) dX6_pointAll_4 ?_
      obtain ⟨x8, e8⟩ : ∃ y : Int32, y = gi_2 q7 6 := ⟨_, rfl⟩
      refine th_get (ci := 0) (v := .int x8) (T := TX0) (C := RX0) (N := 9) hx hb hts (fun w h => List.mem_cons_of_mem _ (List.mem_append_left _ (List.mem_append_left _ (List.mem_append_left _ (List.mem_append_left _ (List.mem_append_left _ (List.mem_append_right _ h))))))) hown hK hH t7 (th_nz rfl) (thE_1 _ _ _) rfl 6 (th_ltN rfl) (hts (.fieldLink RX6 30 "BayMoorings$Bay" "boatCount" "I") (List.mem_cons_of_mem _ (List.mem_append_left _ (List.mem_append_left _ (List.mem_append_left _ (List.mem_append_left _ (List.mem_append_left _ (List.mem_append_left _ (List.mem_append_left _ (List.mem_append_left _ (List.mem_of_getElem? (i := 1) rfl))))))))))) (fun _ h9 => h9) (th_fI e8 rfl) dX6_pointAll_7 ?_
      have f8 : rg 0 16 x8 := rg_e e8 ((thI_1 hH t7).2.2.2.2.2.2)
      refine lv_icmp_ge (tgt := 55) hx hb dX6_pointAll_10 (th_eqI rfl) (fun c9 => ?_) (fun c9 => ?_)
      · skip
        exact W.vret hx hb hr (fun t ht hW => ⟨⟨(gi_2, gr), rfl, ⟨hM, rfl, (hF.trans (by simp only [↓reduceIte, f_X6_pointAll_2, r7, Option.getD_some, ← e8, eq_true c9]))⟩, th_Ht ht hH⟩, hS.F ht⟩) hS.2.2 dX6_pointAll_55
      · skip
        have f10 : rg 1 16 x8 := rg_w (rg_nle f8 fy2_1 c9).1 (th_leI rfl) (th_leI rfl)
        have f11 : rg 0 15 y2_1 := rg_w (rg_nle f8 fy2_1 c9).2 (th_leI rfl) (th_leI rfl)
        refine lv_aload_n hx hb dX6_pointAll_13 rfl (lv_at hl 0 rfl) ?_
        refine lv_iload_n hx hb dX6_pointAll_14 rfl (lv_at hl 1 rfl) ?_
        have hA12 := th_Asub (τ := τ) hS
        refine va_calli (va_runV (As := [.int y2_1]) (rest := []) ⟨hx, hb, hml, hown, hts⟩ (k_X6_isLeft l D cA Z τ gi_2 gr _ h0 t_h0 y2_1) (cwV 1 hts gX6_pointAll_X6_isLeft rfl rfl rfl hd_X6_isLeft__1 ⟨Nat.le_of_ble_eq_true rfl, Nat.le_of_ble_eq_true rfl⟩) ⟨th_blind, tr_6 hK hH t_h0, (th_pre hH hK hN hZ hS hA12)⟩ rfl rfl hl.1 rfl (lv_room (Nat.le_of_ble_eq_true rfl)) dX6_pointAll_15 ⟨Nat.le_of_ble_eq_true rfl, Nat.le_of_ble_eq_true rfl⟩) hS (fun q _ h => hA12 q h) hA12 (fun x13 u t H locs ht hvm hw13 hB hz1 hk1 hS => ?_)
        try dsimp only at hw13 hB
        rw [ht] at hB
        have hH := hB
        refine lv_if_eq (tgt := 32) hx hb dX6_pointAll_18 (th_eqI rfl) (fun c14 => ?_) (fun c14 => ?_)
        · skip
          have f15 : rg 0 0 x13 := rg_w (rg_eq hw13.1 rgc_0 c14).1 (th_leI rfl) (th_leI rfl)
          refine lv_null hx hb dX6_pointAll_32 ?_
          exact J33 gi_2 _ _ _ none hH hS hM (lv_sub hl [0, 1] rfl) f11 (fun _ h9 => by cases h9) (hF.trans (by simp only [↓reduceIte, f_X6_pointAll_2, r7, Option.getD_some, ← e8, eq_false c9, hw13.2.2, eq_true c14]))
        · skip
          have f16 : rg 1 1 x13 := rg_w (rg_neL hw13.1 rgc_0 c14) (th_leI rfl) (th_leI rfl)
          refine lv_aload_n hx hb dX6_pointAll_21 rfl (lv_at hl 0 rfl) ?_
          refine th_get (ci := 5) (v := .ref q7) (T := TX6) (C := RX6) (N := 4) hx hb hts (fun w h => List.mem_cons_of_mem _ (List.mem_append_left _ (List.mem_append_left _ (List.mem_append_left _ (List.mem_append_left _ (List.mem_append_left _ (List.mem_append_left _ (List.mem_append_right _ h)))))))) hown hK hH t_h0 (th_nz rfl) (thE_6 _ _ _) rfl 0 (th_ltN rfl) (hts (.fieldLink RX6 22 "BayMoorings$Rings" "bay" "LBayMoorings$Bay;") (List.mem_cons_of_mem _ (List.mem_append_left _ (List.mem_append_left _ (List.mem_append_left _ (List.mem_append_left _ (List.mem_append_left _ (List.mem_append_left _ (List.mem_append_left _ (List.mem_append_left _ (List.mem_of_getElem? (i := 0) rfl))))))))))) (fun _ h9 => h9) (th_fR r7 rfl) dX6_pointAll_22 ?_
          refine lv_iload_n hx hb dX6_pointAll_25 rfl (lv_at hl 1 rfl) ?_
          have hA18 := th_Asub (τ := τ) hS
          refine va_callq (va_runV (As := [.int y2_1]) (rest := []) ⟨hx, hb, hml, hown, hts⟩ (k_X0_boatAt l D cA Z τ gi_2 gr _ q7 t7 y2_1) (cwV 1 hts gX6_pointAll_X0_boatAt rfl rfl rfl hd_X0_boatAt__1 ⟨Nat.le_of_ble_eq_true rfl, Nat.le_of_ble_eq_true rfl⟩) ⟨th_blind, tr_1 hK hH t7, (th_pre hH hK hN hZ hS hA18)⟩ rfl rfl hl.1 rfl (lv_room (Nat.le_of_ble_eq_true rfl)) dX6_pointAll_26 ⟨Nat.le_of_ble_eq_true rfl, Nat.le_of_ble_eq_true rfl⟩) hS (fun q _ h => hA18 q h) hA18 (fun r19 u t H locs ht hvm hw19 hB hz1 hk1 hS => ?_)
          try dsimp only at hw19 hB
          rw [ht] at hB
          have hH := hB
          refine lv_goto (tgt := 33) hx hb dX6_pointAll_29 (th_eqI rfl) ?_
          exact J33 gi_2 _ _ _ r19 hH hS hM (lv_sub hl [0, 1] rfl) f11 hw19.1 (hF.trans (by simp only [↓reduceIte, f_X6_pointAll_2, r7, Option.getD_some, ← e8, eq_false c9, hw13.2.2, eq_false c14, hw19.2]))
  have hS : va_S (th_A τ s.heap.size) s.heap s.heap [] := va_S.rf
  have hl := lv_entry ([.ref h0]) (n := 3) (Nat.le_of_ble_eq_true rfl)
  rw [lg_entry_eq]
  generalize (lg_sl ([.ref h0]) ++ List.replicate (3 - (lg_sl ([.ref h0])).length) Slot.unset).toArray = ls at hl ⊢
  have hl : lv_has ls 3 [(0, .ref h0)] := hl
  have hF : F_X6_pointAll τ Z gi gr h0 = F_X6_pointAll τ Z gi gr h0 := rfl
  refine lv_iconst (v := 0) hx hb dX6_pointAll_0 ic_0 ?_
  refine lv_istore_n (i := 1) (lv' := [(1, .int 0), (0, .ref h0)]) hx hb dX6_pointAll_1 rfl hl (th_ltN rfl) rfl (fun ls hl => ?_)
  exact J2 _ gi _ _ _ 0 (Nat.lt_add_one _) hH hS hM (lv_sub hl [1, 0] rfl) (rg_w rgc_0 (th_leI rfl) (th_leI rfl)) (hF.trans (by simp only [F_X6_pointAll]))

noncomputable def f_X6_comesRound_31 (τ : th_t) (Z : th_Zt) (gi : th_i) (gr : th_r) (h0 : Nat) (p1 : Int32) (y31_2 : Int32) : Int32 :=
  if y31_2 = p1 then (
    1) else (
    0)
noncomputable def f_X6_comesRound_8 (τ : th_t) (Z : th_Zt) (gi : th_i) (gr : th_r) (h0 : Nat) (p1 : Int32) : Nat → Int32 → Int32 → Int32
  | 0, y8_2, y8_3 => 0
  | n8 + 1, y8_2, y8_3 =>
    if (16 : Int32) ≤ y8_3 then (
      f_X6_comesRound_31 τ Z gi gr h0 p1 y8_2) else (
      if y8_2 = p1 then (
        f_X6_comesRound_31 τ Z gi gr h0 p1 y8_2) else (
        let x7 : Int32 := F_X6_pointedAtBy τ Z gi gr h0 y8_2
        let x8 : Int32 := y8_3 + 1
        (f_X6_comesRound_8 τ Z gi gr h0 p1 n8) x7 x8))
noncomputable def F_X6_comesRound (τ : th_t) (Z : th_Zt) (gi : th_i) (gr : th_r) (h0 : Nat) (p1 : Int32) : Int32 :=
  let x10 : Int32 := F_X6_pointedAtBy τ Z gi gr h0 p1
  f_X6_comesRound_8 τ Z gi gr h0 p1 ((16 - (0 : Int32).toInt).toNat + 1) x10 0
set_option maxHeartbeats 8000000 in
set_option maxRecDepth 100000 in
theorem k_X6_comesRound (l : Launch) (D : va_G) (cA : Nat → ClassId) (Z : th_Zt) (τ : th_t) (gi : th_i) (gr : th_r) (sz : Nat) (h0 : Nat) (t_h0 : τ h0 = 6) (p1 : Int32) : Met l yX6_comesRound wsX6_comesRound ({ frames := 2, cells := 0, slots := 0, locals := 43 }) (va_Pc [.ref h0, .int p1] (th_Pre D cA Z τ gi gr sz)) (va_Qi (fun (r : Int32) (_ : Unit) => rg 0 1 r ∧ (F_X6_comesRound τ Z gi gr h0 p1 = r)) (fun (_ : Unit) t => th_H D cA τ gi gr t.heap) (th_A τ sz)) 0 0 (th_A τ sz) := by
  refine Met.ofW (cc := cX6_comesRound) (maxL := 4) (ret := (some .boolean)) (by decide) rfl ?_
  intro p e s m args below meth c s₁ B hml hv
  obtain ⟨rfl, hsz, hH, hK, hN, hZ⟩ := hv
  have hx := B.exec
  have hb := B.bytes
  have hr := B.returns
  have hts := atoms_spec (ws := wsX6_comesRound) B.pre
  have hown : s.vm.findClass RX6 = some m.cls := findClass_of_methodNamed B.named
  have hlocks := B.notSynchronized
  subst hsz
  have J31 : ∀ (H : Heap) (locs : List Loc) (ls : Array Slot) (y31_2 : Int32), th_H D cA τ gi gr H → va_S (th_A τ s.heap.size) s.heap H locs → lv_has ls 4 [(1, .int p1), (2, .int y31_2)] → F_X6_comesRound τ Z gi gr h0 p1 = f_X6_comesRound_31 τ Z gi gr h0 p1 y31_2 → W p l e (headSpec wsX6_comesRound ({ frames := 2, cells := 0, slots := 0, locals := 43 })).room s m [.ref h0, .int p1].toArray below meth c H locs 0 0 (MQ below (va_Qi (fun (r : Int32) (_ : Unit) => rg 0 1 r ∧ (F_X6_comesRound τ Z gi gr h0 p1 = r)) (fun (_ : Unit) t => th_H D cA τ gi gr t.heap) (th_A τ s.heap.size)) [.ref h0, .int p1].toArray s 0 0 (th_A τ s.heap.size)) (F0 m 31 ls []) := by
    intro H locs ls y31_2 hH hS hl hF
    refine lv_iload_n hx hb dX6_comesRound_31 rfl (lv_at hl 1 rfl) ?_
    refine lv_iload_n hx hb dX6_comesRound_32 rfl (lv_at hl 0 rfl) ?_
    refine lv_icmp_ne (tgt := 40) hx hb dX6_comesRound_33 (th_eqI rfl) (fun c1 => ?_) (fun c1 => ?_)
    · skip
      refine lv_iconst (v := 0) hx hb dX6_comesRound_40 ic_0 ?_
      exact W.zret (v := 0) hx hb hr (rg_nb (rg_w rgc_0 (th_leI rfl) (th_leI rfl))) (fun t ht hW => ⟨⟨0, (), rfl, ⟨(rg_w rgc_0 (th_leI rfl) (th_leI rfl)), (hF.trans (by simp only [↓reduceIte, f_X6_comesRound_31, eq_false c1]))⟩, th_Ht ht hH⟩, hS.F ht⟩) hS.2.2 dX6_comesRound_41
    · skip
      refine lv_iconst (v := 1) hx hb dX6_comesRound_36 ic_1 ?_
      refine lv_goto (tgt := 41) hx hb dX6_comesRound_37 (th_eqI rfl) ?_
      exact W.zret (v := 1) hx hb hr (rg_nb (rg_w rgc_1 (th_leI rfl) (th_leI rfl))) (fun t ht hW => ⟨⟨1, (), rfl, ⟨(rg_w rgc_1 (th_leI rfl) (th_leI rfl)), (hF.trans (by simp only [↓reduceIte, f_X6_comesRound_31, eq_true c1]))⟩, th_Ht ht hH⟩, hS.F ht⟩) hS.2.2 dX6_comesRound_41
  have J8 : ∀ (n8 : Nat) (H : Heap) (locs : List Loc) (ls : Array Slot) (y8_2 : Int32) (y8_3 : Int32), (16 - y8_3.toInt).toNat < n8 → th_H D cA τ gi gr H → va_S (th_A τ s.heap.size) s.heap H locs → lv_has ls 4 [(0, .ref h0), (1, .int p1), (2, .int y8_2), (3, .int y8_3)] → rg 0 16 y8_3 → F_X6_comesRound τ Z gi gr h0 p1 = f_X6_comesRound_8 τ Z gi gr h0 p1 n8 y8_2 y8_3 → W p l e (headSpec wsX6_comesRound ({ frames := 2, cells := 0, slots := 0, locals := 43 })).room s m [.ref h0, .int p1].toArray below meth c H locs 0 0 (MQ below (va_Qi (fun (r : Int32) (_ : Unit) => rg 0 1 r ∧ (F_X6_comesRound τ Z gi gr h0 p1 = r)) (fun (_ : Unit) t => th_H D cA τ gi gr t.heap) (th_A τ s.heap.size)) [.ref h0, .int p1].toArray s 0 0 (th_A τ s.heap.size)) (F0 m 8 ls []) := by
    intro n8
    induction n8 with
    | zero =>
      intro H locs ls y8_2 y8_3 hn
      exact absurd hn (Nat.not_lt_zero _)
    | succ n8 ih8 =>
      intro H locs ls y8_2 y8_3 hn8 hH hS hl fy8_3 hF
      refine lv_iload_n hx hb dX6_comesRound_8 rfl (lv_at hl 3 rfl) ?_
      refine lv_bipush (v := 16) hx hb dX6_comesRound_9 bp_16 ?_
      refine lv_icmp_ge (tgt := 31) hx hb dX6_comesRound_11 (th_eqI rfl) (fun c2 => ?_) (fun c2 => ?_)
      · skip
        have f3 : rg 16 16 y8_3 := rg_w (rg_le rgc_16 fy8_3 c2).2 (th_leI rfl) (th_leI rfl)
        exact J31 _ _ _ y8_2 hH hS (lv_sub hl [1, 2] rfl) (hF.trans (by simp only [↓reduceIte, f_X6_comesRound_8, eq_true c2]))
      · skip
        have f4 : rg 0 15 y8_3 := rg_w (rg_nle rgc_16 fy8_3 c2).2 (th_leI rfl) (th_leI rfl)
        refine lv_iload_n hx hb dX6_comesRound_14 rfl (lv_at hl 2 rfl) ?_
        refine lv_iload_n hx hb dX6_comesRound_15 rfl (lv_at hl 1 rfl) ?_
        refine lv_icmp_eq (tgt := 31) hx hb dX6_comesRound_16 (th_eqI rfl) (fun c5 => ?_) (fun c5 => ?_)
        · skip
          exact J31 _ _ _ y8_2 hH hS (lv_sub hl [1, 2] rfl) (hF.trans (by simp only [↓reduceIte, f_X6_comesRound_8, eq_false c2, eq_true c5]))
        · skip
          refine lv_aload_n hx hb dX6_comesRound_19 rfl (lv_at hl 0 rfl) ?_
          refine lv_iload_n hx hb dX6_comesRound_20 rfl (lv_at hl 2 rfl) ?_
          have hA6 := th_Asub (τ := τ) hS
          refine va_calli (va_runV (As := [.int y8_2]) (rest := []) ⟨hx, hb, hml, hown, hts⟩ (k_X6_pointedAtBy l D cA Z τ gi gr _ h0 t_h0 y8_2) (cwV 1 hts gX6_comesRound_X6_pointedAtBy rfl rfl rfl hd_X6_pointedAtBy__1 ⟨Nat.le_of_ble_eq_true rfl, Nat.le_of_ble_eq_true rfl⟩) ⟨th_blind, tr_6 hK hH t_h0, (th_pre hH hK hN hZ hS hA6)⟩ rfl rfl hl.1 rfl (lv_room (Nat.le_of_ble_eq_true rfl)) dX6_comesRound_21 ⟨Nat.le_of_ble_eq_true rfl, Nat.le_of_ble_eq_true rfl⟩) hS (fun q _ h => hA6 q h) hA6 (fun x7 u t H locs ht hvm hw7 hB hz1 hk1 hS => ?_)
          try dsimp only at hw7 hB
          rw [ht] at hB
          have hH := hB
          refine lv_istore_n (i := 2) (lv' := [(2, .int x7), (0, .ref h0), (1, .int p1), (3, .int y8_3)]) hx hb dX6_comesRound_24 rfl hl (th_ltN rfl) rfl (fun ls hl => ?_)
          obtain ⟨x8, e8⟩ : ∃ y : Int32, y = y8_3 + 1 := ⟨_, rfl⟩
          have f8 : rg 1 16 x8 := rg_e e8 (rg_w (rg_add f4 rgc_1 (th_leI rfl) (th_leI rfl)) (th_leI rfl) (th_leI rfl))
          refine lv_iinc (v := x8) (lv' := [(3, .int x8), (2, .int x7), (0, .ref h0), (1, .int p1)]) hx hb dX6_comesRound_25 hl (k := 3) rfl (by rw [e8]; rfl) (th_ltN rfl) rfl (fun ls hl => ?_)
          refine lv_goto (tgt := 8) hx hb dX6_comesRound_28 (th_eqI rfl) ?_
          exact ih8 _ _ _ x7 x8 (th_up (rg_dA e8 f4 rgc_1 (th_leI rfl) (th_leI rfl)) f4 hn8 (th_ltI rfl)) hH hS (lv_sub hl [2, 3, 1, 0] rfl) (rg_w f8 (th_leI rfl) (th_leI rfl)) (hF.trans (by simp only [↓reduceIte, f_X6_comesRound_8, eq_false c2, eq_false c5, hw7, ← e8]))
  have hS : va_S (th_A τ s.heap.size) s.heap s.heap [] := va_S.rf
  have hl := lv_entry ([.ref h0, .int p1]) (n := 4) (Nat.le_of_ble_eq_true rfl)
  rw [lg_entry_eq]
  generalize (lg_sl ([.ref h0, .int p1]) ++ List.replicate (4 - (lg_sl ([.ref h0, .int p1])).length) Slot.unset).toArray = ls at hl ⊢
  have hl : lv_has ls 4 [(0, .ref h0), (1, .int p1)] := hl
  have hF : F_X6_comesRound τ Z gi gr h0 p1 = F_X6_comesRound τ Z gi gr h0 p1 := rfl
  refine lv_aload_n hx hb dX6_comesRound_0 rfl (lv_at hl 0 rfl) ?_
  refine lv_iload_n hx hb dX6_comesRound_1 rfl (lv_at hl 1 rfl) ?_
  have hA9 := th_Asub (τ := τ) hS
  refine va_calli (va_runV (As := [.int p1]) (rest := []) ⟨hx, hb, hml, hown, hts⟩ (k_X6_pointedAtBy l D cA Z τ gi gr _ h0 t_h0 p1) (cwV 1 hts gX6_comesRound_X6_pointedAtBy rfl rfl rfl hd_X6_pointedAtBy__1 ⟨Nat.le_of_ble_eq_true rfl, Nat.le_of_ble_eq_true rfl⟩) ⟨th_blind, tr_6 hK hH t_h0, (th_pre hH hK hN hZ hS hA9)⟩ rfl rfl hl.1 rfl (lv_room (Nat.le_of_ble_eq_true rfl)) dX6_comesRound_2 ⟨Nat.le_of_ble_eq_true rfl, Nat.le_of_ble_eq_true rfl⟩) hS (fun q _ h => hA9 q h) hA9 (fun x10 u t H locs ht hvm hw10 hB hz1 hk1 hS => ?_)
  try dsimp only at hw10 hB
  rw [ht] at hB
  have hH := hB
  refine lv_istore_n (i := 2) (lv' := [(2, .int x10), (0, .ref h0), (1, .int p1)]) hx hb dX6_comesRound_5 rfl hl (th_ltN rfl) rfl (fun ls hl => ?_)
  refine lv_iconst (v := 0) hx hb dX6_comesRound_6 ic_0 ?_
  refine lv_istore_n (i := 3) (lv' := [(3, .int 0), (2, .int x10), (0, .ref h0), (1, .int p1)]) hx hb dX6_comesRound_7 rfl hl (th_ltN rfl) rfl (fun ls hl => ?_)
  exact J8 _ _ _ _ x10 0 (Nat.lt_add_one _) hH hS (lv_sub hl [2, 3, 1, 0] rfl) (rg_w rgc_0 (th_leI rfl) (th_leI rfl)) (hF.trans (by simp only [F_X6_comesRound, hw10]))

noncomputable def f_X6_leastInRing_31 (τ : th_t) (Z : th_Zt) (gi : th_i) (gr : th_r) (h0 : Nat) (y2_1 : Int32) (k_2 : Int32 → Int32) : Int32 :=
  let x1 : Int32 := y2_1 + 1
  k_2 x1
noncomputable def f_X6_leastInRing_2 (τ : th_t) (Z : th_Zt) (gi : th_i) (gr : th_r) (h0 : Nat) : Nat → Int32 → Int32
  | 0, y2_1 => 0
  | n2 + 1, y2_1 =>
    let q2 : Nat := (gr h0 0).getD 0
    let x3 : Int32 := gi q2 6
    if x3 ≤ y2_1 then (
      (-1)) else (
      let x8 : Int32 := F_X6_isLeft τ Z gi gr h0 y2_1
      if x8 = (0 : Int32) then (
        f_X6_leastInRing_31 τ Z gi gr h0 y2_1 (f_X6_leastInRing_2 τ Z gi gr h0 n2) ) else (
        let x13 : Int32 := F_X6_comesRound τ Z gi gr h0 y2_1
        if x13 = (0 : Int32) then (
          f_X6_leastInRing_31 τ Z gi gr h0 y2_1 (f_X6_leastInRing_2 τ Z gi gr h0 n2) ) else (
          y2_1)))
noncomputable def F_X6_leastInRing (τ : th_t) (Z : th_Zt) (gi : th_i) (gr : th_r) (h0 : Nat) : Int32 :=
  f_X6_leastInRing_2 τ Z gi gr h0 ((16 - (0 : Int32).toInt).toNat + 1) 0
set_option maxHeartbeats 8000000 in
set_option maxRecDepth 100000 in
theorem k_X6_leastInRing (l : Launch) (D : va_G) (cA : Nat → ClassId) (Z : th_Zt) (τ : th_t) (gi : th_i) (gr : th_r) (sz : Nat) (h0 : Nat) (t_h0 : τ h0 = 6) : Met l yX6_leastInRing wsX6_leastInRing ({ frames := 3, cells := 0, slots := 0, locals := 66 }) (va_Pc [.ref h0] (th_Pre D cA Z τ gi gr sz)) (va_Qi (fun (r : Int32) (_ : Unit) => (F_X6_leastInRing τ Z gi gr h0 = r)) (fun (_ : Unit) t => th_H D cA τ gi gr t.heap) (th_A τ sz)) 0 0 (th_A τ sz) := by
  refine Met.ofW (cc := cX6_leastInRing) (maxL := 2) (ret := (some .int)) (by decide) rfl ?_
  intro p e s m args below meth c s₁ B hml hv
  obtain ⟨rfl, hsz, hH, hK, hN, hZ⟩ := hv
  have hx := B.exec
  have hb := B.bytes
  have hr := B.returns
  have hts := atoms_spec (ws := wsX6_leastInRing) B.pre
  have hown : s.vm.findClass RX6 = some m.cls := findClass_of_methodNamed B.named
  have hlocks := B.notSynchronized
  subst hsz
  have J2 : ∀ (n2 : Nat) (H : Heap) (locs : List Loc) (ls : Array Slot) (y2_1 : Int32), (16 - y2_1.toInt).toNat < n2 → th_H D cA τ gi gr H → va_S (th_A τ s.heap.size) s.heap H locs → lv_has ls 2 [(0, .ref h0), (1, .int y2_1)] → rg 0 16 y2_1 → F_X6_leastInRing τ Z gi gr h0 = f_X6_leastInRing_2 τ Z gi gr h0 n2 y2_1 → W p l e (headSpec wsX6_leastInRing ({ frames := 3, cells := 0, slots := 0, locals := 66 })).room s m [.ref h0].toArray below meth c H locs 0 0 (MQ below (va_Qi (fun (r : Int32) (_ : Unit) => (F_X6_leastInRing τ Z gi gr h0 = r)) (fun (_ : Unit) t => th_H D cA τ gi gr t.heap) (th_A τ s.heap.size)) [.ref h0].toArray s 0 0 (th_A τ s.heap.size)) (F0 m 2 ls []) := by
    intro n2
    induction n2 with
    | zero =>
      intro H locs ls y2_1 hn
      exact absurd hn (Nat.not_lt_zero _)
    | succ n2 ih2 =>
      intro H locs ls y2_1 hn2 hH hS hl fy2_1 hF
      have J31 : ∀ (H : Heap) (locs : List Loc) (ls : Array Slot), th_H D cA τ gi gr H → va_S (th_A τ s.heap.size) s.heap H locs → lv_has ls 2 [(0, .ref h0), (1, .int y2_1)] → rg 0 15 y2_1 → F_X6_leastInRing τ Z gi gr h0 = f_X6_leastInRing_31 τ Z gi gr h0 y2_1 (f_X6_leastInRing_2 τ Z gi gr h0 n2) → W p l e (headSpec wsX6_leastInRing ({ frames := 3, cells := 0, slots := 0, locals := 66 })).room s m [.ref h0].toArray below meth c H locs 0 0 (MQ below (va_Qi (fun (r : Int32) (_ : Unit) => (F_X6_leastInRing τ Z gi gr h0 = r)) (fun (_ : Unit) t => th_H D cA τ gi gr t.heap) (th_A τ s.heap.size)) [.ref h0].toArray s 0 0 (th_A τ s.heap.size)) (F0 m 31 ls []) := by
        intro H locs ls hH hS hl fy31_1 hF
        obtain ⟨x1, e1⟩ : ∃ y : Int32, y = y2_1 + 1 := ⟨_, rfl⟩
        have f1 : rg 1 16 x1 := rg_e e1 (rg_w (rg_add fy31_1 rgc_1 (th_leI rfl) (th_leI rfl)) (th_leI rfl) (th_leI rfl))
        refine lv_iinc (v := x1) (lv' := [(1, .int x1), (0, .ref h0)]) hx hb dX6_leastInRing_31 hl (k := 1) rfl (by rw [e1]; rfl) (th_ltN rfl) rfl (fun ls hl => ?_)
        refine lv_goto (tgt := 2) hx hb dX6_leastInRing_34 (th_eqI rfl) ?_
        exact ih2 _ _ _ x1 (th_up (rg_dA e1 fy31_1 rgc_1 (th_leI rfl) (th_leI rfl)) fy31_1 hn2 (th_ltI rfl)) hH hS (lv_sub hl [1, 0] rfl) (rg_w f1 (th_leI rfl) (th_leI rfl)) (hF.trans (by simp only [f_X6_leastInRing_31, ← e1]))
      refine lv_iload_n hx hb dX6_leastInRing_2 rfl (lv_at hl 1 rfl) ?_
      refine lv_aload_n hx hb dX6_leastInRing_3 rfl (lv_at hl 0 rfl) ?_
      obtain ⟨q2, r2, t2⟩ : ∃ q, gr h0 0 = some q ∧ τ q = 1 := (thI_6 hH t_h0).1
      refine th_get (ci := 5) (v := .ref q2) (T := TX6) (C := RX6) (N := 4) hx hb hts (fun w h => List.mem_cons_of_mem _ (List.mem_append_left _ (List.mem_append_right _ h))) hown hK hH t_h0 (th_nz rfl) (thE_6 _ _ _) rfl 0 (th_ltN rfl) (hts (.fieldLink RX6 22 "BayMoorings$Rings" "bay" "LBayMoorings$Bay;") (List.mem_cons_of_mem _ (List.mem_append_left _ (List.mem_append_left _ (List.mem_of_getElem? (i := 0) rfl))))) (fun _ h9 => h9) (th_fR r2 rfl) dX6_leastInRing_4 ?_
      obtain ⟨x3, e3⟩ : ∃ y : Int32, y = gi q2 6 := ⟨_, rfl⟩
      refine th_get (ci := 0) (v := .int x3) (T := TX0) (C := RX0) (N := 9) hx hb hts (fun w h => List.mem_cons_of_mem _ (List.mem_append_right _ h)) hown hK hH t2 (th_nz rfl) (thE_1 _ _ _) rfl 6 (th_ltN rfl) (hts (.fieldLink RX6 30 "BayMoorings$Bay" "boatCount" "I") (List.mem_cons_of_mem _ (List.mem_append_left _ (List.mem_append_left _ (List.mem_of_getElem? (i := 1) rfl))))) (fun _ h9 => h9) (th_fI e3 rfl) dX6_leastInRing_7 ?_
      have f3 : rg 0 16 x3 := rg_e e3 ((thI_1 hH t2).2.2.2.2.2.2)
      refine lv_icmp_ge (tgt := 37) hx hb dX6_leastInRing_10 (th_eqI rfl) (fun c4 => ?_) (fun c4 => ?_)
      · skip
        refine lv_iconst (v := (-1)) hx hb dX6_leastInRing_37 ic_m1 ?_
        exact W.iret (v := (-1)) hx hb hr (fun t ht hW => ⟨⟨(-1), (), rfl, (hF.trans (by simp only [↓reduceIte, f_X6_leastInRing_2, r2, Option.getD_some, ← e3, eq_true c4])), th_Ht ht hH⟩, hS.F ht⟩) hS.2.2 dX6_leastInRing_38
      · skip
        have f5 : rg 1 16 x3 := rg_w (rg_nle f3 fy2_1 c4).1 (th_leI rfl) (th_leI rfl)
        have f6 : rg 0 15 y2_1 := rg_w (rg_nle f3 fy2_1 c4).2 (th_leI rfl) (th_leI rfl)
        refine lv_aload_n hx hb dX6_leastInRing_13 rfl (lv_at hl 0 rfl) ?_
        refine lv_iload_n hx hb dX6_leastInRing_14 rfl (lv_at hl 1 rfl) ?_
        have hA7 := th_Asub (τ := τ) hS
        refine va_calli (va_runV (As := [.int y2_1]) (rest := []) ⟨hx, hb, hml, hown, hts⟩ (k_X6_isLeft l D cA Z τ gi gr _ h0 t_h0 y2_1) (cwV 1 hts gX6_leastInRing_X6_isLeft rfl rfl rfl hd_X6_isLeft__1 ⟨Nat.le_of_ble_eq_true rfl, Nat.le_of_ble_eq_true rfl⟩) ⟨th_blind, tr_6 hK hH t_h0, (th_pre hH hK hN hZ hS hA7)⟩ rfl rfl hl.1 rfl (lv_room (Nat.le_of_ble_eq_true rfl)) dX6_leastInRing_15 ⟨Nat.le_of_ble_eq_true rfl, Nat.le_of_ble_eq_true rfl⟩) hS (fun q _ h => hA7 q h) hA7 (fun x8 u t H locs ht hvm hw8 hB hz1 hk1 hS => ?_)
        try dsimp only at hw8 hB
        rw [ht] at hB
        have hH := hB
        refine lv_if_eq (tgt := 31) hx hb dX6_leastInRing_18 (th_eqI rfl) (fun c9 => ?_) (fun c9 => ?_)
        · skip
          have f10 : rg 0 0 x8 := rg_w (rg_eq hw8.1 rgc_0 c9).1 (th_leI rfl) (th_leI rfl)
          exact J31 _ _ _ hH hS (lv_sub hl [0, 1] rfl) f6 (hF.trans (by simp only [↓reduceIte, f_X6_leastInRing_2, r2, Option.getD_some, ← e3, eq_false c4, hw8.2.2, eq_true c9]))
        · skip
          have f11 : rg 1 1 x8 := rg_w (rg_neL hw8.1 rgc_0 c9) (th_leI rfl) (th_leI rfl)
          refine lv_aload_n hx hb dX6_leastInRing_21 rfl (lv_at hl 0 rfl) ?_
          refine lv_iload_n hx hb dX6_leastInRing_22 rfl (lv_at hl 1 rfl) ?_
          have hA12 := th_Asub (τ := τ) hS
          refine va_calli (va_runV (As := [.int y2_1]) (rest := []) ⟨hx, hb, hml, hown, hts⟩ (k_X6_comesRound l D cA Z τ gi gr _ h0 t_h0 y2_1) (cwV 1 hts gX6_leastInRing_X6_comesRound rfl rfl rfl hd_X6_comesRound__1 ⟨Nat.le_of_ble_eq_true rfl, Nat.le_of_ble_eq_true rfl⟩) ⟨th_blind, tr_6 hK hH t_h0, (th_pre hH hK hN hZ hS hA12)⟩ rfl rfl hl.1 rfl (lv_room (Nat.le_of_ble_eq_true rfl)) dX6_leastInRing_23 ⟨Nat.le_of_ble_eq_true rfl, Nat.le_of_ble_eq_true rfl⟩) hS (fun q _ h => hA12 q h) hA12 (fun x13 u t H locs ht hvm hw13 hB hz1 hk1 hS => ?_)
          try dsimp only at hw13 hB
          rw [ht] at hB
          have hH := hB
          refine lv_if_eq (tgt := 31) hx hb dX6_leastInRing_26 (th_eqI rfl) (fun c14 => ?_) (fun c14 => ?_)
          · skip
            have f15 : rg 0 0 x13 := rg_w (rg_eq hw13.1 rgc_0 c14).1 (th_leI rfl) (th_leI rfl)
            exact J31 _ _ _ hH hS (lv_sub hl [0, 1] rfl) f6 (hF.trans (by simp only [↓reduceIte, f_X6_leastInRing_2, r2, Option.getD_some, ← e3, eq_false c4, hw8.2.2, eq_false c9, hw13.2, eq_true c14]))
          · skip
            have f16 : rg 1 1 x13 := rg_w (rg_neL hw13.1 rgc_0 c14) (th_leI rfl) (th_leI rfl)
            refine lv_iload_n hx hb dX6_leastInRing_29 rfl (lv_at hl 1 rfl) ?_
            exact W.iret (v := y2_1) hx hb hr (fun t ht hW => ⟨⟨y2_1, (), rfl, (hF.trans (by simp only [↓reduceIte, f_X6_leastInRing_2, r2, Option.getD_some, ← e3, eq_false c4, hw8.2.2, eq_false c9, hw13.2, eq_false c14])), th_Ht ht hH⟩, hS.F ht⟩) hS.2.2 dX6_leastInRing_30
  have hS : va_S (th_A τ s.heap.size) s.heap s.heap [] := va_S.rf
  have hl := lv_entry ([.ref h0]) (n := 2) (Nat.le_of_ble_eq_true rfl)
  rw [lg_entry_eq]
  generalize (lg_sl ([.ref h0]) ++ List.replicate (2 - (lg_sl ([.ref h0])).length) Slot.unset).toArray = ls at hl ⊢
  have hl : lv_has ls 2 [(0, .ref h0)] := hl
  have hF : F_X6_leastInRing τ Z gi gr h0 = F_X6_leastInRing τ Z gi gr h0 := rfl
  refine lv_iconst (v := 0) hx hb dX6_leastInRing_0 ic_0 ?_
  refine lv_istore_n (i := 1) (lv' := [(1, .int 0), (0, .ref h0)]) hx hb dX6_leastInRing_1 rfl hl (th_ltN rfl) rfl (fun ls hl => ?_)
  exact J2 _ _ _ _ 0 (Nat.lt_add_one _) hH hS (lv_sub hl [1, 0] rfl) (rg_w rgc_0 (th_leI rfl) (th_leI rfl)) (hF.trans (by simp only [F_X6_leastInRing]))

noncomputable def f_X6_takeRing_4 (τ : th_t) (Z : th_Zt) (gi : th_i) (gr : th_r) (h0 : Nat) (p1 : Int32) : Nat → th_i → Int32 → Int32 → th_i
  | 0, gi_4, y4_2, y4_3 => (gi_4)
  | n4 + 1, gi_4, y4_2, y4_3 =>
    if (16 : Int32) ≤ y4_3 then (
      (gi_4)) else (
      let x5 : Int32 := F_X6_isLeft τ Z gi_4 gr h0 y4_2
      if x5 = (0 : Int32) then (
        (gi_4)) else (
        let x10 : Int32 := gi_4 h0 3
        let x11 : Int32 := 1 <<< (y4_2 &&& 31)
        let x12 : Int32 := x11 ^^^ (-1)
        let x13 : Int32 := x10 &&& x12
        let gi14 : th_i := va_up gi_4 h0 (upd (gi_4 h0) 3 x13)
        let q16 : Nat := (gr h0 1).getD 0
        let q17 : Nat := (gr h0 0).getD 0
        let q18 : Nat := (gr q17 4).getD 0
        let q19 : Nat := (gr h0 2).getD 0
        let x20 : Int32 := gi14 q19 y4_2.toNatClampNeg
        let x22 : Int32 := F_X1_buoyOf τ Z gi14 gr q18 x20
        let gi23 : th_i := va_up gi14 q16 (upd (gi14 q16) y4_2.toNatClampNeg x22)
        let x28 : Int32 := y4_3 + 1
        (f_X6_takeRing_4 τ Z gi gr h0 p1 n4) gi23 x20 x28))
noncomputable def F_X6_takeRing (τ : th_t) (Z : th_Zt) (gi : th_i) (gr : th_r) (h0 : Nat) (p1 : Int32) : th_i :=
  f_X6_takeRing_4 τ Z gi gr h0 p1 ((16 - (0 : Int32).toInt).toNat + 1) gi p1 0
set_option maxHeartbeats 8000000 in
set_option maxRecDepth 100000 in
theorem k_X6_takeRing (l : Launch) (D : va_G) (cA : Nat → ClassId) (Z : th_Zt) (τ : th_t) (gi : th_i) (gr : th_r) (sz : Nat) (h0 : Nat) (t_h0 : τ h0 = 6) (p1 : Int32) : Met l yX6_takeRing wsX6_takeRing ({ frames := 2, cells := 0, slots := 0, locals := 43 }) (va_Pc [.ref h0, .int p1] (th_Pre D cA Z τ gi gr sz)) (va_Qv (fun (u : th_i × th_r) => th_Mod [603, 2800] τ gi gr u.1 u.2 ∧ u.2 = gr ∧ (F_X6_takeRing τ Z gi gr h0 p1 = u.1)) (fun (u : th_i × th_r) t => th_H D cA τ u.1 u.2 t.heap) (th_A τ sz)) 0 0 (th_A τ sz) := by
  refine Met.ofW (cc := cX6_takeRing) (maxL := 4) (ret := none) (by decide) rfl ?_
  intro p e s m args below meth c s₁ B hml hv
  obtain ⟨rfl, hsz, hH, hK, hN, hZ⟩ := hv
  have hx := B.exec
  have hb := B.bytes
  have hr := B.returns
  have hts := atoms_spec (ws := wsX6_takeRing) B.pre
  have hown : s.vm.findClass RX6 = some m.cls := findClass_of_methodNamed B.named
  have hlocks := B.notSynchronized
  subst hsz
  have hM : th_Mod [603, 2800] τ gi gr gi gr := th_Mod.rf
  have J4 : ∀ (n4 : Nat) (gi_4 : th_i) (H : Heap) (locs : List Loc) (ls : Array Slot) (y4_2 : Int32) (y4_3 : Int32), (16 - y4_3.toInt).toNat < n4 → th_H D cA τ gi_4 gr H → va_S (th_A τ s.heap.size) s.heap H locs → th_Mod [603, 2800] τ gi gr gi_4 gr → lv_has ls 4 [(0, .ref h0), (2, .int y4_2), (3, .int y4_3)] → rg 0 16 y4_3 → F_X6_takeRing τ Z gi gr h0 p1 = f_X6_takeRing_4 τ Z gi gr h0 p1 n4 gi_4 y4_2 y4_3 → W p l e (headSpec wsX6_takeRing ({ frames := 2, cells := 0, slots := 0, locals := 43 })).room s m [.ref h0, .int p1].toArray below meth c H locs 0 0 (MQ below (va_Qv (fun (u : th_i × th_r) => th_Mod [603, 2800] τ gi gr u.1 u.2 ∧ u.2 = gr ∧ (F_X6_takeRing τ Z gi gr h0 p1 = u.1)) (fun (u : th_i × th_r) t => th_H D cA τ u.1 u.2 t.heap) (th_A τ s.heap.size)) [.ref h0, .int p1].toArray s 0 0 (th_A τ s.heap.size)) (F0 m 4 ls []) := by
    intro n4
    induction n4 with
    | zero =>
      intro gi_4 H locs ls y4_2 y4_3 hn
      exact absurd hn (Nat.not_lt_zero _)
    | succ n4 ih4 =>
      intro gi_4 H locs ls y4_2 y4_3 hn4 hH hS hM hl fy4_3 hF
      refine lv_iload_n hx hb dX6_takeRing_4 rfl (lv_at hl 2 rfl) ?_
      refine lv_bipush (v := 16) hx hb dX6_takeRing_5 bp_16 ?_
      refine lv_icmp_ge (tgt := 67) hx hb dX6_takeRing_7 (th_eqI rfl) (fun c1 => ?_) (fun c1 => ?_)
      · skip
        have f2 : rg 16 16 y4_3 := rg_w (rg_le rgc_16 fy4_3 c1).2 (th_leI rfl) (th_leI rfl)
        exact W.vret hx hb hr (fun t ht hW => ⟨⟨(gi_4, gr), rfl, ⟨hM, rfl, (hF.trans (by simp only [↓reduceIte, f_X6_takeRing_4, eq_true c1]))⟩, th_Ht ht hH⟩, hS.F ht⟩) hS.2.2 dX6_takeRing_67
      · skip
        have f3 : rg 0 15 y4_3 := rg_w (rg_nle rgc_16 fy4_3 c1).2 (th_leI rfl) (th_leI rfl)
        refine lv_aload_n hx hb dX6_takeRing_10 rfl (lv_at hl 0 rfl) ?_
        refine lv_iload_n hx hb dX6_takeRing_11 rfl (lv_at hl 1 rfl) ?_
        have hA4 := th_Asub (τ := τ) hS
        refine va_calli (va_runV (As := [.int y4_2]) (rest := []) ⟨hx, hb, hml, hown, hts⟩ (k_X6_isLeft l D cA Z τ gi_4 gr _ h0 t_h0 y4_2) (cwV 1 hts gX6_takeRing_X6_isLeft rfl rfl rfl hd_X6_isLeft__1 ⟨Nat.le_of_ble_eq_true rfl, Nat.le_of_ble_eq_true rfl⟩) ⟨th_blind, tr_6 hK hH t_h0, (th_pre hH hK hN hZ hS hA4)⟩ rfl rfl hl.1 rfl (lv_room (Nat.le_of_ble_eq_true rfl)) dX6_takeRing_12 ⟨Nat.le_of_ble_eq_true rfl, Nat.le_of_ble_eq_true rfl⟩) hS (fun q _ h => hA4 q h) hA4 (fun x5 u t H locs ht hvm hw5 hB hz1 hk1 hS => ?_)
        try dsimp only at hw5 hB
        rw [ht] at hB
        have hH := hB
        refine lv_if_eq (tgt := 67) hx hb dX6_takeRing_15 (th_eqI rfl) (fun c6 => ?_) (fun c6 => ?_)
        · skip
          have f7 : rg 0 0 x5 := rg_w (rg_eq hw5.1 rgc_0 c6).1 (th_leI rfl) (th_leI rfl)
          exact W.vret hx hb hr (fun t ht hW => ⟨⟨(gi_4, gr), rfl, ⟨hM, rfl, (hF.trans (by simp only [↓reduceIte, f_X6_takeRing_4, eq_false c1, hw5.2.2, eq_true c6]))⟩, th_Ht ht hH⟩, hS.F ht⟩) hS.2.2 dX6_takeRing_67
        · skip
          have f8 : rg 1 1 x5 := rg_w (rg_neL hw5.1 rgc_0 c6) (th_leI rfl) (th_leI rfl)
          have f9 : rg 0 15 y4_2 := rg_w (hw5.2.1 c6) (th_leI rfl) (th_leI rfl)
          refine lv_aload_n hx hb dX6_takeRing_18 rfl (lv_at hl 0 rfl) ?_
          refine lv_dup hx hb dX6_takeRing_19 rfl ?_
          obtain ⟨x10, e10⟩ : ∃ y : Int32, y = gi_4 h0 3 := ⟨_, rfl⟩
          refine th_get (ci := 5) (v := .int x10) (T := TX6) (C := RX6) (N := 4) hx hb hts (fun w h => List.mem_cons_of_mem _ (List.mem_append_left _ (List.mem_append_left _ (List.mem_append_right _ h)))) hown hK hH t_h0 (th_nz rfl) (thE_6 _ _ _) rfl 3 (th_ltN rfl) (hts (.fieldLink RX6 18 "BayMoorings$Rings" "left" "I") (List.mem_cons_of_mem _ (List.mem_append_left _ (List.mem_append_left _ (List.mem_append_left _ (List.mem_of_getElem? (i := 0) rfl)))))) (fun _ h9 => h9) (th_fI e10 rfl) dX6_takeRing_20 ?_
          refine lv_iconst (v := 1) hx hb dX6_takeRing_23 ic_1 ?_
          refine lv_iload_n hx hb dX6_takeRing_24 rfl (lv_at hl 1 rfl) ?_
          refine lv_ishl hx hb dX6_takeRing_25 ?_
          refine lv_topi (fun x11 e11 => ?_)
          refine lv_iconst (v := (-1)) hx hb dX6_takeRing_26 ic_m1 ?_
          refine lv_ixor hx hb dX6_takeRing_27 ?_
          refine lv_topi (fun x12 e12 => ?_)
          refine lv_iand hx hb dX6_takeRing_28 ?_
          refine lv_topi (fun x13 e13 => ?_)
          refine th_put (ci := 5) (v := .int x13) (T := TX6) (C := RX6) (N := 4) (ty := .int) (gi' := va_up gi_4 h0 (upd (gi_4 h0) 3 x13)) (gr' := gr) hx hb hts (fun w h => List.mem_cons_of_mem _ (List.mem_append_left _ (List.mem_append_left _ (List.mem_append_right _ h)))) tyX6 tyX6_ok nmX6 hown hK hH hS t_h0 (th_nz rfl) (Or.inl (th_nzE t_h0 rfl)) rfl rfl 3 (th_ltN rfl) (hts (.fieldLink RX6 18 "BayMoorings$Rings" "left" "I") (List.mem_cons_of_mem _ (List.mem_append_left _ (List.mem_append_left _ (List.mem_append_left _ (List.mem_of_getElem? (i := 0) rfl)))))) (fun _ h9 => h9) rfl (by decide +kernel) rfl rfl (Nat.le_of_ble_eq_true rfl) (by rw [va_up_self]; rfl) (by rw [va_up_self]; show (∃ q, gr h0 0 = some q ∧ τ q = 1) ∧ (∃ q, gr h0 1 = some q ∧ τ q = 28) ∧ (∃ q, gr h0 2 = some q ∧ τ q = 29); exact ⟨(thI_6 hH t_h0).1, (thI_6 hH t_h0).2.1, (thI_6 hH t_h0).2.2⟩) (fun b hb => ⟨va_up_ne _ _ hb, rfl⟩) dX6_takeRing_29 (fun H locs hH hS => ?_)
          obtain ⟨gi14, eg14⟩ : ∃ g, g = va_up gi_4 h0 (upd (gi_4 h0) 3 x13) := ⟨_, rfl⟩
          rw [← eg14] at hH
          have hu14 : gi14 h0 3 = x13 := (th_uI eg14).1
          have ho14 : ∀ b j, b ≠ h0 ∨ j ≠ 3 → gi14 b j = gi_4 b j := (th_uI eg14).2
          have hM := hM.i t_h0 (th_mem (a := 603) rfl) ho14
          refine lv_aload_n hx hb dX6_takeRing_32 rfl (lv_at hl 0 rfl) ?_
          obtain ⟨q16, r16, t16⟩ : ∃ q, gr h0 1 = some q ∧ τ q = 28 := (thI_6 hH t_h0).2.1
          refine th_get (ci := 5) (v := .ref q16) (T := TX6) (C := RX6) (N := 4) hx hb hts (fun w h => List.mem_cons_of_mem _ (List.mem_append_left _ (List.mem_append_left _ (List.mem_append_right _ h)))) hown hK hH t_h0 (th_nz rfl) (thE_6 _ _ _) rfl 1 (th_ltN rfl) (hts (.fieldLink RX6 9 "BayMoorings$Rings" "gets" "[I") (List.mem_cons_of_mem _ (List.mem_append_left _ (List.mem_append_left _ (List.mem_append_left _ (List.mem_of_getElem? (i := 1) rfl)))))) (fun _ h9 => h9) (th_fR r16 rfl) dX6_takeRing_33 ?_
          refine lv_iload_n hx hb dX6_takeRing_36 rfl (lv_at hl 1 rfl) ?_
          refine lv_aload_n hx hb dX6_takeRing_37 rfl (lv_at hl 0 rfl) ?_
          obtain ⟨q17, r17, t17⟩ : ∃ q, gr h0 0 = some q ∧ τ q = 1 := (thI_6 hH t_h0).1
          refine th_get (ci := 5) (v := .ref q17) (T := TX6) (C := RX6) (N := 4) hx hb hts (fun w h => List.mem_cons_of_mem _ (List.mem_append_left _ (List.mem_append_left _ (List.mem_append_right _ h)))) hown hK hH t_h0 (th_nz rfl) (thE_6 _ _ _) rfl 0 (th_ltN rfl) (hts (.fieldLink RX6 22 "BayMoorings$Rings" "bay" "LBayMoorings$Bay;") (List.mem_cons_of_mem _ (List.mem_append_left _ (List.mem_append_left _ (List.mem_append_left _ (List.mem_of_getElem? (i := 2) rfl)))))) (fun _ h9 => h9) (th_fR r17 rfl) dX6_takeRing_38 ?_
          obtain ⟨q18, r18, t18⟩ : ∃ q, gr q17 4 = some q ∧ τ q = 2 := (thI_1 hH t17).2.2.2.2.1
          refine th_get (ci := 0) (v := .ref q18) (T := TX0) (C := RX0) (N := 9) hx hb hts (fun w h => List.mem_cons_of_mem _ (List.mem_append_left _ (List.mem_append_right _ h))) hown hK hH t17 (th_nz rfl) (thE_1 _ _ _) rfl 4 (th_ltN rfl) (hts (.fieldLink RX6 35 "BayMoorings$Bay" "berths" "LBayMoorings$Berths;") (List.mem_cons_of_mem _ (List.mem_append_left _ (List.mem_append_left _ (List.mem_append_left _ (List.mem_of_getElem? (i := 3) rfl)))))) (fun _ h9 => h9) (th_fR r18 rfl) dX6_takeRing_41 ?_
          refine lv_aload_n hx hb dX6_takeRing_44 rfl (lv_at hl 0 rfl) ?_
          obtain ⟨q19, r19, t19⟩ : ∃ q, gr h0 2 = some q ∧ τ q = 29 := (thI_6 hH t_h0).2.2
          refine th_get (ci := 5) (v := .ref q19) (T := TX6) (C := RX6) (N := 4) hx hb hts (fun w h => List.mem_cons_of_mem _ (List.mem_append_left _ (List.mem_append_left _ (List.mem_append_right _ h)))) hown hK hH t_h0 (th_nz rfl) (thE_6 _ _ _) rfl 2 (th_ltN rfl) (hts (.fieldLink RX6 15 "BayMoorings$Rings" "pointsAt" "[I") (List.mem_cons_of_mem _ (List.mem_append_left _ (List.mem_append_left _ (List.mem_append_left _ (List.mem_of_getElem? (i := 4) rfl)))))) (fun _ h9 => h9) (th_fR r19 rfl) dX6_takeRing_45 ?_
          refine lv_iload_n hx hb dX6_takeRing_48 rfl (lv_at hl 1 rfl) ?_
          refine th_iald hx hb hK hH t19 (th_nz rfl) 0 (thE_29 _ _ _) rfl (rg_in (n := 16) f9 (th_leI rfl) (th_ltI rfl)) dX6_takeRing_49 ?_
          refine lv_topi (fun x20 e20 => ?_)
          have hA21 := th_Asub (τ := τ) hS
          refine va_calli (va_runV (As := [.int x20]) (rest := [.int y4_2, .ref q16]) ⟨hx, hb, hml, hown, hts⟩ (k_X1_buoyOf l D cA Z τ gi14 gr _ q18 t18 x20) (cwV 1 hts gX6_takeRing_X1_buoyOf rfl rfl rfl hd_X1_buoyOf__1 ⟨Nat.le_of_ble_eq_true rfl, Nat.le_of_ble_eq_true rfl⟩) ⟨th_blind, tr_2 hK hH t18, (th_pre hH hK hN hZ hS hA21)⟩ rfl rfl hl.1 rfl (lv_room (Nat.le_of_ble_eq_true rfl)) dX6_takeRing_50 ⟨Nat.le_of_ble_eq_true rfl, Nat.le_of_ble_eq_true rfl⟩) hS (fun q _ h => hA21 q h) hA21 (fun x22 u t H locs ht hvm hw22 hB hz1 hk1 hS => ?_)
          try dsimp only at hw22 hB
          rw [ht] at hB
          have hH := hB
          refine th_iast hx hb hK hH hS t16 (th_nz rfl) (Or.inl (th_nzE t16 rfl)) 0 (fun _ => thE_28 _ _ _) rfl (rg_in (n := 16) f9 (th_leI rfl) (th_ltI rfl)) (trivial) dX6_takeRing_53 (fun gi23 H locs hu23 ho23 hH hS => ?_)
          have eg23 : gi23 = va_up gi14 q16 (upd (gi14 q16) y4_2.toNatClampNeg x22) := th_upE hu23 ho23
          have e24 : x13 = gi23 h0 3 := Eq.trans hu14.symm (Eq.symm (ho23 _ _ (Or.inl (th_ne t_h0 t16 (th_nz rfl)))))
          have e25 : x20 = gi23 q19 (y4_2.toNatClampNeg) := Eq.trans e20 (Eq.symm (ho23 _ _ (Or.inl (th_ne t19 t16 (th_nz rfl)))))
          have hM := hM.i t16 (th_mem (a := 2800) rfl) ho23
          refine lv_aload_n hx hb dX6_takeRing_54 rfl (lv_at hl 0 rfl) ?_
          refine th_get (ci := 5) (v := .ref q19) (T := TX6) (C := RX6) (N := 4) hx hb hts (fun w h => List.mem_cons_of_mem _ (List.mem_append_left _ (List.mem_append_left _ (List.mem_append_right _ h)))) hown hK hH t_h0 (th_nz rfl) (thE_6 _ _ _) rfl 2 (th_ltN rfl) (hts (.fieldLink RX6 15 "BayMoorings$Rings" "pointsAt" "[I") (List.mem_cons_of_mem _ (List.mem_append_left _ (List.mem_append_left _ (List.mem_append_left _ (List.mem_of_getElem? (i := 4) rfl)))))) (fun _ h9 => h9) (th_fR r19 rfl) dX6_takeRing_55 ?_
          refine lv_iload_n hx hb dX6_takeRing_58 rfl (lv_at hl 1 rfl) ?_
          refine th_iald hx hb hK hH t19 (th_nz rfl) 0 (thE_29 _ _ _) rfl (rg_in (n := 16) f9 (th_leI rfl) (th_ltI rfl)) dX6_takeRing_59 ?_
          rw [← e25]
          refine lv_istore_n (i := 2) (lv' := [(2, .int x20), (0, .ref h0), (3, .int y4_3)]) hx hb dX6_takeRing_60 rfl hl (th_ltN rfl) rfl (fun ls hl => ?_)
          obtain ⟨x28, e28⟩ : ∃ y : Int32, y = y4_3 + 1 := ⟨_, rfl⟩
          have f28 : rg 1 16 x28 := rg_e e28 (rg_w (rg_add f3 rgc_1 (th_leI rfl) (th_leI rfl)) (th_leI rfl) (th_leI rfl))
          refine lv_iinc (v := x28) (lv' := [(3, .int x28), (2, .int x20), (0, .ref h0)]) hx hb dX6_takeRing_61 hl (k := 2) rfl (by rw [e28]; rfl) (th_ltN rfl) rfl (fun ls hl => ?_)
          refine lv_goto (tgt := 4) hx hb dX6_takeRing_64 (th_eqI rfl) ?_
          exact ih4 gi23 _ _ _ x20 x28 (th_up (rg_dA e28 f3 rgc_1 (th_leI rfl) (th_leI rfl)) f3 hn4 (th_ltI rfl)) hH hS hM (lv_sub hl [2, 1, 0] rfl) (rg_w f28 (th_leI rfl) (th_leI rfl)) (hF.trans (by simp only [↓reduceIte, f_X6_takeRing_4, eq_false c1, hw5.2.2, eq_false c6, ← e10, ← e11, ← e12, ← e13, ← eg14, r16, Option.getD_some, r17, r18, r19, ← e20, hw22, ← eg23, ← e28]))
  have hS : va_S (th_A τ s.heap.size) s.heap s.heap [] := va_S.rf
  have hl := lv_entry ([.ref h0, .int p1]) (n := 4) (Nat.le_of_ble_eq_true rfl)
  rw [lg_entry_eq]
  generalize (lg_sl ([.ref h0, .int p1]) ++ List.replicate (4 - (lg_sl ([.ref h0, .int p1])).length) Slot.unset).toArray = ls at hl ⊢
  have hl : lv_has ls 4 [(0, .ref h0), (1, .int p1)] := hl
  have hF : F_X6_takeRing τ Z gi gr h0 p1 = F_X6_takeRing τ Z gi gr h0 p1 := rfl
  refine lv_iload_n hx hb dX6_takeRing_0 rfl (lv_at hl 1 rfl) ?_
  refine lv_istore_n (i := 2) (lv' := [(2, .int p1), (0, .ref h0), (1, .int p1)]) hx hb dX6_takeRing_1 rfl hl (th_ltN rfl) rfl (fun ls hl => ?_)
  refine lv_iconst (v := 0) hx hb dX6_takeRing_2 ic_0 ?_
  refine lv_istore_n (i := 3) (lv' := [(3, .int 0), (2, .int p1), (0, .ref h0), (1, .int p1)]) hx hb dX6_takeRing_3 rfl hl (th_ltN rfl) rfl (fun ls hl => ?_)
  exact J4 _ gi _ _ _ p1 0 (Nat.lt_add_one _) hH hS hM (lv_sub hl [2, 1, 0] rfl) (rg_w rgc_0 (th_leI rfl) (th_leI rfl)) (hF.trans (by simp only [F_X6_takeRing]))

noncomputable def f_X6_draw_65 (τ : th_t) (Z : th_Zt) (gi : th_i) (gr : th_r) (h0 : Nat) : Nat → th_i → Int32 → th_i
  | 0, gi_65, y65_1 => (gi_65)
  | n65 + 1, gi_65, y65_1 =>
    if (16 : Int32) ≤ y65_1 then (
      (gi_65)) else (
      let x4 : Int32 := gi_65 h0 3
      if x4 = (0 : Int32) then (
        (gi_65)) else (
        let gi8 : th_i := F_X6_pointAll τ Z gi_65 gr h0
        let x11 : Int32 := F_X6_leastInRing τ Z gi8 gr h0
        let gi13 : th_i := F_X6_takeRing τ Z gi8 gr h0 x11
        let x14 : Int32 := y65_1 + 1
        (f_X6_draw_65 τ Z gi gr h0 n65) gi13 x14))
noncomputable def f_X6_draw_57 (τ : th_t) (Z : th_Zt) (gi : th_i) (gr : th_r) (h0 : Nat) (gi_7 : th_i) (y7_1 : Int32) (k_7 : th_i → Int32 → th_i) (gi_57 : th_i) : th_i :=
  let w57_0 : Int32 := gi_57 h0 3
  let x15 : Int32 := y7_1 + 1
  k_7 gi_57 x15
noncomputable def f_X6_draw_7 (τ : th_t) (Z : th_Zt) (gi : th_i) (gr : th_r) (h0 : Nat) : Nat → th_i → Int32 → th_i
  | 0, gi_7, y7_1 => (gi_7)
  | n7 + 1, gi_7, y7_1 =>
    let w7_0 : Int32 := gi_7 h0 3
    let q16 : Nat := (gr h0 0).getD 0
    let x17 : Int32 := gi_7 q16 6
    if x17 ≤ y7_1 then (
      f_X6_draw_65 τ Z gi gr h0 ((16 - (0 : Int32).toInt).toNat + 1) gi_7 0) else (
      let q21 : Nat := (gr h0 1).getD 0
      let q23 : Nat := (gr q16 4).getD 0
      let x25 : Int32 := F_X1_buoyOf τ Z gi_7 gr q23 y7_1
      let gi26 : th_i := va_up gi_7 q21 (upd (gi_7 q21) y7_1.toNatClampNeg x25)
      if x25 = ((-1) : Int32) then (
        f_X6_draw_57 τ Z gi gr h0 gi_7 y7_1 (f_X6_draw_7 τ Z gi gr h0 n7) gi26) else (
        let x34 : Int32 := 1 <<< (y7_1 &&& 31)
        let x35 : Int32 := w7_0 ||| x34
        let gi36 : th_i := va_up gi26 h0 (upd (gi26 h0) 3 x35)
        f_X6_draw_57 τ Z gi gr h0 gi_7 y7_1 (f_X6_draw_7 τ Z gi gr h0 n7) gi36))
noncomputable def F_X6_draw (τ : th_t) (Z : th_Zt) (gi : th_i) (gr : th_r) (h0 : Nat) : th_i :=
  let gi40 : th_i := va_up gi h0 (upd (gi h0) 3 0)
  f_X6_draw_7 τ Z gi gr h0 ((16 - (0 : Int32).toInt).toNat + 1) gi40 0
set_option maxHeartbeats 8000000 in
set_option maxRecDepth 100000 in
theorem k_X6_draw (l : Launch) (D : va_G) (cA : Nat → ClassId) (Z : th_Zt) (τ : th_t) (gi : th_i) (gr : th_r) (sz : Nat) (h0 : Nat) (t_h0 : τ h0 = 6) : Met l yX6_draw wsX6_draw ({ frames := 4, cells := 0, slots := 0, locals := 88 }) (va_Pc [.ref h0] (th_Pre D cA Z τ gi gr sz)) (va_Qv (fun (u : th_i × th_r) => th_Mod [603, 2800, 2900] τ gi gr u.1 u.2 ∧ u.2 = gr ∧ (F_X6_draw τ Z gi gr h0 = u.1)) (fun (u : th_i × th_r) t => th_H D cA τ u.1 u.2 t.heap) (th_A τ sz)) 0 0 (th_A τ sz) := by
  refine Met.ofW (cc := cX6_draw) (maxL := 2) (ret := none) (by decide) rfl ?_
  intro p e s m args below meth c s₁ B hml hv
  obtain ⟨rfl, hsz, hH, hK, hN, hZ⟩ := hv
  have hx := B.exec
  have hb := B.bytes
  have hr := B.returns
  have hts := atoms_spec (ws := wsX6_draw) B.pre
  have hown : s.vm.findClass RX6 = some m.cls := findClass_of_methodNamed B.named
  have hlocks := B.notSynchronized
  subst hsz
  have hM : th_Mod [603, 2800, 2900] τ gi gr gi gr := th_Mod.rf
  have J65 : ∀ (n65 : Nat) (gi_65 : th_i) (H : Heap) (locs : List Loc) (ls : Array Slot) (y65_1 : Int32), (16 - y65_1.toInt).toNat < n65 → th_H D cA τ gi_65 gr H → va_S (th_A τ s.heap.size) s.heap H locs → th_Mod [603, 2800, 2900] τ gi gr gi_65 gr → lv_has ls 2 [(0, .ref h0), (1, .int y65_1)] → rg 0 16 y65_1 → F_X6_draw τ Z gi gr h0 = f_X6_draw_65 τ Z gi gr h0 n65 gi_65 y65_1 → W p l e (headSpec wsX6_draw ({ frames := 4, cells := 0, slots := 0, locals := 88 })).room s m [.ref h0].toArray below meth c H locs 0 0 (MQ below (va_Qv (fun (u : th_i × th_r) => th_Mod [603, 2800, 2900] τ gi gr u.1 u.2 ∧ u.2 = gr ∧ (F_X6_draw τ Z gi gr h0 = u.1)) (fun (u : th_i × th_r) t => th_H D cA τ u.1 u.2 t.heap) (th_A τ s.heap.size)) [.ref h0].toArray s 0 0 (th_A τ s.heap.size)) (F0 m 65 ls []) := by
    intro n65
    induction n65 with
    | zero =>
      intro gi_65 H locs ls y65_1 hn
      exact absurd hn (Nat.not_lt_zero _)
    | succ n65 ih65 =>
      intro gi_65 H locs ls y65_1 hn65 hH hS hM hl fy65_1 hF
      refine lv_iload_n hx hb dX6_draw_65 rfl (lv_at hl 1 rfl) ?_
      refine lv_bipush (v := 16) hx hb dX6_draw_66 bp_16 ?_
      refine lv_icmp_ge (tgt := 96) hx hb dX6_draw_68 (th_eqI rfl) (fun c1 => ?_) (fun c1 => ?_)
      · skip
        have f2 : rg 16 16 y65_1 := rg_w (rg_le rgc_16 fy65_1 c1).2 (th_leI rfl) (th_leI rfl)
        exact W.vret hx hb hr (fun t ht hW => ⟨⟨(gi_65, gr), rfl, ⟨hM, rfl, (hF.trans (by simp only [↓reduceIte, f_X6_draw_65, eq_true c1]))⟩, th_Ht ht hH⟩, hS.F ht⟩) hS.2.2 dX6_draw_96
      · skip
        have f3 : rg 0 15 y65_1 := rg_w (rg_nle rgc_16 fy65_1 c1).2 (th_leI rfl) (th_leI rfl)
        refine lv_aload_n hx hb dX6_draw_71 rfl (lv_at hl 0 rfl) ?_
        obtain ⟨x4, e4⟩ : ∃ y : Int32, y = gi_65 h0 3 := ⟨_, rfl⟩
        refine th_get (ci := 5) (v := .int x4) (T := TX6) (C := RX6) (N := 4) hx hb hts (fun w h => List.mem_cons_of_mem _ (List.mem_append_left _ (List.mem_append_left _ (List.mem_append_left _ (List.mem_append_left _ (List.mem_append_left _ (List.mem_append_left _ (List.mem_append_right _ h)))))))) hown hK hH t_h0 (th_nz rfl) (thE_6 _ _ _) rfl 3 (th_ltN rfl) (hts (.fieldLink RX6 18 "BayMoorings$Rings" "left" "I") (List.mem_cons_of_mem _ (List.mem_append_left _ (List.mem_append_left _ (List.mem_append_left _ (List.mem_append_left _ (List.mem_append_left _ (List.mem_append_left _ (List.mem_append_left _ (List.mem_append_left _ (List.mem_of_getElem? (i := 0) rfl))))))))))) (fun _ h9 => h9) (th_fI e4 rfl) dX6_draw_72 ?_
        refine lv_if_eq (tgt := 96) hx hb dX6_draw_75 (th_eqI rfl) (fun c5 => ?_) (fun c5 => ?_)
        · skip
          have f6 : rg 0 0 x4 := rg_w (rg_eq (rg_any x4) rgc_0 c5).1 (th_leI rfl) (th_leI rfl)
          exact W.vret hx hb hr (fun t ht hW => ⟨⟨(gi_65, gr), rfl, ⟨hM, rfl, (hF.trans (by simp only [↓reduceIte, f_X6_draw_65, eq_false c1, ← e4, eq_true c5]))⟩, th_Ht ht hH⟩, hS.F ht⟩) hS.2.2 dX6_draw_96
        · skip
          refine lv_aload_n hx hb dX6_draw_78 rfl (lv_at hl 0 rfl) ?_
          have hA7 := th_Asub (τ := τ) hS
          refine va_callv (va_runV (As := []) (rest := []) ⟨hx, hb, hml, hown, hts⟩ (k_X6_pointAll l D cA Z τ gi_65 gr _ h0 t_h0) (cwV 0 hts gX6_draw_X6_pointAll rfl rfl rfl hd_X6_pointAll__0 ⟨Nat.le_of_ble_eq_true rfl, Nat.le_of_ble_eq_true rfl⟩) ⟨th_blind, tr_6 hK hH t_h0, (th_pre hH hK hN hZ hS hA7)⟩ rfl rfl hl.1 rfl (lv_room (Nat.le_of_ble_eq_true rfl)) dX6_draw_79 ⟨Nat.le_of_ble_eq_true rfl, Nat.le_of_ble_eq_true rfl⟩) hS (fun q _ h => hA7 q h) hA7 (fun  u t H locs ht hvm hw8 hB hz1 hk1 hS => ?_)
          try dsimp only at hw8 hB
          rw [ht] at hB
          have hH := hB
          obtain ⟨gi8, gr8⟩ := u
          try dsimp only at hw8 hH
          obtain rfl : gr = gr8 := (hw8.2.1).symm
          have hM := hM.tr hw8.1 (fun _ h => h) (th_sub rfl)
          have e9 : x4 = gi8 h0 3 := Eq.trans e4 (Eq.symm (hw8.1 h0 3 (th_nzE t_h0 rfl) (th_nmE (key := 603) t_h0 rfl rfl)).1)
          refine lv_aload_n hx hb dX6_draw_82 rfl (lv_at hl 0 rfl) ?_
          refine lv_aload_n hx hb dX6_draw_83 rfl (lv_at hl 0 rfl) ?_
          have hA10 := th_Asub (τ := τ) hS
          refine va_calli (va_runV (As := []) (rest := [.ref h0]) ⟨hx, hb, hml, hown, hts⟩ (k_X6_leastInRing l D cA Z τ gi8 gr _ h0 t_h0) (cwV 0 hts gX6_draw_X6_leastInRing rfl rfl rfl hd_X6_leastInRing__0 ⟨Nat.le_of_ble_eq_true rfl, Nat.le_of_ble_eq_true rfl⟩) ⟨th_blind, tr_6 hK hH t_h0, (th_pre hH hK hN hZ hS hA10)⟩ rfl rfl hl.1 rfl (lv_room (Nat.le_of_ble_eq_true rfl)) dX6_draw_84 ⟨Nat.le_of_ble_eq_true rfl, Nat.le_of_ble_eq_true rfl⟩) hS (fun q _ h => hA10 q h) hA10 (fun x11 u t H locs ht hvm hw11 hB hz1 hk1 hS => ?_)
          try dsimp only at hw11 hB
          rw [ht] at hB
          have hH := hB
          have hA12 := th_Asub (τ := τ) hS
          refine va_callv (va_runV (As := [.int x11]) (rest := []) ⟨hx, hb, hml, hown, hts⟩ (k_X6_takeRing l D cA Z τ gi8 gr _ h0 t_h0 x11) (cwV 1 hts gX6_draw_X6_takeRing rfl rfl rfl hd_X6_takeRing__1 ⟨Nat.le_of_ble_eq_true rfl, Nat.le_of_ble_eq_true rfl⟩) ⟨th_blind, tr_6 hK hH t_h0, (th_pre hH hK hN hZ hS hA12)⟩ rfl rfl hl.1 rfl (lv_room (Nat.le_of_ble_eq_true rfl)) dX6_draw_87 ⟨Nat.le_of_ble_eq_true rfl, Nat.le_of_ble_eq_true rfl⟩) hS (fun q _ h => hA12 q h) hA12 (fun  u t H locs ht hvm hw13 hB hz1 hk1 hS => ?_)
          try dsimp only at hw13 hB
          rw [ht] at hB
          have hH := hB
          obtain ⟨gi13, gr13⟩ := u
          try dsimp only at hw13 hH
          obtain rfl : gr = gr13 := (hw13.2.1).symm
          have hM := hM.tr hw13.1 (fun _ h => h) (th_sub rfl)
          obtain ⟨x14, e14⟩ : ∃ y : Int32, y = y65_1 + 1 := ⟨_, rfl⟩
          have f14 : rg 1 16 x14 := rg_e e14 (rg_w (rg_add f3 rgc_1 (th_leI rfl) (th_leI rfl)) (th_leI rfl) (th_leI rfl))
          refine lv_iinc (v := x14) (lv' := [(1, .int x14), (0, .ref h0)]) hx hb dX6_draw_90 hl (k := 1) rfl (by rw [e14]; rfl) (th_ltN rfl) rfl (fun ls hl => ?_)
          refine lv_goto (tgt := 65) hx hb dX6_draw_93 (th_eqI rfl) ?_
          exact ih65 gi13 _ _ _ x14 (th_up (rg_dA e14 f3 rgc_1 (th_leI rfl) (th_leI rfl)) f3 hn65 (th_ltI rfl)) hH hS hM (lv_sub hl [1, 0] rfl) (rg_w f14 (th_leI rfl) (th_leI rfl)) (hF.trans (by simp only [↓reduceIte, f_X6_draw_65, eq_false c1, ← e4, eq_false c5, hw8.2.2, hw11, hw13.2.2, ← e14]))
  have J7 : ∀ (n7 : Nat) (gi_7 : th_i) (H : Heap) (locs : List Loc) (ls : Array Slot) (y7_1 : Int32) (w7_0 : Int32), (16 - y7_1.toInt).toNat < n7 → th_H D cA τ gi_7 gr H → va_S (th_A τ s.heap.size) s.heap H locs → th_Mod [603, 2800, 2900] τ gi gr gi_7 gr → lv_has ls 2 [(0, .ref h0), (1, .int y7_1)] → rg 0 16 y7_1 → w7_0 = gi_7 h0 3 → F_X6_draw τ Z gi gr h0 = f_X6_draw_7 τ Z gi gr h0 n7 gi_7 y7_1 → W p l e (headSpec wsX6_draw ({ frames := 4, cells := 0, slots := 0, locals := 88 })).room s m [.ref h0].toArray below meth c H locs 0 0 (MQ below (va_Qv (fun (u : th_i × th_r) => th_Mod [603, 2800, 2900] τ gi gr u.1 u.2 ∧ u.2 = gr ∧ (F_X6_draw τ Z gi gr h0 = u.1)) (fun (u : th_i × th_r) t => th_H D cA τ u.1 u.2 t.heap) (th_A τ s.heap.size)) [.ref h0].toArray s 0 0 (th_A τ s.heap.size)) (F0 m 7 ls []) := by
    intro n7
    induction n7 with
    | zero =>
      intro gi_7 H locs ls y7_1 w7_0 hn
      exact absurd hn (Nat.not_lt_zero _)
    | succ n7 ih7 =>
      intro gi_7 H locs ls y7_1 w7_0 hn7 hH hS hM hl fy7_1 ew7_0 hF
      have J57 : ∀ (gi_57 : th_i) (H : Heap) (locs : List Loc) (ls : Array Slot) (w57_0 : Int32), th_H D cA τ gi_57 gr H → va_S (th_A τ s.heap.size) s.heap H locs → th_Mod [603, 2800, 2900] τ gi gr gi_57 gr → lv_has ls 2 [(0, .ref h0), (1, .int y7_1)] → rg 0 15 y7_1 → w57_0 = gi_57 h0 3 → F_X6_draw τ Z gi gr h0 = f_X6_draw_57 τ Z gi gr h0 gi_7 y7_1 (f_X6_draw_7 τ Z gi gr h0 n7) gi_57 → W p l e (headSpec wsX6_draw ({ frames := 4, cells := 0, slots := 0, locals := 88 })).room s m [.ref h0].toArray below meth c H locs 0 0 (MQ below (va_Qv (fun (u : th_i × th_r) => th_Mod [603, 2800, 2900] τ gi gr u.1 u.2 ∧ u.2 = gr ∧ (F_X6_draw τ Z gi gr h0 = u.1)) (fun (u : th_i × th_r) t => th_H D cA τ u.1 u.2 t.heap) (th_A τ s.heap.size)) [.ref h0].toArray s 0 0 (th_A τ s.heap.size)) (F0 m 57 ls []) := by
        intro gi_57 H locs ls w57_0 hH hS hM hl fy57_1 ew57_0 hF
        obtain ⟨x15, e15⟩ : ∃ y : Int32, y = y7_1 + 1 := ⟨_, rfl⟩
        have f15 : rg 1 16 x15 := rg_e e15 (rg_w (rg_add fy57_1 rgc_1 (th_leI rfl) (th_leI rfl)) (th_leI rfl) (th_leI rfl))
        refine lv_iinc (v := x15) (lv' := [(1, .int x15), (0, .ref h0)]) hx hb dX6_draw_57 hl (k := 1) rfl (by rw [e15]; rfl) (th_ltN rfl) rfl (fun ls hl => ?_)
        refine lv_goto (tgt := 7) hx hb dX6_draw_60 (th_eqI rfl) ?_
        exact ih7 gi_57 _ _ _ x15 w57_0 (th_up (rg_dA e15 fy57_1 rgc_1 (th_leI rfl) (th_leI rfl)) fy57_1 hn7 (th_ltI rfl)) hH hS hM (lv_sub hl [1, 0] rfl) (rg_w f15 (th_leI rfl) (th_leI rfl)) ew57_0 (hF.trans (by simp only [f_X6_draw_57, ← ew57_0, ← e15]))
      refine lv_iload_n hx hb dX6_draw_7 rfl (lv_at hl 1 rfl) ?_
      refine lv_aload_n hx hb dX6_draw_8 rfl (lv_at hl 0 rfl) ?_
      obtain ⟨q16, r16, t16⟩ : ∃ q, gr h0 0 = some q ∧ τ q = 1 := (thI_6 hH t_h0).1
      refine th_get (ci := 5) (v := .ref q16) (T := TX6) (C := RX6) (N := 4) hx hb hts (fun w h => List.mem_cons_of_mem _ (List.mem_append_left _ (List.mem_append_left _ (List.mem_append_left _ (List.mem_append_left _ (List.mem_append_left _ (List.mem_append_left _ (List.mem_append_right _ h)))))))) hown hK hH t_h0 (th_nz rfl) (thE_6 _ _ _) rfl 0 (th_ltN rfl) (hts (.fieldLink RX6 22 "BayMoorings$Rings" "bay" "LBayMoorings$Bay;") (List.mem_cons_of_mem _ (List.mem_append_left _ (List.mem_append_left _ (List.mem_append_left _ (List.mem_append_left _ (List.mem_append_left _ (List.mem_append_left _ (List.mem_append_left _ (List.mem_append_left _ (List.mem_of_getElem? (i := 1) rfl))))))))))) (fun _ h9 => h9) (th_fR r16 rfl) dX6_draw_9 ?_
      obtain ⟨x17, e17⟩ : ∃ y : Int32, y = gi_7 q16 6 := ⟨_, rfl⟩
      refine th_get (ci := 0) (v := .int x17) (T := TX0) (C := RX0) (N := 9) hx hb hts (fun w h => List.mem_cons_of_mem _ (List.mem_append_left _ (List.mem_append_left _ (List.mem_append_left _ (List.mem_append_left _ (List.mem_append_left _ (List.mem_append_right _ h))))))) hown hK hH t16 (th_nz rfl) (thE_1 _ _ _) rfl 6 (th_ltN rfl) (hts (.fieldLink RX6 30 "BayMoorings$Bay" "boatCount" "I") (List.mem_cons_of_mem _ (List.mem_append_left _ (List.mem_append_left _ (List.mem_append_left _ (List.mem_append_left _ (List.mem_append_left _ (List.mem_append_left _ (List.mem_append_left _ (List.mem_append_left _ (List.mem_of_getElem? (i := 2) rfl))))))))))) (fun _ h9 => h9) (th_fI e17 rfl) dX6_draw_12 ?_
      have f17 : rg 0 16 x17 := rg_e e17 ((thI_1 hH t16).2.2.2.2.2.2)
      refine lv_icmp_ge (tgt := 63) hx hb dX6_draw_15 (th_eqI rfl) (fun c18 => ?_) (fun c18 => ?_)
      · skip
        refine lv_iconst (v := 0) hx hb dX6_draw_63 ic_0 ?_
        refine lv_istore_n (i := 1) (lv' := [(1, .int 0), (0, .ref h0)]) hx hb dX6_draw_64 rfl hl (th_ltN rfl) rfl (fun ls hl => ?_)
        exact J65 _ gi_7 _ _ _ 0 (Nat.lt_add_one _) hH hS hM (lv_sub hl [1, 0] rfl) (rg_w rgc_0 (th_leI rfl) (th_leI rfl)) (hF.trans (by simp only [↓reduceIte, f_X6_draw_7, ← ew7_0, r16, Option.getD_some, ← e17, eq_true c18]))
      · skip
        have f19 : rg 1 16 x17 := rg_w (rg_nle f17 fy7_1 c18).1 (th_leI rfl) (th_leI rfl)
        have f20 : rg 0 15 y7_1 := rg_w (rg_nle f17 fy7_1 c18).2 (th_leI rfl) (th_leI rfl)
        refine lv_aload_n hx hb dX6_draw_18 rfl (lv_at hl 0 rfl) ?_
        obtain ⟨q21, r21, t21⟩ : ∃ q, gr h0 1 = some q ∧ τ q = 28 := (thI_6 hH t_h0).2.1
        refine th_get (ci := 5) (v := .ref q21) (T := TX6) (C := RX6) (N := 4) hx hb hts (fun w h => List.mem_cons_of_mem _ (List.mem_append_left _ (List.mem_append_left _ (List.mem_append_left _ (List.mem_append_left _ (List.mem_append_left _ (List.mem_append_left _ (List.mem_append_right _ h)))))))) hown hK hH t_h0 (th_nz rfl) (thE_6 _ _ _) rfl 1 (th_ltN rfl) (hts (.fieldLink RX6 9 "BayMoorings$Rings" "gets" "[I") (List.mem_cons_of_mem _ (List.mem_append_left _ (List.mem_append_left _ (List.mem_append_left _ (List.mem_append_left _ (List.mem_append_left _ (List.mem_append_left _ (List.mem_append_left _ (List.mem_append_left _ (List.mem_of_getElem? (i := 3) rfl))))))))))) (fun _ h9 => h9) (th_fR r21 rfl) dX6_draw_19 ?_
        refine lv_iload_n hx hb dX6_draw_22 rfl (lv_at hl 1 rfl) ?_
        refine lv_aload_n hx hb dX6_draw_23 rfl (lv_at hl 0 rfl) ?_
        refine th_get (ci := 5) (v := .ref q16) (T := TX6) (C := RX6) (N := 4) hx hb hts (fun w h => List.mem_cons_of_mem _ (List.mem_append_left _ (List.mem_append_left _ (List.mem_append_left _ (List.mem_append_left _ (List.mem_append_left _ (List.mem_append_left _ (List.mem_append_right _ h)))))))) hown hK hH t_h0 (th_nz rfl) (thE_6 _ _ _) rfl 0 (th_ltN rfl) (hts (.fieldLink RX6 22 "BayMoorings$Rings" "bay" "LBayMoorings$Bay;") (List.mem_cons_of_mem _ (List.mem_append_left _ (List.mem_append_left _ (List.mem_append_left _ (List.mem_append_left _ (List.mem_append_left _ (List.mem_append_left _ (List.mem_append_left _ (List.mem_append_left _ (List.mem_of_getElem? (i := 1) rfl))))))))))) (fun _ h9 => h9) (th_fR r16 rfl) dX6_draw_24 ?_
        obtain ⟨q23, r23, t23⟩ : ∃ q, gr q16 4 = some q ∧ τ q = 2 := (thI_1 hH t16).2.2.2.2.1
        refine th_get (ci := 0) (v := .ref q23) (T := TX0) (C := RX0) (N := 9) hx hb hts (fun w h => List.mem_cons_of_mem _ (List.mem_append_left _ (List.mem_append_left _ (List.mem_append_left _ (List.mem_append_left _ (List.mem_append_left _ (List.mem_append_right _ h))))))) hown hK hH t16 (th_nz rfl) (thE_1 _ _ _) rfl 4 (th_ltN rfl) (hts (.fieldLink RX6 35 "BayMoorings$Bay" "berths" "LBayMoorings$Berths;") (List.mem_cons_of_mem _ (List.mem_append_left _ (List.mem_append_left _ (List.mem_append_left _ (List.mem_append_left _ (List.mem_append_left _ (List.mem_append_left _ (List.mem_append_left _ (List.mem_append_left _ (List.mem_of_getElem? (i := 4) rfl))))))))))) (fun _ h9 => h9) (th_fR r23 rfl) dX6_draw_27 ?_
        refine lv_iload_n hx hb dX6_draw_30 rfl (lv_at hl 1 rfl) ?_
        have hA24 := th_Asub (τ := τ) hS
        refine va_calli (va_runV (As := [.int y7_1]) (rest := [.int y7_1, .ref q21]) ⟨hx, hb, hml, hown, hts⟩ (k_X1_buoyOf l D cA Z τ gi_7 gr _ q23 t23 y7_1) (cwV 1 hts gX6_draw_X1_buoyOf rfl rfl rfl hd_X1_buoyOf__1 ⟨Nat.le_of_ble_eq_true rfl, Nat.le_of_ble_eq_true rfl⟩) ⟨th_blind, tr_2 hK hH t23, (th_pre hH hK hN hZ hS hA24)⟩ rfl rfl hl.1 rfl (lv_room (Nat.le_of_ble_eq_true rfl)) dX6_draw_31 ⟨Nat.le_of_ble_eq_true rfl, Nat.le_of_ble_eq_true rfl⟩) hS (fun q _ h => hA24 q h) hA24 (fun x25 u t H locs ht hvm hw25 hB hz1 hk1 hS => ?_)
        try dsimp only at hw25 hB
        rw [ht] at hB
        have hH := hB
        refine th_iast hx hb hK hH hS t21 (th_nz rfl) (Or.inl (th_nzE t21 rfl)) 0 (fun _ => thE_28 _ _ _) rfl (rg_in (n := 16) f20 (th_leI rfl) (th_ltI rfl)) (trivial) dX6_draw_34 (fun gi26 H locs hu26 ho26 hH hS => ?_)
        have eg26 : gi26 = va_up gi_7 q21 (upd (gi_7 q21) y7_1.toNatClampNeg x25) := th_upE hu26 ho26
        have e27 : w7_0 = gi26 h0 3 := Eq.trans ew7_0 (Eq.symm (ho26 _ _ (Or.inl (th_ne t_h0 t21 (th_nz rfl)))))
        have e28 : x17 = gi26 q16 6 := Eq.trans e17 (Eq.symm (ho26 _ _ (Or.inl (th_ne t16 t21 (th_nz rfl)))))
        have hM := hM.i t21 (th_mem (a := 2800) rfl) ho26
        refine lv_aload_n hx hb dX6_draw_35 rfl (lv_at hl 0 rfl) ?_
        refine th_get (ci := 5) (v := .ref q21) (T := TX6) (C := RX6) (N := 4) hx hb hts (fun w h => List.mem_cons_of_mem _ (List.mem_append_left _ (List.mem_append_left _ (List.mem_append_left _ (List.mem_append_left _ (List.mem_append_left _ (List.mem_append_left _ (List.mem_append_right _ h)))))))) hown hK hH t_h0 (th_nz rfl) (thE_6 _ _ _) rfl 1 (th_ltN rfl) (hts (.fieldLink RX6 9 "BayMoorings$Rings" "gets" "[I") (List.mem_cons_of_mem _ (List.mem_append_left _ (List.mem_append_left _ (List.mem_append_left _ (List.mem_append_left _ (List.mem_append_left _ (List.mem_append_left _ (List.mem_append_left _ (List.mem_append_left _ (List.mem_of_getElem? (i := 3) rfl))))))))))) (fun _ h9 => h9) (th_fR r21 rfl) dX6_draw_36 ?_
        refine lv_iload_n hx hb dX6_draw_39 rfl (lv_at hl 1 rfl) ?_
        refine th_iald hx hb hK hH t21 (th_nz rfl) 0 (thE_28 _ _ _) rfl (rg_in (n := 16) f20 (th_leI rfl) (th_ltI rfl)) dX6_draw_40 ?_
        rw [← hu26.symm]
        refine lv_iconst (v := (-1)) hx hb dX6_draw_41 ic_m1 ?_
        refine lv_icmp_eq (tgt := 57) hx hb dX6_draw_42 (th_eqI rfl) (fun c31 => ?_) (fun c31 => ?_)
        · skip
          have f32 : rg (-1) (-1) x25 := rg_w (rg_eq (rg_any x25) rgc_m1 c31).1 (th_leI rfl) (th_leI rfl)
          exact J57 gi26 _ _ _ w7_0 hH hS hM (lv_sub hl [0, 1] rfl) f20 e27 (hF.trans (by simp only [↓reduceIte, f_X6_draw_7, ← ew7_0, r16, Option.getD_some, ← e17, eq_false c18, r21, r23, hw25, ← eg26, eq_true c31]))
        · skip
          refine lv_aload_n hx hb dX6_draw_45 rfl (lv_at hl 0 rfl) ?_
          refine lv_dup hx hb dX6_draw_46 rfl ?_
          refine th_get (ci := 5) (v := .int w7_0) (T := TX6) (C := RX6) (N := 4) hx hb hts (fun w h => List.mem_cons_of_mem _ (List.mem_append_left _ (List.mem_append_left _ (List.mem_append_left _ (List.mem_append_left _ (List.mem_append_left _ (List.mem_append_left _ (List.mem_append_right _ h)))))))) hown hK hH t_h0 (th_nz rfl) (thE_6 _ _ _) rfl 3 (th_ltN rfl) (hts (.fieldLink RX6 18 "BayMoorings$Rings" "left" "I") (List.mem_cons_of_mem _ (List.mem_append_left _ (List.mem_append_left _ (List.mem_append_left _ (List.mem_append_left _ (List.mem_append_left _ (List.mem_append_left _ (List.mem_append_left _ (List.mem_append_left _ (List.mem_of_getElem? (i := 0) rfl))))))))))) (fun _ h9 => h9) (th_fI e27 rfl) dX6_draw_47 ?_
          refine lv_iconst (v := 1) hx hb dX6_draw_50 ic_1 ?_
          refine lv_iload_n hx hb dX6_draw_51 rfl (lv_at hl 1 rfl) ?_
          refine lv_ishl hx hb dX6_draw_52 ?_
          refine lv_topi (fun x34 e34 => ?_)
          refine lv_ior hx hb dX6_draw_53 ?_
          refine lv_topi (fun x35 e35 => ?_)
          refine th_put (ci := 5) (v := .int x35) (T := TX6) (C := RX6) (N := 4) (ty := .int) (gi' := va_up gi26 h0 (upd (gi26 h0) 3 x35)) (gr' := gr) hx hb hts (fun w h => List.mem_cons_of_mem _ (List.mem_append_left _ (List.mem_append_left _ (List.mem_append_left _ (List.mem_append_left _ (List.mem_append_left _ (List.mem_append_left _ (List.mem_append_right _ h)))))))) tyX6 tyX6_ok nmX6 hown hK hH hS t_h0 (th_nz rfl) (Or.inl (th_nzE t_h0 rfl)) rfl rfl 3 (th_ltN rfl) (hts (.fieldLink RX6 18 "BayMoorings$Rings" "left" "I") (List.mem_cons_of_mem _ (List.mem_append_left _ (List.mem_append_left _ (List.mem_append_left _ (List.mem_append_left _ (List.mem_append_left _ (List.mem_append_left _ (List.mem_append_left _ (List.mem_append_left _ (List.mem_of_getElem? (i := 0) rfl))))))))))) (fun _ h9 => h9) rfl (by decide +kernel) rfl rfl (Nat.le_of_ble_eq_true rfl) (by rw [va_up_self]; rfl) (by rw [va_up_self]; show (∃ q, gr h0 0 = some q ∧ τ q = 1) ∧ (∃ q, gr h0 1 = some q ∧ τ q = 28) ∧ (∃ q, gr h0 2 = some q ∧ τ q = 29); exact ⟨(thI_6 hH t_h0).1, (thI_6 hH t_h0).2.1, (thI_6 hH t_h0).2.2⟩) (fun b hb => ⟨va_up_ne _ _ hb, rfl⟩) dX6_draw_54 (fun H locs hH hS => ?_)
          obtain ⟨gi36, eg36⟩ : ∃ g, g = va_up gi26 h0 (upd (gi26 h0) 3 x35) := ⟨_, rfl⟩
          rw [← eg36] at hH
          have hu36 : gi36 h0 3 = x35 := (th_uI eg36).1
          have ho36 : ∀ b j, b ≠ h0 ∨ j ≠ 3 → gi36 b j = gi26 b j := (th_uI eg36).2
          have e38 : x17 = gi36 q16 6 := Eq.trans e28 (Eq.symm (ho36 _ _ (Or.inl (th_ne t16 t_h0 (th_nz rfl)))))
          have e39 : x25 = gi36 q21 (y7_1.toNatClampNeg) := Eq.trans hu26.symm (Eq.symm (ho36 _ _ (Or.inl (th_ne t21 t_h0 (th_nz rfl)))))
          have hM := hM.i t_h0 (th_mem (a := 603) rfl) ho36
          exact J57 gi36 _ _ _ x35 hH hS hM (lv_sub hl [0, 1] rfl) f20 hu36.symm (hF.trans (by simp only [↓reduceIte, f_X6_draw_7, ← ew7_0, r16, Option.getD_some, ← e17, eq_false c18, r21, r23, hw25, ← eg26, eq_false c31, ← e34, ← e35, ← eg36]))
  have hS : va_S (th_A τ s.heap.size) s.heap s.heap [] := va_S.rf
  have hl := lv_entry ([.ref h0]) (n := 2) (Nat.le_of_ble_eq_true rfl)
  rw [lg_entry_eq]
  generalize (lg_sl ([.ref h0]) ++ List.replicate (2 - (lg_sl ([.ref h0])).length) Slot.unset).toArray = ls at hl ⊢
  have hl : lv_has ls 2 [(0, .ref h0)] := hl
  have hF : F_X6_draw τ Z gi gr h0 = F_X6_draw τ Z gi gr h0 := rfl
  refine lv_aload_n hx hb dX6_draw_0 rfl (lv_at hl 0 rfl) ?_
  refine lv_iconst (v := 0) hx hb dX6_draw_1 ic_0 ?_
  refine th_put (ci := 5) (v := .int 0) (T := TX6) (C := RX6) (N := 4) (ty := .int) (gi' := va_up gi h0 (upd (gi h0) 3 0)) (gr' := gr) hx hb hts (fun w h => List.mem_cons_of_mem _ (List.mem_append_left _ (List.mem_append_left _ (List.mem_append_left _ (List.mem_append_left _ (List.mem_append_left _ (List.mem_append_left _ (List.mem_append_right _ h)))))))) tyX6 tyX6_ok nmX6 hown hK hH hS t_h0 (th_nz rfl) (Or.inl (th_nzE t_h0 rfl)) rfl rfl 3 (th_ltN rfl) (hts (.fieldLink RX6 18 "BayMoorings$Rings" "left" "I") (List.mem_cons_of_mem _ (List.mem_append_left _ (List.mem_append_left _ (List.mem_append_left _ (List.mem_append_left _ (List.mem_append_left _ (List.mem_append_left _ (List.mem_append_left _ (List.mem_append_left _ (List.mem_of_getElem? (i := 0) rfl))))))))))) (fun _ h9 => h9) rfl (by decide +kernel) rfl rfl (Nat.le_of_ble_eq_true rfl) (by rw [va_up_self]; rfl) (by rw [va_up_self]; show (∃ q, gr h0 0 = some q ∧ τ q = 1) ∧ (∃ q, gr h0 1 = some q ∧ τ q = 28) ∧ (∃ q, gr h0 2 = some q ∧ τ q = 29); exact ⟨(thI_6 hH t_h0).1, (thI_6 hH t_h0).2.1, (thI_6 hH t_h0).2.2⟩) (fun b hb => ⟨va_up_ne _ _ hb, rfl⟩) dX6_draw_2 (fun H locs hH hS => ?_)
  obtain ⟨gi40, eg40⟩ : ∃ g, g = va_up gi h0 (upd (gi h0) 3 0) := ⟨_, rfl⟩
  rw [← eg40] at hH
  have hu40 : gi40 h0 3 = 0 := (th_uI eg40).1
  have ho40 : ∀ b j, b ≠ h0 ∨ j ≠ 3 → gi40 b j = gi b j := (th_uI eg40).2
  have hM := hM.i t_h0 (th_mem (a := 603) rfl) ho40
  refine lv_iconst (v := 0) hx hb dX6_draw_5 ic_0 ?_
  refine lv_istore_n (i := 1) (lv' := [(1, .int 0), (0, .ref h0)]) hx hb dX6_draw_6 rfl hl (th_ltN rfl) rfl (fun ls hl => ?_)
  exact J7 _ gi40 _ _ _ 0 0 (Nat.lt_add_one _) hH hS hM (lv_sub hl [1, 0] rfl) (rg_w rgc_0 (th_leI rfl) (th_leI rfl)) hu40.symm (hF.trans (by simp only [F_X6_draw, ← eg40]))
end
