noncomputable def f_X10_placeOf_2 (τ : th_t) (Z : th_Zt) (gi : th_i) (gr : th_r) (h0 : Nat) (p1 : Int32) : Nat → Int32 → Int32
  | 0, y2_2 => 0
  | n2 + 1, y2_2 =>
    let x1 : Int32 := gi h0 2
    if x1 ≤ y2_2 then (
      (-1)) else (
      let q5 : Nat := (gr h0 1).getD 0
      let x6 : Int32 := gi q5 y2_2.toNatClampNeg
      if x6 = p1 then (
        y2_2) else (
        let x8 : Int32 := y2_2 + 1
        (f_X10_placeOf_2 τ Z gi gr h0 p1 n2) x8))
noncomputable def F_X10_placeOf (τ : th_t) (Z : th_Zt) (gi : th_i) (gr : th_r) (h0 : Nat) (p1 : Int32) : Int32 :=
  f_X10_placeOf_2 τ Z gi gr h0 p1 ((10 - (0 : Int32).toInt).toNat + 1) 0
set_option maxHeartbeats 8000000 in
set_option maxRecDepth 100000 in
theorem k_X10_placeOf (l : Launch) (D : va_G) (cA : Nat → ClassId) (Z : th_Zt) (τ : th_t) (gi : th_i) (gr : th_r) (sz : Nat) (h0 : Nat) (t_h0 : τ h0 = 10) (p1 : Int32) : Met l yX10_placeOf wsX10_placeOf ({ frames := 0, cells := 0, slots := 0, locals := 0 }) (va_Pc [.ref h0, .int p1] (th_Pre D cA Z τ gi gr sz)) (va_Qi (fun (r : Int32) (_ : Unit) => (F_X10_placeOf τ Z gi gr h0 p1 = r)) (fun (_ : Unit) t => th_H D cA τ gi gr t.heap) (th_A τ sz)) 0 0 (th_A τ sz) := by
  refine Met.ofW (cc := cX10_placeOf) (maxL := 3) (ret := (some .int)) (by decide) rfl ?_
  intro p e s m args below meth c s₁ B hml hv
  obtain ⟨rfl, hsz, hH, hK, hN, hZ⟩ := hv
  have hx := B.exec
  have hb := B.bytes
  have hr := B.returns
  have hts := atoms_spec (ws := wsX10_placeOf) B.pre
  have hown : s.vm.findClass RX10 = some m.cls := findClass_of_methodNamed B.named
  have hlocks := B.notSynchronized
  subst hsz
  have J2 : ∀ (n2 : Nat) (H : Heap) (locs : List Loc) (ls : Array Slot) (y2_2 : Int32), (10 - y2_2.toInt).toNat < n2 → th_H D cA τ gi gr H → va_S (th_A τ s.heap.size) s.heap H locs → lv_has ls 3 [(0, .ref h0), (1, .int p1), (2, .int y2_2)] → rg 0 10 y2_2 → F_X10_placeOf τ Z gi gr h0 p1 = f_X10_placeOf_2 τ Z gi gr h0 p1 n2 y2_2 → W p l e (headSpec wsX10_placeOf ({ frames := 0, cells := 0, slots := 0, locals := 0 })).room s m [.ref h0, .int p1].toArray below meth c H locs 0 0 (MQ below (va_Qi (fun (r : Int32) (_ : Unit) => (F_X10_placeOf τ Z gi gr h0 p1 = r)) (fun (_ : Unit) t => th_H D cA τ gi gr t.heap) (th_A τ s.heap.size)) [.ref h0, .int p1].toArray s 0 0 (th_A τ s.heap.size)) (F0 m 2 ls []) := by
    intro n2
    induction n2 with
    | zero =>
      intro H locs ls y2_2 hn
      exact absurd hn (Nat.not_lt_zero _)
    | succ n2 ih2 =>
      intro H locs ls y2_2 hn2 hH hS hl fy2_2 hF
      refine lv_iload_n hx hb dX10_placeOf_2 rfl (lv_at hl 2 rfl) ?_
      refine lv_aload_n hx hb dX10_placeOf_3 rfl (lv_at hl 0 rfl) ?_
      obtain ⟨x1, e1⟩ : ∃ y : Int32, y = gi h0 2 := ⟨_, rfl⟩
      refine th_get (ci := 9) (v := .int x1) (T := TX10) (C := RX10) (N := 3) hx hb hts (fun w h => List.mem_cons_of_mem _ (List.mem_append_right _ h)) hown hK hH t_h0 (th_nz rfl) rfl rfl 2 (th_ltN rfl) (hts (.fieldLink RX10 15 "BayMoorings$WaitingList" "size" "I") (List.mem_cons_of_mem _ (List.mem_append_left _ (List.mem_of_getElem? (i := 0) rfl)))) (fun _ h9 => h9) (th_fI e1 rfl) dX10_placeOf_4 ?_
      have f1 : rg 0 10 x1 := rg_e e1 ((hH.at t_h0 (th_nz rfl)).2.2.2)
      refine lv_icmp_ge (tgt := 28) hx hb dX10_placeOf_7 (th_eqI rfl) (fun c2 => ?_) (fun c2 => ?_)
      · skip
        refine lv_iconst (v := (-1)) hx hb dX10_placeOf_28 ic_m1 ?_
        exact W.iret (v := (-1)) hx hb hr (fun t ht hW => ⟨⟨(-1), (), rfl, (hF.trans (by simp only [↓reduceIte, f_X10_placeOf_2, ← e1, eq_true c2])), th_Ht ht hH⟩, hS.F ht⟩) hS.2.2 dX10_placeOf_29
      · skip
        have f3 : rg 1 10 x1 := rg_w (rg_nle f1 fy2_2 c2).1 (th_leI rfl) (th_leI rfl)
        have f4 : rg 0 9 y2_2 := rg_w (rg_nle f1 fy2_2 c2).2 (th_leI rfl) (th_leI rfl)
        refine lv_aload_n hx hb dX10_placeOf_10 rfl (lv_at hl 0 rfl) ?_
        obtain ⟨q5, r5, t5⟩ : ∃ q, gr h0 1 = some q ∧ τ q = 35 := (hH.at t_h0 (th_nz rfl)).2.2.1
        refine th_get (ci := 9) (v := .ref q5) (T := TX10) (C := RX10) (N := 3) hx hb hts (fun w h => List.mem_cons_of_mem _ (List.mem_append_right _ h)) hown hK hH t_h0 (th_nz rfl) rfl rfl 1 (th_ltN rfl) (hts (.fieldLink RX10 9 "BayMoorings$WaitingList" "queue" "[I") (List.mem_cons_of_mem _ (List.mem_append_left _ (List.mem_of_getElem? (i := 1) rfl)))) (fun _ h9 => h9) (th_fR r5 rfl) dX10_placeOf_11 ?_
        refine lv_iload_n hx hb dX10_placeOf_14 rfl (lv_at hl 2 rfl) ?_
        refine th_iald hx hb hK hH t5 (th_nz rfl) 0 rfl rfl (rg_in (n := 10) f4 (th_leI rfl) (th_ltI rfl)) dX10_placeOf_15 ?_
        refine lv_topi (fun x6 e6 => ?_)
        refine lv_iload_n hx hb dX10_placeOf_16 rfl (lv_at hl 1 rfl) ?_
        refine lv_icmp_ne (tgt := 22) hx hb dX10_placeOf_17 (th_eqI rfl) (fun c7 => ?_) (fun c7 => ?_)
        · skip
          obtain ⟨x8, e8⟩ : ∃ y : Int32, y = y2_2 + 1 := ⟨_, rfl⟩
          have f8 : rg 1 10 x8 := rg_e e8 (rg_w (rg_add f4 rgc_1 (th_leI rfl) (th_leI rfl)) (th_leI rfl) (th_leI rfl))
          refine lv_iinc (v := x8) (lv' := [(2, .int x8), (0, .ref h0), (1, .int p1)]) hx hb dX10_placeOf_22 hl (k := 2) rfl (by rw [e8]; rfl) (th_ltN rfl) rfl (fun ls hl => ?_)
          refine lv_goto (tgt := 2) hx hb dX10_placeOf_25 (th_eqI rfl) ?_
          exact ih2 _ _ _ x8 (th_up (rg_dA e8 f4 rgc_1 (th_leI rfl) (th_leI rfl)) f4 hn2 (th_ltI rfl)) hH hS (lv_sub hl [1, 2, 0] rfl) (rg_w f8 (th_leI rfl) (th_leI rfl)) (hF.trans (by simp only [↓reduceIte, f_X10_placeOf_2, ← e1, eq_false c2, r5, Option.getD_some, ← e6, eq_false c7, ← e8]))
        · skip
          refine lv_iload_n hx hb dX10_placeOf_20 rfl (lv_at hl 2 rfl) ?_
          exact W.iret (v := y2_2) hx hb hr (fun t ht hW => ⟨⟨y2_2, (), rfl, (hF.trans (by simp only [↓reduceIte, f_X10_placeOf_2, ← e1, eq_false c2, r5, Option.getD_some, ← e6, eq_true c7])), th_Ht ht hH⟩, hS.F ht⟩) hS.2.2 dX10_placeOf_21
  have hS : va_S (th_A τ s.heap.size) s.heap s.heap [] := va_S.rf
  have hl := lv_entry ([.ref h0, .int p1]) (n := 3) (Nat.le_of_ble_eq_true rfl)
  rw [lg_entry_eq]
  generalize (lg_sl ([.ref h0, .int p1]) ++ List.replicate (3 - (lg_sl ([.ref h0, .int p1])).length) Slot.unset).toArray = ls at hl ⊢
  have hl : lv_has ls 3 [(0, .ref h0), (1, .int p1)] := hl
  have hF : F_X10_placeOf τ Z gi gr h0 p1 = F_X10_placeOf τ Z gi gr h0 p1 := rfl
  refine lv_iconst (v := 0) hx hb dX10_placeOf_0 ic_0 ?_
  refine lv_istore_n (i := 2) (lv' := [(2, .int 0), (0, .ref h0), (1, .int p1)]) hx hb dX10_placeOf_1 rfl hl (th_ltN rfl) rfl (fun ls hl => ?_)
  exact J2 _ _ _ _ 0 (Nat.lt_add_one _) hH hS (lv_sub hl [1, 2, 0] rfl) (rg_w rgc_0 (th_leI rfl) (th_leI rfl)) (hF.trans (by simp only [F_X10_placeOf]))

noncomputable def F_X10_append (τ : th_t) (Z : th_Zt) (gi : th_i) (gr : th_r) (h0 : Nat) (p1 : Int32) : th_i :=
  let x1 : Int32 := gi h0 2
  if (10 : Int32) ≤ x1 then (
    (gi)) else (
    let q5 : Nat := (gr h0 1).getD 0
    let gi7 : th_i := va_up gi q5 (upd (gi q5) x1.toNatClampNeg p1)
    let x10 : Int32 := x1 + 1
    let gi11 : th_i := va_up gi7 h0 (upd (gi7 h0) 2 x10)
    (gi11))
set_option maxHeartbeats 8000000 in
set_option maxRecDepth 100000 in
theorem k_X10_append (l : Launch) (D : va_G) (cA : Nat → ClassId) (Z : th_Zt) (τ : th_t) (gi : th_i) (gr : th_r) (sz : Nat) (h0 : Nat) (t_h0 : τ h0 = 10) (p1 : Int32) : Met l yX10_append wsX10_append ({ frames := 0, cells := 0, slots := 0, locals := 0 }) (va_Pc [.ref h0, .int p1] (th_Pre D cA Z τ gi gr sz)) (va_Qv (fun (u : th_i × th_r) => th_Mod [1002, 3500] τ gi gr u.1 u.2 ∧ u.2 = gr ∧ (F_X10_append τ Z gi gr h0 p1 = u.1)) (fun (u : th_i × th_r) t => th_H D cA τ u.1 u.2 t.heap) (th_A τ sz)) 0 0 (th_A τ sz) := by
  refine Met.ofW (cc := cX10_append) (maxL := 2) (ret := none) (by decide) rfl ?_
  intro p e s m args below meth c s₁ B hml hv
  obtain ⟨rfl, hsz, hH, hK, hN, hZ⟩ := hv
  have hx := B.exec
  have hb := B.bytes
  have hr := B.returns
  have hts := atoms_spec (ws := wsX10_append) B.pre
  have hown : s.vm.findClass RX10 = some m.cls := findClass_of_methodNamed B.named
  have hlocks := B.notSynchronized
  subst hsz
  have hM : th_Mod [1002, 3500] τ gi gr gi gr := th_Mod.rf
  have hS : va_S (th_A τ s.heap.size) s.heap s.heap [] := va_S.rf
  have hl := lv_entry ([.ref h0, .int p1]) (n := 2) (Nat.le_of_ble_eq_true rfl)
  rw [lg_entry_eq]
  generalize (lg_sl ([.ref h0, .int p1]) ++ List.replicate (2 - (lg_sl ([.ref h0, .int p1])).length) Slot.unset).toArray = ls at hl ⊢
  have hl : lv_has ls 2 [(0, .ref h0), (1, .int p1)] := hl
  have hF : F_X10_append τ Z gi gr h0 p1 = F_X10_append τ Z gi gr h0 p1 := rfl
  refine lv_aload_n hx hb dX10_append_0 rfl (lv_at hl 0 rfl) ?_
  obtain ⟨x1, e1⟩ : ∃ y : Int32, y = gi h0 2 := ⟨_, rfl⟩
  refine th_get (ci := 9) (v := .int x1) (T := TX10) (C := RX10) (N := 3) hx hb hts (fun w h => List.mem_cons_of_mem _ (List.mem_append_right _ h)) hown hK hH t_h0 (th_nz rfl) rfl rfl 2 (th_ltN rfl) (hts (.fieldLink RX10 15 "BayMoorings$WaitingList" "size" "I") (List.mem_cons_of_mem _ (List.mem_append_left _ (List.mem_of_getElem? (i := 0) rfl)))) (fun _ h9 => h9) (th_fI e1 rfl) dX10_append_1 ?_
  have f1 : rg 0 10 x1 := rg_e e1 ((hH.at t_h0 (th_nz rfl)).2.2.2)
  refine lv_bipush (v := 10) hx hb dX10_append_4 bp_10 ?_
  refine lv_icmp_ge (tgt := 29) hx hb dX10_append_6 (th_eqI rfl) (fun c2 => ?_) (fun c2 => ?_)
  · skip
    have f3 : rg 10 10 x1 := rg_w (rg_le rgc_10 f1 c2).2 (th_leI rfl) (th_leI rfl)
    exact W.vret hx hb hr (fun t ht hW => ⟨⟨(gi, gr), rfl, ⟨hM, rfl, (hF.trans (by simp only [↓reduceIte, F_X10_append, ← e1, eq_true c2]))⟩, th_Ht ht hH⟩, hS.F ht⟩) hS.2.2 dX10_append_29
  · skip
    have f4 : rg 0 9 x1 := rg_w (rg_nle rgc_10 f1 c2).2 (th_leI rfl) (th_leI rfl)
    refine lv_aload_n hx hb dX10_append_9 rfl (lv_at hl 0 rfl) ?_
    obtain ⟨q5, r5, t5⟩ : ∃ q, gr h0 1 = some q ∧ τ q = 35 := (hH.at t_h0 (th_nz rfl)).2.2.1
    refine th_get (ci := 9) (v := .ref q5) (T := TX10) (C := RX10) (N := 3) hx hb hts (fun w h => List.mem_cons_of_mem _ (List.mem_append_right _ h)) hown hK hH t_h0 (th_nz rfl) rfl rfl 1 (th_ltN rfl) (hts (.fieldLink RX10 9 "BayMoorings$WaitingList" "queue" "[I") (List.mem_cons_of_mem _ (List.mem_append_left _ (List.mem_of_getElem? (i := 1) rfl)))) (fun _ h9 => h9) (th_fR r5 rfl) dX10_append_10 ?_
    refine lv_aload_n hx hb dX10_append_13 rfl (lv_at hl 0 rfl) ?_
    refine th_get (ci := 9) (v := .int x1) (T := TX10) (C := RX10) (N := 3) hx hb hts (fun w h => List.mem_cons_of_mem _ (List.mem_append_right _ h)) hown hK hH t_h0 (th_nz rfl) rfl rfl 2 (th_ltN rfl) (hts (.fieldLink RX10 15 "BayMoorings$WaitingList" "size" "I") (List.mem_cons_of_mem _ (List.mem_append_left _ (List.mem_of_getElem? (i := 0) rfl)))) (fun _ h9 => h9) (th_fI e1 rfl) dX10_append_14 ?_
    refine lv_iload_n hx hb dX10_append_17 rfl (lv_at hl 1 rfl) ?_
    refine th_iast hx hb hK hH hS t5 (th_nz rfl) (Or.inl (th_nzE t5 rfl)) 0 (fun _ => rfl) rfl (rg_in (n := 10) f4 (th_leI rfl) (th_ltI rfl)) (trivial) dX10_append_18 (fun gi7 H locs hu7 ho7 hH hS => ?_)
    have eg7 : gi7 = va_up gi q5 (upd (gi q5) x1.toNatClampNeg p1) := th_upE hu7 ho7
    have e8 : x1 = gi7 h0 2 := Eq.trans e1 (Eq.symm (ho7 _ _ (Or.inl (th_ne t_h0 t5 (th_nz rfl)))))
    have hM := hM.i t5 (th_mem (a := 3500) rfl) ho7
    refine lv_aload_n hx hb dX10_append_19 rfl (lv_at hl 0 rfl) ?_
    refine lv_dup hx hb dX10_append_20 rfl ?_
    refine th_get (ci := 9) (v := .int x1) (T := TX10) (C := RX10) (N := 3) hx hb hts (fun w h => List.mem_cons_of_mem _ (List.mem_append_right _ h)) hown hK hH t_h0 (th_nz rfl) rfl rfl 2 (th_ltN rfl) (hts (.fieldLink RX10 15 "BayMoorings$WaitingList" "size" "I") (List.mem_cons_of_mem _ (List.mem_append_left _ (List.mem_of_getElem? (i := 0) rfl)))) (fun _ h9 => h9) (th_fI e8 rfl) dX10_append_21 ?_
    refine lv_iconst (v := 1) hx hb dX10_append_24 ic_1 ?_
    refine lv_iadd hx hb dX10_append_25 ?_
    refine lv_topi (fun x10 e10 => ?_)
    have f10 : rg 1 10 x10 := rg_e e10 (rg_w (rg_add f4 rgc_1 (th_leI rfl) (th_leI rfl)) (th_leI rfl) (th_leI rfl))
    refine th_put (ci := 9) (v := .int x10) (T := TX10) (C := RX10) (N := 3) (ty := .int) (gi' := va_up gi7 h0 (upd (gi7 h0) 2 x10)) (gr' := gr) hx hb hts (fun w h => List.mem_cons_of_mem _ (List.mem_append_right _ h)) tyX10 tyX10_ok nmX10 hown hK hH hS t_h0 (th_nz rfl) (Or.inl (th_nzE t_h0 rfl)) rfl rfl 2 (th_ltN rfl) (hts (.fieldLink RX10 15 "BayMoorings$WaitingList" "size" "I") (List.mem_cons_of_mem _ (List.mem_append_left _ (List.mem_of_getElem? (i := 0) rfl)))) (fun _ h9 => h9) rfl (by decide +kernel) rfl rfl (Nat.le_of_ble_eq_true rfl) (by rw [va_up_self]; rfl) (by rw [va_up_self]; show (∃ q, gr h0 0 = some q ∧ τ q = 1) ∧ (∃ q, gr h0 1 = some q ∧ τ q = 35) ∧ rg 0 10 x10; exact ⟨(hH.at t_h0 (th_nz rfl)).2.1, (hH.at t_h0 (th_nz rfl)).2.2.1, (rg_w f10 (th_leI rfl) (th_leI rfl))⟩) (fun b hb => ⟨va_up_ne _ _ hb, rfl⟩) dX10_append_26 (fun H locs hH hS => ?_)
    obtain ⟨gi11, eg11⟩ : ∃ g, g = va_up gi7 h0 (upd (gi7 h0) 2 x10) := ⟨_, rfl⟩
    rw [← eg11] at hH
    have hu11 : gi11 h0 2 = x10 := (th_uI eg11).1
    have ho11 : ∀ b j, b ≠ h0 ∨ j ≠ 2 → gi11 b j = gi7 b j := (th_uI eg11).2
    have e13 : p1 = gi11 q5 (x1.toNatClampNeg) := Eq.trans hu7.symm (Eq.symm (ho11 _ _ (Or.inl (th_ne t5 t_h0 (th_nz rfl)))))
    have hM := hM.i t_h0 (th_mem (a := 1002) rfl) ho11
    exact W.vret hx hb hr (fun t ht hW => ⟨⟨(gi11, gr), rfl, ⟨hM, rfl, (hF.trans (by simp only [↓reduceIte, F_X10_append, ← e1, eq_false c2, r5, Option.getD_some, ← eg7, ← e10, ← eg11]))⟩, th_Ht ht hH⟩, hS.F ht⟩) hS.2.2 dX10_append_29

noncomputable def f_X10_drop_19 (τ : th_t) (Z : th_Zt) (gi : th_i) (gr : th_r) (h0 : Nat) (p1 : Int32) : Nat → th_i → Int32 → th_i
  | 0, gi_19, y19_2 => (gi_19)
  | n19 + 1, gi_19, y19_2 =>
    let w19_0 : Int32 := gi_19 h0 2
    if w19_0 ≤ y19_2 then (
      let x4 : Int32 := w19_0 - 1
      let gi5 : th_i := va_up gi_19 h0 (upd (gi_19 h0) 2 x4)
      (gi5)) else (
      let q9 : Nat := (gr h0 1).getD 0
      let x10 : Int32 := y19_2 - 1
      let x12 : Int32 := gi_19 q9 y19_2.toNatClampNeg
      let gi13 : th_i := va_up gi_19 q9 (upd (gi_19 q9) x10.toNatClampNeg x12)
      let x16 : Int32 := y19_2 + 1
      (f_X10_drop_19 τ Z gi gr h0 p1 n19) gi13 x16)
noncomputable def F_X10_drop (τ : th_t) (Z : th_Zt) (gi : th_i) (gr : th_r) (h0 : Nat) (p1 : Int32) : th_i :=
  let x17 : Int32 := gi h0 2
  let x18 : Int32 := x17 - 1
  let x20 : Int32 := F_X11_within τ Z gi gr p1 0 x18
  if x20 = (0 : Int32) then (
    (gi)) else (
    let x28 : Int32 := p1 + 1
    f_X10_drop_19 τ Z gi gr h0 p1 ((10 - x28.toInt).toNat + 1) gi x28)
set_option maxHeartbeats 8000000 in
set_option maxRecDepth 100000 in
theorem k_X10_drop (l : Launch) (D : va_G) (cA : Nat → ClassId) (Z : th_Zt) (τ : th_t) (gi : th_i) (gr : th_r) (sz : Nat) (h0 : Nat) (t_h0 : τ h0 = 10) (p1 : Int32) : Met l yX10_drop wsX10_drop ({ frames := 1, cells := 0, slots := 0, locals := 22 }) (va_Pc [.ref h0, .int p1] (th_Pre D cA Z τ gi gr sz)) (va_Qv (fun (u : th_i × th_r) => th_Mod [1002, 3500] τ gi gr u.1 u.2 ∧ u.2 = gr ∧ (F_X10_drop τ Z gi gr h0 p1 = u.1)) (fun (u : th_i × th_r) t => th_H D cA τ u.1 u.2 t.heap) (th_A τ sz)) 0 0 (th_A τ sz) := by
  refine Met.ofW (cc := cX10_drop) (maxL := 3) (ret := none) (by decide) rfl ?_
  intro p e s m args below meth c s₁ B hml hv
  obtain ⟨rfl, hsz, hH, hK, hN, hZ⟩ := hv
  have hx := B.exec
  have hb := B.bytes
  have hr := B.returns
  have hts := atoms_spec (ws := wsX10_drop) B.pre
  have hown : s.vm.findClass RX10 = some m.cls := findClass_of_methodNamed B.named
  have hlocks := B.notSynchronized
  subst hsz
  have hM : th_Mod [1002, 3500] τ gi gr gi gr := th_Mod.rf
  have J19 : ∀ (n19 : Nat) (gi_19 : th_i) (H : Heap) (locs : List Loc) (ls : Array Slot) (y19_2 : Int32) (w19_0 : Int32), (10 - y19_2.toInt).toNat < n19 → th_H D cA τ gi_19 gr H → va_S (th_A τ s.heap.size) s.heap H locs → th_Mod [1002, 3500] τ gi gr gi_19 gr → lv_has ls 3 [(0, .ref h0), (2, .int y19_2)] → rg 1 10 y19_2 → w19_0 = gi_19 h0 2 → rg 1 10 w19_0 → F_X10_drop τ Z gi gr h0 p1 = f_X10_drop_19 τ Z gi gr h0 p1 n19 gi_19 y19_2 → W p l e (headSpec wsX10_drop ({ frames := 1, cells := 0, slots := 0, locals := 22 })).room s m [.ref h0, .int p1].toArray below meth c H locs 0 0 (MQ below (va_Qv (fun (u : th_i × th_r) => th_Mod [1002, 3500] τ gi gr u.1 u.2 ∧ u.2 = gr ∧ (F_X10_drop τ Z gi gr h0 p1 = u.1)) (fun (u : th_i × th_r) t => th_H D cA τ u.1 u.2 t.heap) (th_A τ s.heap.size)) [.ref h0, .int p1].toArray s 0 0 (th_A τ s.heap.size)) (F0 m 19 ls []) := by
    intro n19
    induction n19 with
    | zero =>
      intro gi_19 H locs ls y19_2 w19_0 hn
      exact absurd hn (Nat.not_lt_zero _)
    | succ n19 ih19 =>
      intro gi_19 H locs ls y19_2 w19_0 hn19 hH hS hM hl fy19_2 ew19_0 fw19_0 hF
      refine lv_iload_n hx hb dX10_drop_19 rfl (lv_at hl 1 rfl) ?_
      refine lv_aload_n hx hb dX10_drop_20 rfl (lv_at hl 0 rfl) ?_
      refine th_get (ci := 9) (v := .int w19_0) (T := TX10) (C := RX10) (N := 3) hx hb hts (fun w h => List.mem_cons_of_mem _ (List.mem_append_right _ h)) hown hK hH t_h0 (th_nz rfl) rfl rfl 2 (th_ltN rfl) (hts (.fieldLink RX10 15 "BayMoorings$WaitingList" "size" "I") (List.mem_cons_of_mem _ (List.mem_append_left _ (List.mem_of_getElem? (i := 0) rfl)))) (fun _ h9 => h9) (th_fI ew19_0 rfl) dX10_drop_21 ?_
      refine lv_icmp_ge (tgt := 47) hx hb dX10_drop_24 (th_eqI rfl) (fun c2 => ?_) (fun c2 => ?_)
      · skip
        refine lv_aload_n hx hb dX10_drop_47 rfl (lv_at hl 0 rfl) ?_
        refine lv_dup hx hb dX10_drop_48 rfl ?_
        refine th_get (ci := 9) (v := .int w19_0) (T := TX10) (C := RX10) (N := 3) hx hb hts (fun w h => List.mem_cons_of_mem _ (List.mem_append_right _ h)) hown hK hH t_h0 (th_nz rfl) rfl rfl 2 (th_ltN rfl) (hts (.fieldLink RX10 15 "BayMoorings$WaitingList" "size" "I") (List.mem_cons_of_mem _ (List.mem_append_left _ (List.mem_of_getElem? (i := 0) rfl)))) (fun _ h9 => h9) (th_fI ew19_0 rfl) dX10_drop_49 ?_
        refine lv_iconst (v := 1) hx hb dX10_drop_52 ic_1 ?_
        refine lv_isub hx hb dX10_drop_53 ?_
        refine lv_topi (fun x4 e4 => ?_)
        have f4 : rg 0 9 x4 := rg_e e4 (rg_w (rg_sub fw19_0 rgc_1 (th_leI rfl) (th_leI rfl)) (th_leI rfl) (th_leI rfl))
        refine th_put (ci := 9) (v := .int x4) (T := TX10) (C := RX10) (N := 3) (ty := .int) (gi' := va_up gi_19 h0 (upd (gi_19 h0) 2 x4)) (gr' := gr) hx hb hts (fun w h => List.mem_cons_of_mem _ (List.mem_append_right _ h)) tyX10 tyX10_ok nmX10 hown hK hH hS t_h0 (th_nz rfl) (Or.inl (th_nzE t_h0 rfl)) rfl rfl 2 (th_ltN rfl) (hts (.fieldLink RX10 15 "BayMoorings$WaitingList" "size" "I") (List.mem_cons_of_mem _ (List.mem_append_left _ (List.mem_of_getElem? (i := 0) rfl)))) (fun _ h9 => h9) rfl (by decide +kernel) rfl rfl (Nat.le_of_ble_eq_true rfl) (by rw [va_up_self]; rfl) (by rw [va_up_self]; show (∃ q, gr h0 0 = some q ∧ τ q = 1) ∧ (∃ q, gr h0 1 = some q ∧ τ q = 35) ∧ rg 0 10 x4; exact ⟨(hH.at t_h0 (th_nz rfl)).2.1, (hH.at t_h0 (th_nz rfl)).2.2.1, (rg_w f4 (th_leI rfl) (th_leI rfl))⟩) (fun b hb => ⟨va_up_ne _ _ hb, rfl⟩) dX10_drop_54 (fun H locs hH hS => ?_)
        obtain ⟨gi5, eg5⟩ : ∃ g, g = va_up gi_19 h0 (upd (gi_19 h0) 2 x4) := ⟨_, rfl⟩
        rw [← eg5] at hH
        have hu5 : gi5 h0 2 = x4 := (th_uI eg5).1
        have ho5 : ∀ b j, b ≠ h0 ∨ j ≠ 2 → gi5 b j = gi_19 b j := (th_uI eg5).2
        have hM := hM.i t_h0 (th_mem (a := 1002) rfl) ho5
        exact W.vret hx hb hr (fun t ht hW => ⟨⟨(gi5, gr), rfl, ⟨hM, rfl, (hF.trans (by simp only [↓reduceIte, f_X10_drop_19, ← ew19_0, eq_true c2, ← e4, ← eg5]))⟩, th_Ht ht hH⟩, hS.F ht⟩) hS.2.2 dX10_drop_57
      · skip
        have f7 : rg 2 10 w19_0 := rg_w (rg_nle fw19_0 fy19_2 c2).1 (th_leI rfl) (th_leI rfl)
        have f8 : rg 1 9 y19_2 := rg_w (rg_nle fw19_0 fy19_2 c2).2 (th_leI rfl) (th_leI rfl)
        refine lv_aload_n hx hb dX10_drop_27 rfl (lv_at hl 0 rfl) ?_
        obtain ⟨q9, r9, t9⟩ : ∃ q, gr h0 1 = some q ∧ τ q = 35 := (hH.at t_h0 (th_nz rfl)).2.2.1
        refine th_get (ci := 9) (v := .ref q9) (T := TX10) (C := RX10) (N := 3) hx hb hts (fun w h => List.mem_cons_of_mem _ (List.mem_append_right _ h)) hown hK hH t_h0 (th_nz rfl) rfl rfl 1 (th_ltN rfl) (hts (.fieldLink RX10 9 "BayMoorings$WaitingList" "queue" "[I") (List.mem_cons_of_mem _ (List.mem_append_left _ (List.mem_of_getElem? (i := 1) rfl)))) (fun _ h9 => h9) (th_fR r9 rfl) dX10_drop_28 ?_
        refine lv_iload_n hx hb dX10_drop_31 rfl (lv_at hl 1 rfl) ?_
        refine lv_iconst (v := 1) hx hb dX10_drop_32 ic_1 ?_
        refine lv_isub hx hb dX10_drop_33 ?_
        refine lv_topi (fun x10 e10 => ?_)
        have f10 : rg 0 8 x10 := rg_e e10 (rg_w (rg_sub f8 rgc_1 (th_leI rfl) (th_leI rfl)) (th_leI rfl) (th_leI rfl))
        refine lv_aload_n hx hb dX10_drop_34 rfl (lv_at hl 0 rfl) ?_
        refine th_get (ci := 9) (v := .ref q9) (T := TX10) (C := RX10) (N := 3) hx hb hts (fun w h => List.mem_cons_of_mem _ (List.mem_append_right _ h)) hown hK hH t_h0 (th_nz rfl) rfl rfl 1 (th_ltN rfl) (hts (.fieldLink RX10 9 "BayMoorings$WaitingList" "queue" "[I") (List.mem_cons_of_mem _ (List.mem_append_left _ (List.mem_of_getElem? (i := 1) rfl)))) (fun _ h9 => h9) (th_fR r9 rfl) dX10_drop_35 ?_
        refine lv_iload_n hx hb dX10_drop_38 rfl (lv_at hl 1 rfl) ?_
        refine th_iald hx hb hK hH t9 (th_nz rfl) 0 rfl rfl (rg_in (n := 10) f8 (th_leI rfl) (th_ltI rfl)) dX10_drop_39 ?_
        refine lv_topi (fun x12 e12 => ?_)
        refine th_iast hx hb hK hH hS t9 (th_nz rfl) (Or.inl (th_nzE t9 rfl)) 0 (fun _ => rfl) rfl (rg_in (n := 10) f10 (th_leI rfl) (th_ltI rfl)) (trivial) dX10_drop_40 (fun gi13 H locs hu13 ho13 hH hS => ?_)
        have eg13 : gi13 = va_up gi_19 q9 (upd (gi_19 q9) x10.toNatClampNeg x12) := th_upE hu13 ho13
        have e14 : w19_0 = gi13 h0 2 := Eq.trans ew19_0 (Eq.symm (ho13 _ _ (Or.inl (th_ne t_h0 t9 (th_nz rfl)))))
        have hM := hM.i t9 (th_mem (a := 3500) rfl) ho13
        obtain ⟨x16, e16⟩ : ∃ y : Int32, y = y19_2 + 1 := ⟨_, rfl⟩
        have f16 : rg 2 10 x16 := rg_e e16 (rg_w (rg_add f8 rgc_1 (th_leI rfl) (th_leI rfl)) (th_leI rfl) (th_leI rfl))
        refine lv_iinc (v := x16) (lv' := [(2, .int x16), (0, .ref h0)]) hx hb dX10_drop_41 hl (k := 1) rfl (by rw [e16]; rfl) (th_ltN rfl) rfl (fun ls hl => ?_)
        refine lv_goto (tgt := 19) hx hb dX10_drop_44 (th_eqI rfl) ?_
        exact ih19 gi13 _ _ _ x16 w19_0 (th_up (rg_dA e16 f8 rgc_1 (th_leI rfl) (th_leI rfl)) f8 hn19 (th_ltI rfl)) hH hS hM (lv_sub hl [1, 0] rfl) (rg_w f16 (th_leI rfl) (th_leI rfl)) e14 (rg_w f7 (th_leI rfl) (th_leI rfl)) (hF.trans (by simp only [↓reduceIte, f_X10_drop_19, ← ew19_0, eq_false c2, r9, Option.getD_some, ← e10, ← e12, ← eg13, ← e16]))
  have hS : va_S (th_A τ s.heap.size) s.heap s.heap [] := va_S.rf
  have hl := lv_entry ([.ref h0, .int p1]) (n := 3) (Nat.le_of_ble_eq_true rfl)
  rw [lg_entry_eq]
  generalize (lg_sl ([.ref h0, .int p1]) ++ List.replicate (3 - (lg_sl ([.ref h0, .int p1])).length) Slot.unset).toArray = ls at hl ⊢
  have hl : lv_has ls 3 [(0, .ref h0), (1, .int p1)] := hl
  have hF : F_X10_drop τ Z gi gr h0 p1 = F_X10_drop τ Z gi gr h0 p1 := rfl
  refine lv_iload_n hx hb dX10_drop_0 rfl (lv_at hl 1 rfl) ?_
  refine lv_iconst (v := 0) hx hb dX10_drop_1 ic_0 ?_
  refine lv_aload_n hx hb dX10_drop_2 rfl (lv_at hl 0 rfl) ?_
  obtain ⟨x17, e17⟩ : ∃ y : Int32, y = gi h0 2 := ⟨_, rfl⟩
  refine th_get (ci := 9) (v := .int x17) (T := TX10) (C := RX10) (N := 3) hx hb hts (fun w h => List.mem_cons_of_mem _ (List.mem_append_right _ h)) hown hK hH t_h0 (th_nz rfl) rfl rfl 2 (th_ltN rfl) (hts (.fieldLink RX10 15 "BayMoorings$WaitingList" "size" "I") (List.mem_cons_of_mem _ (List.mem_append_left _ (List.mem_of_getElem? (i := 0) rfl)))) (fun _ h9 => h9) (th_fI e17 rfl) dX10_drop_3 ?_
  have f17 : rg 0 10 x17 := rg_e e17 ((hH.at t_h0 (th_nz rfl)).2.2.2)
  refine lv_iconst (v := 1) hx hb dX10_drop_6 ic_1 ?_
  refine lv_isub hx hb dX10_drop_7 ?_
  refine lv_topi (fun x18 e18 => ?_)
  have f18 : rg (-1) 9 x18 := rg_e e18 (rg_w (rg_sub f17 rgc_1 (th_leI rfl) (th_leI rfl)) (th_leI rfl) (th_leI rfl))
  have hA19 := th_Asub (τ := τ) hS
  refine va_calli (va_runSN (As := [.int p1, .int 0, .int x18]) (rest := []) ⟨hx, hb, hml, hown, hts⟩ (k_X11_within l D cA Z τ gi gr _ p1 0 x18) ⟨va_cnB (host := RX11) 3 hts gX10_drop_X11_within_n23 rfl rfl rfl hN.2.2.2.2.1 (hts (.initialized RX11) (List.mem_cons_of_mem _ (List.mem_append_left _ (List.mem_of_getElem? (i := 3) rfl)))) (by decide +kernel) ⟨Nat.le_of_ble_eq_true rfl, Nat.le_of_ble_eq_true rfl⟩, (hts (.static yX11_within) (List.mem_cons_of_mem _ (List.mem_append_left _ (List.mem_of_getElem? (i := 2) rfl)))), trivial⟩ ⟨th_blind, (th_pre hH hK hN hZ hS hA19)⟩ rfl rfl hl.1 rfl (lv_room (Nat.le_of_ble_eq_true rfl)) dX10_drop_8 ⟨Nat.le_of_ble_eq_true rfl, Nat.le_of_ble_eq_true rfl⟩) hS (fun q _ h => hA19 q h) hA19 (fun x20 u t H locs ht hvm hw20 hB hz1 hk1 hS => ?_)
  try dsimp only at hw20 hB
  rw [ht] at hB
  have hH := hB
  refine lv_if_ne (tgt := 15) hx hb dX10_drop_11 (th_eqI rfl) (fun c21 => ?_) (fun c21 => ?_)
  · skip
    have f22 : rg 1 1 x20 := rg_w (rg_neL hw20.1 rgc_0 c21) (th_leI rfl) (th_leI rfl)
    have g23 := hw20.2.1 c21
    have f24 : rg 0 2147483647 p1 := rg_w (rg_le rgc_0 (rg_any p1) g23.1).2 (th_leI rfl) (th_leI rfl)
    have f25 : rg 0 9 p1 := rg_w (rg_le f24 f18 g23.2).1 (th_leI rfl) (th_leI rfl)
    have f26 : rg 0 9 x18 := rg_w (rg_le f25 f18 g23.2).2 (th_leI rfl) (th_leI rfl)
    have f27 : rg 1 10 x17 := rg_back (rg_dS e18 f17 rgc_1 (th_leI rfl) (th_leI rfl)) f17 f26 (by decide) (by decide)
    refine lv_iload_n hx hb dX10_drop_15 rfl (lv_at hl 1 rfl) ?_
    refine lv_iconst (v := 1) hx hb dX10_drop_16 ic_1 ?_
    refine lv_iadd hx hb dX10_drop_17 ?_
    refine lv_topi (fun x28 e28 => ?_)
    have f28 : rg 1 10 x28 := rg_e e28 (rg_w (rg_add f25 rgc_1 (th_leI rfl) (th_leI rfl)) (th_leI rfl) (th_leI rfl))
    refine lv_istore_n (i := 2) (lv' := [(2, .int x28), (0, .ref h0), (1, .int p1)]) hx hb dX10_drop_18 rfl hl (th_ltN rfl) rfl (fun ls hl => ?_)
    exact J19 _ gi _ _ _ x28 x17 (Nat.lt_add_one _) hH hS hM (lv_sub hl [1, 0] rfl) f28 e17 f27 (hF.trans (by simp only [↓reduceIte, F_X10_drop, ← e17, ← e18, hw20.2.2.1, eq_false c21, ← e28]))
  · skip
    have f29 : rg 0 0 x20 := rg_w (rg_eq hw20.1 rgc_0 c21).1 (th_leI rfl) (th_leI rfl)
    exact W.vret hx hb hr (fun t ht hW => ⟨⟨(gi, gr), rfl, ⟨hM, rfl, (hF.trans (by simp only [↓reduceIte, F_X10_drop, ← e17, ← e18, hw20.2.2.1, eq_true c21]))⟩, th_Ht ht hH⟩, hS.F ht⟩) hS.2.2 dX10_drop_14

noncomputable def f_X10_firstFor_65 (τ : th_t) (Z : th_Zt) (gi : th_i) (gr : th_r) (h0 : Nat) (h1 : Nat) (y2_2 : Int32) (k_2 : Int32 → Int32) : Int32 :=
  let w65_0 : Int32 := gi h0 2
  let x1 : Int32 := y2_2 + 1
  k_2 x1
noncomputable def f_X10_firstFor_2 (τ : th_t) (Z : th_Zt) (gi : th_i) (gr : th_r) (h0 : Nat) (h1 : Nat) : Nat → Int32 → Int32
  | 0, y2_2 => 0
  | n2 + 1, y2_2 =>
    let x2 : Int32 := gi h0 2
    if x2 ≤ y2_2 then (
      (-1)) else (
      let q6 : Nat := (gr h0 0).getD 0
      let q7 : Nat := (gr h0 1).getD 0
      let x8 : Int32 := gi q7 y2_2.toNatClampNeg
      let r10 : Option Nat := F_X0_boatAt τ Z gi gr q6 x8
      Option.elim r10 (
        f_X10_firstFor_65 τ Z gi gr h0 h1 y2_2 (f_X10_firstFor_2 τ Z gi gr h0 h1 n2) ) (fun q11 =>
        let x12 : Int32 := gi h1 0
        let x14 : Int32 := F_X2_hasRefused τ Z gi gr q11 x12
        if x14 = (0 : Int32) then (
          let q20 : Nat := (gr q6 4).getD 0
          let x22 : Int32 := F_X0_mayLie τ Z gi gr q6 q11 h1 q20
          if x22 = (0 : Int32) then (
            f_X10_firstFor_65 τ Z gi gr h0 h1 y2_2 (f_X10_firstFor_2 τ Z gi gr h0 h1 n2) ) else (
            x8)) else (
          f_X10_firstFor_65 τ Z gi gr h0 h1 y2_2 (f_X10_firstFor_2 τ Z gi gr h0 h1 n2) )))
noncomputable def F_X10_firstFor (τ : th_t) (Z : th_Zt) (gi : th_i) (gr : th_r) (h0 : Nat) (h1 : Nat) : Int32 :=
  f_X10_firstFor_2 τ Z gi gr h0 h1 ((10 - (0 : Int32).toInt).toNat + 1) 0
set_option maxHeartbeats 8000000 in
set_option maxRecDepth 100000 in
theorem k_X10_firstFor (l : Launch) (D : va_G) (cA : Nat → ClassId) (Z : th_Zt) (τ : th_t) (gi : th_i) (gr : th_r) (sz : Nat) (h0 : Nat) (t_h0 : τ h0 = 10) (h1 : Nat) (t_h1 : τ h1 = 3) : Met l yX10_firstFor wsX10_firstFor ({ frames := 4, cells := 0, slots := 0, locals := 123 }) (va_Pc [.ref h0, .ref h1] (th_Pre D cA Z τ gi gr sz)) (va_Qi (fun (r : Int32) (_ : Unit) => (F_X10_firstFor τ Z gi gr h0 h1 = r)) (fun (_ : Unit) t => th_H D cA τ gi gr t.heap) (th_A τ sz)) 0 0 (th_A τ sz) := by
  refine Met.ofW (cc := cX10_firstFor) (maxL := 4) (ret := (some .int)) (by decide) rfl ?_
  intro p e s m args below meth c s₁ B hml hv
  obtain ⟨rfl, hsz, hH, hK, hN, hZ⟩ := hv
  have hx := B.exec
  have hb := B.bytes
  have hr := B.returns
  have hts := atoms_spec (ws := wsX10_firstFor) B.pre
  have hown : s.vm.findClass RX10 = some m.cls := findClass_of_methodNamed B.named
  have hlocks := B.notSynchronized
  subst hsz
  have J2 : ∀ (n2 : Nat) (H : Heap) (locs : List Loc) (ls : Array Slot) (y2_2 : Int32), (10 - y2_2.toInt).toNat < n2 → th_H D cA τ gi gr H → va_S (th_A τ s.heap.size) s.heap H locs → lv_has ls 4 [(0, .ref h0), (1, .ref h1), (2, .int y2_2)] → rg 0 10 y2_2 → F_X10_firstFor τ Z gi gr h0 h1 = f_X10_firstFor_2 τ Z gi gr h0 h1 n2 y2_2 → W p l e (headSpec wsX10_firstFor ({ frames := 4, cells := 0, slots := 0, locals := 123 })).room s m [.ref h0, .ref h1].toArray below meth c H locs 0 0 (MQ below (va_Qi (fun (r : Int32) (_ : Unit) => (F_X10_firstFor τ Z gi gr h0 h1 = r)) (fun (_ : Unit) t => th_H D cA τ gi gr t.heap) (th_A τ s.heap.size)) [.ref h0, .ref h1].toArray s 0 0 (th_A τ s.heap.size)) (F0 m 2 ls []) := by
    intro n2
    induction n2 with
    | zero =>
      intro H locs ls y2_2 hn
      exact absurd hn (Nat.not_lt_zero _)
    | succ n2 ih2 =>
      intro H locs ls y2_2 hn2 hH hS hl fy2_2 hF
      have J65 : ∀ (H : Heap) (locs : List Loc) (ls : Array Slot) (w65_0 : Int32), th_H D cA τ gi gr H → va_S (th_A τ s.heap.size) s.heap H locs → lv_has ls 4 [(0, .ref h0), (1, .ref h1), (2, .int y2_2)] → rg 0 9 y2_2 → w65_0 = gi h0 2 → rg 1 10 w65_0 → F_X10_firstFor τ Z gi gr h0 h1 = f_X10_firstFor_65 τ Z gi gr h0 h1 y2_2 (f_X10_firstFor_2 τ Z gi gr h0 h1 n2) → W p l e (headSpec wsX10_firstFor ({ frames := 4, cells := 0, slots := 0, locals := 123 })).room s m [.ref h0, .ref h1].toArray below meth c H locs 0 0 (MQ below (va_Qi (fun (r : Int32) (_ : Unit) => (F_X10_firstFor τ Z gi gr h0 h1 = r)) (fun (_ : Unit) t => th_H D cA τ gi gr t.heap) (th_A τ s.heap.size)) [.ref h0, .ref h1].toArray s 0 0 (th_A τ s.heap.size)) (F0 m 65 ls []) := by
        intro H locs ls w65_0 hH hS hl fy65_2 ew65_0 fw65_0 hF
        obtain ⟨x1, e1⟩ : ∃ y : Int32, y = y2_2 + 1 := ⟨_, rfl⟩
        have f1 : rg 1 10 x1 := rg_e e1 (rg_w (rg_add fy65_2 rgc_1 (th_leI rfl) (th_leI rfl)) (th_leI rfl) (th_leI rfl))
        refine lv_iinc (v := x1) (lv' := [(2, .int x1), (0, .ref h0), (1, .ref h1)]) hx hb dX10_firstFor_65 hl (k := 2) rfl (by rw [e1]; rfl) (th_ltN rfl) rfl (fun ls hl => ?_)
        refine lv_goto (tgt := 2) hx hb dX10_firstFor_68 (th_eqI rfl) ?_
        exact ih2 _ _ _ x1 (th_up (rg_dA e1 fy65_2 rgc_1 (th_leI rfl) (th_leI rfl)) fy65_2 hn2 (th_ltI rfl)) hH hS (lv_sub hl [1, 2, 0] rfl) (rg_w f1 (th_leI rfl) (th_leI rfl)) (hF.trans (by simp only [f_X10_firstFor_65, ← ew65_0, ← e1]))
      refine lv_iload_n hx hb dX10_firstFor_2 rfl (lv_at hl 2 rfl) ?_
      refine lv_aload_n hx hb dX10_firstFor_3 rfl (lv_at hl 0 rfl) ?_
      obtain ⟨x2, e2⟩ : ∃ y : Int32, y = gi h0 2 := ⟨_, rfl⟩
      refine th_get (ci := 9) (v := .int x2) (T := TX10) (C := RX10) (N := 3) hx hb hts (fun w h => List.mem_cons_of_mem _ (List.mem_append_left _ (List.mem_append_left _ (List.mem_append_left _ (List.mem_append_left _ (List.mem_append_left _ (List.mem_append_left _ (List.mem_append_right _ h)))))))) hown hK hH t_h0 (th_nz rfl) rfl rfl 2 (th_ltN rfl) (hts (.fieldLink RX10 15 "BayMoorings$WaitingList" "size" "I") (List.mem_cons_of_mem _ (List.mem_append_left _ (List.mem_append_left _ (List.mem_append_left _ (List.mem_append_left _ (List.mem_append_left _ (List.mem_append_left _ (List.mem_append_left _ (List.mem_append_left _ (List.mem_of_getElem? (i := 0) rfl))))))))))) (fun _ h9 => h9) (th_fI e2 rfl) dX10_firstFor_4 ?_
      have f2 : rg 0 10 x2 := rg_e e2 ((hH.at t_h0 (th_nz rfl)).2.2.2)
      refine lv_icmp_ge (tgt := 71) hx hb dX10_firstFor_7 (th_eqI rfl) (fun c3 => ?_) (fun c3 => ?_)
      · skip
        refine lv_iconst (v := (-1)) hx hb dX10_firstFor_71 ic_m1 ?_
        exact W.iret (v := (-1)) hx hb hr (fun t ht hW => ⟨⟨(-1), (), rfl, (hF.trans (by simp only [↓reduceIte, f_X10_firstFor_2, ← e2, eq_true c3])), th_Ht ht hH⟩, hS.F ht⟩) hS.2.2 dX10_firstFor_72
      · skip
        have f4 : rg 1 10 x2 := rg_w (rg_nle f2 fy2_2 c3).1 (th_leI rfl) (th_leI rfl)
        have f5 : rg 0 9 y2_2 := rg_w (rg_nle f2 fy2_2 c3).2 (th_leI rfl) (th_leI rfl)
        refine lv_aload_n hx hb dX10_firstFor_10 rfl (lv_at hl 0 rfl) ?_
        obtain ⟨q6, r6, t6⟩ : ∃ q, gr h0 0 = some q ∧ τ q = 1 := (hH.at t_h0 (th_nz rfl)).2.1
        refine th_get (ci := 9) (v := .ref q6) (T := TX10) (C := RX10) (N := 3) hx hb hts (fun w h => List.mem_cons_of_mem _ (List.mem_append_left _ (List.mem_append_left _ (List.mem_append_left _ (List.mem_append_left _ (List.mem_append_left _ (List.mem_append_left _ (List.mem_append_right _ h)))))))) hown hK hH t_h0 (th_nz rfl) rfl rfl 0 (th_ltN rfl) (hts (.fieldLink RX10 19 "BayMoorings$WaitingList" "bay" "LBayMoorings$Bay;") (List.mem_cons_of_mem _ (List.mem_append_left _ (List.mem_append_left _ (List.mem_append_left _ (List.mem_append_left _ (List.mem_append_left _ (List.mem_append_left _ (List.mem_append_left _ (List.mem_append_left _ (List.mem_of_getElem? (i := 1) rfl))))))))))) (fun _ h9 => h9) (th_fR r6 rfl) dX10_firstFor_11 ?_
        refine lv_aload_n hx hb dX10_firstFor_14 rfl (lv_at hl 0 rfl) ?_
        obtain ⟨q7, r7, t7⟩ : ∃ q, gr h0 1 = some q ∧ τ q = 35 := (hH.at t_h0 (th_nz rfl)).2.2.1
        refine th_get (ci := 9) (v := .ref q7) (T := TX10) (C := RX10) (N := 3) hx hb hts (fun w h => List.mem_cons_of_mem _ (List.mem_append_left _ (List.mem_append_left _ (List.mem_append_left _ (List.mem_append_left _ (List.mem_append_left _ (List.mem_append_left _ (List.mem_append_right _ h)))))))) hown hK hH t_h0 (th_nz rfl) rfl rfl 1 (th_ltN rfl) (hts (.fieldLink RX10 9 "BayMoorings$WaitingList" "queue" "[I") (List.mem_cons_of_mem _ (List.mem_append_left _ (List.mem_append_left _ (List.mem_append_left _ (List.mem_append_left _ (List.mem_append_left _ (List.mem_append_left _ (List.mem_append_left _ (List.mem_append_left _ (List.mem_of_getElem? (i := 2) rfl))))))))))) (fun _ h9 => h9) (th_fR r7 rfl) dX10_firstFor_15 ?_
        refine lv_iload_n hx hb dX10_firstFor_18 rfl (lv_at hl 2 rfl) ?_
        refine th_iald hx hb hK hH t7 (th_nz rfl) 0 rfl rfl (rg_in (n := 10) f5 (th_leI rfl) (th_ltI rfl)) dX10_firstFor_19 ?_
        refine lv_topi (fun x8 e8 => ?_)
        have hA9 := th_Asub (τ := τ) hS
        refine va_callq (va_runV (As := [.int x8]) (rest := []) ⟨hx, hb, hml, hown, hts⟩ (k_X0_boatAt l D cA Z τ gi gr _ q6 t6 x8) (cwV 1 hts gX10_firstFor_X0_boatAt rfl rfl rfl hd_X0_boatAt__1 ⟨Nat.le_of_ble_eq_true rfl, Nat.le_of_ble_eq_true rfl⟩) ⟨th_blind, th_recv hK hH t6 (ci := 0) (th_nz rfl) rfl rfl, (th_pre hH hK hN hZ hS hA9)⟩ rfl rfl hl.1 rfl (lv_room (Nat.le_of_ble_eq_true rfl)) dX10_firstFor_20 ⟨Nat.le_of_ble_eq_true rfl, Nat.le_of_ble_eq_true rfl⟩) hS (fun q _ h => hA9 q h) hA9 (fun r10 u t H locs ht hvm hw10 hB hz1 hk1 hS => ?_)
        try dsimp only at hw10 hB
        rw [ht] at hB
        have hH := hB
        refine th_astoreq_n (i := 3) (lv' := [(3, va_rf r10), (0, .ref h0), (1, .ref h1), (2, .int y2_2)]) hx hb dX10_firstFor_23 rfl hl (th_ltN rfl) rfl (fun ls hl => ?_)
        refine th_aloadq_n hx hb dX10_firstFor_24 rfl (lv_at hl 0 rfl) ?_
        refine th_ifnull (tgt := 65) hx hb dX10_firstFor_25 (th_eqI rfl) (fun z11 => ?_) (fun q11 z11 => ?_)
        · skip
          subst z11
          have hl : lv_has ls 4 [(3, .null), (0, .ref h0), (1, .ref h1), (2, .int y2_2)] := hl
          exact J65 _ _ _ x2 hH hS (lv_sub hl [1, 2, 3] rfl) f5 e2 f4 (hF.trans (by simp only [↓reduceIte, f_X10_firstFor_2, ← e2, eq_false c3, r6, Option.getD_some, r7, ← e8, hw10.2, Option.elim_none]))
        · skip
          subst z11
          have t11 := hw10.1 q11 rfl
          have hl : lv_has ls 4 [(3, .ref q11), (0, .ref h0), (1, .ref h1), (2, .int y2_2)] := hl
          refine lv_aload_n hx hb dX10_firstFor_28 rfl (lv_at hl 0 rfl) ?_
          refine lv_aload_n hx hb dX10_firstFor_29 rfl (lv_at hl 2 rfl) ?_
          obtain ⟨x12, e12⟩ : ∃ y : Int32, y = gi h1 0 := ⟨_, rfl⟩
          refine th_get (ci := 2) (v := .int x12) (T := TX3) (C := RX3) (N := 8) hx hb hts (fun w h => List.mem_cons_of_mem _ (List.mem_append_left _ (List.mem_append_left _ (List.mem_append_left _ (List.mem_append_left _ (List.mem_append_left _ (List.mem_append_right _ h))))))) hown hK hH t_h1 (th_nz rfl) rfl rfl 0 (th_ltN rfl) (hts (.fieldLink RX10 33 "BayMoorings$Buoy" "number" "I") (List.mem_cons_of_mem _ (List.mem_append_left _ (List.mem_append_left _ (List.mem_append_left _ (List.mem_append_left _ (List.mem_append_left _ (List.mem_append_left _ (List.mem_append_left _ (List.mem_append_left _ (List.mem_of_getElem? (i := 3) rfl))))))))))) (fun _ h9 => h9) (th_fI e12 rfl) dX10_firstFor_30 ?_
          have hA13 := th_Asub (τ := τ) hS
          refine va_calli (th_or3 t11 (fun t9 => va_runU (As := [.int x12]) (rest := []) ⟨hx, hb, hml, hown, hts⟩ (k_X2_hasRefused l D cA Z τ gi gr _ q11 (Or.inl t9) x12) (va_cwU 1 hts gX10_firstFor_X2_hasRefused_u38X8 rfl rfl rfl rfl (by decide +kernel) ⟨Nat.le_of_ble_eq_true rfl, Nat.le_of_ble_eq_true rfl⟩) ⟨th_blind, th_recv hK hH t9 (ci := 7) (th_nz rfl) rfl rfl, (th_pre hH hK hN hZ hS hA13)⟩ rfl rfl hl.1 rfl (lv_room (Nat.le_of_ble_eq_true rfl)) dX10_firstFor_33 ⟨Nat.le_of_ble_eq_true rfl, Nat.le_of_ble_eq_true rfl⟩) (fun t9 => va_runU (As := [.int x12]) (rest := []) ⟨hx, hb, hml, hown, hts⟩ (k_X2_hasRefused l D cA Z τ gi gr _ q11 (Or.inr (Or.inl t9)) x12) (va_cwU 1 hts gX10_firstFor_X2_hasRefused_u38X9 rfl rfl rfl rfl (by decide +kernel) ⟨Nat.le_of_ble_eq_true rfl, Nat.le_of_ble_eq_true rfl⟩) ⟨th_blind, th_recv hK hH t9 (ci := 8) (th_nz rfl) rfl rfl, (th_pre hH hK hN hZ hS hA13)⟩ rfl rfl hl.1 rfl (lv_room (Nat.le_of_ble_eq_true rfl)) dX10_firstFor_33 ⟨Nat.le_of_ble_eq_true rfl, Nat.le_of_ble_eq_true rfl⟩) (fun t9 => va_runU (As := [.int x12]) (rest := []) ⟨hx, hb, hml, hown, hts⟩ (k_X2_hasRefused l D cA Z τ gi gr _ q11 (Or.inr (Or.inr t9)) x12) (va_cwU 1 hts gX10_firstFor_X2_hasRefused_u38X4 rfl rfl rfl rfl (by decide +kernel) ⟨Nat.le_of_ble_eq_true rfl, Nat.le_of_ble_eq_true rfl⟩) ⟨th_blind, th_recv hK hH t9 (ci := 3) (th_nz rfl) rfl rfl, (th_pre hH hK hN hZ hS hA13)⟩ rfl rfl hl.1 rfl (lv_room (Nat.le_of_ble_eq_true rfl)) dX10_firstFor_33 ⟨Nat.le_of_ble_eq_true rfl, Nat.le_of_ble_eq_true rfl⟩)) hS (fun q _ h => hA13 q h) hA13 (fun x14 u t H locs ht hvm hw14 hB hz1 hk1 hS => ?_)
          try dsimp only at hw14 hB
          rw [ht] at hB
          have hH := hB
          refine lv_if_ne (tgt := 65) hx hb dX10_firstFor_36 (th_eqI rfl) (fun c15 => ?_) (fun c15 => ?_)
          · skip
            have f16 : rg 1 1 x14 := rg_w (rg_neL hw14.1 rgc_0 c15) (th_leI rfl) (th_leI rfl)
            exact J65 _ _ _ x2 hH hS (lv_sub hl [1, 2, 3] rfl) f5 e2 f4 (hF.trans (by simp only [↓reduceIte, f_X10_firstFor_2, ← e2, eq_false c3, r6, Option.getD_some, r7, ← e8, hw10.2, Option.elim_some, ← e12, hw14.2, eq_false c15]))
          · skip
            have f17 : rg 0 0 x14 := rg_w (rg_eq hw14.1 rgc_0 c15).1 (th_leI rfl) (th_leI rfl)
            refine lv_aload_n hx hb dX10_firstFor_39 rfl (lv_at hl 1 rfl) ?_
            refine th_get (ci := 9) (v := .ref q6) (T := TX10) (C := RX10) (N := 3) hx hb hts (fun w h => List.mem_cons_of_mem _ (List.mem_append_left _ (List.mem_append_left _ (List.mem_append_left _ (List.mem_append_left _ (List.mem_append_left _ (List.mem_append_left _ (List.mem_append_right _ h)))))))) hown hK hH t_h0 (th_nz rfl) rfl rfl 0 (th_ltN rfl) (hts (.fieldLink RX10 19 "BayMoorings$WaitingList" "bay" "LBayMoorings$Bay;") (List.mem_cons_of_mem _ (List.mem_append_left _ (List.mem_append_left _ (List.mem_append_left _ (List.mem_append_left _ (List.mem_append_left _ (List.mem_append_left _ (List.mem_append_left _ (List.mem_append_left _ (List.mem_of_getElem? (i := 1) rfl))))))))))) (fun _ h9 => h9) (th_fR r6 rfl) dX10_firstFor_40 ?_
            refine lv_aload_n hx hb dX10_firstFor_43 rfl (lv_at hl 0 rfl) ?_
            refine lv_aload_n hx hb dX10_firstFor_44 rfl (lv_at hl 2 rfl) ?_
            refine lv_aload_n hx hb dX10_firstFor_45 rfl (lv_at hl 1 rfl) ?_
            refine th_get (ci := 9) (v := .ref q6) (T := TX10) (C := RX10) (N := 3) hx hb hts (fun w h => List.mem_cons_of_mem _ (List.mem_append_left _ (List.mem_append_left _ (List.mem_append_left _ (List.mem_append_left _ (List.mem_append_left _ (List.mem_append_left _ (List.mem_append_right _ h)))))))) hown hK hH t_h0 (th_nz rfl) rfl rfl 0 (th_ltN rfl) (hts (.fieldLink RX10 19 "BayMoorings$WaitingList" "bay" "LBayMoorings$Bay;") (List.mem_cons_of_mem _ (List.mem_append_left _ (List.mem_append_left _ (List.mem_append_left _ (List.mem_append_left _ (List.mem_append_left _ (List.mem_append_left _ (List.mem_append_left _ (List.mem_append_left _ (List.mem_of_getElem? (i := 1) rfl))))))))))) (fun _ h9 => h9) (th_fR r6 rfl) dX10_firstFor_46 ?_
            obtain ⟨q20, r20, t20⟩ : ∃ q, gr q6 4 = some q ∧ τ q = 2 := (hH.at t6 (th_nz rfl)).2.2.2.2.2.1
            refine th_get (ci := 0) (v := .ref q20) (T := TX0) (C := RX0) (N := 9) hx hb hts (fun w h => List.mem_cons_of_mem _ (List.mem_append_left _ (List.mem_append_left _ (List.mem_append_left _ (List.mem_append_left _ (List.mem_append_right _ h)))))) hown hK hH t6 (th_nz rfl) rfl rfl 4 (th_ltN rfl) (hts (.fieldLink RX10 44 "BayMoorings$Bay" "berths" "LBayMoorings$Berths;") (List.mem_cons_of_mem _ (List.mem_append_left _ (List.mem_append_left _ (List.mem_append_left _ (List.mem_append_left _ (List.mem_append_left _ (List.mem_append_left _ (List.mem_append_left _ (List.mem_append_left _ (List.mem_of_getElem? (i := 4) rfl))))))))))) (fun _ h9 => h9) (th_fR r20 rfl) dX10_firstFor_49 ?_
            have hA21 := th_Asub (τ := τ) hS
            refine va_calli (va_runV (As := [.ref q11, .ref h1, .ref q20]) (rest := []) ⟨hx, hb, hml, hown, hts⟩ (k_X0_mayLie l D cA Z τ gi gr _ q6 t6 q11 t11 h1 t_h1 q20 t20) (cwV 3 hts gX10_firstFor_X0_mayLie rfl rfl rfl hd_X0_mayLie__3 ⟨Nat.le_of_ble_eq_true rfl, Nat.le_of_ble_eq_true rfl⟩) ⟨th_blind, th_recv hK hH t6 (ci := 0) (th_nz rfl) rfl rfl, (th_pre hH hK hN hZ hS hA21)⟩ rfl rfl hl.1 rfl (lv_room (Nat.le_of_ble_eq_true rfl)) dX10_firstFor_52 ⟨Nat.le_of_ble_eq_true rfl, Nat.le_of_ble_eq_true rfl⟩) hS (fun q _ h => hA21 q h) hA21 (fun x22 u t H locs ht hvm hw22 hB hz1 hk1 hS => ?_)
            try dsimp only at hw22 hB
            rw [ht] at hB
            have hH := hB
            refine lv_if_eq (tgt := 65) hx hb dX10_firstFor_55 (th_eqI rfl) (fun c23 => ?_) (fun c23 => ?_)
            · skip
              have f24 : rg 0 0 x22 := rg_w (rg_eq hw22.1 rgc_0 c23).1 (th_leI rfl) (th_leI rfl)
              exact J65 _ _ _ x2 hH hS (lv_sub hl [1, 2, 3] rfl) f5 e2 f4 (hF.trans (by simp only [↓reduceIte, f_X10_firstFor_2, ← e2, eq_false c3, r6, Option.getD_some, r7, ← e8, hw10.2, Option.elim_some, ← e12, hw14.2, eq_true c15, r20, hw22.2, eq_true c23]))
            · skip
              have f25 : rg 1 1 x22 := rg_w (rg_neL hw22.1 rgc_0 c23) (th_leI rfl) (th_leI rfl)
              refine lv_aload_n hx hb dX10_firstFor_58 rfl (lv_at hl 1 rfl) ?_
              refine th_get (ci := 9) (v := .ref q7) (T := TX10) (C := RX10) (N := 3) hx hb hts (fun w h => List.mem_cons_of_mem _ (List.mem_append_left _ (List.mem_append_left _ (List.mem_append_left _ (List.mem_append_left _ (List.mem_append_left _ (List.mem_append_left _ (List.mem_append_right _ h)))))))) hown hK hH t_h0 (th_nz rfl) rfl rfl 1 (th_ltN rfl) (hts (.fieldLink RX10 9 "BayMoorings$WaitingList" "queue" "[I") (List.mem_cons_of_mem _ (List.mem_append_left _ (List.mem_append_left _ (List.mem_append_left _ (List.mem_append_left _ (List.mem_append_left _ (List.mem_append_left _ (List.mem_append_left _ (List.mem_append_left _ (List.mem_of_getElem? (i := 2) rfl))))))))))) (fun _ h9 => h9) (th_fR r7 rfl) dX10_firstFor_59 ?_
              refine lv_iload_n hx hb dX10_firstFor_62 rfl (lv_at hl 3 rfl) ?_
              refine th_iald hx hb hK hH t7 (th_nz rfl) 0 rfl rfl (rg_in (n := 10) f5 (th_leI rfl) (th_ltI rfl)) dX10_firstFor_63 ?_
              rw [← e8]
              exact W.iret (v := x8) hx hb hr (fun t ht hW => ⟨⟨x8, (), rfl, (hF.trans (by simp only [↓reduceIte, f_X10_firstFor_2, ← e2, eq_false c3, r6, Option.getD_some, r7, ← e8, hw10.2, Option.elim_some, ← e12, hw14.2, eq_true c15, r20, hw22.2, eq_false c23])), th_Ht ht hH⟩, hS.F ht⟩) hS.2.2 dX10_firstFor_64
  have hS : va_S (th_A τ s.heap.size) s.heap s.heap [] := va_S.rf
  have hl := lv_entry ([.ref h0, .ref h1]) (n := 4) (Nat.le_of_ble_eq_true rfl)
  rw [lg_entry_eq]
  generalize (lg_sl ([.ref h0, .ref h1]) ++ List.replicate (4 - (lg_sl ([.ref h0, .ref h1])).length) Slot.unset).toArray = ls at hl ⊢
  have hl : lv_has ls 4 [(0, .ref h0), (1, .ref h1)] := hl
  have hF : F_X10_firstFor τ Z gi gr h0 h1 = F_X10_firstFor τ Z gi gr h0 h1 := rfl
  refine lv_iconst (v := 0) hx hb dX10_firstFor_0 ic_0 ?_
  refine lv_istore_n (i := 2) (lv' := [(2, .int 0), (0, .ref h0), (1, .ref h1)]) hx hb dX10_firstFor_1 rfl hl (th_ltN rfl) rfl (fun ls hl => ?_)
  exact J2 _ _ _ _ 0 (Nat.lt_add_one _) hH hS (lv_sub hl [1, 2, 0] rfl) (rg_w rgc_0 (th_leI rfl) (th_leI rfl)) (hF.trans (by simp only [F_X10_firstFor]))
