noncomputable def f_J7_fill_53178_24_5 (τ : th_t) (Z : th_Zt) (gi : th_i) (gr : th_r) (h0 : Nat) (p1 : Int32) : Nat → th_i → Int32 → Int32 → th_i
  | 0, gi_5, y5_2, y5_3 => (gi_5)
  | n5 + 1, gi_5, y5_2, y5_3 =>
    if y5_3 ≤ y5_2 then (
      (gi_5)) else (
      let gi4 : th_i := va_up gi_5 h0 (upd (gi_5 h0) y5_2.toNatClampNeg p1)
      let x5 : Int32 := y5_2 + 1
      (f_J7_fill_53178_24_5 τ Z gi gr h0 p1 n5) gi4 x5 y5_3)
noncomputable def F_J7_fill_53178_24 (τ : th_t) (Z : th_Zt) (gi : th_i) (gr : th_r) (h0 : Nat) (p1 : Int32) : th_i :=
  f_J7_fill_53178_24_5 τ Z gi gr h0 p1 ((16 - (0 : Int32).toInt).toNat + 1) gi 0 16
set_option maxHeartbeats 8000000 in
set_option maxRecDepth 100000 in
theorem k_J7_fill_53178_24 (l : Launch) (D : va_G) (cA : Nat → ClassId) (Z : th_Zt) (τ : th_t) (gi : th_i) (gr : th_r) (sz : Nat) (h0 : Nat) (t_h0 : τ h0 = 24) (p1 : Int32) : Met l yJ7_fill_53178 wsJ7_fill_53178 ({ frames := 0, cells := 0, slots := 0, locals := 0 }) (va_Pc [.ref h0, .int p1] (th_Pre D cA Z τ gi gr sz)) (va_Qv (fun (u : th_i × th_r) => th_Mod [2400] τ gi gr u.1 u.2 ∧ u.2 = gr ∧ (F_J7_fill_53178_24 τ Z gi gr h0 p1 = u.1)) (fun (u : th_i × th_r) t => th_H D cA τ u.1 u.2 t.heap) (th_A τ sz)) 0 0 (th_A τ sz) := by
  refine Met.ofW (cc := cJ7_fill_53178) (maxL := 4) (ret := none) (by decide) rfl ?_
  intro p e s m args below meth c s₁ B hml hv
  obtain ⟨rfl, hsz, hH, hK, hN, hZ⟩ := hv
  have hx := B.exec
  have hb := B.bytes
  have hr := B.returns
  have hts := atoms_spec (ws := wsJ7_fill_53178) B.pre
  have hown : s.vm.findClass RJ7 = some m.cls := findClass_of_methodNamed B.named
  have hlocks := B.notSynchronized
  subst hsz
  have hM : th_Mod [2400] τ gi gr gi gr := th_Mod.rf
  have J5 : ∀ (n5 : Nat) (gi_5 : th_i) (H : Heap) (locs : List Loc) (ls : Array Slot) (y5_2 : Int32) (y5_3 : Int32), (16 - y5_2.toInt).toNat < n5 → th_H D cA τ gi_5 gr H → va_S (th_A τ s.heap.size) s.heap H locs → th_Mod [2400] τ gi gr gi_5 gr → lv_has ls 4 [(0, .ref h0), (1, .int p1), (2, .int y5_2), (3, .int y5_3)] → rg 0 16 y5_2 → rg 16 16 y5_3 → F_J7_fill_53178_24 τ Z gi gr h0 p1 = f_J7_fill_53178_24_5 τ Z gi gr h0 p1 n5 gi_5 y5_2 y5_3 → W p l e (headSpec wsJ7_fill_53178 ({ frames := 0, cells := 0, slots := 0, locals := 0 })).room s m [.ref h0, .int p1].toArray below meth c H locs 0 0 (MQ below (va_Qv (fun (u : th_i × th_r) => th_Mod [2400] τ gi gr u.1 u.2 ∧ u.2 = gr ∧ (F_J7_fill_53178_24 τ Z gi gr h0 p1 = u.1)) (fun (u : th_i × th_r) t => th_H D cA τ u.1 u.2 t.heap) (th_A τ s.heap.size)) [.ref h0, .int p1].toArray s 0 0 (th_A τ s.heap.size)) (F0 m 5 ls []) := by
    intro n5
    induction n5 with
    | zero =>
      intro gi_5 H locs ls y5_2 y5_3 hn
      exact absurd hn (Nat.not_lt_zero _)
    | succ n5 ih5 =>
      intro gi_5 H locs ls y5_2 y5_3 hn5 hH hS hM hl fy5_2 fy5_3 hF
      refine lv_iload_n hx hb dJ7_fill_53178_5 rfl (lv_at hl 2 rfl) ?_
      refine lv_iload_n hx hb dJ7_fill_53178_6 rfl (lv_at hl 3 rfl) ?_
      refine lv_icmp_ge (tgt := 20) hx hb dJ7_fill_53178_7 (th_eqI rfl) (fun c1 => ?_) (fun c1 => ?_)
      · skip
        have f2 : rg 16 16 y5_2 := rg_w (rg_le fy5_3 fy5_2 c1).2 (th_leI rfl) (th_leI rfl)
        exact W.vret hx hb hr (fun t ht hW => ⟨⟨(gi_5, gr), rfl, ⟨hM, rfl, (hF.trans (by simp only [↓reduceIte, f_J7_fill_53178_24_5, eq_true c1]))⟩, th_Ht ht hH⟩, hS.F ht⟩) hS.2.2 dJ7_fill_53178_20
      · skip
        have f3 : rg 0 15 y5_2 := rg_w (rg_nle fy5_3 fy5_2 c1).2 (th_leI rfl) (th_leI rfl)
        refine lv_aload_n hx hb dJ7_fill_53178_10 rfl (lv_at hl 0 rfl) ?_
        refine lv_iload_n hx hb dJ7_fill_53178_11 rfl (lv_at hl 2 rfl) ?_
        refine lv_iload_n hx hb dJ7_fill_53178_12 rfl (lv_at hl 1 rfl) ?_
        refine th_iast hx hb hK hH hS t_h0 (th_nz rfl) (Or.inl (th_nzE t_h0 rfl)) 0 (fun _ => rfl) rfl (rg_in (n := 16) f3 (th_leI rfl) (th_ltI rfl)) (trivial) dJ7_fill_53178_13 (fun gi4 H locs hu4 ho4 hH hS => ?_)
        have eg4 : gi4 = va_up gi_5 h0 (upd (gi_5 h0) y5_2.toNatClampNeg p1) := th_upE hu4 ho4
        have hM := hM.i t_h0 (th_mem (a := 2400) rfl) ho4
        obtain ⟨x5, e5⟩ : ∃ y : Int32, y = y5_2 + 1 := ⟨_, rfl⟩
        have f5 : rg 1 16 x5 := rg_e e5 (rg_w (rg_add f3 rgc_1 (th_leI rfl) (th_leI rfl)) (th_leI rfl) (th_leI rfl))
        refine lv_iinc (v := x5) (lv' := [(2, .int x5), (0, .ref h0), (1, .int p1), (3, .int y5_3)]) hx hb dJ7_fill_53178_14 hl (k := 2) rfl (by rw [e5]; rfl) (th_ltN rfl) rfl (fun ls hl => ?_)
        refine lv_goto (tgt := 5) hx hb dJ7_fill_53178_17 (th_eqI rfl) ?_
        exact ih5 gi4 _ _ _ x5 y5_3 (th_up (rg_dA e5 f3 rgc_1 (th_leI rfl) (th_leI rfl)) f3 hn5 (th_ltI rfl)) hH hS hM (lv_sub hl [1, 2, 0, 3] rfl) (rg_w f5 (th_leI rfl) (th_leI rfl)) fy5_3 (hF.trans (by simp only [↓reduceIte, f_J7_fill_53178_24_5, eq_false c1, ← eg4, ← e5]))
  have hS : va_S (th_A τ s.heap.size) s.heap s.heap [] := va_S.rf
  have hl := lv_entry ([.ref h0, .int p1]) (n := 4) (Nat.le_of_ble_eq_true rfl)
  rw [lg_entry_eq]
  generalize (lg_sl ([.ref h0, .int p1]) ++ List.replicate (4 - (lg_sl ([.ref h0, .int p1])).length) Slot.unset).toArray = ls at hl ⊢
  have hl : lv_has ls 4 [(0, .ref h0), (1, .int p1)] := hl
  have hF : F_J7_fill_53178_24 τ Z gi gr h0 p1 = F_J7_fill_53178_24 τ Z gi gr h0 p1 := rfl
  refine lv_iconst (v := 0) hx hb dJ7_fill_53178_0 ic_0 ?_
  refine lv_istore_n (i := 2) (lv' := [(2, .int 0), (0, .ref h0), (1, .int p1)]) hx hb dJ7_fill_53178_1 rfl hl (th_ltN rfl) rfl (fun ls hl => ?_)
  refine lv_aload_n hx hb dJ7_fill_53178_2 rfl (lv_at hl 1 rfl) ?_
  refine va_alen (v := 16) hx hb hK (hH.P t_h0 (th_nz rfl) rfl) 0 0 rfl rfl rfl dJ7_fill_53178_3 ?_
  refine lv_istore_n (i := 3) (lv' := [(3, .int 16), (2, .int 0), (0, .ref h0), (1, .int p1)]) hx hb dJ7_fill_53178_4 rfl hl (th_ltN rfl) rfl (fun ls hl => ?_)
  exact J5 _ gi _ _ _ 0 16 (Nat.lt_add_one _) hH hS hM (lv_sub hl [2, 3, 1, 0] rfl) (rg_w rgc_0 (th_leI rfl) (th_leI rfl)) rgc_16 (hF.trans (by simp only [F_J7_fill_53178_24]))

noncomputable def f_J7_fill_53178_25_5 (τ : th_t) (Z : th_Zt) (gi : th_i) (gr : th_r) (h0 : Nat) (p1 : Int32) : Nat → th_i → Int32 → Int32 → th_i
  | 0, gi_5, y5_2, y5_3 => (gi_5)
  | n5 + 1, gi_5, y5_2, y5_3 =>
    if y5_3 ≤ y5_2 then (
      (gi_5)) else (
      let gi4 : th_i := va_up gi_5 h0 (upd (gi_5 h0) y5_2.toNatClampNeg p1)
      let x5 : Int32 := y5_2 + 1
      (f_J7_fill_53178_25_5 τ Z gi gr h0 p1 n5) gi4 x5 y5_3)
noncomputable def F_J7_fill_53178_25 (τ : th_t) (Z : th_Zt) (gi : th_i) (gr : th_r) (h0 : Nat) (p1 : Int32) : th_i :=
  f_J7_fill_53178_25_5 τ Z gi gr h0 p1 ((12 - (0 : Int32).toInt).toNat + 1) gi 0 12
set_option maxHeartbeats 8000000 in
set_option maxRecDepth 100000 in
theorem k_J7_fill_53178_25 (l : Launch) (D : va_G) (cA : Nat → ClassId) (Z : th_Zt) (τ : th_t) (gi : th_i) (gr : th_r) (sz : Nat) (h0 : Nat) (t_h0 : τ h0 = 25) (p1 : Int32) : Met l yJ7_fill_53178 wsJ7_fill_53178 ({ frames := 0, cells := 0, slots := 0, locals := 0 }) (va_Pc [.ref h0, .int p1] (th_Pre D cA Z τ gi gr sz)) (va_Qv (fun (u : th_i × th_r) => th_Mod [2500] τ gi gr u.1 u.2 ∧ u.2 = gr ∧ (F_J7_fill_53178_25 τ Z gi gr h0 p1 = u.1)) (fun (u : th_i × th_r) t => th_H D cA τ u.1 u.2 t.heap) (th_A τ sz)) 0 0 (th_A τ sz) := by
  refine Met.ofW (cc := cJ7_fill_53178) (maxL := 4) (ret := none) (by decide) rfl ?_
  intro p e s m args below meth c s₁ B hml hv
  obtain ⟨rfl, hsz, hH, hK, hN, hZ⟩ := hv
  have hx := B.exec
  have hb := B.bytes
  have hr := B.returns
  have hts := atoms_spec (ws := wsJ7_fill_53178) B.pre
  have hown : s.vm.findClass RJ7 = some m.cls := findClass_of_methodNamed B.named
  have hlocks := B.notSynchronized
  subst hsz
  have hM : th_Mod [2500] τ gi gr gi gr := th_Mod.rf
  have J5 : ∀ (n5 : Nat) (gi_5 : th_i) (H : Heap) (locs : List Loc) (ls : Array Slot) (y5_2 : Int32) (y5_3 : Int32), (12 - y5_2.toInt).toNat < n5 → th_H D cA τ gi_5 gr H → va_S (th_A τ s.heap.size) s.heap H locs → th_Mod [2500] τ gi gr gi_5 gr → lv_has ls 4 [(0, .ref h0), (1, .int p1), (2, .int y5_2), (3, .int y5_3)] → rg 0 12 y5_2 → rg 12 12 y5_3 → F_J7_fill_53178_25 τ Z gi gr h0 p1 = f_J7_fill_53178_25_5 τ Z gi gr h0 p1 n5 gi_5 y5_2 y5_3 → W p l e (headSpec wsJ7_fill_53178 ({ frames := 0, cells := 0, slots := 0, locals := 0 })).room s m [.ref h0, .int p1].toArray below meth c H locs 0 0 (MQ below (va_Qv (fun (u : th_i × th_r) => th_Mod [2500] τ gi gr u.1 u.2 ∧ u.2 = gr ∧ (F_J7_fill_53178_25 τ Z gi gr h0 p1 = u.1)) (fun (u : th_i × th_r) t => th_H D cA τ u.1 u.2 t.heap) (th_A τ s.heap.size)) [.ref h0, .int p1].toArray s 0 0 (th_A τ s.heap.size)) (F0 m 5 ls []) := by
    intro n5
    induction n5 with
    | zero =>
      intro gi_5 H locs ls y5_2 y5_3 hn
      exact absurd hn (Nat.not_lt_zero _)
    | succ n5 ih5 =>
      intro gi_5 H locs ls y5_2 y5_3 hn5 hH hS hM hl fy5_2 fy5_3 hF
      refine lv_iload_n hx hb dJ7_fill_53178_5 rfl (lv_at hl 2 rfl) ?_
      refine lv_iload_n hx hb dJ7_fill_53178_6 rfl (lv_at hl 3 rfl) ?_
      refine lv_icmp_ge (tgt := 20) hx hb dJ7_fill_53178_7 (th_eqI rfl) (fun c1 => ?_) (fun c1 => ?_)
      · skip
        have f2 : rg 12 12 y5_2 := rg_w (rg_le fy5_3 fy5_2 c1).2 (th_leI rfl) (th_leI rfl)
        exact W.vret hx hb hr (fun t ht hW => ⟨⟨(gi_5, gr), rfl, ⟨hM, rfl, (hF.trans (by simp only [↓reduceIte, f_J7_fill_53178_25_5, eq_true c1]))⟩, th_Ht ht hH⟩, hS.F ht⟩) hS.2.2 dJ7_fill_53178_20
      · skip
        have f3 : rg 0 11 y5_2 := rg_w (rg_nle fy5_3 fy5_2 c1).2 (th_leI rfl) (th_leI rfl)
        refine lv_aload_n hx hb dJ7_fill_53178_10 rfl (lv_at hl 0 rfl) ?_
        refine lv_iload_n hx hb dJ7_fill_53178_11 rfl (lv_at hl 2 rfl) ?_
        refine lv_iload_n hx hb dJ7_fill_53178_12 rfl (lv_at hl 1 rfl) ?_
        refine th_iast hx hb hK hH hS t_h0 (th_nz rfl) (Or.inl (th_nzE t_h0 rfl)) 0 (fun _ => rfl) rfl (rg_in (n := 12) f3 (th_leI rfl) (th_ltI rfl)) (trivial) dJ7_fill_53178_13 (fun gi4 H locs hu4 ho4 hH hS => ?_)
        have eg4 : gi4 = va_up gi_5 h0 (upd (gi_5 h0) y5_2.toNatClampNeg p1) := th_upE hu4 ho4
        have hM := hM.i t_h0 (th_mem (a := 2500) rfl) ho4
        obtain ⟨x5, e5⟩ : ∃ y : Int32, y = y5_2 + 1 := ⟨_, rfl⟩
        have f5 : rg 1 12 x5 := rg_e e5 (rg_w (rg_add f3 rgc_1 (th_leI rfl) (th_leI rfl)) (th_leI rfl) (th_leI rfl))
        refine lv_iinc (v := x5) (lv' := [(2, .int x5), (0, .ref h0), (1, .int p1), (3, .int y5_3)]) hx hb dJ7_fill_53178_14 hl (k := 2) rfl (by rw [e5]; rfl) (th_ltN rfl) rfl (fun ls hl => ?_)
        refine lv_goto (tgt := 5) hx hb dJ7_fill_53178_17 (th_eqI rfl) ?_
        exact ih5 gi4 _ _ _ x5 y5_3 (th_up (rg_dA e5 f3 rgc_1 (th_leI rfl) (th_leI rfl)) f3 hn5 (th_ltI rfl)) hH hS hM (lv_sub hl [1, 2, 0, 3] rfl) (rg_w f5 (th_leI rfl) (th_leI rfl)) fy5_3 (hF.trans (by simp only [↓reduceIte, f_J7_fill_53178_25_5, eq_false c1, ← eg4, ← e5]))
  have hS : va_S (th_A τ s.heap.size) s.heap s.heap [] := va_S.rf
  have hl := lv_entry ([.ref h0, .int p1]) (n := 4) (Nat.le_of_ble_eq_true rfl)
  rw [lg_entry_eq]
  generalize (lg_sl ([.ref h0, .int p1]) ++ List.replicate (4 - (lg_sl ([.ref h0, .int p1])).length) Slot.unset).toArray = ls at hl ⊢
  have hl : lv_has ls 4 [(0, .ref h0), (1, .int p1)] := hl
  have hF : F_J7_fill_53178_25 τ Z gi gr h0 p1 = F_J7_fill_53178_25 τ Z gi gr h0 p1 := rfl
  refine lv_iconst (v := 0) hx hb dJ7_fill_53178_0 ic_0 ?_
  refine lv_istore_n (i := 2) (lv' := [(2, .int 0), (0, .ref h0), (1, .int p1)]) hx hb dJ7_fill_53178_1 rfl hl (th_ltN rfl) rfl (fun ls hl => ?_)
  refine lv_aload_n hx hb dJ7_fill_53178_2 rfl (lv_at hl 1 rfl) ?_
  refine va_alen (v := 12) hx hb hK (hH.P t_h0 (th_nz rfl) rfl) 0 0 rfl rfl rfl dJ7_fill_53178_3 ?_
  refine lv_istore_n (i := 3) (lv' := [(3, .int 12), (2, .int 0), (0, .ref h0), (1, .int p1)]) hx hb dJ7_fill_53178_4 rfl hl (th_ltN rfl) rfl (fun ls hl => ?_)
  exact J5 _ gi _ _ _ 0 12 (Nat.lt_add_one _) hH hS hM (lv_sub hl [2, 3, 1, 0] rfl) (rg_w rgc_0 (th_leI rfl) (th_leI rfl)) rgc_12 (hF.trans (by simp only [F_J7_fill_53178_25]))

noncomputable def f_J7_fill_53178_32_5 (τ : th_t) (Z : th_Zt) (gi : th_i) (gr : th_r) (h0 : Nat) (p1 : Int32) : Nat → th_i → Int32 → Int32 → th_i
  | 0, gi_5, y5_2, y5_3 => (gi_5)
  | n5 + 1, gi_5, y5_2, y5_3 =>
    if y5_3 ≤ y5_2 then (
      (gi_5)) else (
      let gi4 : th_i := va_up gi_5 h0 (upd (gi_5 h0) y5_2.toNatClampNeg p1)
      let x5 : Int32 := y5_2 + 1
      (f_J7_fill_53178_32_5 τ Z gi gr h0 p1 n5) gi4 x5 y5_3)
noncomputable def F_J7_fill_53178_32 (τ : th_t) (Z : th_Zt) (gi : th_i) (gr : th_r) (h0 : Nat) (p1 : Int32) : th_i :=
  f_J7_fill_53178_32_5 τ Z gi gr h0 p1 ((300 - (0 : Int32).toInt).toNat + 1) gi 0 300
set_option maxHeartbeats 8000000 in
set_option maxRecDepth 100000 in
theorem k_J7_fill_53178_32 (l : Launch) (D : va_G) (cA : Nat → ClassId) (Z : th_Zt) (τ : th_t) (gi : th_i) (gr : th_r) (sz : Nat) (h0 : Nat) (t_h0 : τ h0 = 32) (p1 : Int32) : Met l yJ7_fill_53178 wsJ7_fill_53178 ({ frames := 0, cells := 0, slots := 0, locals := 0 }) (va_Pc [.ref h0, .int p1] (th_Pre D cA Z τ gi gr sz)) (va_Qv (fun (u : th_i × th_r) => th_Mod [3200] τ gi gr u.1 u.2 ∧ u.2 = gr ∧ (F_J7_fill_53178_32 τ Z gi gr h0 p1 = u.1)) (fun (u : th_i × th_r) t => th_H D cA τ u.1 u.2 t.heap) (th_A τ sz)) 0 0 (th_A τ sz) := by
  refine Met.ofW (cc := cJ7_fill_53178) (maxL := 4) (ret := none) (by decide) rfl ?_
  intro p e s m args below meth c s₁ B hml hv
  obtain ⟨rfl, hsz, hH, hK, hN, hZ⟩ := hv
  have hx := B.exec
  have hb := B.bytes
  have hr := B.returns
  have hts := atoms_spec (ws := wsJ7_fill_53178) B.pre
  have hown : s.vm.findClass RJ7 = some m.cls := findClass_of_methodNamed B.named
  have hlocks := B.notSynchronized
  subst hsz
  have hM : th_Mod [3200] τ gi gr gi gr := th_Mod.rf
  have J5 : ∀ (n5 : Nat) (gi_5 : th_i) (H : Heap) (locs : List Loc) (ls : Array Slot) (y5_2 : Int32) (y5_3 : Int32), (300 - y5_2.toInt).toNat < n5 → th_H D cA τ gi_5 gr H → va_S (th_A τ s.heap.size) s.heap H locs → th_Mod [3200] τ gi gr gi_5 gr → lv_has ls 4 [(0, .ref h0), (1, .int p1), (2, .int y5_2), (3, .int y5_3)] → rg 0 300 y5_2 → rg 300 300 y5_3 → F_J7_fill_53178_32 τ Z gi gr h0 p1 = f_J7_fill_53178_32_5 τ Z gi gr h0 p1 n5 gi_5 y5_2 y5_3 → W p l e (headSpec wsJ7_fill_53178 ({ frames := 0, cells := 0, slots := 0, locals := 0 })).room s m [.ref h0, .int p1].toArray below meth c H locs 0 0 (MQ below (va_Qv (fun (u : th_i × th_r) => th_Mod [3200] τ gi gr u.1 u.2 ∧ u.2 = gr ∧ (F_J7_fill_53178_32 τ Z gi gr h0 p1 = u.1)) (fun (u : th_i × th_r) t => th_H D cA τ u.1 u.2 t.heap) (th_A τ s.heap.size)) [.ref h0, .int p1].toArray s 0 0 (th_A τ s.heap.size)) (F0 m 5 ls []) := by
    intro n5
    induction n5 with
    | zero =>
      intro gi_5 H locs ls y5_2 y5_3 hn
      exact absurd hn (Nat.not_lt_zero _)
    | succ n5 ih5 =>
      intro gi_5 H locs ls y5_2 y5_3 hn5 hH hS hM hl fy5_2 fy5_3 hF
      refine lv_iload_n hx hb dJ7_fill_53178_5 rfl (lv_at hl 2 rfl) ?_
      refine lv_iload_n hx hb dJ7_fill_53178_6 rfl (lv_at hl 3 rfl) ?_
      refine lv_icmp_ge (tgt := 20) hx hb dJ7_fill_53178_7 (th_eqI rfl) (fun c1 => ?_) (fun c1 => ?_)
      · skip
        have f2 : rg 300 300 y5_2 := rg_w (rg_le fy5_3 fy5_2 c1).2 (th_leI rfl) (th_leI rfl)
        exact W.vret hx hb hr (fun t ht hW => ⟨⟨(gi_5, gr), rfl, ⟨hM, rfl, (hF.trans (by simp only [↓reduceIte, f_J7_fill_53178_32_5, eq_true c1]))⟩, th_Ht ht hH⟩, hS.F ht⟩) hS.2.2 dJ7_fill_53178_20
      · skip
        have f3 : rg 0 299 y5_2 := rg_w (rg_nle fy5_3 fy5_2 c1).2 (th_leI rfl) (th_leI rfl)
        refine lv_aload_n hx hb dJ7_fill_53178_10 rfl (lv_at hl 0 rfl) ?_
        refine lv_iload_n hx hb dJ7_fill_53178_11 rfl (lv_at hl 2 rfl) ?_
        refine lv_iload_n hx hb dJ7_fill_53178_12 rfl (lv_at hl 1 rfl) ?_
        refine th_iast hx hb hK hH hS t_h0 (th_nz rfl) (Or.inl (th_nzE t_h0 rfl)) 0 (fun _ => rfl) rfl (rg_in (n := 300) f3 (th_leI rfl) (th_ltI rfl)) (trivial) dJ7_fill_53178_13 (fun gi4 H locs hu4 ho4 hH hS => ?_)
        have eg4 : gi4 = va_up gi_5 h0 (upd (gi_5 h0) y5_2.toNatClampNeg p1) := th_upE hu4 ho4
        have hM := hM.i t_h0 (th_mem (a := 3200) rfl) ho4
        obtain ⟨x5, e5⟩ : ∃ y : Int32, y = y5_2 + 1 := ⟨_, rfl⟩
        have f5 : rg 1 300 x5 := rg_e e5 (rg_w (rg_add f3 rgc_1 (th_leI rfl) (th_leI rfl)) (th_leI rfl) (th_leI rfl))
        refine lv_iinc (v := x5) (lv' := [(2, .int x5), (0, .ref h0), (1, .int p1), (3, .int y5_3)]) hx hb dJ7_fill_53178_14 hl (k := 2) rfl (by rw [e5]; rfl) (th_ltN rfl) rfl (fun ls hl => ?_)
        refine lv_goto (tgt := 5) hx hb dJ7_fill_53178_17 (th_eqI rfl) ?_
        exact ih5 gi4 _ _ _ x5 y5_3 (th_up (rg_dA e5 f3 rgc_1 (th_leI rfl) (th_leI rfl)) f3 hn5 (th_ltI rfl)) hH hS hM (lv_sub hl [1, 2, 0, 3] rfl) (rg_w f5 (th_leI rfl) (th_leI rfl)) fy5_3 (hF.trans (by simp only [↓reduceIte, f_J7_fill_53178_32_5, eq_false c1, ← eg4, ← e5]))
  have hS : va_S (th_A τ s.heap.size) s.heap s.heap [] := va_S.rf
  have hl := lv_entry ([.ref h0, .int p1]) (n := 4) (Nat.le_of_ble_eq_true rfl)
  rw [lg_entry_eq]
  generalize (lg_sl ([.ref h0, .int p1]) ++ List.replicate (4 - (lg_sl ([.ref h0, .int p1])).length) Slot.unset).toArray = ls at hl ⊢
  have hl : lv_has ls 4 [(0, .ref h0), (1, .int p1)] := hl
  have hF : F_J7_fill_53178_32 τ Z gi gr h0 p1 = F_J7_fill_53178_32 τ Z gi gr h0 p1 := rfl
  refine lv_iconst (v := 0) hx hb dJ7_fill_53178_0 ic_0 ?_
  refine lv_istore_n (i := 2) (lv' := [(2, .int 0), (0, .ref h0), (1, .int p1)]) hx hb dJ7_fill_53178_1 rfl hl (th_ltN rfl) rfl (fun ls hl => ?_)
  refine lv_aload_n hx hb dJ7_fill_53178_2 rfl (lv_at hl 1 rfl) ?_
  refine va_alen (v := 300) hx hb hK (hH.P t_h0 (th_nz rfl) rfl) 0 0 rfl rfl rfl dJ7_fill_53178_3 ?_
  refine lv_istore_n (i := 3) (lv' := [(3, .int 300), (2, .int 0), (0, .ref h0), (1, .int p1)]) hx hb dJ7_fill_53178_4 rfl hl (th_ltN rfl) rfl (fun ls hl => ?_)
  exact J5 _ gi _ _ _ 0 300 (Nat.lt_add_one _) hH hS hM (lv_sub hl [2, 3, 1, 0] rfl) (rg_w rgc_0 (th_leI rfl) (th_leI rfl)) rgc_300 (hF.trans (by simp only [F_J7_fill_53178_32]))

noncomputable def F_J6_bitCount_0f7a4 (τ : th_t) (Z : th_Zt) (gi : th_i) (gr : th_r) (p0 : Int32) : Int32 :=
  let x1 : Int32 := (p0.toUInt32 >>> (Int32.toUInt32 1 &&& Int32.toUInt32 31)).toInt32
  let x2 : Int32 := x1 &&& 1431655765
  let x3 : Int32 := p0 - x2
  let x4 : Int32 := x3 &&& 858993459
  let x5 : Int32 := (x3.toUInt32 >>> (Int32.toUInt32 2 &&& Int32.toUInt32 31)).toInt32
  let x6 : Int32 := x5 &&& 858993459
  let x7 : Int32 := x4 + x6
  let x8 : Int32 := (x7.toUInt32 >>> (Int32.toUInt32 4 &&& Int32.toUInt32 31)).toInt32
  let x9 : Int32 := x7 + x8
  let x10 : Int32 := x9 &&& 252645135
  let x11 : Int32 := (x10.toUInt32 >>> (Int32.toUInt32 8 &&& Int32.toUInt32 31)).toInt32
  let x12 : Int32 := x10 + x11
  let x13 : Int32 := (x12.toUInt32 >>> (Int32.toUInt32 16 &&& Int32.toUInt32 31)).toInt32
  let x14 : Int32 := x12 + x13
  let x15 : Int32 := x14 &&& 63
  x15
set_option maxHeartbeats 8000000 in
set_option maxRecDepth 100000 in
theorem k_J6_bitCount_0f7a4 (l : Launch) (D : va_G) (cA : Nat → ClassId) (Z : th_Zt) (τ : th_t) (gi : th_i) (gr : th_r) (sz : Nat) (p0 : Int32) : Met l yJ6_bitCount_0f7a4 wsJ6_bitCount_0f7a4 ({ frames := 0, cells := 0, slots := 0, locals := 0 }) (va_Pc [.int p0] (th_Pre D cA Z τ gi gr sz)) (va_Qi (fun (r : Int32) (_ : Unit) => (F_J6_bitCount_0f7a4 τ Z gi gr p0 = r)) (fun (_ : Unit) t => th_H D cA τ gi gr t.heap) (th_A τ sz)) 0 0 (th_A τ sz) := by
  refine Met.ofW (cc := cJ6_bitCount_0f7a4) (maxL := 1) (ret := (some .int)) (by decide) rfl ?_
  intro p e s m args below meth c s₁ B hml hv
  obtain ⟨rfl, hsz, hH, hK, hN, hZ⟩ := hv
  have hx := B.exec
  have hb := B.bytes
  have hr := B.returns
  have hts := atoms_spec (ws := wsJ6_bitCount_0f7a4) B.pre
  have hown : s.vm.findClass RJ6 = some m.cls := findClass_of_methodNamed B.named
  have hlocks := B.notSynchronized
  subst hsz
  have hS : va_S (th_A τ s.heap.size) s.heap s.heap [] := va_S.rf
  have hl := lv_entry ([.int p0]) (n := 1) (Nat.le_of_ble_eq_true rfl)
  rw [lg_entry_eq]
  generalize (lg_sl ([.int p0]) ++ List.replicate (1 - (lg_sl ([.int p0])).length) Slot.unset).toArray = ls at hl ⊢
  have hl : lv_has ls 1 [(0, .int p0)] := hl
  have hF : F_J6_bitCount_0f7a4 τ Z gi gr p0 = F_J6_bitCount_0f7a4 τ Z gi gr p0 := rfl
  refine lv_iload_n hx hb dJ6_bitCount_0f7a4_0 rfl (lv_at hl 0 rfl) ?_
  refine lv_iload_n hx hb dJ6_bitCount_0f7a4_1 rfl (lv_at hl 0 rfl) ?_
  refine lv_iconst (v := 1) hx hb dJ6_bitCount_0f7a4_2 ic_1 ?_
  refine lv_iushr hx hb dJ6_bitCount_0f7a4_3 rfl ?_
  refine lv_topi (fun x1 e1 => ?_)
  refine lv_ldcw (v := 1431655765) hx hb hown (hts (.constant RJ6 265 (1431655765)) (List.mem_cons_of_mem _ (List.mem_of_getElem? (i := 0) rfl))) dJ6_bitCount_0f7a4_4 ?_
  refine lv_iand hx hb dJ6_bitCount_0f7a4_7 ?_
  refine lv_topi (fun x2 e2 => ?_)
  refine lv_isub hx hb dJ6_bitCount_0f7a4_8 ?_
  refine lv_topi (fun x3 e3 => ?_)
  refine lv_istore_n (i := 0) (lv' := [(0, .int x3)]) hx hb dJ6_bitCount_0f7a4_9 rfl hl (th_ltN rfl) rfl (fun ls hl => ?_)
  refine lv_iload_n hx hb dJ6_bitCount_0f7a4_10 rfl (lv_at hl 0 rfl) ?_
  refine lv_ldcw (v := 858993459) hx hb hown (hts (.constant RJ6 266 (858993459)) (List.mem_cons_of_mem _ (List.mem_of_getElem? (i := 1) rfl))) dJ6_bitCount_0f7a4_11 ?_
  refine lv_iand hx hb dJ6_bitCount_0f7a4_14 ?_
  refine lv_topi (fun x4 e4 => ?_)
  refine lv_iload_n hx hb dJ6_bitCount_0f7a4_15 rfl (lv_at hl 0 rfl) ?_
  refine lv_iconst (v := 2) hx hb dJ6_bitCount_0f7a4_16 ic_2 ?_
  refine lv_iushr hx hb dJ6_bitCount_0f7a4_17 rfl ?_
  refine lv_topi (fun x5 e5 => ?_)
  refine lv_ldcw (v := 858993459) hx hb hown (hts (.constant RJ6 266 (858993459)) (List.mem_cons_of_mem _ (List.mem_of_getElem? (i := 1) rfl))) dJ6_bitCount_0f7a4_18 ?_
  refine lv_iand hx hb dJ6_bitCount_0f7a4_21 ?_
  refine lv_topi (fun x6 e6 => ?_)
  refine lv_iadd hx hb dJ6_bitCount_0f7a4_22 ?_
  refine lv_topi (fun x7 e7 => ?_)
  refine lv_istore_n (i := 0) (lv' := [(0, .int x7)]) hx hb dJ6_bitCount_0f7a4_23 rfl hl (th_ltN rfl) rfl (fun ls hl => ?_)
  refine lv_iload_n hx hb dJ6_bitCount_0f7a4_24 rfl (lv_at hl 0 rfl) ?_
  refine lv_iload_n hx hb dJ6_bitCount_0f7a4_25 rfl (lv_at hl 0 rfl) ?_
  refine lv_iconst (v := 4) hx hb dJ6_bitCount_0f7a4_26 ic_4 ?_
  refine lv_iushr hx hb dJ6_bitCount_0f7a4_27 rfl ?_
  refine lv_topi (fun x8 e8 => ?_)
  refine lv_iadd hx hb dJ6_bitCount_0f7a4_28 ?_
  refine lv_topi (fun x9 e9 => ?_)
  refine lv_ldcw (v := 252645135) hx hb hown (hts (.constant RJ6 267 (252645135)) (List.mem_cons_of_mem _ (List.mem_of_getElem? (i := 2) rfl))) dJ6_bitCount_0f7a4_29 ?_
  refine lv_iand hx hb dJ6_bitCount_0f7a4_32 ?_
  refine lv_topi (fun x10 e10 => ?_)
  refine lv_istore_n (i := 0) (lv' := [(0, .int x10)]) hx hb dJ6_bitCount_0f7a4_33 rfl hl (th_ltN rfl) rfl (fun ls hl => ?_)
  refine lv_iload_n hx hb dJ6_bitCount_0f7a4_34 rfl (lv_at hl 0 rfl) ?_
  refine lv_iload_n hx hb dJ6_bitCount_0f7a4_35 rfl (lv_at hl 0 rfl) ?_
  refine lv_bipush (v := 8) hx hb dJ6_bitCount_0f7a4_36 bp_8 ?_
  refine lv_iushr hx hb dJ6_bitCount_0f7a4_38 rfl ?_
  refine lv_topi (fun x11 e11 => ?_)
  refine lv_iadd hx hb dJ6_bitCount_0f7a4_39 ?_
  refine lv_topi (fun x12 e12 => ?_)
  refine lv_istore_n (i := 0) (lv' := [(0, .int x12)]) hx hb dJ6_bitCount_0f7a4_40 rfl hl (th_ltN rfl) rfl (fun ls hl => ?_)
  refine lv_iload_n hx hb dJ6_bitCount_0f7a4_41 rfl (lv_at hl 0 rfl) ?_
  refine lv_iload_n hx hb dJ6_bitCount_0f7a4_42 rfl (lv_at hl 0 rfl) ?_
  refine lv_bipush (v := 16) hx hb dJ6_bitCount_0f7a4_43 bp_16 ?_
  refine lv_iushr hx hb dJ6_bitCount_0f7a4_45 rfl ?_
  refine lv_topi (fun x13 e13 => ?_)
  refine lv_iadd hx hb dJ6_bitCount_0f7a4_46 ?_
  refine lv_topi (fun x14 e14 => ?_)
  refine lv_istore_n (i := 0) (lv' := [(0, .int x14)]) hx hb dJ6_bitCount_0f7a4_47 rfl hl (th_ltN rfl) rfl (fun ls hl => ?_)
  refine lv_iload_n hx hb dJ6_bitCount_0f7a4_48 rfl (lv_at hl 0 rfl) ?_
  refine lv_bipush (v := 63) hx hb dJ6_bitCount_0f7a4_49 bp_63 ?_
  refine lv_iand hx hb dJ6_bitCount_0f7a4_51 ?_
  refine lv_topi (fun x15 e15 => ?_)
  have f15 : rg 0 63 x15 := rg_e e15 (rg_and 6 (by decide) (th_leN rfl) (th_eqI rfl))
  exact W.iret (v := x15) hx hb hr (fun t ht hW => ⟨⟨x15, (), rfl, (hF.trans (by simp only [F_J6_bitCount_0f7a4, ← e1, ← e2, ← e3, ← e4, ← e5, ← e6, ← e7, ← e8, ← e9, ← e10, ← e11, ← e12, ← e13, ← e14, ← e15])), th_Ht ht hH⟩, hS.F ht⟩) hS.2.2 dJ6_bitCount_0f7a4_52

noncomputable def F_X1_copyFrom (τ : th_t) (Z : th_Zt) (gi : th_i) (gr : th_r) (h0 : Nat) (h1 : Nat) : th_i :=
  let q1 : Nat := (gr h1 0).getD 0
  let q2 : Nat := (gr h0 0).getD 0
  let gi3 : th_i := va_up gi q2 (va_cpy (gi q1) (gi q2) (0 : Int32).toNatClampNeg (0 : Int32).toNatClampNeg (16 : Int32).toNatClampNeg)
  let q4 : Nat := (gr h1 1).getD 0
  let q5 : Nat := (gr h0 1).getD 0
  let gi6 : th_i := va_up gi3 q5 (va_cpy (gi3 q4) (gi3 q5) (0 : Int32).toNatClampNeg (0 : Int32).toNatClampNeg (12 : Int32).toNatClampNeg)
  (gi6)
set_option maxHeartbeats 8000000 in
set_option maxRecDepth 100000 in
theorem k_X1_copyFrom (l : Launch) (D : va_G) (cA : Nat → ClassId) (Z : th_Zt) (τ : th_t) (gi : th_i) (gr : th_r) (sz : Nat) (h0 : Nat) (t_h0 : τ h0 = 2) (h1 : Nat) (t_h1 : τ h1 = 2) : Met l yX1_copyFrom wsX1_copyFrom ({ frames := 1, cells := 0, slots := 0, locals := 60 }) (va_Pc [.ref h0, .ref h1] (th_Pre D cA Z τ gi gr sz)) (va_Qv (fun (u : th_i × th_r) => th_Mod [2400, 2500] τ gi gr u.1 u.2 ∧ u.2 = gr ∧ (F_X1_copyFrom τ Z gi gr h0 h1 = u.1)) (fun (u : th_i × th_r) t => th_H D cA τ u.1 u.2 t.heap) (th_A τ sz)) 0 0 (th_A τ sz) := by
  refine Met.ofW (cc := cX1_copyFrom) (maxL := 2) (ret := none) (by decide) rfl ?_
  intro p e s m args below meth c s₁ B hml hv
  obtain ⟨rfl, hsz, hH, hK, hN, hZ⟩ := hv
  have hx := B.exec
  have hb := B.bytes
  have hr := B.returns
  have hts := atoms_spec (ws := wsX1_copyFrom) B.pre
  have hown : s.vm.findClass RX1 = some m.cls := findClass_of_methodNamed B.named
  have hlocks := B.notSynchronized
  subst hsz
  have hM : th_Mod [2400, 2500] τ gi gr gi gr := th_Mod.rf
  have hS : va_S (th_A τ s.heap.size) s.heap s.heap [] := va_S.rf
  have hl := lv_entry ([.ref h0, .ref h1]) (n := 2) (Nat.le_of_ble_eq_true rfl)
  rw [lg_entry_eq]
  generalize (lg_sl ([.ref h0, .ref h1]) ++ List.replicate (2 - (lg_sl ([.ref h0, .ref h1])).length) Slot.unset).toArray = ls at hl ⊢
  have hl : lv_has ls 2 [(0, .ref h0), (1, .ref h1)] := hl
  have hF : F_X1_copyFrom τ Z gi gr h0 h1 = F_X1_copyFrom τ Z gi gr h0 h1 := rfl
  refine lv_aload_n hx hb dX1_copyFrom_0 rfl (lv_at hl 1 rfl) ?_
  obtain ⟨q1, r1, t1⟩ : ∃ q, gr h1 0 = some q ∧ τ q = 24 := (hH.at t_h1 (th_nz rfl)).2.1
  refine th_get (ci := 1) (v := .ref q1) (T := TX1) (C := RX1) (N := 2) hx hb hts (fun w h => List.mem_cons_of_mem _ (List.mem_append_right _ h)) hown hK hH t_h1 (th_nz rfl) rfl rfl 0 (th_ltN rfl) (hts (.fieldLink RX1 9 "BayMoorings$Berths" "buoyOfBoat" "[I") (List.mem_cons_of_mem _ (List.mem_append_left _ (List.mem_of_getElem? (i := 0) rfl)))) (fun _ h9 => h9) (th_fR r1 rfl) dX1_copyFrom_1 ?_
  refine lv_iconst (v := 0) hx hb dX1_copyFrom_4 ic_0 ?_
  refine lv_aload_n hx hb dX1_copyFrom_5 rfl (lv_at hl 0 rfl) ?_
  obtain ⟨q2, r2, t2⟩ : ∃ q, gr h0 0 = some q ∧ τ q = 24 := (hH.at t_h0 (th_nz rfl)).2.1
  refine th_get (ci := 1) (v := .ref q2) (T := TX1) (C := RX1) (N := 2) hx hb hts (fun w h => List.mem_cons_of_mem _ (List.mem_append_right _ h)) hown hK hH t_h0 (th_nz rfl) rfl rfl 0 (th_ltN rfl) (hts (.fieldLink RX1 9 "BayMoorings$Berths" "buoyOfBoat" "[I") (List.mem_cons_of_mem _ (List.mem_append_left _ (List.mem_of_getElem? (i := 0) rfl)))) (fun _ h9 => h9) (th_fR r2 rfl) dX1_copyFrom_6 ?_
  refine lv_iconst (v := 0) hx hb dX1_copyFrom_9 ic_0 ?_
  refine lv_bipush (v := 16) hx hb dX1_copyFrom_10 bp_16 ?_
  refine th_copy hx hb (by rw [hml]; exact hl.1.symm) hown (hts (.methodLink RX1 32 arraycopyName) (List.mem_cons_of_mem _ (List.mem_append_left _ (List.mem_of_getElem? (i := 1) rfl)))) (hts (.native arraycopyName) (List.mem_cons_of_mem _ (List.mem_append_left _ (List.mem_of_getElem? (i := 2) rfl)))) (hts (.static arraycopyName) (List.mem_cons_of_mem _ (List.mem_append_left _ (List.mem_of_getElem? (i := 3) rfl)))) (hts (.initialized "java/lang/System") (List.mem_cons_of_mem _ (List.mem_append_left _ (List.mem_of_getElem? (i := 4) rfl)))) hK hH hS t1 t2 (by decide) (by decide) (Or.inl (by rw [t2]; decide)) 0 rfl rfl (fun _ => rfl) (by decide) (by decide) (by decide) (by decide) (by decide) (fun _ => trivial) (Nat.le_of_ble_eq_true rfl) (Nat.le_of_ble_eq_true rfl) dX1_copyFrom_12 (fun gi3 H locs eg3 ho3 hH hS => ?_)
  have hM := hM.a t2 (fun _ => th_mem (a := 2400) rfl) ho3
  refine lv_aload_n hx hb dX1_copyFrom_15 rfl (lv_at hl 1 rfl) ?_
  obtain ⟨q4, r4, t4⟩ : ∃ q, gr h1 1 = some q ∧ τ q = 25 := (hH.at t_h1 (th_nz rfl)).2.2
  refine th_get (ci := 1) (v := .ref q4) (T := TX1) (C := RX1) (N := 2) hx hb hts (fun w h => List.mem_cons_of_mem _ (List.mem_append_right _ h)) hown hK hH t_h1 (th_nz rfl) rfl rfl 1 (th_ltN rfl) (hts (.fieldLink RX1 15 "BayMoorings$Berths" "boatOfBuoy" "[I") (List.mem_cons_of_mem _ (List.mem_append_left _ (List.mem_of_getElem? (i := 5) rfl)))) (fun _ h9 => h9) (th_fR r4 rfl) dX1_copyFrom_16 ?_
  refine lv_iconst (v := 0) hx hb dX1_copyFrom_19 ic_0 ?_
  refine lv_aload_n hx hb dX1_copyFrom_20 rfl (lv_at hl 0 rfl) ?_
  obtain ⟨q5, r5, t5⟩ : ∃ q, gr h0 1 = some q ∧ τ q = 25 := (hH.at t_h0 (th_nz rfl)).2.2
  refine th_get (ci := 1) (v := .ref q5) (T := TX1) (C := RX1) (N := 2) hx hb hts (fun w h => List.mem_cons_of_mem _ (List.mem_append_right _ h)) hown hK hH t_h0 (th_nz rfl) rfl rfl 1 (th_ltN rfl) (hts (.fieldLink RX1 15 "BayMoorings$Berths" "boatOfBuoy" "[I") (List.mem_cons_of_mem _ (List.mem_append_left _ (List.mem_of_getElem? (i := 5) rfl)))) (fun _ h9 => h9) (th_fR r5 rfl) dX1_copyFrom_21 ?_
  refine lv_iconst (v := 0) hx hb dX1_copyFrom_24 ic_0 ?_
  refine lv_bipush (v := 12) hx hb dX1_copyFrom_25 bp_12 ?_
  refine th_copy hx hb (by rw [hml]; exact hl.1.symm) hown (hts (.methodLink RX1 32 arraycopyName) (List.mem_cons_of_mem _ (List.mem_append_left _ (List.mem_of_getElem? (i := 1) rfl)))) (hts (.native arraycopyName) (List.mem_cons_of_mem _ (List.mem_append_left _ (List.mem_of_getElem? (i := 2) rfl)))) (hts (.static arraycopyName) (List.mem_cons_of_mem _ (List.mem_append_left _ (List.mem_of_getElem? (i := 3) rfl)))) (hts (.initialized "java/lang/System") (List.mem_cons_of_mem _ (List.mem_append_left _ (List.mem_of_getElem? (i := 4) rfl)))) hK hH hS t4 t5 (by decide) (by decide) (Or.inl (by rw [t5]; decide)) 0 rfl rfl (fun _ => rfl) (by decide) (by decide) (by decide) (by decide) (by decide) (fun _ => trivial) (Nat.le_of_ble_eq_true rfl) (Nat.le_of_ble_eq_true rfl) dX1_copyFrom_27 (fun gi6 H locs eg6 ho6 hH hS => ?_)
  have hM := hM.a t5 (fun _ => th_mem (a := 2500) rfl) ho6
  exact W.vret hx hb hr (fun t ht hW => ⟨⟨(gi6, gr), rfl, ⟨hM, rfl, (hF.trans (by simp only [F_X1_copyFrom, r1, Option.getD_some, r2, ← eg3, r4, r5, ← eg6]))⟩, th_Ht ht hH⟩, hS.F ht⟩) hS.2.2 dX1_copyFrom_30
