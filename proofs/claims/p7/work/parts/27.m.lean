section
noncomputable def F_X7_buoyFor (τ : th_t) (Z : th_Zt) (gi : th_i) (gr : th_r) (h0 : Nat) (p1 : Int32) : Int32 :=
  let x1 : Int32 := gi h0 2
  let x2 : Int32 := x1 - 1
  let x4 : Int32 := F_X11_within τ Z gi gr p1 0 x2
  if x4 = (0 : Int32) then (
    (-1)) else (
    if (5 : Int32) ≤ p1 then (
      0) else (
      let q14 : Nat := (gr h0 6).getD 0
      let x15 : Int32 := gi q14 p1.toNatClampNeg
      x15))
set_option maxHeartbeats 8000000 in
set_option maxRecDepth 100000 in
theorem k_X7_buoyFor (l : Launch) (D : va_G) (cA : Nat → ClassId) (Z : th_Zt) (τ : th_t) (gi : th_i) (gr : th_r) (sz : Nat) (h0 : Nat) (t_h0 : τ h0 = 7) (p1 : Int32) : Met l yX7_buoyFor wsX7_buoyFor ({ frames := 1, cells := 0, slots := 0, locals := 22 }) (va_Pc [.ref h0, .int p1] (th_Pre D cA Z τ gi gr sz)) (va_Qi (fun (r : Int32) (_ : Unit) => (F_X7_buoyFor τ Z gi gr h0 p1 = r)) (fun (_ : Unit) t => th_H D cA τ gi gr t.heap) (th_A τ sz)) 0 0 (th_A τ sz) := by
  refine Met.ofW (cc := cX7_buoyFor) (maxL := 2) (ret := (some .int)) (by decide) rfl ?_
  intro p e s m args below meth c s₁ B hml hv
  obtain ⟨rfl, hsz, hH, hK, hN, hZ⟩ := hv
  have hx := B.exec
  have hb := B.bytes
  have hr := B.returns
  have hts := atoms_spec (ws := wsX7_buoyFor) B.pre
  have hown : s.vm.findClass RX7 = some m.cls := findClass_of_methodNamed B.named
  have hlocks := B.notSynchronized
  subst hsz
  have hS : va_S (th_A τ s.heap.size) s.heap s.heap [] := va_S.rf
  have hl := lv_entry ([.ref h0, .int p1]) (n := 2) (Nat.le_of_ble_eq_true rfl)
  rw [lg_entry_eq]
  generalize (lg_sl ([.ref h0, .int p1]) ++ List.replicate (2 - (lg_sl ([.ref h0, .int p1])).length) Slot.unset).toArray = ls at hl ⊢
  have hl : lv_has ls 2 [(0, .ref h0), (1, .int p1)] := hl
  have hF : F_X7_buoyFor τ Z gi gr h0 p1 = F_X7_buoyFor τ Z gi gr h0 p1 := rfl
  refine lv_iload_n hx hb dX7_buoyFor_0 rfl (lv_at hl 1 rfl) ?_
  refine lv_iconst (v := 0) hx hb dX7_buoyFor_1 ic_0 ?_
  refine lv_aload_n hx hb dX7_buoyFor_2 rfl (lv_at hl 0 rfl) ?_
  obtain ⟨x1, e1⟩ : ∃ y : Int32, y = gi h0 2 := ⟨_, rfl⟩
  refine th_get (ci := 6) (v := .int x1) (T := TX7) (C := RX7) (N := 8) hx hb hts (fun w h => List.mem_cons_of_mem _ (List.mem_append_right _ h)) hown hK hH t_h0 (th_nz rfl) (thE_7 _ _ _) rfl 2 (th_ltN rfl) (hts (.fieldLink RX7 17 "BayMoorings$Search" "size" "I") (List.mem_cons_of_mem _ (List.mem_append_left _ (List.mem_of_getElem? (i := 0) rfl)))) (fun _ h9 => h9) (th_fI e1 rfl) dX7_buoyFor_3 ?_
  have f1 : rg 0 5 x1 := rg_e e1 ((thI_7 hH t_h0).2.2.1)
  refine lv_iconst (v := 1) hx hb dX7_buoyFor_6 ic_1 ?_
  refine lv_isub hx hb dX7_buoyFor_7 ?_
  refine lv_topi (fun x2 e2 => ?_)
  have f2 : rg (-1) 4 x2 := rg_e e2 (rg_w (rg_sub f1 rgc_1 (th_leI rfl) (th_leI rfl)) (th_leI rfl) (th_leI rfl))
  have hA3 := th_Asub (τ := τ) hS
  refine va_calli (va_runSN (As := [.int p1, .int 0, .int x2]) (rest := []) ⟨hx, hb, hml, hown, hts⟩ (k_X11_within l D cA Z τ gi gr _ p1 0 x2) ⟨va_cnB (host := RX11) 3 hts gX7_buoyFor_X11_within_n64 rfl rfl rfl hN.2.2.2.2.2.1 (hts (.initialized RX11) (List.mem_cons_of_mem _ (List.mem_append_left _ (List.mem_of_getElem? (i := 3) rfl)))) (by decide +kernel) ⟨Nat.le_of_ble_eq_true rfl, Nat.le_of_ble_eq_true rfl⟩, (hts (.static yX11_within) (List.mem_cons_of_mem _ (List.mem_append_left _ (List.mem_of_getElem? (i := 2) rfl)))), trivial⟩ ⟨th_blind, (th_pre hH hK hN hZ hS hA3)⟩ rfl rfl hl.1 rfl (lv_room (Nat.le_of_ble_eq_true rfl)) dX7_buoyFor_8 ⟨Nat.le_of_ble_eq_true rfl, Nat.le_of_ble_eq_true rfl⟩) hS (fun q _ h => hA3 q h) hA3 (fun x4 u t H locs ht hvm hw4 hB hz1 hk1 hS => ?_)
  try dsimp only at hw4 hB
  rw [ht] at hB
  have hH := hB
  refine lv_if_eq (tgt := 28) hx hb dX7_buoyFor_11 (th_eqI rfl) (fun c5 => ?_) (fun c5 => ?_)
  · skip
    have f6 : rg 0 0 x4 := rg_w (rg_eq hw4.1 rgc_0 c5).1 (th_leI rfl) (th_leI rfl)
    refine lv_iconst (v := (-1)) hx hb dX7_buoyFor_28 ic_m1 ?_
    exact W.iret (v := (-1)) hx hb hr (fun t ht hW => ⟨⟨(-1), (), rfl, (hF.trans (by simp only [↓reduceIte, F_X7_buoyFor, ← e1, ← e2, hw4.2.2.1, eq_true c5])), th_Ht ht hH⟩, hS.F ht⟩) hS.2.2 dX7_buoyFor_29
  · skip
    have f7 : rg 1 1 x4 := rg_w (rg_neL hw4.1 rgc_0 c5) (th_leI rfl) (th_leI rfl)
    have g8 := hw4.2.1 c5
    have f9 : rg 0 2147483647 p1 := rg_w (rg_le rgc_0 (rg_any p1) g8.1).2 (th_leI rfl) (th_leI rfl)
    have f10 : rg 0 4 p1 := rg_w (rg_le f9 f2 g8.2).1 (th_leI rfl) (th_leI rfl)
    have f11 : rg 0 4 x2 := rg_w (rg_le f10 f2 g8.2).2 (th_leI rfl) (th_leI rfl)
    have f12 : rg 1 5 x1 := rg_back (rg_dS e2 f1 rgc_1 (th_leI rfl) (th_leI rfl)) f1 f11 (by decide) (by decide)
    refine lv_iload_n hx hb dX7_buoyFor_14 rfl (lv_at hl 1 rfl) ?_
    refine lv_iconst (v := 5) hx hb dX7_buoyFor_15 ic_5 ?_
    refine lv_icmp_ge (tgt := 28) hx hb dX7_buoyFor_16 (th_eqI rfl) (fun c13 => ?_) (fun c13 => ?_)
    · skip
      exact absurd (rg_le rgc_5 f10 c13).1 (rg_no (th_ltI rfl))
    · skip
      refine lv_aload_n hx hb dX7_buoyFor_19 rfl (lv_at hl 0 rfl) ?_
      obtain ⟨q14, r14, t14⟩ : ∃ q, gr h0 6 = some q ∧ τ q = 34 := (thI_7 hH t_h0).2.2.2.2.2.2
      refine th_get (ci := 6) (v := .ref q14) (T := TX7) (C := RX7) (N := 8) hx hb hts (fun w h => List.mem_cons_of_mem _ (List.mem_append_right _ h)) hown hK hH t_h0 (th_nz rfl) (thE_7 _ _ _) rfl 6 (th_ltN rfl) (hts (.fieldLink RX7 31 "BayMoorings$Search" "best" "[I") (List.mem_cons_of_mem _ (List.mem_append_left _ (List.mem_of_getElem? (i := 1) rfl)))) (fun _ h9 => h9) (th_fR r14 rfl) dX7_buoyFor_20 ?_
      refine lv_iload_n hx hb dX7_buoyFor_23 rfl (lv_at hl 1 rfl) ?_
      refine th_iald hx hb hK hH t14 (th_nz rfl) 0 (thE_34 _ _ _) rfl (rg_in (n := 5) f10 (th_leI rfl) (th_ltI rfl)) dX7_buoyFor_24 ?_
      refine lv_topi (fun x15 e15 => ?_)
      refine lv_goto (tgt := 29) hx hb dX7_buoyFor_25 (th_eqI rfl) ?_
      exact W.iret (v := x15) hx hb hr (fun t ht hW => ⟨⟨x15, (), rfl, (hF.trans (by simp only [↓reduceIte, F_X7_buoyFor, ← e1, ← e2, hw4.2.2.1, eq_false c5, eq_false c13, r14, Option.getD_some, ← e15])), th_Ht ht hH⟩, hS.F ht⟩) hS.2.2 dX7_buoyFor_29

noncomputable def f_X7_openAtFirst_56 (τ : th_t) (Z : th_Zt) (gi : th_i) (gr : th_r) (h0 : Nat) (h1 : Nat) (y4_2 : Int32) (y4_3 : Int32) (k_4 : Int32 → Int32 → Int32) (y56_2 : Int32) : Int32 :=
  let x1 : Int32 := y4_3 + 1
  k_4 y56_2 x1
noncomputable def f_X7_openAtFirst_4 (τ : th_t) (Z : th_Zt) (gi : th_i) (gr : th_r) (h0 : Nat) (h1 : Nat) : Nat → Int32 → Int32 → Int32
  | 0, y4_2, y4_3 => 0
  | n4 + 1, y4_2, y4_3 =>
    let q2 : Nat := (gr h0 0).getD 0
    let x3 : Int32 := gi q2 5
    if x3 ≤ y4_3 then (
      y4_2) else (
      let r9 : Option Nat := F_X0_buoyAt τ Z gi gr q2 y4_3
      Option.elim r9 (
        f_X7_openAtFirst_56 τ Z gi gr h0 h1 y4_2 y4_3 (f_X7_openAtFirst_4 τ Z gi gr h0 h1 n4) y4_2) (fun q10 =>
        let q13 : Nat := (gr q2 4).getD 0
        let x15 : Int32 := F_X0_mayLie τ Z gi gr q2 h1 q10 q13
        if x15 = (0 : Int32) then (
          f_X7_openAtFirst_56 τ Z gi gr h0 h1 y4_2 y4_3 (f_X7_openAtFirst_4 τ Z gi gr h0 h1 n4) y4_2) else (
          let x19 : Int32 := 1 <<< (y4_3 &&& 31)
          let x20 : Int32 := y4_2 ||| x19
          f_X7_openAtFirst_56 τ Z gi gr h0 h1 y4_2 y4_3 (f_X7_openAtFirst_4 τ Z gi gr h0 h1 n4) x20)))
noncomputable def F_X7_openAtFirst (τ : th_t) (Z : th_Zt) (gi : th_i) (gr : th_r) (h0 : Nat) (h1 : Nat) : Int32 :=
  f_X7_openAtFirst_4 τ Z gi gr h0 h1 ((12 - (0 : Int32).toInt).toNat + 1) 0 0
set_option maxHeartbeats 8000000 in
set_option maxRecDepth 100000 in
theorem k_X7_openAtFirst (l : Launch) (D : va_G) (cA : Nat → ClassId) (Z : th_Zt) (τ : th_t) (gi : th_i) (gr : th_r) (sz : Nat) (h0 : Nat) (t_h0 : τ h0 = 7) (h1 : Nat) (t_h1 : τ h1 = 8 ∨ τ h1 = 9 ∨ τ h1 = 4) : Met l yX7_openAtFirst wsX7_openAtFirst ({ frames := 4, cells := 0, slots := 0, locals := 123 }) (va_Pc [.ref h0, .ref h1] (th_Pre D cA Z τ gi gr sz)) (va_Qi (fun (r : Int32) (_ : Unit) => (F_X7_openAtFirst τ Z gi gr h0 h1 = r)) (fun (_ : Unit) t => th_H D cA τ gi gr t.heap) (th_A τ sz)) 0 0 (th_A τ sz) := by
  refine Met.ofW (cc := cX7_openAtFirst) (maxL := 5) (ret := (some .int)) (by decide) rfl ?_
  intro p e s m args below meth c s₁ B hml hv
  obtain ⟨rfl, hsz, hH, hK, hN, hZ⟩ := hv
  have hx := B.exec
  have hb := B.bytes
  have hr := B.returns
  have hts := atoms_spec (ws := wsX7_openAtFirst) B.pre
  have hown : s.vm.findClass RX7 = some m.cls := findClass_of_methodNamed B.named
  have hlocks := B.notSynchronized
  subst hsz
  have J4 : ∀ (n4 : Nat) (H : Heap) (locs : List Loc) (ls : Array Slot) (y4_2 : Int32) (y4_3 : Int32), (12 - y4_3.toInt).toNat < n4 → th_H D cA τ gi gr H → va_S (th_A τ s.heap.size) s.heap H locs → lv_has ls 5 [(0, .ref h0), (1, .ref h1), (2, .int y4_2), (3, .int y4_3)] → rg 0 12 y4_3 → F_X7_openAtFirst τ Z gi gr h0 h1 = f_X7_openAtFirst_4 τ Z gi gr h0 h1 n4 y4_2 y4_3 → W p l e (headSpec wsX7_openAtFirst ({ frames := 4, cells := 0, slots := 0, locals := 123 })).room s m [.ref h0, .ref h1].toArray below meth c H locs 0 0 (MQ below (va_Qi (fun (r : Int32) (_ : Unit) => (F_X7_openAtFirst τ Z gi gr h0 h1 = r)) (fun (_ : Unit) t => th_H D cA τ gi gr t.heap) (th_A τ s.heap.size)) [.ref h0, .ref h1].toArray s 0 0 (th_A τ s.heap.size)) (F0 m 4 ls []) := by
    intro n4
    induction n4 with
    | zero =>
      intro H locs ls y4_2 y4_3 hn
      exact absurd hn (Nat.not_lt_zero _)
    | succ n4 ih4 =>
      intro H locs ls y4_2 y4_3 hn4 hH hS hl fy4_3 hF
      have J56 : ∀ (H : Heap) (locs : List Loc) (ls : Array Slot) (y56_2 : Int32), th_H D cA τ gi gr H → va_S (th_A τ s.heap.size) s.heap H locs → lv_has ls 5 [(0, .ref h0), (1, .ref h1), (2, .int y56_2), (3, .int y4_3)] → rg 0 11 y4_3 → F_X7_openAtFirst τ Z gi gr h0 h1 = f_X7_openAtFirst_56 τ Z gi gr h0 h1 y4_2 y4_3 (f_X7_openAtFirst_4 τ Z gi gr h0 h1 n4) y56_2 → W p l e (headSpec wsX7_openAtFirst ({ frames := 4, cells := 0, slots := 0, locals := 123 })).room s m [.ref h0, .ref h1].toArray below meth c H locs 0 0 (MQ below (va_Qi (fun (r : Int32) (_ : Unit) => (F_X7_openAtFirst τ Z gi gr h0 h1 = r)) (fun (_ : Unit) t => th_H D cA τ gi gr t.heap) (th_A τ s.heap.size)) [.ref h0, .ref h1].toArray s 0 0 (th_A τ s.heap.size)) (F0 m 56 ls []) := by
        intro H locs ls y56_2 hH hS hl fy56_3 hF
        obtain ⟨x1, e1⟩ : ∃ y : Int32, y = y4_3 + 1 := ⟨_, rfl⟩
        have f1 : rg 1 12 x1 := rg_e e1 (rg_w (rg_add fy56_3 rgc_1 (th_leI rfl) (th_leI rfl)) (th_leI rfl) (th_leI rfl))
        refine lv_iinc (v := x1) (lv' := [(3, .int x1), (0, .ref h0), (1, .ref h1), (2, .int y56_2)]) hx hb dX7_openAtFirst_56 hl (k := 3) rfl (by rw [e1]; rfl) (th_ltN rfl) rfl (fun ls hl => ?_)
        refine lv_goto (tgt := 4) hx hb dX7_openAtFirst_59 (th_eqI rfl) ?_
        exact ih4 _ _ _ y56_2 x1 (th_up (rg_dA e1 fy56_3 rgc_1 (th_leI rfl) (th_leI rfl)) fy56_3 hn4 (th_ltI rfl)) hH hS (lv_sub hl [1, 2, 3, 0] rfl) (rg_w f1 (th_leI rfl) (th_leI rfl)) (hF.trans (by simp only [f_X7_openAtFirst_56, ← e1]))
      refine lv_iload_n hx hb dX7_openAtFirst_4 rfl (lv_at hl 3 rfl) ?_
      refine lv_aload_n hx hb dX7_openAtFirst_5 rfl (lv_at hl 0 rfl) ?_
      obtain ⟨q2, r2, t2⟩ : ∃ q, gr h0 0 = some q ∧ τ q = 1 := (thI_7 hH t_h0).1
      refine th_get (ci := 6) (v := .ref q2) (T := TX7) (C := RX7) (N := 8) hx hb hts (fun w h => List.mem_cons_of_mem _ (List.mem_append_left _ (List.mem_append_left _ (List.mem_append_left _ (List.mem_append_left _ (List.mem_append_left _ (List.mem_append_left _ (List.mem_append_right _ h)))))))) hown hK hH t_h0 (th_nz rfl) (thE_7 _ _ _) rfl 0 (th_ltN rfl) (hts (.fieldLink RX7 37 "BayMoorings$Search" "bay" "LBayMoorings$Bay;") (List.mem_cons_of_mem _ (List.mem_append_left _ (List.mem_append_left _ (List.mem_append_left _ (List.mem_append_left _ (List.mem_append_left _ (List.mem_append_left _ (List.mem_append_left _ (List.mem_append_left _ (List.mem_of_getElem? (i := 0) rfl))))))))))) (fun _ h9 => h9) (th_fR r2 rfl) dX7_openAtFirst_6 ?_
      obtain ⟨x3, e3⟩ : ∃ y : Int32, y = gi q2 5 := ⟨_, rfl⟩
      refine th_get (ci := 0) (v := .int x3) (T := TX0) (C := RX0) (N := 9) hx hb hts (fun w h => List.mem_cons_of_mem _ (List.mem_append_left _ (List.mem_append_left _ (List.mem_append_left _ (List.mem_append_left _ (List.mem_append_left _ (List.mem_append_right _ h))))))) hown hK hH t2 (th_nz rfl) (thE_1 _ _ _) rfl 5 (th_ltN rfl) (hts (.fieldLink RX7 68 "BayMoorings$Bay" "buoyCount" "I") (List.mem_cons_of_mem _ (List.mem_append_left _ (List.mem_append_left _ (List.mem_append_left _ (List.mem_append_left _ (List.mem_append_left _ (List.mem_append_left _ (List.mem_append_left _ (List.mem_append_left _ (List.mem_of_getElem? (i := 1) rfl))))))))))) (fun _ h9 => h9) (th_fI e3 rfl) dX7_openAtFirst_9 ?_
      have f3 : rg 0 12 x3 := rg_e e3 ((thI_1 hH t2).2.2.2.2.2.1)
      refine lv_icmp_ge (tgt := 62) hx hb dX7_openAtFirst_12 (th_eqI rfl) (fun c4 => ?_) (fun c4 => ?_)
      · skip
        refine lv_iload_n hx hb dX7_openAtFirst_62 rfl (lv_at hl 2 rfl) ?_
        exact W.iret (v := y4_2) hx hb hr (fun t ht hW => ⟨⟨y4_2, (), rfl, (hF.trans (by simp only [↓reduceIte, f_X7_openAtFirst_4, r2, Option.getD_some, ← e3, eq_true c4])), th_Ht ht hH⟩, hS.F ht⟩) hS.2.2 dX7_openAtFirst_63
      · skip
        have f5 : rg 1 12 x3 := rg_w (rg_nle f3 fy4_3 c4).1 (th_leI rfl) (th_leI rfl)
        have f6 : rg 0 11 y4_3 := rg_w (rg_nle f3 fy4_3 c4).2 (th_leI rfl) (th_leI rfl)
        refine lv_aload_n hx hb dX7_openAtFirst_15 rfl (lv_at hl 0 rfl) ?_
        refine th_get (ci := 6) (v := .ref q2) (T := TX7) (C := RX7) (N := 8) hx hb hts (fun w h => List.mem_cons_of_mem _ (List.mem_append_left _ (List.mem_append_left _ (List.mem_append_left _ (List.mem_append_left _ (List.mem_append_left _ (List.mem_append_left _ (List.mem_append_right _ h)))))))) hown hK hH t_h0 (th_nz rfl) (thE_7 _ _ _) rfl 0 (th_ltN rfl) (hts (.fieldLink RX7 37 "BayMoorings$Search" "bay" "LBayMoorings$Bay;") (List.mem_cons_of_mem _ (List.mem_append_left _ (List.mem_append_left _ (List.mem_append_left _ (List.mem_append_left _ (List.mem_append_left _ (List.mem_append_left _ (List.mem_append_left _ (List.mem_append_left _ (List.mem_of_getElem? (i := 0) rfl))))))))))) (fun _ h9 => h9) (th_fR r2 rfl) dX7_openAtFirst_16 ?_
        refine lv_iload_n hx hb dX7_openAtFirst_19 rfl (lv_at hl 3 rfl) ?_
        have hA8 := th_Asub (τ := τ) hS
        refine va_callq (va_runV (As := [.int y4_3]) (rest := []) ⟨hx, hb, hml, hown, hts⟩ (k_X0_buoyAt l D cA Z τ gi gr _ q2 t2 y4_3) (cwV 1 hts gX7_openAtFirst_X0_buoyAt rfl rfl rfl hd_X0_buoyAt__1 ⟨Nat.le_of_ble_eq_true rfl, Nat.le_of_ble_eq_true rfl⟩) ⟨th_blind, tr_1 hK hH t2, (th_pre hH hK hN hZ hS hA8)⟩ rfl rfl hl.1 rfl (lv_room (Nat.le_of_ble_eq_true rfl)) dX7_openAtFirst_20 ⟨Nat.le_of_ble_eq_true rfl, Nat.le_of_ble_eq_true rfl⟩) hS (fun q _ h => hA8 q h) hA8 (fun r9 u t H locs ht hvm hw9 hB hz1 hk1 hS => ?_)
        try dsimp only at hw9 hB
        rw [ht] at hB
        have hH := hB
        refine th_astoreq (i := 4) (lv' := [(4, va_rf r9), (0, .ref h0), (1, .ref h1), (2, .int y4_2), (3, .int y4_3)]) hx hb dX7_openAtFirst_23 hl (th_ltN rfl) rfl (fun ls hl => ?_)
        refine th_aloadq hx hb dX7_openAtFirst_25 (lv_at hl 0 rfl) ?_
        refine th_ifnull (tgt := 56) hx hb dX7_openAtFirst_27 (th_eqI rfl) (fun z10 => ?_) (fun q10 z10 => ?_)
        · skip
          subst z10
          have hl : lv_has ls 5 [(4, .null), (0, .ref h0), (1, .ref h1), (2, .int y4_2), (3, .int y4_3)] := hl
          exact J56 _ _ _ y4_2 hH hS (lv_sub hl [1, 2, 3, 4] rfl) f6 (hF.trans (by simp only [↓reduceIte, f_X7_openAtFirst_4, r2, Option.getD_some, ← e3, eq_false c4, hw9.2, Option.elim_none]))
        · skip
          subst z10
          have t10 := hw9.1 q10 rfl
          have hl : lv_has ls 5 [(4, .ref q10), (0, .ref h0), (1, .ref h1), (2, .int y4_2), (3, .int y4_3)] := hl
          refine lv_aload_n hx hb dX7_openAtFirst_30 rfl (lv_at hl 1 rfl) ?_
          refine th_get (ci := 6) (v := .ref q2) (T := TX7) (C := RX7) (N := 8) hx hb hts (fun w h => List.mem_cons_of_mem _ (List.mem_append_left _ (List.mem_append_left _ (List.mem_append_left _ (List.mem_append_left _ (List.mem_append_left _ (List.mem_append_left _ (List.mem_append_right _ h)))))))) hown hK hH t_h0 (th_nz rfl) (thE_7 _ _ _) rfl 0 (th_ltN rfl) (hts (.fieldLink RX7 37 "BayMoorings$Search" "bay" "LBayMoorings$Bay;") (List.mem_cons_of_mem _ (List.mem_append_left _ (List.mem_append_left _ (List.mem_append_left _ (List.mem_append_left _ (List.mem_append_left _ (List.mem_append_left _ (List.mem_append_left _ (List.mem_append_left _ (List.mem_of_getElem? (i := 0) rfl))))))))))) (fun _ h9 => h9) (th_fR r2 rfl) dX7_openAtFirst_31 ?_
          refine lv_aload_n hx hb dX7_openAtFirst_34 rfl (lv_at hl 2 rfl) ?_
          refine lv_aload hx hb dX7_openAtFirst_35 (lv_at hl 0 rfl) ?_
          refine lv_aload_n hx hb dX7_openAtFirst_37 rfl (lv_at hl 1 rfl) ?_
          refine th_get (ci := 6) (v := .ref q2) (T := TX7) (C := RX7) (N := 8) hx hb hts (fun w h => List.mem_cons_of_mem _ (List.mem_append_left _ (List.mem_append_left _ (List.mem_append_left _ (List.mem_append_left _ (List.mem_append_left _ (List.mem_append_left _ (List.mem_append_right _ h)))))))) hown hK hH t_h0 (th_nz rfl) (thE_7 _ _ _) rfl 0 (th_ltN rfl) (hts (.fieldLink RX7 37 "BayMoorings$Search" "bay" "LBayMoorings$Bay;") (List.mem_cons_of_mem _ (List.mem_append_left _ (List.mem_append_left _ (List.mem_append_left _ (List.mem_append_left _ (List.mem_append_left _ (List.mem_append_left _ (List.mem_append_left _ (List.mem_append_left _ (List.mem_of_getElem? (i := 0) rfl))))))))))) (fun _ h9 => h9) (th_fR r2 rfl) dX7_openAtFirst_38 ?_
          obtain ⟨q13, r13, t13⟩ : ∃ q, gr q2 4 = some q ∧ τ q = 2 := (thI_1 hH t2).2.2.2.2.1
          refine th_get (ci := 0) (v := .ref q13) (T := TX0) (C := RX0) (N := 9) hx hb hts (fun w h => List.mem_cons_of_mem _ (List.mem_append_left _ (List.mem_append_left _ (List.mem_append_left _ (List.mem_append_left _ (List.mem_append_left _ (List.mem_append_right _ h))))))) hown hK hH t2 (th_nz rfl) (thE_1 _ _ _) rfl 4 (th_ltN rfl) (hts (.fieldLink RX7 75 "BayMoorings$Bay" "berths" "LBayMoorings$Berths;") (List.mem_cons_of_mem _ (List.mem_append_left _ (List.mem_append_left _ (List.mem_append_left _ (List.mem_append_left _ (List.mem_append_left _ (List.mem_append_left _ (List.mem_append_left _ (List.mem_append_left _ (List.mem_of_getElem? (i := 2) rfl))))))))))) (fun _ h9 => h9) (th_fR r13 rfl) dX7_openAtFirst_41 ?_
          have hA14 := th_Asub (τ := τ) hS
          refine va_calli (va_runV (As := [.ref h1, .ref q10, .ref q13]) (rest := []) ⟨hx, hb, hml, hown, hts⟩ (k_X0_mayLie l D cA Z τ gi gr _ q2 t2 h1 t_h1 q10 t10 q13 t13) (cwV 3 hts gX7_openAtFirst_X0_mayLie rfl rfl rfl hd_X0_mayLie__3 ⟨Nat.le_of_ble_eq_true rfl, Nat.le_of_ble_eq_true rfl⟩) ⟨th_blind, tr_1 hK hH t2, (th_pre hH hK hN hZ hS hA14)⟩ rfl rfl hl.1 rfl (lv_room (Nat.le_of_ble_eq_true rfl)) dX7_openAtFirst_44 ⟨Nat.le_of_ble_eq_true rfl, Nat.le_of_ble_eq_true rfl⟩) hS (fun q _ h => hA14 q h) hA14 (fun x15 u t H locs ht hvm hw15 hB hz1 hk1 hS => ?_)
          try dsimp only at hw15 hB
          rw [ht] at hB
          have hH := hB
          refine lv_if_eq (tgt := 56) hx hb dX7_openAtFirst_47 (th_eqI rfl) (fun c16 => ?_) (fun c16 => ?_)
          · skip
            have f17 : rg 0 0 x15 := rg_w (rg_eq hw15.1 rgc_0 c16).1 (th_leI rfl) (th_leI rfl)
            exact J56 _ _ _ y4_2 hH hS (lv_sub hl [1, 2, 3, 4] rfl) f6 (hF.trans (by simp only [↓reduceIte, f_X7_openAtFirst_4, r2, Option.getD_some, ← e3, eq_false c4, hw9.2, Option.elim_some, r13, hw15.2, eq_true c16]))
          · skip
            have f18 : rg 1 1 x15 := rg_w (rg_neL hw15.1 rgc_0 c16) (th_leI rfl) (th_leI rfl)
            refine lv_iload_n hx hb dX7_openAtFirst_50 rfl (lv_at hl 3 rfl) ?_
            refine lv_iconst (v := 1) hx hb dX7_openAtFirst_51 ic_1 ?_
            refine lv_iload_n hx hb dX7_openAtFirst_52 rfl (lv_at hl 4 rfl) ?_
            refine lv_ishl hx hb dX7_openAtFirst_53 ?_
            refine lv_topi (fun x19 e19 => ?_)
            refine lv_ior hx hb dX7_openAtFirst_54 ?_
            refine lv_topi (fun x20 e20 => ?_)
            refine lv_istore_n (i := 2) (lv' := [(2, .int x20), (4, .ref q10), (0, .ref h0), (1, .ref h1), (3, .int y4_3)]) hx hb dX7_openAtFirst_55 rfl hl (th_ltN rfl) rfl (fun ls hl => ?_)
            exact J56 _ _ _ x20 hH hS (lv_sub hl [2, 3, 0, 4] rfl) f6 (hF.trans (by simp only [↓reduceIte, f_X7_openAtFirst_4, r2, Option.getD_some, ← e3, eq_false c4, hw9.2, Option.elim_some, r13, hw15.2, eq_false c16, ← e19, ← e20]))
  have hS : va_S (th_A τ s.heap.size) s.heap s.heap [] := va_S.rf
  have hl := lv_entry ([.ref h0, .ref h1]) (n := 5) (Nat.le_of_ble_eq_true rfl)
  rw [lg_entry_eq]
  generalize (lg_sl ([.ref h0, .ref h1]) ++ List.replicate (5 - (lg_sl ([.ref h0, .ref h1])).length) Slot.unset).toArray = ls at hl ⊢
  have hl : lv_has ls 5 [(0, .ref h0), (1, .ref h1)] := hl
  have hF : F_X7_openAtFirst τ Z gi gr h0 h1 = F_X7_openAtFirst τ Z gi gr h0 h1 := rfl
  refine lv_iconst (v := 0) hx hb dX7_openAtFirst_0 ic_0 ?_
  refine lv_istore_n (i := 2) (lv' := [(2, .int 0), (0, .ref h0), (1, .ref h1)]) hx hb dX7_openAtFirst_1 rfl hl (th_ltN rfl) rfl (fun ls hl => ?_)
  refine lv_iconst (v := 0) hx hb dX7_openAtFirst_2 ic_0 ?_
  refine lv_istore_n (i := 3) (lv' := [(3, .int 0), (2, .int 0), (0, .ref h0), (1, .ref h1)]) hx hb dX7_openAtFirst_3 rfl hl (th_ltN rfl) rfl (fun ls hl => ?_)
  exact J4 _ _ _ _ 0 0 (Nat.lt_add_one _) hH hS (lv_sub hl [2, 3, 1, 0] rfl) (rg_w rgc_0 (th_leI rfl) (th_leI rfl)) (hF.trans (by simp only [F_X7_openAtFirst]))

noncomputable def f_X7_hopefulFrom_28 (τ : th_t) (Z : th_Zt) (gi : th_i) (gr : th_r) (h0 : Nat) (p1 : Int32) (y4_2 : Int32) (y4_3 : Int32) (k_4 : Int32 → Int32 → Int32) (y28_2 : Int32) : Int32 :=
  let w28_0 : Int32 := gi h0 2
  let x1 : Int32 := y4_3 + 1
  k_4 y28_2 x1
noncomputable def f_X7_hopefulFrom_4 (τ : th_t) (Z : th_Zt) (gi : th_i) (gr : th_r) (h0 : Nat) (p1 : Int32) : Nat → Int32 → Int32 → Int32
  | 0, y4_2, y4_3 => 0
  | n4 + 1, y4_2, y4_3 =>
    let x2 : Int32 := gi h0 2
    if x2 ≤ y4_3 then (
      y4_2) else (
      let q6 : Nat := (gr h0 3).getD 0
      let x7 : Int32 := p1 * 5
      let x8 : Int32 := x7 + y4_3
      let x9 : Int32 := gi q6 x8.toNatClampNeg
      if x9 = (0 : Int32) then (
        f_X7_hopefulFrom_28 τ Z gi gr h0 p1 y4_2 y4_3 (f_X7_hopefulFrom_4 τ Z gi gr h0 p1 n4) y4_2) else (
        let x12 : Int32 := y4_2 + 1
        f_X7_hopefulFrom_28 τ Z gi gr h0 p1 y4_2 y4_3 (f_X7_hopefulFrom_4 τ Z gi gr h0 p1 n4) x12))
noncomputable def F_X7_hopefulFrom (τ : th_t) (Z : th_Zt) (gi : th_i) (gr : th_r) (h0 : Nat) (p1 : Int32) : Int32 :=
  f_X7_hopefulFrom_4 τ Z gi gr h0 p1 ((5 - p1.toInt).toNat + 1) 0 p1
set_option maxHeartbeats 8000000 in
set_option maxRecDepth 100000 in
theorem k_X7_hopefulFrom (l : Launch) (D : va_G) (cA : Nat → ClassId) (Z : th_Zt) (τ : th_t) (gi : th_i) (gr : th_r) (sz : Nat) (h0 : Nat) (t_h0 : τ h0 = 7) (p1 : Int32) (f_p1 : rg 0 4 p1) : Met l yX7_hopefulFrom wsX7_hopefulFrom ({ frames := 0, cells := 0, slots := 0, locals := 0 }) (va_Pc [.ref h0, .int p1] (th_Pre D cA Z τ gi gr sz)) (va_Qi (fun (r : Int32) (_ : Unit) => (F_X7_hopefulFrom τ Z gi gr h0 p1 = r)) (fun (_ : Unit) t => th_H D cA τ gi gr t.heap) (th_A τ sz)) 0 0 (th_A τ sz) := by
  refine Met.ofW (cc := cX7_hopefulFrom) (maxL := 4) (ret := (some .int)) (by decide) rfl ?_
  intro p e s m args below meth c s₁ B hml hv
  obtain ⟨rfl, hsz, hH, hK, hN, hZ⟩ := hv
  have hx := B.exec
  have hb := B.bytes
  have hr := B.returns
  have hts := atoms_spec (ws := wsX7_hopefulFrom) B.pre
  have hown : s.vm.findClass RX7 = some m.cls := findClass_of_methodNamed B.named
  have hlocks := B.notSynchronized
  subst hsz
  have J4 : ∀ (n4 : Nat) (H : Heap) (locs : List Loc) (ls : Array Slot) (y4_2 : Int32) (y4_3 : Int32), (5 - y4_3.toInt).toNat < n4 → th_H D cA τ gi gr H → va_S (th_A τ s.heap.size) s.heap H locs → lv_has ls 4 [(0, .ref h0), (1, .int p1), (2, .int y4_2), (3, .int y4_3)] → rg 0 4 p1 → rg 0 5 y4_3 → F_X7_hopefulFrom τ Z gi gr h0 p1 = f_X7_hopefulFrom_4 τ Z gi gr h0 p1 n4 y4_2 y4_3 → W p l e (headSpec wsX7_hopefulFrom ({ frames := 0, cells := 0, slots := 0, locals := 0 })).room s m [.ref h0, .int p1].toArray below meth c H locs 0 0 (MQ below (va_Qi (fun (r : Int32) (_ : Unit) => (F_X7_hopefulFrom τ Z gi gr h0 p1 = r)) (fun (_ : Unit) t => th_H D cA τ gi gr t.heap) (th_A τ s.heap.size)) [.ref h0, .int p1].toArray s 0 0 (th_A τ s.heap.size)) (F0 m 4 ls []) := by
    intro n4
    induction n4 with
    | zero =>
      intro H locs ls y4_2 y4_3 hn
      exact absurd hn (Nat.not_lt_zero _)
    | succ n4 ih4 =>
      intro H locs ls y4_2 y4_3 hn4 hH hS hl fy4_1 fy4_3 hF
      have J28 : ∀ (H : Heap) (locs : List Loc) (ls : Array Slot) (y28_2 : Int32) (w28_0 : Int32), th_H D cA τ gi gr H → va_S (th_A τ s.heap.size) s.heap H locs → lv_has ls 4 [(0, .ref h0), (1, .int p1), (2, .int y28_2), (3, .int y4_3)] → rg 0 4 p1 → rg 0 4 y4_3 → w28_0 = gi h0 2 → rg 1 5 w28_0 → F_X7_hopefulFrom τ Z gi gr h0 p1 = f_X7_hopefulFrom_28 τ Z gi gr h0 p1 y4_2 y4_3 (f_X7_hopefulFrom_4 τ Z gi gr h0 p1 n4) y28_2 → W p l e (headSpec wsX7_hopefulFrom ({ frames := 0, cells := 0, slots := 0, locals := 0 })).room s m [.ref h0, .int p1].toArray below meth c H locs 0 0 (MQ below (va_Qi (fun (r : Int32) (_ : Unit) => (F_X7_hopefulFrom τ Z gi gr h0 p1 = r)) (fun (_ : Unit) t => th_H D cA τ gi gr t.heap) (th_A τ s.heap.size)) [.ref h0, .int p1].toArray s 0 0 (th_A τ s.heap.size)) (F0 m 28 ls []) := by
        intro H locs ls y28_2 w28_0 hH hS hl fy28_1 fy28_3 ew28_0 fw28_0 hF
        obtain ⟨x1, e1⟩ : ∃ y : Int32, y = y4_3 + 1 := ⟨_, rfl⟩
        have f1 : rg 1 5 x1 := rg_e e1 (rg_w (rg_add fy28_3 rgc_1 (th_leI rfl) (th_leI rfl)) (th_leI rfl) (th_leI rfl))
        refine lv_iinc (v := x1) (lv' := [(3, .int x1), (0, .ref h0), (1, .int p1), (2, .int y28_2)]) hx hb dX7_hopefulFrom_28 hl (k := 3) rfl (by rw [e1]; rfl) (th_ltN rfl) rfl (fun ls hl => ?_)
        refine lv_goto (tgt := 4) hx hb dX7_hopefulFrom_31 (th_eqI rfl) ?_
        exact ih4 _ _ _ y28_2 x1 (th_up (rg_dA e1 fy28_3 rgc_1 (th_leI rfl) (th_leI rfl)) fy28_3 hn4 (th_ltI rfl)) hH hS (lv_sub hl [1, 2, 3, 0] rfl) fy28_1 (rg_w f1 (th_leI rfl) (th_leI rfl)) (hF.trans (by simp only [f_X7_hopefulFrom_28, ← ew28_0, ← e1]))
      refine lv_iload_n hx hb dX7_hopefulFrom_4 rfl (lv_at hl 3 rfl) ?_
      refine lv_aload_n hx hb dX7_hopefulFrom_5 rfl (lv_at hl 0 rfl) ?_
      obtain ⟨x2, e2⟩ : ∃ y : Int32, y = gi h0 2 := ⟨_, rfl⟩
      refine th_get (ci := 6) (v := .int x2) (T := TX7) (C := RX7) (N := 8) hx hb hts (fun w h => List.mem_cons_of_mem _ (List.mem_append_right _ h)) hown hK hH t_h0 (th_nz rfl) (thE_7 _ _ _) rfl 2 (th_ltN rfl) (hts (.fieldLink RX7 17 "BayMoorings$Search" "size" "I") (List.mem_cons_of_mem _ (List.mem_append_left _ (List.mem_of_getElem? (i := 0) rfl)))) (fun _ h9 => h9) (th_fI e2 rfl) dX7_hopefulFrom_6 ?_
      have f2 : rg 0 5 x2 := rg_e e2 ((thI_7 hH t_h0).2.2.1)
      refine lv_icmp_ge (tgt := 34) hx hb dX7_hopefulFrom_9 (th_eqI rfl) (fun c3 => ?_) (fun c3 => ?_)
      · skip
        refine lv_iload_n hx hb dX7_hopefulFrom_34 rfl (lv_at hl 2 rfl) ?_
        exact W.iret (v := y4_2) hx hb hr (fun t ht hW => ⟨⟨y4_2, (), rfl, (hF.trans (by simp only [↓reduceIte, f_X7_hopefulFrom_4, ← e2, eq_true c3])), th_Ht ht hH⟩, hS.F ht⟩) hS.2.2 dX7_hopefulFrom_35
      · skip
        have f4 : rg 1 5 x2 := rg_w (rg_nle f2 fy4_3 c3).1 (th_leI rfl) (th_leI rfl)
        have f5 : rg 0 4 y4_3 := rg_w (rg_nle f2 fy4_3 c3).2 (th_leI rfl) (th_leI rfl)
        refine lv_aload_n hx hb dX7_hopefulFrom_12 rfl (lv_at hl 0 rfl) ?_
        obtain ⟨q6, r6, t6⟩ : ∃ q, gr h0 3 = some q ∧ τ q = 31 := (thI_7 hH t_h0).2.2.2.1
        refine th_get (ci := 6) (v := .ref q6) (T := TX7) (C := RX7) (N := 8) hx hb hts (fun w h => List.mem_cons_of_mem _ (List.mem_append_right _ h)) hown hK hH t_h0 (th_nz rfl) (thE_7 _ _ _) rfl 3 (th_ltN rfl) (hts (.fieldLink RX7 21 "BayMoorings$Search" "open" "[I") (List.mem_cons_of_mem _ (List.mem_append_left _ (List.mem_of_getElem? (i := 1) rfl)))) (fun _ h9 => h9) (th_fR r6 rfl) dX7_hopefulFrom_13 ?_
        refine lv_iload_n hx hb dX7_hopefulFrom_16 rfl (lv_at hl 1 rfl) ?_
        refine lv_iconst (v := 5) hx hb dX7_hopefulFrom_17 ic_5 ?_
        refine lv_imul hx hb dX7_hopefulFrom_18 ?_
        refine lv_topi (fun x7 e7 => ?_)
        have f7 : rg 0 20 x7 := rg_e e7 (rg_w (rg_mul fy4_1 rgc_5 (th_leI rfl) (th_leI rfl) (th_leI rfl)) (th_leI rfl) (th_leI rfl))
        refine lv_iload_n hx hb dX7_hopefulFrom_19 rfl (lv_at hl 3 rfl) ?_
        refine lv_iadd hx hb dX7_hopefulFrom_20 ?_
        refine lv_topi (fun x8 e8 => ?_)
        have f8 : rg 0 24 x8 := rg_e e8 (rg_w (rg_add f7 f5 (th_leI rfl) (th_leI rfl)) (th_leI rfl) (th_leI rfl))
        refine th_iald hx hb hK hH t6 (th_nz rfl) 0 (thE_31 _ _ _) rfl (rg_in (n := 30) f8 (th_leI rfl) (th_ltI rfl)) dX7_hopefulFrom_21 ?_
        refine lv_topi (fun x9 e9 => ?_)
        refine lv_if_eq (tgt := 28) hx hb dX7_hopefulFrom_22 (th_eqI rfl) (fun c10 => ?_) (fun c10 => ?_)
        · skip
          have f11 : rg 0 0 x9 := rg_w (rg_eq (rg_any x9) rgc_0 c10).1 (th_leI rfl) (th_leI rfl)
          exact J28 _ _ _ y4_2 x2 hH hS (lv_sub hl [0, 1, 2, 3] rfl) fy4_1 f5 e2 f4 (hF.trans (by simp only [↓reduceIte, f_X7_hopefulFrom_4, ← e2, eq_false c3, r6, Option.getD_some, ← e7, ← e8, ← e9, eq_true c10]))
        · skip
          obtain ⟨x12, e12⟩ : ∃ y : Int32, y = y4_2 + 1 := ⟨_, rfl⟩
          refine lv_iinc (v := x12) (lv' := [(2, .int x12), (0, .ref h0), (1, .int p1), (3, .int y4_3)]) hx hb dX7_hopefulFrom_25 hl (k := 2) rfl (by rw [e12]; rfl) (th_ltN rfl) rfl (fun ls hl => ?_)
          exact J28 _ _ _ x12 x2 hH hS (lv_sub hl [1, 2, 0, 3] rfl) fy4_1 f5 e2 f4 (hF.trans (by simp only [↓reduceIte, f_X7_hopefulFrom_4, ← e2, eq_false c3, r6, Option.getD_some, ← e7, ← e8, ← e9, eq_false c10, ← e12]))
  have hS : va_S (th_A τ s.heap.size) s.heap s.heap [] := va_S.rf
  have hl := lv_entry ([.ref h0, .int p1]) (n := 4) (Nat.le_of_ble_eq_true rfl)
  rw [lg_entry_eq]
  generalize (lg_sl ([.ref h0, .int p1]) ++ List.replicate (4 - (lg_sl ([.ref h0, .int p1])).length) Slot.unset).toArray = ls at hl ⊢
  have hl : lv_has ls 4 [(0, .ref h0), (1, .int p1)] := hl
  have hF : F_X7_hopefulFrom τ Z gi gr h0 p1 = F_X7_hopefulFrom τ Z gi gr h0 p1 := rfl
  refine lv_iconst (v := 0) hx hb dX7_hopefulFrom_0 ic_0 ?_
  refine lv_istore_n (i := 2) (lv' := [(2, .int 0), (0, .ref h0), (1, .int p1)]) hx hb dX7_hopefulFrom_1 rfl hl (th_ltN rfl) rfl (fun ls hl => ?_)
  refine lv_iload_n hx hb dX7_hopefulFrom_2 rfl (lv_at hl 2 rfl) ?_
  refine lv_istore_n (i := 3) (lv' := [(3, .int p1), (2, .int 0), (0, .ref h0), (1, .int p1)]) hx hb dX7_hopefulFrom_3 rfl hl (th_ltN rfl) rfl (fun ls hl => ?_)
  exact J4 _ _ _ _ 0 p1 (Nat.lt_add_one _) hH hS (lv_sub hl [2, 3, 1, 0] rfl) f_p1 (rg_w f_p1 (th_leI rfl) (th_leI rfl)) (hF.trans (by simp only [F_X7_hopefulFrom]))

noncomputable def f_X7_barredBy_174 (τ : th_t) (Z : th_Zt) (gi : th_i) (gr : th_r) (h0 : Nat) (p1 : Int32) (p2 : Int32) (p3 : Int32) (gi_82 : th_i) (y82_4 : Int32) (y82_5 : Nat) (y82_6 : Nat) (y82_7 : Nat) (y82_8 : Int32) (y82_9 : Int32) (k_82 : th_i → Int32 → Nat → Nat → Nat → Int32 → Int32 → Int32 × th_i) (gi_174 : th_i) (y174_8 : Int32) : Int32 × th_i :=
  let x1 : Int32 := y82_9 + 1
  k_82 gi_174 y82_4 y82_5 y82_6 y82_7 y174_8 x1
noncomputable def f_X7_barredBy_139 (τ : th_t) (Z : th_Zt) (gi : th_i) (gr : th_r) (h0 : Nat) (p1 : Int32) (p2 : Int32) (p3 : Int32) (gi_82 : th_i) (y82_4 : Int32) (y82_5 : Nat) (y82_6 : Nat) (y82_7 : Nat) (y82_8 : Int32) (y82_9 : Int32) (k_82 : th_i → Int32 → Nat → Nat → Nat → Int32 → Int32 → Int32 × th_i) (gi_139 : th_i) (z139_0 : Option Nat) : Int32 × th_i :=
  Option.elim z139_0 (
    f_X7_barredBy_174 τ Z gi gr h0 p1 p2 p3 gi_82 y82_4 y82_5 y82_6 y82_7 y82_8 y82_9 k_82 gi_139 y82_8) (fun q2 =>
    let q3 : Nat := (gr h0 0).getD 0
    let x5 : Int32 := F_X0_firstTouch τ Z gi_139 gr q3 y82_5 y82_7 y82_6 q2
    if x5 = ((-1) : Int32) then (
      f_X7_barredBy_174 τ Z gi gr h0 p1 p2 p3 gi_82 y82_4 y82_5 y82_6 y82_7 y82_8 y82_9 k_82 gi_139 y82_8) else (
      let x8 : Int32 := 1 <<< (y82_9 &&& 31)
      let x9 : Int32 := y82_8 ||| x8
      f_X7_barredBy_174 τ Z gi gr h0 p1 p2 p3 gi_82 y82_4 y82_5 y82_6 y82_7 y82_8 y82_9 k_82 gi_139 x9))
noncomputable def f_X7_barredBy_119 (τ : th_t) (Z : th_Zt) (gi : th_i) (gr : th_r) (h0 : Nat) (p1 : Int32) (p2 : Int32) (p3 : Int32) (gi_82 : th_i) (y82_4 : Int32) (y82_5 : Nat) (y82_6 : Nat) (y82_7 : Nat) (y82_8 : Int32) (y82_9 : Int32) (k_82 : th_i → Int32 → Nat → Nat → Nat → Int32 → Int32 → Int32 × th_i) (gi_119 : th_i) (z119_0 : Int32) : Int32 × th_i :=
  if z119_0 = (0 : Int32) then (
    f_X7_barredBy_139 τ Z gi gr h0 p1 p2 p3 gi_82 y82_4 y82_5 y82_6 y82_7 y82_8 y82_9 k_82 gi_119 none) else (
    let q13 : Nat := (gr h0 0).getD 0
    let r15 : Option Nat := F_X0_buoyAt τ Z gi_119 gr q13 y82_9
    f_X7_barredBy_139 τ Z gi gr h0 p1 p2 p3 gi_82 y82_4 y82_5 y82_6 y82_7 y82_8 y82_9 k_82 gi_119 r15)
noncomputable def f_X7_barredBy_118 (τ : th_t) (Z : th_Zt) (gi : th_i) (gr : th_r) (h0 : Nat) (p1 : Int32) (p2 : Int32) (p3 : Int32) (gi_82 : th_i) (y82_4 : Int32) (y82_5 : Nat) (y82_6 : Nat) (y82_7 : Nat) (y82_8 : Int32) (y82_9 : Int32) (k_82 : th_i → Int32 → Nat → Nat → Nat → Int32 → Int32 → Int32 × th_i) (gi_118 : th_i) : Int32 × th_i :=
  f_X7_barredBy_119 τ Z gi gr h0 p1 p2 p3 gi_82 y82_4 y82_5 y82_6 y82_7 y82_8 y82_9 k_82 gi_118 0
noncomputable def f_X7_barredBy_82 (τ : th_t) (Z : th_Zt) (gi : th_i) (gr : th_r) (h0 : Nat) (p1 : Int32) (p2 : Int32) (p3 : Int32) : Nat → th_i → Int32 → Nat → Nat → Nat → Int32 → Int32 → Int32 × th_i
  | 0, gi_82, y82_4, y82_5, y82_6, y82_7, y82_8, y82_9 => (0, gi_82)
  | n82 + 1, gi_82, y82_4, y82_5, y82_6, y82_7, y82_8, y82_9 =>
    let q16 : Nat := (gr h0 0).getD 0
    let x17 : Int32 := gi_82 q16 5
    if x17 ≤ y82_9 then (
      let q19 : Nat := (gr h0 4).getD 0
      let gi20 : th_i := va_up gi_82 q19 (upd (gi_82 q19) y82_4.toNatClampNeg y82_8)
      (y82_8, gi20)) else (
      if y82_9 = p2 then (
        f_X7_barredBy_118 τ Z gi gr h0 p1 p2 p3 gi_82 y82_4 y82_5 y82_6 y82_7 y82_8 y82_9 (f_X7_barredBy_82 τ Z gi gr h0 p1 p2 p3 n82) gi_82) else (
        let q25 : Nat := (gr h0 3).getD 0
        let x26 : Int32 := gi_82 q25 p3.toNatClampNeg
        let x27 : Int32 := x26 >>> (y82_9 &&& 31)
        let x28 : Int32 := x27 &&& 1
        if x28 = (0 : Int32) then (
          f_X7_barredBy_118 τ Z gi gr h0 p1 p2 p3 gi_82 y82_4 y82_5 y82_6 y82_7 y82_8 y82_9 (f_X7_barredBy_82 τ Z gi gr h0 p1 p2 p3 n82) gi_82) else (
          f_X7_barredBy_119 τ Z gi gr h0 p1 p2 p3 gi_82 y82_4 y82_5 y82_6 y82_7 y82_8 y82_9 (f_X7_barredBy_82 τ Z gi gr h0 p1 p2 p3 n82) gi_82 1)))
noncomputable def F_X7_barredBy (τ : th_t) (Z : th_Zt) (gi : th_i) (gr : th_r) (h0 : Nat) (p1 : Int32) (p2 : Int32) (p3 : Int32) : Int32 × th_i :=
  let x32 : Int32 := p1 * 12
  let x33 : Int32 := x32 + p2
  let x34 : Int32 := x33 * 5
  let x35 : Int32 := x34 + p3
  let q36 : Nat := (gr h0 4).getD 0
  let x37 : Int32 := gi q36 x35.toNatClampNeg
  if x37 = ((-1) : Int32) then (
    let q40 : Nat := (gr h0 1).getD 0
    let r41 : Option Nat := gr q40 p1.toNatClampNeg
    let r43 : Option Nat := gr q40 p3.toNatClampNeg
    let q44 : Nat := (gr h0 0).getD 0
    let r46 : Option Nat := F_X0_buoyAt τ Z gi gr q44 p2
    Option.elim r41 (
      (0, gi)) (fun q47 =>
      Option.elim r43 (
        (0, gi)) (fun q48 =>
        Option.elim r46 (
          (0, gi)) (fun q49 =>
          let x50 : Int32 := 1 <<< (p2 &&& 31)
          f_X7_barredBy_82 τ Z gi gr h0 p1 p2 p3 ((12 - (0 : Int32).toInt).toNat + 1) gi x35 q47 q48 q49 x50 0)))) else (
    (x37, gi))
set_option maxHeartbeats 8000000 in
set_option maxRecDepth 100000 in
theorem k_X7_barredBy (l : Launch) (D : va_G) (cA : Nat → ClassId) (Z : th_Zt) (τ : th_t) (gi : th_i) (gr : th_r) (sz : Nat) (h0 : Nat) (t_h0 : τ h0 = 7) (p1 : Int32) (f_p1 : rg 0 4 p1) (p2 : Int32) (f_p2 : rg 0 11 p2) (p3 : Int32) (f_p3 : rg 0 4 p3) : Met l yX7_barredBy wsX7_barredBy ({ frames := 3, cells := 0, slots := 0, locals := 97 }) (va_Pc [.ref h0, .int p1, .int p2, .int p3] (th_Pre D cA Z τ gi gr sz)) (va_Qi (fun (r : Int32) (u : th_i × th_r) => th_Mod [3200] τ gi gr u.1 u.2 ∧ u.2 = gr ∧ (F_X7_barredBy τ Z gi gr h0 p1 p2 p3 = (r, u.1))) (fun (u : th_i × th_r) t => th_H D cA τ u.1 u.2 t.heap) (th_A τ sz)) 0 0 (th_A τ sz) := by
  refine Met.ofW (cc := cX7_barredBy) (maxL := 12) (ret := (some .int)) (by decide) rfl ?_
  intro p e s m args below meth c s₁ B hml hv
  obtain ⟨rfl, hsz, hH, hK, hN, hZ⟩ := hv
  have hx := B.exec
  have hb := B.bytes
  have hr := B.returns
  have hts := atoms_spec (ws := wsX7_barredBy) B.pre
  have hown : s.vm.findClass RX7 = some m.cls := findClass_of_methodNamed B.named
  have hlocks := B.notSynchronized
  subst hsz
  have hM : th_Mod [3200] τ gi gr gi gr := th_Mod.rf
  have J82 : ∀ (n82 : Nat) (gi_82 : th_i) (H : Heap) (locs : List Loc) (ls : Array Slot) (y82_4 : Int32) (y82_5 : Nat) (y82_6 : Nat) (y82_7 : Nat) (y82_8 : Int32) (y82_9 : Int32), (12 - y82_9.toInt).toNat < n82 → th_H D cA τ gi_82 gr H → va_S (th_A τ s.heap.size) s.heap H locs → th_Mod [3200] τ gi gr gi_82 gr → lv_has ls 12 [(0, .ref h0), (2, .int p2), (3, .int p3), (4, .int y82_4), (5, .ref y82_5), (6, .ref y82_6), (7, .ref y82_7), (8, .int y82_8), (9, .int y82_9)] → rg 0 11 p2 → rg 0 4 p3 → rg 0 299 y82_4 → (τ y82_5 = 8 ∨ τ y82_5 = 9 ∨ τ y82_5 = 4) → (τ y82_6 = 8 ∨ τ y82_6 = 9 ∨ τ y82_6 = 4) → (τ y82_7 = 3) → rg 0 12 y82_9 → F_X7_barredBy τ Z gi gr h0 p1 p2 p3 = f_X7_barredBy_82 τ Z gi gr h0 p1 p2 p3 n82 gi_82 y82_4 y82_5 y82_6 y82_7 y82_8 y82_9 → W p l e (headSpec wsX7_barredBy ({ frames := 3, cells := 0, slots := 0, locals := 97 })).room s m [.ref h0, .int p1, .int p2, .int p3].toArray below meth c H locs 0 0 (MQ below (va_Qi (fun (r : Int32) (u : th_i × th_r) => th_Mod [3200] τ gi gr u.1 u.2 ∧ u.2 = gr ∧ (F_X7_barredBy τ Z gi gr h0 p1 p2 p3 = (r, u.1))) (fun (u : th_i × th_r) t => th_H D cA τ u.1 u.2 t.heap) (th_A τ s.heap.size)) [.ref h0, .int p1, .int p2, .int p3].toArray s 0 0 (th_A τ s.heap.size)) (F0 m 82 ls []) := by
    intro n82
    induction n82 with
    | zero =>
      intro gi_82 H locs ls y82_4 y82_5 y82_6 y82_7 y82_8 y82_9 hn
      exact absurd hn (Nat.not_lt_zero _)
    | succ n82 ih82 =>
      intro gi_82 H locs ls y82_4 y82_5 y82_6 y82_7 y82_8 y82_9 hn82 hH hS hM hl fy82_2 fy82_3 fy82_4 ty82_5 ty82_6 ty82_7 fy82_9 hF
      have J174 : ∀ (gi_174 : th_i) (H : Heap) (locs : List Loc) (ls : Array Slot) (y174_8 : Int32), th_H D cA τ gi_174 gr H → va_S (th_A τ s.heap.size) s.heap H locs → th_Mod [3200] τ gi gr gi_174 gr → lv_has ls 12 [(0, .ref h0), (2, .int p2), (3, .int p3), (4, .int y82_4), (5, .ref y82_5), (6, .ref y82_6), (7, .ref y82_7), (8, .int y174_8), (9, .int y82_9)] → rg 0 11 p2 → rg 0 4 p3 → rg 0 299 y82_4 → rg 0 11 y82_9 → F_X7_barredBy τ Z gi gr h0 p1 p2 p3 = f_X7_barredBy_174 τ Z gi gr h0 p1 p2 p3 gi_82 y82_4 y82_5 y82_6 y82_7 y82_8 y82_9 (f_X7_barredBy_82 τ Z gi gr h0 p1 p2 p3 n82) gi_174 y174_8 → W p l e (headSpec wsX7_barredBy ({ frames := 3, cells := 0, slots := 0, locals := 97 })).room s m [.ref h0, .int p1, .int p2, .int p3].toArray below meth c H locs 0 0 (MQ below (va_Qi (fun (r : Int32) (u : th_i × th_r) => th_Mod [3200] τ gi gr u.1 u.2 ∧ u.2 = gr ∧ (F_X7_barredBy τ Z gi gr h0 p1 p2 p3 = (r, u.1))) (fun (u : th_i × th_r) t => th_H D cA τ u.1 u.2 t.heap) (th_A τ s.heap.size)) [.ref h0, .int p1, .int p2, .int p3].toArray s 0 0 (th_A τ s.heap.size)) (F0 m 174 ls []) := by
        intro gi_174 H locs ls y174_8 hH hS hM hl fy174_2 fy174_3 fy174_4 fy174_9 hF
        obtain ⟨x1, e1⟩ : ∃ y : Int32, y = y82_9 + 1 := ⟨_, rfl⟩
        have f1 : rg 1 12 x1 := rg_e e1 (rg_w (rg_add fy174_9 rgc_1 (th_leI rfl) (th_leI rfl)) (th_leI rfl) (th_leI rfl))
        refine lv_iinc (v := x1) (lv' := [(9, .int x1), (0, .ref h0), (2, .int p2), (3, .int p3), (4, .int y82_4), (5, .ref y82_5), (6, .ref y82_6), (7, .ref y82_7), (8, .int y174_8)]) hx hb dX7_barredBy_174 hl (k := 8) rfl (by rw [e1]; rfl) (th_ltN rfl) rfl (fun ls hl => ?_)
        refine lv_goto (tgt := 82) hx hb dX7_barredBy_177 (th_eqI rfl) ?_
        exact ih82 gi_174 _ _ _ y82_4 y82_5 y82_6 y82_7 y174_8 x1 (th_up (rg_dA e1 fy174_9 rgc_1 (th_leI rfl) (th_leI rfl)) fy174_9 hn82 (th_ltI rfl)) hH hS hM (lv_sub hl [1, 2, 3, 4, 5, 6, 7, 8, 0] rfl) fy174_2 fy174_3 fy174_4 ty82_5 ty82_6 ty82_7 (rg_w f1 (th_leI rfl) (th_leI rfl)) (hF.trans (by simp only [f_X7_barredBy_174, ← e1]))
      have J139 : ∀ (gi_139 : th_i) (H : Heap) (locs : List Loc) (ls : Array Slot) (z139_0 : Option Nat), th_H D cA τ gi_139 gr H → va_S (th_A τ s.heap.size) s.heap H locs → th_Mod [3200] τ gi gr gi_139 gr → lv_has ls 12 [(0, .ref h0), (2, .int p2), (3, .int p3), (4, .int y82_4), (5, .ref y82_5), (6, .ref y82_6), (7, .ref y82_7), (8, .int y82_8), (9, .int y82_9)] → rg 0 11 p2 → rg 0 4 p3 → rg 0 299 y82_4 → rg 0 11 y82_9 → (∀ q, z139_0 = some q → τ q = 3) → F_X7_barredBy τ Z gi gr h0 p1 p2 p3 = f_X7_barredBy_139 τ Z gi gr h0 p1 p2 p3 gi_82 y82_4 y82_5 y82_6 y82_7 y82_8 y82_9 (f_X7_barredBy_82 τ Z gi gr h0 p1 p2 p3 n82) gi_139 z139_0 → W p l e (headSpec wsX7_barredBy ({ frames := 3, cells := 0, slots := 0, locals := 97 })).room s m [.ref h0, .int p1, .int p2, .int p3].toArray below meth c H locs 0 0 (MQ below (va_Qi (fun (r : Int32) (u : th_i × th_r) => th_Mod [3200] τ gi gr u.1 u.2 ∧ u.2 = gr ∧ (F_X7_barredBy τ Z gi gr h0 p1 p2 p3 = (r, u.1))) (fun (u : th_i × th_r) t => th_H D cA τ u.1 u.2 t.heap) (th_A τ s.heap.size)) [.ref h0, .int p1, .int p2, .int p3].toArray s 0 0 (th_A τ s.heap.size)) (F0 m 139 ls [va_rf z139_0]) := by
        intro gi_139 H locs ls z139_0 hH hS hM hl fy139_2 fy139_3 fy139_4 fy139_9 tz139_0 hF
        refine th_astoreq (i := 11) (lv' := [(11, va_rf z139_0), (0, .ref h0), (2, .int p2), (3, .int p3), (4, .int y82_4), (5, .ref y82_5), (6, .ref y82_6), (7, .ref y82_7), (8, .int y82_8), (9, .int y82_9)]) hx hb dX7_barredBy_139 hl (th_ltN rfl) rfl (fun ls hl => ?_)
        refine th_aloadq hx hb dX7_barredBy_141 (lv_at hl 0 rfl) ?_
        refine th_ifnull (tgt := 174) hx hb dX7_barredBy_143 (th_eqI rfl) (fun z2 => ?_) (fun q2 z2 => ?_)
        · skip
          subst z2
          have hl : lv_has ls 12 [(11, .null), (0, .ref h0), (2, .int p2), (3, .int p3), (4, .int y82_4), (5, .ref y82_5), (6, .ref y82_6), (7, .ref y82_7), (8, .int y82_8), (9, .int y82_9)] := hl
          exact J174 gi_139 _ _ _ y82_8 hH hS hM (lv_sub hl [1, 2, 3, 4, 5, 6, 7, 8, 9] rfl) fy139_2 fy139_3 fy139_4 fy139_9 (hF.trans (by simp only [f_X7_barredBy_139, Option.elim_none]))
        · skip
          subst z2
          have t2 := tz139_0 q2 rfl
          have hl : lv_has ls 12 [(11, .ref q2), (0, .ref h0), (2, .int p2), (3, .int p3), (4, .int y82_4), (5, .ref y82_5), (6, .ref y82_6), (7, .ref y82_7), (8, .int y82_8), (9, .int y82_9)] := hl
          refine lv_aload_n hx hb dX7_barredBy_146 rfl (lv_at hl 1 rfl) ?_
          obtain ⟨q3, r3, t3⟩ : ∃ q, gr h0 0 = some q ∧ τ q = 1 := (thI_7 hH t_h0).1
          refine th_get (ci := 6) (v := .ref q3) (T := TX7) (C := RX7) (N := 8) hx hb hts (fun w h => List.mem_cons_of_mem _ (List.mem_append_left _ (List.mem_append_left _ (List.mem_append_left _ (List.mem_append_left _ (List.mem_append_left _ (List.mem_append_right _ h))))))) hown hK hH t_h0 (th_nz rfl) (thE_7 _ _ _) rfl 0 (th_ltN rfl) (hts (.fieldLink RX7 37 "BayMoorings$Search" "bay" "LBayMoorings$Bay;") (List.mem_cons_of_mem _ (List.mem_append_left _ (List.mem_append_left _ (List.mem_append_left _ (List.mem_append_left _ (List.mem_append_left _ (List.mem_append_left _ (List.mem_append_left _ (List.mem_of_getElem? (i := 2) rfl)))))))))) (fun _ h9 => h9) (th_fR r3 rfl) dX7_barredBy_147 ?_
          refine lv_aload hx hb dX7_barredBy_150 (lv_at hl 5 rfl) ?_
          refine lv_aload hx hb dX7_barredBy_152 (lv_at hl 7 rfl) ?_
          refine lv_aload hx hb dX7_barredBy_154 (lv_at hl 6 rfl) ?_
          refine lv_aload hx hb dX7_barredBy_156 (lv_at hl 0 rfl) ?_
          have hA4 := th_Asub (τ := τ) hS
          refine va_calli (va_runV (As := [.ref y82_5, .ref y82_7, .ref y82_6, .ref q2]) (rest := []) ⟨hx, hb, hml, hown, hts⟩ (k_X0_firstTouch l D cA Z τ gi_139 gr _ q3 t3 y82_5 ty82_5 y82_7 ty82_7 y82_6 ty82_6 q2 t2) (cwV 4 hts gX7_barredBy_X0_firstTouch rfl rfl rfl hd_X0_firstTouch__4 ⟨Nat.le_of_ble_eq_true rfl, Nat.le_of_ble_eq_true rfl⟩) ⟨th_blind, tr_1 hK hH t3, (th_pre hH hK hN hZ hS hA4)⟩ rfl rfl hl.1 rfl (lv_room (Nat.le_of_ble_eq_true rfl)) dX7_barredBy_158 ⟨Nat.le_of_ble_eq_true rfl, Nat.le_of_ble_eq_true rfl⟩) hS (fun q _ h => hA4 q h) hA4 (fun x5 u t H locs ht hvm hw5 hB hz1 hk1 hS => ?_)
          try dsimp only at hw5 hB
          rw [ht] at hB
          have hH := hB
          refine lv_iconst (v := (-1)) hx hb dX7_barredBy_161 ic_m1 ?_
          refine lv_icmp_eq (tgt := 174) hx hb dX7_barredBy_162 (th_eqI rfl) (fun c6 => ?_) (fun c6 => ?_)
          · skip
            have f7 : rg (-1) (-1) x5 := rg_w (rg_eq (rg_any x5) rgc_m1 c6).1 (th_leI rfl) (th_leI rfl)
            exact J174 gi_139 _ _ _ y82_8 hH hS hM (lv_sub hl [1, 2, 3, 4, 5, 6, 7, 8, 9] rfl) fy139_2 fy139_3 fy139_4 fy139_9 (hF.trans (by simp only [↓reduceIte, f_X7_barredBy_139, Option.elim_some, r3, Option.getD_some, hw5, eq_true c6]))
          · skip
            refine lv_iload hx hb dX7_barredBy_165 (lv_at hl 8 rfl) ?_
            refine lv_iconst (v := 1) hx hb dX7_barredBy_167 ic_1 ?_
            refine lv_iload hx hb dX7_barredBy_168 (lv_at hl 9 rfl) ?_
            refine lv_ishl hx hb dX7_barredBy_170 ?_
            refine lv_topi (fun x8 e8 => ?_)
            refine lv_ior hx hb dX7_barredBy_171 ?_
            refine lv_topi (fun x9 e9 => ?_)
            refine lv_istore (i := 8) (lv' := [(8, .int x9), (11, .ref q2), (0, .ref h0), (2, .int p2), (3, .int p3), (4, .int y82_4), (5, .ref y82_5), (6, .ref y82_6), (7, .ref y82_7), (9, .int y82_9)]) hx hb dX7_barredBy_172 hl (th_ltN rfl) rfl (fun ls hl => ?_)
            exact J174 gi_139 _ _ _ x9 hH hS hM (lv_sub hl [2, 3, 4, 5, 6, 7, 8, 0, 9] rfl) fy139_2 fy139_3 fy139_4 fy139_9 (hF.trans (by simp only [↓reduceIte, f_X7_barredBy_139, Option.elim_some, r3, Option.getD_some, hw5, eq_false c6, ← e8, ← e9]))
      have J119 : ∀ (gi_119 : th_i) (H : Heap) (locs : List Loc) (ls : Array Slot) (z119_0 : Int32), th_H D cA τ gi_119 gr H → va_S (th_A τ s.heap.size) s.heap H locs → th_Mod [3200] τ gi gr gi_119 gr → lv_has ls 12 [(0, .ref h0), (2, .int p2), (3, .int p3), (4, .int y82_4), (5, .ref y82_5), (6, .ref y82_6), (7, .ref y82_7), (8, .int y82_8), (9, .int y82_9)] → rg 0 11 p2 → rg 0 4 p3 → rg 0 299 y82_4 → rg 0 11 y82_9 → rg 0 1 z119_0 → F_X7_barredBy τ Z gi gr h0 p1 p2 p3 = f_X7_barredBy_119 τ Z gi gr h0 p1 p2 p3 gi_82 y82_4 y82_5 y82_6 y82_7 y82_8 y82_9 (f_X7_barredBy_82 τ Z gi gr h0 p1 p2 p3 n82) gi_119 z119_0 → W p l e (headSpec wsX7_barredBy ({ frames := 3, cells := 0, slots := 0, locals := 97 })).room s m [.ref h0, .int p1, .int p2, .int p3].toArray below meth c H locs 0 0 (MQ below (va_Qi (fun (r : Int32) (u : th_i × th_r) => th_Mod [3200] τ gi gr u.1 u.2 ∧ u.2 = gr ∧ (F_X7_barredBy τ Z gi gr h0 p1 p2 p3 = (r, u.1))) (fun (u : th_i × th_r) t => th_H D cA τ u.1 u.2 t.heap) (th_A τ s.heap.size)) [.ref h0, .int p1, .int p2, .int p3].toArray s 0 0 (th_A τ s.heap.size)) (F0 m 119 ls [.int z119_0]) := by
        intro gi_119 H locs ls z119_0 hH hS hM hl fy119_2 fy119_3 fy119_4 fy119_9 fz119_0 hF
        refine lv_istore (i := 10) (lv' := [(10, .int z119_0), (0, .ref h0), (2, .int p2), (3, .int p3), (4, .int y82_4), (5, .ref y82_5), (6, .ref y82_6), (7, .ref y82_7), (8, .int y82_8), (9, .int y82_9)]) hx hb dX7_barredBy_119 hl (th_ltN rfl) rfl (fun ls hl => ?_)
        refine lv_iload hx hb dX7_barredBy_121 (lv_at hl 0 rfl) ?_
        refine lv_if_eq (tgt := 138) hx hb dX7_barredBy_123 (th_eqI rfl) (fun c10 => ?_) (fun c10 => ?_)
        · skip
          have f11 : rg 0 0 z119_0 := rg_w (rg_eq fz119_0 rgc_0 c10).1 (th_leI rfl) (th_leI rfl)
          refine lv_null hx hb dX7_barredBy_138 ?_
          exact J139 gi_119 _ _ _ none hH hS hM (lv_sub hl [1, 2, 3, 4, 5, 6, 7, 8, 9] rfl) fy119_2 fy119_3 fy119_4 fy119_9 (fun _ h9 => by cases h9) (hF.trans (by simp only [↓reduceIte, f_X7_barredBy_119, eq_true c10]))
        · skip
          have f12 : rg 1 1 z119_0 := rg_w (rg_neL fz119_0 rgc_0 c10) (th_leI rfl) (th_leI rfl)
          refine lv_aload_n hx hb dX7_barredBy_126 rfl (lv_at hl 1 rfl) ?_
          obtain ⟨q13, r13, t13⟩ : ∃ q, gr h0 0 = some q ∧ τ q = 1 := (thI_7 hH t_h0).1
          refine th_get (ci := 6) (v := .ref q13) (T := TX7) (C := RX7) (N := 8) hx hb hts (fun w h => List.mem_cons_of_mem _ (List.mem_append_left _ (List.mem_append_left _ (List.mem_append_left _ (List.mem_append_left _ (List.mem_append_left _ (List.mem_append_right _ h))))))) hown hK hH t_h0 (th_nz rfl) (thE_7 _ _ _) rfl 0 (th_ltN rfl) (hts (.fieldLink RX7 37 "BayMoorings$Search" "bay" "LBayMoorings$Bay;") (List.mem_cons_of_mem _ (List.mem_append_left _ (List.mem_append_left _ (List.mem_append_left _ (List.mem_append_left _ (List.mem_append_left _ (List.mem_append_left _ (List.mem_append_left _ (List.mem_of_getElem? (i := 2) rfl)))))))))) (fun _ h9 => h9) (th_fR r13 rfl) dX7_barredBy_127 ?_
          refine lv_iload hx hb dX7_barredBy_130 (lv_at hl 9 rfl) ?_
          have hA14 := th_Asub (τ := τ) hS
          refine va_callq (va_runV (As := [.int y82_9]) (rest := []) ⟨hx, hb, hml, hown, hts⟩ (k_X0_buoyAt l D cA Z τ gi_119 gr _ q13 t13 y82_9) (cwV 1 hts gX7_barredBy_X0_buoyAt rfl rfl rfl hd_X0_buoyAt__1 ⟨Nat.le_of_ble_eq_true rfl, Nat.le_of_ble_eq_true rfl⟩) ⟨th_blind, tr_1 hK hH t13, (th_pre hH hK hN hZ hS hA14)⟩ rfl rfl hl.1 rfl (lv_room (Nat.le_of_ble_eq_true rfl)) dX7_barredBy_132 ⟨Nat.le_of_ble_eq_true rfl, Nat.le_of_ble_eq_true rfl⟩) hS (fun q _ h => hA14 q h) hA14 (fun r15 u t H locs ht hvm hw15 hB hz1 hk1 hS => ?_)
          try dsimp only at hw15 hB
          rw [ht] at hB
          have hH := hB
          refine lv_goto (tgt := 139) hx hb dX7_barredBy_135 (th_eqI rfl) ?_
          exact J139 gi_119 _ _ _ r15 hH hS hM (lv_sub hl [1, 2, 3, 4, 5, 6, 7, 8, 9] rfl) fy119_2 fy119_3 fy119_4 fy119_9 hw15.1 (hF.trans (by simp only [↓reduceIte, f_X7_barredBy_119, eq_false c10, r13, Option.getD_some, hw15.2]))
      have J118 : ∀ (gi_118 : th_i) (H : Heap) (locs : List Loc) (ls : Array Slot), th_H D cA τ gi_118 gr H → va_S (th_A τ s.heap.size) s.heap H locs → th_Mod [3200] τ gi gr gi_118 gr → lv_has ls 12 [(0, .ref h0), (2, .int p2), (3, .int p3), (4, .int y82_4), (5, .ref y82_5), (6, .ref y82_6), (7, .ref y82_7), (8, .int y82_8), (9, .int y82_9)] → rg 0 11 p2 → rg 0 4 p3 → rg 0 299 y82_4 → rg 0 11 y82_9 → F_X7_barredBy τ Z gi gr h0 p1 p2 p3 = f_X7_barredBy_118 τ Z gi gr h0 p1 p2 p3 gi_82 y82_4 y82_5 y82_6 y82_7 y82_8 y82_9 (f_X7_barredBy_82 τ Z gi gr h0 p1 p2 p3 n82) gi_118 → W p l e (headSpec wsX7_barredBy ({ frames := 3, cells := 0, slots := 0, locals := 97 })).room s m [.ref h0, .int p1, .int p2, .int p3].toArray below meth c H locs 0 0 (MQ below (va_Qi (fun (r : Int32) (u : th_i × th_r) => th_Mod [3200] τ gi gr u.1 u.2 ∧ u.2 = gr ∧ (F_X7_barredBy τ Z gi gr h0 p1 p2 p3 = (r, u.1))) (fun (u : th_i × th_r) t => th_H D cA τ u.1 u.2 t.heap) (th_A τ s.heap.size)) [.ref h0, .int p1, .int p2, .int p3].toArray s 0 0 (th_A τ s.heap.size)) (F0 m 118 ls []) := by
        intro gi_118 H locs ls hH hS hM hl fy118_2 fy118_3 fy118_4 fy118_9 hF
        refine lv_iconst (v := 0) hx hb dX7_barredBy_118 ic_0 ?_
        exact J119 gi_118 _ _ _ 0 hH hS hM (lv_sub hl [0, 1, 2, 3, 4, 5, 6, 7, 8] rfl) fy118_2 fy118_3 fy118_4 fy118_9 (rg_w rgc_0 (th_leI rfl) (th_leI rfl)) (hF.trans (by simp only [f_X7_barredBy_118]))
      refine lv_iload hx hb dX7_barredBy_82 (lv_at hl 8 rfl) ?_
      refine lv_aload_n hx hb dX7_barredBy_84 rfl (lv_at hl 0 rfl) ?_
      obtain ⟨q16, r16, t16⟩ : ∃ q, gr h0 0 = some q ∧ τ q = 1 := (thI_7 hH t_h0).1
      refine th_get (ci := 6) (v := .ref q16) (T := TX7) (C := RX7) (N := 8) hx hb hts (fun w h => List.mem_cons_of_mem _ (List.mem_append_left _ (List.mem_append_left _ (List.mem_append_left _ (List.mem_append_left _ (List.mem_append_left _ (List.mem_append_right _ h))))))) hown hK hH t_h0 (th_nz rfl) (thE_7 _ _ _) rfl 0 (th_ltN rfl) (hts (.fieldLink RX7 37 "BayMoorings$Search" "bay" "LBayMoorings$Bay;") (List.mem_cons_of_mem _ (List.mem_append_left _ (List.mem_append_left _ (List.mem_append_left _ (List.mem_append_left _ (List.mem_append_left _ (List.mem_append_left _ (List.mem_append_left _ (List.mem_of_getElem? (i := 2) rfl)))))))))) (fun _ h9 => h9) (th_fR r16 rfl) dX7_barredBy_85 ?_
      obtain ⟨x17, e17⟩ : ∃ y : Int32, y = gi_82 q16 5 := ⟨_, rfl⟩
      refine th_get (ci := 0) (v := .int x17) (T := TX0) (C := RX0) (N := 9) hx hb hts (fun w h => List.mem_cons_of_mem _ (List.mem_append_left _ (List.mem_append_left _ (List.mem_append_left _ (List.mem_append_left _ (List.mem_append_right _ h)))))) hown hK hH t16 (th_nz rfl) (thE_1 _ _ _) rfl 5 (th_ltN rfl) (hts (.fieldLink RX7 68 "BayMoorings$Bay" "buoyCount" "I") (List.mem_cons_of_mem _ (List.mem_append_left _ (List.mem_append_left _ (List.mem_append_left _ (List.mem_append_left _ (List.mem_append_left _ (List.mem_append_left _ (List.mem_append_left _ (List.mem_of_getElem? (i := 3) rfl)))))))))) (fun _ h9 => h9) (th_fI e17 rfl) dX7_barredBy_88 ?_
      have f17 : rg 0 12 x17 := rg_e e17 ((thI_1 hH t16).2.2.2.2.2.1)
      refine lv_icmp_ge (tgt := 180) hx hb dX7_barredBy_91 (th_eqI rfl) (fun c18 => ?_) (fun c18 => ?_)
      · skip
        refine lv_aload_n hx hb dX7_barredBy_180 rfl (lv_at hl 0 rfl) ?_
        obtain ⟨q19, r19, t19⟩ : ∃ q, gr h0 4 = some q ∧ τ q = 32 := (thI_7 hH t_h0).2.2.2.2.1
        refine th_get (ci := 6) (v := .ref q19) (T := TX7) (C := RX7) (N := 8) hx hb hts (fun w h => List.mem_cons_of_mem _ (List.mem_append_left _ (List.mem_append_left _ (List.mem_append_left _ (List.mem_append_left _ (List.mem_append_left _ (List.mem_append_right _ h))))))) hown hK hH t_h0 (th_nz rfl) (thE_7 _ _ _) rfl 4 (th_ltN rfl) (hts (.fieldLink RX7 25 "BayMoorings$Search" "barred" "[I") (List.mem_cons_of_mem _ (List.mem_append_left _ (List.mem_append_left _ (List.mem_append_left _ (List.mem_append_left _ (List.mem_append_left _ (List.mem_append_left _ (List.mem_append_left _ (List.mem_of_getElem? (i := 0) rfl)))))))))) (fun _ h9 => h9) (th_fR r19 rfl) dX7_barredBy_181 ?_
        refine lv_iload hx hb dX7_barredBy_184 (lv_at hl 3 rfl) ?_
        refine lv_iload hx hb dX7_barredBy_186 (lv_at hl 7 rfl) ?_
        refine th_iast hx hb hK hH hS t19 (th_nz rfl) (Or.inl (th_nzE t19 rfl)) 0 (fun _ => thE_32 _ _ _) rfl (rg_in (n := 300) fy82_4 (th_leI rfl) (th_ltI rfl)) (trivial) dX7_barredBy_188 (fun gi20 H locs hu20 ho20 hH hS => ?_)
        have eg20 : gi20 = va_up gi_82 q19 (upd (gi_82 q19) y82_4.toNatClampNeg y82_8) := th_upE hu20 ho20
        have e21 : x17 = gi20 q16 5 := Eq.trans e17 (Eq.symm (ho20 _ _ (Or.inl (th_ne t16 t19 (th_nz rfl)))))
        have hM := hM.i t19 (th_mem (a := 3200) rfl) ho20
        refine lv_iload hx hb dX7_barredBy_189 (lv_at hl 7 rfl) ?_
        exact W.iret (v := y82_8) hx hb hr (fun t ht hW => ⟨⟨y82_8, (gi20, gr), rfl, ⟨hM, rfl, (hF.trans (by simp only [↓reduceIte, f_X7_barredBy_82, r16, Option.getD_some, ← e17, eq_true c18, r19, ← eg20]))⟩, th_Ht ht hH⟩, hS.F ht⟩) hS.2.2 dX7_barredBy_191
      · skip
        have f22 : rg 1 12 x17 := rg_w (rg_nle f17 fy82_9 c18).1 (th_leI rfl) (th_leI rfl)
        have f23 : rg 0 11 y82_9 := rg_w (rg_nle f17 fy82_9 c18).2 (th_leI rfl) (th_leI rfl)
        refine lv_iload hx hb dX7_barredBy_94 (lv_at hl 8 rfl) ?_
        refine lv_iload_n hx hb dX7_barredBy_96 rfl (lv_at hl 1 rfl) ?_
        refine lv_icmp_eq (tgt := 118) hx hb dX7_barredBy_97 (th_eqI rfl) (fun c24 => ?_) (fun c24 => ?_)
        · skip
          exact J118 gi_82 _ _ _ hH hS hM (lv_sub hl [0, 1, 2, 3, 4, 5, 6, 7, 8] rfl) fy82_2 fy82_3 fy82_4 f23 (hF.trans (by simp only [↓reduceIte, f_X7_barredBy_82, r16, Option.getD_some, ← e17, eq_false c18, eq_true c24]))
        · skip
          refine lv_aload_n hx hb dX7_barredBy_100 rfl (lv_at hl 0 rfl) ?_
          obtain ⟨q25, r25, t25⟩ : ∃ q, gr h0 3 = some q ∧ τ q = 31 := (thI_7 hH t_h0).2.2.2.1
          refine th_get (ci := 6) (v := .ref q25) (T := TX7) (C := RX7) (N := 8) hx hb hts (fun w h => List.mem_cons_of_mem _ (List.mem_append_left _ (List.mem_append_left _ (List.mem_append_left _ (List.mem_append_left _ (List.mem_append_left _ (List.mem_append_right _ h))))))) hown hK hH t_h0 (th_nz rfl) (thE_7 _ _ _) rfl 3 (th_ltN rfl) (hts (.fieldLink RX7 21 "BayMoorings$Search" "open" "[I") (List.mem_cons_of_mem _ (List.mem_append_left _ (List.mem_append_left _ (List.mem_append_left _ (List.mem_append_left _ (List.mem_append_left _ (List.mem_append_left _ (List.mem_append_left _ (List.mem_of_getElem? (i := 4) rfl)))))))))) (fun _ h9 => h9) (th_fR r25 rfl) dX7_barredBy_101 ?_
          refine lv_iload_n hx hb dX7_barredBy_104 rfl (lv_at hl 2 rfl) ?_
          refine th_iald hx hb hK hH t25 (th_nz rfl) 0 (thE_31 _ _ _) rfl (rg_in (n := 30) fy82_3 (th_leI rfl) (th_ltI rfl)) dX7_barredBy_105 ?_
          refine lv_topi (fun x26 e26 => ?_)
          refine lv_iload hx hb dX7_barredBy_106 (lv_at hl 8 rfl) ?_
          refine lv_ishr hx hb dX7_barredBy_108 ?_
          refine lv_topi (fun x27 e27 => ?_)
          refine lv_iconst (v := 1) hx hb dX7_barredBy_109 ic_1 ?_
          refine lv_iand hx hb dX7_barredBy_110 ?_
          refine lv_topi (fun x28 e28 => ?_)
          have f28 : rg 0 1 x28 := rg_e e28 (rg_and 1 (by decide) (th_leN rfl) (th_eqI rfl))
          refine lv_if_eq (tgt := 118) hx hb dX7_barredBy_111 (th_eqI rfl) (fun c29 => ?_) (fun c29 => ?_)
          · skip
            have f30 : rg 0 0 x28 := rg_w (rg_eq f28 rgc_0 c29).1 (th_leI rfl) (th_leI rfl)
            exact J118 gi_82 _ _ _ hH hS hM (lv_sub hl [0, 1, 2, 3, 4, 5, 6, 7, 8] rfl) fy82_2 fy82_3 fy82_4 f23 (hF.trans (by simp only [↓reduceIte, f_X7_barredBy_82, r16, Option.getD_some, ← e17, eq_false c18, eq_false c24, r25, ← e26, ← e27, ← e28, eq_true c29]))
          · skip
            have f31 : rg 1 1 x28 := rg_w (rg_neL f28 rgc_0 c29) (th_leI rfl) (th_leI rfl)
            refine lv_iconst (v := 1) hx hb dX7_barredBy_114 ic_1 ?_
            refine lv_goto (tgt := 119) hx hb dX7_barredBy_115 (th_eqI rfl) ?_
            exact J119 gi_82 _ _ _ 1 hH hS hM (lv_sub hl [0, 1, 2, 3, 4, 5, 6, 7, 8] rfl) fy82_2 fy82_3 fy82_4 f23 (rg_w rgc_1 (th_leI rfl) (th_leI rfl)) (hF.trans (by simp only [↓reduceIte, f_X7_barredBy_82, r16, Option.getD_some, ← e17, eq_false c18, eq_false c24, r25, ← e26, ← e27, ← e28, eq_false c29]))
  have hS : va_S (th_A τ s.heap.size) s.heap s.heap [] := va_S.rf
  have hl := lv_entry ([.ref h0, .int p1, .int p2, .int p3]) (n := 12) (Nat.le_of_ble_eq_true rfl)
  rw [lg_entry_eq]
  generalize (lg_sl ([.ref h0, .int p1, .int p2, .int p3]) ++ List.replicate (12 - (lg_sl ([.ref h0, .int p1, .int p2, .int p3])).length) Slot.unset).toArray = ls at hl ⊢
  have hl : lv_has ls 12 [(0, .ref h0), (1, .int p1), (2, .int p2), (3, .int p3)] := hl
  have hF : F_X7_barredBy τ Z gi gr h0 p1 p2 p3 = F_X7_barredBy τ Z gi gr h0 p1 p2 p3 := rfl
  refine lv_iload_n hx hb dX7_barredBy_0 rfl (lv_at hl 1 rfl) ?_
  refine lv_bipush (v := 12) hx hb dX7_barredBy_1 bp_12 ?_
  refine lv_imul hx hb dX7_barredBy_3 ?_
  refine lv_topi (fun x32 e32 => ?_)
  have f32 : rg 0 48 x32 := rg_e e32 (rg_w (rg_mul f_p1 rgc_12 (th_leI rfl) (th_leI rfl) (th_leI rfl)) (th_leI rfl) (th_leI rfl))
  refine lv_iload_n hx hb dX7_barredBy_4 rfl (lv_at hl 2 rfl) ?_
  refine lv_iadd hx hb dX7_barredBy_5 ?_
  refine lv_topi (fun x33 e33 => ?_)
  have f33 : rg 0 59 x33 := rg_e e33 (rg_w (rg_add f32 f_p2 (th_leI rfl) (th_leI rfl)) (th_leI rfl) (th_leI rfl))
  refine lv_iconst (v := 5) hx hb dX7_barredBy_6 ic_5 ?_
  refine lv_imul hx hb dX7_barredBy_7 ?_
  refine lv_topi (fun x34 e34 => ?_)
  have f34 : rg 0 295 x34 := rg_e e34 (rg_w (rg_mul f33 rgc_5 (th_leI rfl) (th_leI rfl) (th_leI rfl)) (th_leI rfl) (th_leI rfl))
  refine lv_iload_n hx hb dX7_barredBy_8 rfl (lv_at hl 3 rfl) ?_
  refine lv_iadd hx hb dX7_barredBy_9 ?_
  refine lv_topi (fun x35 e35 => ?_)
  have f35 : rg 0 299 x35 := rg_e e35 (rg_w (rg_add f34 f_p3 (th_leI rfl) (th_leI rfl)) (th_leI rfl) (th_leI rfl))
  refine lv_istore (i := 4) (lv' := [(4, .int x35), (0, .ref h0), (1, .int p1), (2, .int p2), (3, .int p3)]) hx hb dX7_barredBy_10 hl (th_ltN rfl) rfl (fun ls hl => ?_)
  refine lv_aload_n hx hb dX7_barredBy_12 rfl (lv_at hl 1 rfl) ?_
  obtain ⟨q36, r36, t36⟩ : ∃ q, gr h0 4 = some q ∧ τ q = 32 := (thI_7 hH t_h0).2.2.2.2.1
  refine th_get (ci := 6) (v := .ref q36) (T := TX7) (C := RX7) (N := 8) hx hb hts (fun w h => List.mem_cons_of_mem _ (List.mem_append_left _ (List.mem_append_left _ (List.mem_append_left _ (List.mem_append_left _ (List.mem_append_left _ (List.mem_append_right _ h))))))) hown hK hH t_h0 (th_nz rfl) (thE_7 _ _ _) rfl 4 (th_ltN rfl) (hts (.fieldLink RX7 25 "BayMoorings$Search" "barred" "[I") (List.mem_cons_of_mem _ (List.mem_append_left _ (List.mem_append_left _ (List.mem_append_left _ (List.mem_append_left _ (List.mem_append_left _ (List.mem_append_left _ (List.mem_append_left _ (List.mem_of_getElem? (i := 0) rfl)))))))))) (fun _ h9 => h9) (th_fR r36 rfl) dX7_barredBy_13 ?_
  refine lv_iload hx hb dX7_barredBy_16 (lv_at hl 0 rfl) ?_
  refine th_iald hx hb hK hH t36 (th_nz rfl) 0 (thE_32 _ _ _) rfl (rg_in (n := 300) f35 (th_leI rfl) (th_ltI rfl)) dX7_barredBy_18 ?_
  refine lv_topi (fun x37 e37 => ?_)
  refine lv_iconst (v := (-1)) hx hb dX7_barredBy_19 ic_m1 ?_
  refine lv_icmp_eq (tgt := 31) hx hb dX7_barredBy_20 (th_eqI rfl) (fun c38 => ?_) (fun c38 => ?_)
  · skip
    have f39 : rg (-1) (-1) x37 := rg_w (rg_eq (rg_any x37) rgc_m1 c38).1 (th_leI rfl) (th_leI rfl)
    refine lv_aload_n hx hb dX7_barredBy_31 rfl (lv_at hl 1 rfl) ?_
    obtain ⟨q40, r40, t40⟩ : ∃ q, gr h0 1 = some q ∧ τ q = 30 := (thI_7 hH t_h0).2.1
    refine th_get (ci := 6) (v := .ref q40) (T := TX7) (C := RX7) (N := 8) hx hb hts (fun w h => List.mem_cons_of_mem _ (List.mem_append_left _ (List.mem_append_left _ (List.mem_append_left _ (List.mem_append_left _ (List.mem_append_left _ (List.mem_append_right _ h))))))) hown hK hH t_h0 (th_nz rfl) (thE_7 _ _ _) rfl 1 (th_ltN rfl) (hts (.fieldLink RX7 11 "BayMoorings$Search" "asked" "[LBayMoorings$Boat;") (List.mem_cons_of_mem _ (List.mem_append_left _ (List.mem_append_left _ (List.mem_append_left _ (List.mem_append_left _ (List.mem_append_left _ (List.mem_append_left _ (List.mem_append_left _ (List.mem_of_getElem? (i := 1) rfl)))))))))) (fun _ h9 => h9) (th_fR r40 rfl) dX7_barredBy_32 ?_
    refine lv_iload_n hx hb dX7_barredBy_35 rfl (lv_at hl 2 rfl) ?_
    refine th_aald hx hb hK hH t40 (th_nz rfl) 3 (thE_30 _ _ _) rfl (rg_in (n := 5) f_p1 (th_leI rfl) (th_ltI rfl)) dX7_barredBy_36 ?_
    refine th_topq (fun r41 e41 => ?_)
    have t41 : ∀ q, r41 = some q → τ q = 8 ∨ τ q = 9 ∨ τ q = 4 := by rw [e41]; exact (thI_30 hH t40) _ (rg_cl (n := 5) f_p1 (th_leI rfl) (th_ltI rfl))
    refine th_astoreq (i := 5) (lv' := [(5, va_rf r41), (4, .int x35), (0, .ref h0), (1, .int p1), (2, .int p2), (3, .int p3)]) hx hb dX7_barredBy_37 hl (th_ltN rfl) rfl (fun ls hl => ?_)
    refine lv_aload_n hx hb dX7_barredBy_39 rfl (lv_at hl 2 rfl) ?_
    refine th_get (ci := 6) (v := .ref q40) (T := TX7) (C := RX7) (N := 8) hx hb hts (fun w h => List.mem_cons_of_mem _ (List.mem_append_left _ (List.mem_append_left _ (List.mem_append_left _ (List.mem_append_left _ (List.mem_append_left _ (List.mem_append_right _ h))))))) hown hK hH t_h0 (th_nz rfl) (thE_7 _ _ _) rfl 1 (th_ltN rfl) (hts (.fieldLink RX7 11 "BayMoorings$Search" "asked" "[LBayMoorings$Boat;") (List.mem_cons_of_mem _ (List.mem_append_left _ (List.mem_append_left _ (List.mem_append_left _ (List.mem_append_left _ (List.mem_append_left _ (List.mem_append_left _ (List.mem_append_left _ (List.mem_of_getElem? (i := 1) rfl)))))))))) (fun _ h9 => h9) (th_fR r40 rfl) dX7_barredBy_40 ?_
    refine lv_iload_n hx hb dX7_barredBy_43 rfl (lv_at hl 5 rfl) ?_
    refine th_aald hx hb hK hH t40 (th_nz rfl) 3 (thE_30 _ _ _) rfl (rg_in (n := 5) f_p3 (th_leI rfl) (th_ltI rfl)) dX7_barredBy_44 ?_
    refine th_topq (fun r43 e43 => ?_)
    have t43 : ∀ q, r43 = some q → τ q = 8 ∨ τ q = 9 ∨ τ q = 4 := by rw [e43]; exact (thI_30 hH t40) _ (rg_cl (n := 5) f_p3 (th_leI rfl) (th_ltI rfl))
    refine th_astoreq (i := 6) (lv' := [(6, va_rf r43), (5, va_rf r41), (4, .int x35), (0, .ref h0), (1, .int p1), (2, .int p2), (3, .int p3)]) hx hb dX7_barredBy_45 hl (th_ltN rfl) (by simp [th_cat]) (fun ls hl => ?_)
    refine lv_aload_n hx hb dX7_barredBy_47 rfl (lv_at hl 3 rfl) ?_
    obtain ⟨q44, r44, t44⟩ : ∃ q, gr h0 0 = some q ∧ τ q = 1 := (thI_7 hH t_h0).1
    refine th_get (ci := 6) (v := .ref q44) (T := TX7) (C := RX7) (N := 8) hx hb hts (fun w h => List.mem_cons_of_mem _ (List.mem_append_left _ (List.mem_append_left _ (List.mem_append_left _ (List.mem_append_left _ (List.mem_append_left _ (List.mem_append_right _ h))))))) hown hK hH t_h0 (th_nz rfl) (thE_7 _ _ _) rfl 0 (th_ltN rfl) (hts (.fieldLink RX7 37 "BayMoorings$Search" "bay" "LBayMoorings$Bay;") (List.mem_cons_of_mem _ (List.mem_append_left _ (List.mem_append_left _ (List.mem_append_left _ (List.mem_append_left _ (List.mem_append_left _ (List.mem_append_left _ (List.mem_append_left _ (List.mem_of_getElem? (i := 2) rfl)))))))))) (fun _ h9 => h9) (th_fR r44 rfl) dX7_barredBy_48 ?_
    refine lv_iload_n hx hb dX7_barredBy_51 rfl (lv_at hl 5 rfl) ?_
    have hA45 := th_Asub (τ := τ) hS
    refine va_callq (va_runV (As := [.int p2]) (rest := []) ⟨hx, hb, hml, hown, hts⟩ (k_X0_buoyAt l D cA Z τ gi gr _ q44 t44 p2) (cwV 1 hts gX7_barredBy_X0_buoyAt rfl rfl rfl hd_X0_buoyAt__1 ⟨Nat.le_of_ble_eq_true rfl, Nat.le_of_ble_eq_true rfl⟩) ⟨th_blind, tr_1 hK hH t44, (th_pre hH hK hN hZ hS hA45)⟩ rfl rfl hl.1 rfl (lv_room (Nat.le_of_ble_eq_true rfl)) dX7_barredBy_52 ⟨Nat.le_of_ble_eq_true rfl, Nat.le_of_ble_eq_true rfl⟩) hS (fun q _ h => hA45 q h) hA45 (fun r46 u t H locs ht hvm hw46 hB hz1 hk1 hS => ?_)
    try dsimp only at hw46 hB
    rw [ht] at hB
    have hH := hB
    refine th_astoreq (i := 7) (lv' := [(7, va_rf r46), (6, va_rf r43), (5, va_rf r41), (4, .int x35), (0, .ref h0), (1, .int p1), (2, .int p2), (3, .int p3)]) hx hb dX7_barredBy_55 hl (th_ltN rfl) (by simp [th_cat]) (fun ls hl => ?_)
    refine th_aloadq hx hb dX7_barredBy_57 (lv_at hl 2 rfl) ?_
    refine th_ifnull (tgt := 72) hx hb dX7_barredBy_59 (th_eqI rfl) (fun z47 => ?_) (fun q47 z47 => ?_)
    · skip
      subst z47
      have hl : lv_has ls 12 [(7, va_rf r46), (6, va_rf r43), (5, .null), (4, .int x35), (0, .ref h0), (1, .int p1), (2, .int p2), (3, .int p3)] := hl
      refine lv_iconst (v := 0) hx hb dX7_barredBy_72 ic_0 ?_
      exact W.iret (v := 0) hx hb hr (fun t ht hW => ⟨⟨0, (gi, gr), rfl, ⟨hM, rfl, (hF.trans (by simp only [↓reduceIte, F_X7_barredBy, ← e32, ← e33, ← e34, ← e35, r36, Option.getD_some, ← e37, eq_true c38, r40, ← e41, ← e43, r44, hw46.2, Option.elim_none]))⟩, th_Ht ht hH⟩, hS.F ht⟩) hS.2.2 dX7_barredBy_73
    · skip
      subst z47
      have t47 := t41 q47 rfl
      have hl : lv_has ls 12 [(7, va_rf r46), (6, va_rf r43), (5, .ref q47), (4, .int x35), (0, .ref h0), (1, .int p1), (2, .int p2), (3, .int p3)] := hl
      refine th_aloadq hx hb dX7_barredBy_62 (lv_at hl 1 rfl) ?_
      refine th_ifnull (tgt := 72) hx hb dX7_barredBy_64 (th_eqI rfl) (fun z48 => ?_) (fun q48 z48 => ?_)
      · skip
        subst z48
        have hl : lv_has ls 12 [(7, va_rf r46), (6, .null), (5, .ref q47), (4, .int x35), (0, .ref h0), (1, .int p1), (2, .int p2), (3, .int p3)] := hl
        refine lv_iconst (v := 0) hx hb dX7_barredBy_72 ic_0 ?_
        exact W.iret (v := 0) hx hb hr (fun t ht hW => ⟨⟨0, (gi, gr), rfl, ⟨hM, rfl, (hF.trans (by simp only [↓reduceIte, F_X7_barredBy, ← e32, ← e33, ← e34, ← e35, r36, Option.getD_some, ← e37, eq_true c38, r40, ← e41, ← e43, r44, hw46.2, Option.elim_some, Option.elim_none]))⟩, th_Ht ht hH⟩, hS.F ht⟩) hS.2.2 dX7_barredBy_73
      · skip
        subst z48
        have t48 := t43 q48 rfl
        have hl : lv_has ls 12 [(7, va_rf r46), (6, .ref q48), (5, .ref q47), (4, .int x35), (0, .ref h0), (1, .int p1), (2, .int p2), (3, .int p3)] := hl
        refine th_aloadq hx hb dX7_barredBy_67 (lv_at hl 0 rfl) ?_
        refine th_ifnonnull (tgt := 74) hx hb dX7_barredBy_69 (th_eqI rfl) (fun q49 z49 => ?_) (fun z49 => ?_)
        · skip
          subst z49
          have t49 := hw46.1 q49 rfl
          have hl : lv_has ls 12 [(7, .ref q49), (6, .ref q48), (5, .ref q47), (4, .int x35), (0, .ref h0), (1, .int p1), (2, .int p2), (3, .int p3)] := hl
          refine lv_iconst (v := 1) hx hb dX7_barredBy_74 ic_1 ?_
          refine lv_iload_n hx hb dX7_barredBy_75 rfl (lv_at hl 6 rfl) ?_
          refine lv_ishl hx hb dX7_barredBy_76 ?_
          refine lv_topi (fun x50 e50 => ?_)
          refine lv_istore (i := 8) (lv' := [(8, .int x50), (7, .ref q49), (6, .ref q48), (5, .ref q47), (4, .int x35), (0, .ref h0), (1, .int p1), (2, .int p2), (3, .int p3)]) hx hb dX7_barredBy_77 hl (th_ltN rfl) rfl (fun ls hl => ?_)
          refine lv_iconst (v := 0) hx hb dX7_barredBy_79 ic_0 ?_
          refine lv_istore (i := 9) (lv' := [(9, .int 0), (8, .int x50), (7, .ref q49), (6, .ref q48), (5, .ref q47), (4, .int x35), (0, .ref h0), (1, .int p1), (2, .int p2), (3, .int p3)]) hx hb dX7_barredBy_80 hl (th_ltN rfl) rfl (fun ls hl => ?_)
          exact J82 _ gi _ _ _ x35 q47 q48 q49 x50 0 (Nat.lt_add_one _) hH hS hM (lv_sub hl [6, 8, 9, 5, 4, 3, 2, 1, 0] rfl) f_p2 f_p3 f35 t47 t48 t49 (rg_w rgc_0 (th_leI rfl) (th_leI rfl)) (hF.trans (by simp only [↓reduceIte, F_X7_barredBy, ← e32, ← e33, ← e34, ← e35, r36, Option.getD_some, ← e37, eq_true c38, r40, ← e41, ← e43, r44, hw46.2, Option.elim_some, ← e50]))
        · skip
          subst z49
          have hl : lv_has ls 12 [(7, .null), (6, .ref q48), (5, .ref q47), (4, .int x35), (0, .ref h0), (1, .int p1), (2, .int p2), (3, .int p3)] := hl
          refine lv_iconst (v := 0) hx hb dX7_barredBy_72 ic_0 ?_
          exact W.iret (v := 0) hx hb hr (fun t ht hW => ⟨⟨0, (gi, gr), rfl, ⟨hM, rfl, (hF.trans (by simp only [↓reduceIte, F_X7_barredBy, ← e32, ← e33, ← e34, ← e35, r36, Option.getD_some, ← e37, eq_true c38, r40, ← e41, ← e43, r44, hw46.2, Option.elim_some, Option.elim_none]))⟩, th_Ht ht hH⟩, hS.F ht⟩) hS.2.2 dX7_barredBy_73
  · skip
    refine lv_aload_n hx hb dX7_barredBy_23 rfl (lv_at hl 1 rfl) ?_
    refine th_get (ci := 6) (v := .ref q36) (T := TX7) (C := RX7) (N := 8) hx hb hts (fun w h => List.mem_cons_of_mem _ (List.mem_append_left _ (List.mem_append_left _ (List.mem_append_left _ (List.mem_append_left _ (List.mem_append_left _ (List.mem_append_right _ h))))))) hown hK hH t_h0 (th_nz rfl) (thE_7 _ _ _) rfl 4 (th_ltN rfl) (hts (.fieldLink RX7 25 "BayMoorings$Search" "barred" "[I") (List.mem_cons_of_mem _ (List.mem_append_left _ (List.mem_append_left _ (List.mem_append_left _ (List.mem_append_left _ (List.mem_append_left _ (List.mem_append_left _ (List.mem_append_left _ (List.mem_of_getElem? (i := 0) rfl)))))))))) (fun _ h9 => h9) (th_fR r36 rfl) dX7_barredBy_24 ?_
    refine lv_iload hx hb dX7_barredBy_27 (lv_at hl 0 rfl) ?_
    refine th_iald hx hb hK hH t36 (th_nz rfl) 0 (thE_32 _ _ _) rfl (rg_in (n := 300) f35 (th_leI rfl) (th_ltI rfl)) dX7_barredBy_29 ?_
    rw [← e37]
    exact W.iret (v := x37) hx hb hr (fun t ht hW => ⟨⟨x37, (gi, gr), rfl, ⟨hM, rfl, (hF.trans (by simp only [↓reduceIte, F_X7_barredBy, ← e32, ← e33, ← e34, ← e35, r36, Option.getD_some, ← e37, eq_false c38]))⟩, th_Ht ht hH⟩, hS.F ht⟩) hS.2.2 dX7_barredBy_30

noncomputable def f_X7_narrow_43 (τ : th_t) (Z : th_Zt) (gi : th_i) (gr : th_r) (h0 : Nat) (p1 : Int32) (p2 : Int32) (gi_4 : th_i) (y4_3 : Int32) (k_4 : th_i → Int32 → th_i) (gi_43 : th_i) (y43_4 : Int32) : th_i :=
  let w43_0 : Int32 := gi_43 h0 2
  let q1 : Nat := (gr h0 3).getD 0
  let x2 : Int32 := p1 + 1
  let x3 : Int32 := x2 * 5
  let x4 : Int32 := x3 + y4_3
  let gi5 : th_i := va_up gi_43 q1 (upd (gi_43 q1) x4.toNatClampNeg y43_4)
  let x7 : Int32 := y4_3 + 1
  k_4 gi5 x7
noncomputable def f_X7_narrow_4 (τ : th_t) (Z : th_Zt) (gi : th_i) (gr : th_r) (h0 : Nat) (p1 : Int32) (p2 : Int32) : Nat → th_i → Int32 → th_i
  | 0, gi_4, y4_3 => (gi_4)
  | n4 + 1, gi_4, y4_3 =>
    let x8 : Int32 := gi_4 h0 2
    if x8 ≤ y4_3 then (
      (gi_4)) else (
      let q12 : Nat := (gr h0 3).getD 0
      let x13 : Int32 := p1 * 5
      let x14 : Int32 := x13 + y4_3
      let x15 : Int32 := gi_4 q12 x14.toNatClampNeg
      if p2 = ((-1) : Int32) then (
        f_X7_narrow_43 τ Z gi gr h0 p1 p2 gi_4 y4_3 (f_X7_narrow_4 τ Z gi gr h0 p1 p2 n4) gi_4 x15) else (
        let u20 : Int32 × th_i := F_X7_barredBy τ Z gi_4 gr h0 p1 p2 y4_3
        let x20 : Int32 := u20.1
        let gi20 : th_i := u20.2
        let x23 : Int32 := x20 ^^^ (-1)
        let x24 : Int32 := x15 &&& x23
        f_X7_narrow_43 τ Z gi gr h0 p1 p2 gi_4 y4_3 (f_X7_narrow_4 τ Z gi gr h0 p1 p2 n4) gi20 x24))
noncomputable def F_X7_narrow (τ : th_t) (Z : th_Zt) (gi : th_i) (gr : th_r) (h0 : Nat) (p1 : Int32) (p2 : Int32) : th_i :=
  let x25 : Int32 := p1 + 1
  f_X7_narrow_4 τ Z gi gr h0 p1 p2 ((5 - x25.toInt).toNat + 1) gi x25
set_option maxHeartbeats 8000000 in
set_option maxRecDepth 100000 in
theorem k_X7_narrow (l : Launch) (D : va_G) (cA : Nat → ClassId) (Z : th_Zt) (τ : th_t) (gi : th_i) (gr : th_r) (sz : Nat) (h0 : Nat) (t_h0 : τ h0 = 7) (p1 : Int32) (f_p1 : rg 0 4 p1) (p2 : Int32) (f_p2 : rg (-1) 11 p2) : Met l yX7_narrow wsX7_narrow ({ frames := 4, cells := 0, slots := 0, locals := 128 }) (va_Pc [.ref h0, .int p1, .int p2] (th_Pre D cA Z τ gi gr sz)) (va_Qv (fun (u : th_i × th_r) => th_Mod [3100, 3200] τ gi gr u.1 u.2 ∧ u.2 = gr ∧ (F_X7_narrow τ Z gi gr h0 p1 p2 = u.1)) (fun (u : th_i × th_r) t => th_H D cA τ u.1 u.2 t.heap) (th_A τ sz)) 0 0 (th_A τ sz) := by
  refine Met.ofW (cc := cX7_narrow) (maxL := 5) (ret := none) (by decide) rfl ?_
  intro p e s m args below meth c s₁ B hml hv
  obtain ⟨rfl, hsz, hH, hK, hN, hZ⟩ := hv
  have hx := B.exec
  have hb := B.bytes
  have hr := B.returns
  have hts := atoms_spec (ws := wsX7_narrow) B.pre
  have hown : s.vm.findClass RX7 = some m.cls := findClass_of_methodNamed B.named
  have hlocks := B.notSynchronized
  subst hsz
  have hM : th_Mod [3100, 3200] τ gi gr gi gr := th_Mod.rf
  have J4 : ∀ (n4 : Nat) (gi_4 : th_i) (H : Heap) (locs : List Loc) (ls : Array Slot) (y4_3 : Int32), (5 - y4_3.toInt).toNat < n4 → th_H D cA τ gi_4 gr H → va_S (th_A τ s.heap.size) s.heap H locs → th_Mod [3100, 3200] τ gi gr gi_4 gr → lv_has ls 5 [(0, .ref h0), (1, .int p1), (2, .int p2), (3, .int y4_3)] → rg 0 4 p1 → rg (-1) 11 p2 → rg 1 5 y4_3 → F_X7_narrow τ Z gi gr h0 p1 p2 = f_X7_narrow_4 τ Z gi gr h0 p1 p2 n4 gi_4 y4_3 → W p l e (headSpec wsX7_narrow ({ frames := 4, cells := 0, slots := 0, locals := 128 })).room s m [.ref h0, .int p1, .int p2].toArray below meth c H locs 0 0 (MQ below (va_Qv (fun (u : th_i × th_r) => th_Mod [3100, 3200] τ gi gr u.1 u.2 ∧ u.2 = gr ∧ (F_X7_narrow τ Z gi gr h0 p1 p2 = u.1)) (fun (u : th_i × th_r) t => th_H D cA τ u.1 u.2 t.heap) (th_A τ s.heap.size)) [.ref h0, .int p1, .int p2].toArray s 0 0 (th_A τ s.heap.size)) (F0 m 4 ls []) := by
    intro n4
    induction n4 with
    | zero =>
      intro gi_4 H locs ls y4_3 hn
      exact absurd hn (Nat.not_lt_zero _)
    | succ n4 ih4 =>
      intro gi_4 H locs ls y4_3 hn4 hH hS hM hl fy4_1 fy4_2 fy4_3 hF
      have J43 : ∀ (gi_43 : th_i) (H : Heap) (locs : List Loc) (ls : Array Slot) (y43_4 : Int32) (w43_0 : Int32), th_H D cA τ gi_43 gr H → va_S (th_A τ s.heap.size) s.heap H locs → th_Mod [3100, 3200] τ gi gr gi_43 gr → lv_has ls 5 [(0, .ref h0), (1, .int p1), (2, .int p2), (3, .int y4_3), (4, .int y43_4)] → rg 0 4 p1 → rg (-1) 11 p2 → rg 1 4 y4_3 → w43_0 = gi_43 h0 2 → rg 2 5 w43_0 → F_X7_narrow τ Z gi gr h0 p1 p2 = f_X7_narrow_43 τ Z gi gr h0 p1 p2 gi_4 y4_3 (f_X7_narrow_4 τ Z gi gr h0 p1 p2 n4) gi_43 y43_4 → W p l e (headSpec wsX7_narrow ({ frames := 4, cells := 0, slots := 0, locals := 128 })).room s m [.ref h0, .int p1, .int p2].toArray below meth c H locs 0 0 (MQ below (va_Qv (fun (u : th_i × th_r) => th_Mod [3100, 3200] τ gi gr u.1 u.2 ∧ u.2 = gr ∧ (F_X7_narrow τ Z gi gr h0 p1 p2 = u.1)) (fun (u : th_i × th_r) t => th_H D cA τ u.1 u.2 t.heap) (th_A τ s.heap.size)) [.ref h0, .int p1, .int p2].toArray s 0 0 (th_A τ s.heap.size)) (F0 m 43 ls []) := by
        intro gi_43 H locs ls y43_4 w43_0 hH hS hM hl fy43_1 fy43_2 fy43_3 ew43_0 fw43_0 hF
        refine lv_aload_n hx hb dX7_narrow_43 rfl (lv_at hl 0 rfl) ?_
        obtain ⟨q1, r1, t1⟩ : ∃ q, gr h0 3 = some q ∧ τ q = 31 := (thI_7 hH t_h0).2.2.2.1
        refine th_get (ci := 6) (v := .ref q1) (T := TX7) (C := RX7) (N := 8) hx hb hts (fun w h => List.mem_cons_of_mem _ (List.mem_append_left _ (List.mem_append_left _ (List.mem_append_left _ (List.mem_append_left _ (List.mem_append_left _ (List.mem_append_right _ h))))))) hown hK hH t_h0 (th_nz rfl) (thE_7 _ _ _) rfl 3 (th_ltN rfl) (hts (.fieldLink RX7 21 "BayMoorings$Search" "open" "[I") (List.mem_cons_of_mem _ (List.mem_append_left _ (List.mem_append_left _ (List.mem_append_left _ (List.mem_append_left _ (List.mem_append_left _ (List.mem_append_left _ (List.mem_append_left _ (List.mem_of_getElem? (i := 1) rfl)))))))))) (fun _ h9 => h9) (th_fR r1 rfl) dX7_narrow_44 ?_
        refine lv_iload_n hx hb dX7_narrow_47 rfl (lv_at hl 1 rfl) ?_
        refine lv_iconst (v := 1) hx hb dX7_narrow_48 ic_1 ?_
        refine lv_iadd hx hb dX7_narrow_49 ?_
        refine lv_topi (fun x2 e2 => ?_)
        have f2 : rg 1 5 x2 := rg_e e2 (rg_w (rg_add fy43_1 rgc_1 (th_leI rfl) (th_leI rfl)) (th_leI rfl) (th_leI rfl))
        refine lv_iconst (v := 5) hx hb dX7_narrow_50 ic_5 ?_
        refine lv_imul hx hb dX7_narrow_51 ?_
        refine lv_topi (fun x3 e3 => ?_)
        have f3 : rg 5 25 x3 := rg_e e3 (rg_w (rg_mul f2 rgc_5 (th_leI rfl) (th_leI rfl) (th_leI rfl)) (th_leI rfl) (th_leI rfl))
        refine lv_iload_n hx hb dX7_narrow_52 rfl (lv_at hl 3 rfl) ?_
        refine lv_iadd hx hb dX7_narrow_53 ?_
        refine lv_topi (fun x4 e4 => ?_)
        have f4 : rg 6 29 x4 := rg_e e4 (rg_w (rg_add f3 fy43_3 (th_leI rfl) (th_leI rfl)) (th_leI rfl) (th_leI rfl))
        refine lv_iload hx hb dX7_narrow_54 (lv_at hl 4 rfl) ?_
        refine th_iast hx hb hK hH hS t1 (th_nz rfl) (Or.inl (th_nzE t1 rfl)) 0 (fun _ => thE_31 _ _ _) rfl (rg_in (n := 30) f4 (th_leI rfl) (th_ltI rfl)) (trivial) dX7_narrow_56 (fun gi5 H locs hu5 ho5 hH hS => ?_)
        have eg5 : gi5 = va_up gi_43 q1 (upd (gi_43 q1) x4.toNatClampNeg y43_4) := th_upE hu5 ho5
        have e6 : w43_0 = gi5 h0 2 := Eq.trans ew43_0 (Eq.symm (ho5 _ _ (Or.inl (th_ne t_h0 t1 (th_nz rfl)))))
        have hM := hM.i t1 (th_mem (a := 3100) rfl) ho5
        obtain ⟨x7, e7⟩ : ∃ y : Int32, y = y4_3 + 1 := ⟨_, rfl⟩
        have f7 : rg 2 5 x7 := rg_e e7 (rg_w (rg_add fy43_3 rgc_1 (th_leI rfl) (th_leI rfl)) (th_leI rfl) (th_leI rfl))
        refine lv_iinc (v := x7) (lv' := [(3, .int x7), (0, .ref h0), (1, .int p1), (2, .int p2), (4, .int y43_4)]) hx hb dX7_narrow_57 hl (k := 3) rfl (by rw [e7]; rfl) (th_ltN rfl) rfl (fun ls hl => ?_)
        refine lv_goto (tgt := 4) hx hb dX7_narrow_60 (th_eqI rfl) ?_
        exact ih4 gi5 _ _ _ x7 (th_up (rg_dA e7 fy43_3 rgc_1 (th_leI rfl) (th_leI rfl)) fy43_3 hn4 (th_ltI rfl)) hH hS hM (lv_sub hl [1, 2, 3, 0] rfl) fy43_1 fy43_2 (rg_w f7 (th_leI rfl) (th_leI rfl)) (hF.trans (by simp only [f_X7_narrow_43, ← ew43_0, r1, Option.getD_some, ← e2, ← e3, ← e4, ← eg5, ← e7]))
      refine lv_iload_n hx hb dX7_narrow_4 rfl (lv_at hl 3 rfl) ?_
      refine lv_aload_n hx hb dX7_narrow_5 rfl (lv_at hl 0 rfl) ?_
      obtain ⟨x8, e8⟩ : ∃ y : Int32, y = gi_4 h0 2 := ⟨_, rfl⟩
      refine th_get (ci := 6) (v := .int x8) (T := TX7) (C := RX7) (N := 8) hx hb hts (fun w h => List.mem_cons_of_mem _ (List.mem_append_left _ (List.mem_append_left _ (List.mem_append_left _ (List.mem_append_left _ (List.mem_append_left _ (List.mem_append_right _ h))))))) hown hK hH t_h0 (th_nz rfl) (thE_7 _ _ _) rfl 2 (th_ltN rfl) (hts (.fieldLink RX7 17 "BayMoorings$Search" "size" "I") (List.mem_cons_of_mem _ (List.mem_append_left _ (List.mem_append_left _ (List.mem_append_left _ (List.mem_append_left _ (List.mem_append_left _ (List.mem_append_left _ (List.mem_append_left _ (List.mem_of_getElem? (i := 0) rfl)))))))))) (fun _ h9 => h9) (th_fI e8 rfl) dX7_narrow_6 ?_
      have f8 : rg 0 5 x8 := rg_e e8 ((thI_7 hH t_h0).2.2.1)
      refine lv_icmp_ge (tgt := 63) hx hb dX7_narrow_9 (th_eqI rfl) (fun c9 => ?_) (fun c9 => ?_)
      · skip
        exact W.vret hx hb hr (fun t ht hW => ⟨⟨(gi_4, gr), rfl, ⟨hM, rfl, (hF.trans (by simp only [↓reduceIte, f_X7_narrow_4, ← e8, eq_true c9]))⟩, th_Ht ht hH⟩, hS.F ht⟩) hS.2.2 dX7_narrow_63
      · skip
        have f10 : rg 2 5 x8 := rg_w (rg_nle f8 fy4_3 c9).1 (th_leI rfl) (th_leI rfl)
        have f11 : rg 1 4 y4_3 := rg_w (rg_nle f8 fy4_3 c9).2 (th_leI rfl) (th_leI rfl)
        refine lv_aload_n hx hb dX7_narrow_12 rfl (lv_at hl 0 rfl) ?_
        obtain ⟨q12, r12, t12⟩ : ∃ q, gr h0 3 = some q ∧ τ q = 31 := (thI_7 hH t_h0).2.2.2.1
        refine th_get (ci := 6) (v := .ref q12) (T := TX7) (C := RX7) (N := 8) hx hb hts (fun w h => List.mem_cons_of_mem _ (List.mem_append_left _ (List.mem_append_left _ (List.mem_append_left _ (List.mem_append_left _ (List.mem_append_left _ (List.mem_append_right _ h))))))) hown hK hH t_h0 (th_nz rfl) (thE_7 _ _ _) rfl 3 (th_ltN rfl) (hts (.fieldLink RX7 21 "BayMoorings$Search" "open" "[I") (List.mem_cons_of_mem _ (List.mem_append_left _ (List.mem_append_left _ (List.mem_append_left _ (List.mem_append_left _ (List.mem_append_left _ (List.mem_append_left _ (List.mem_append_left _ (List.mem_of_getElem? (i := 1) rfl)))))))))) (fun _ h9 => h9) (th_fR r12 rfl) dX7_narrow_13 ?_
        refine lv_iload_n hx hb dX7_narrow_16 rfl (lv_at hl 1 rfl) ?_
        refine lv_iconst (v := 5) hx hb dX7_narrow_17 ic_5 ?_
        refine lv_imul hx hb dX7_narrow_18 ?_
        refine lv_topi (fun x13 e13 => ?_)
        have f13 : rg 0 20 x13 := rg_e e13 (rg_w (rg_mul fy4_1 rgc_5 (th_leI rfl) (th_leI rfl) (th_leI rfl)) (th_leI rfl) (th_leI rfl))
        refine lv_iload_n hx hb dX7_narrow_19 rfl (lv_at hl 3 rfl) ?_
        refine lv_iadd hx hb dX7_narrow_20 ?_
        refine lv_topi (fun x14 e14 => ?_)
        have f14 : rg 1 24 x14 := rg_e e14 (rg_w (rg_add f13 f11 (th_leI rfl) (th_leI rfl)) (th_leI rfl) (th_leI rfl))
        refine th_iald hx hb hK hH t12 (th_nz rfl) 0 (thE_31 _ _ _) rfl (rg_in (n := 30) f14 (th_leI rfl) (th_ltI rfl)) dX7_narrow_21 ?_
        refine lv_topi (fun x15 e15 => ?_)
        refine lv_istore (i := 4) (lv' := [(4, .int x15), (0, .ref h0), (1, .int p1), (2, .int p2), (3, .int y4_3)]) hx hb dX7_narrow_22 hl (th_ltN rfl) rfl (fun ls hl => ?_)
        refine lv_iload_n hx hb dX7_narrow_24 rfl (lv_at hl 3 rfl) ?_
        refine lv_iconst (v := (-1)) hx hb dX7_narrow_25 ic_m1 ?_
        refine lv_icmp_eq (tgt := 43) hx hb dX7_narrow_26 (th_eqI rfl) (fun c16 => ?_) (fun c16 => ?_)
        · skip
          have f17 : rg (-1) (-1) p2 := rg_w (rg_eq fy4_2 rgc_m1 c16).1 (th_leI rfl) (th_leI rfl)
          exact J43 gi_4 _ _ _ x15 x8 hH hS hM (lv_sub hl [1, 2, 3, 4, 0] rfl) fy4_1 (rg_w f17 (th_leI rfl) (th_leI rfl)) f11 e8 f10 (hF.trans (by simp only [↓reduceIte, f_X7_narrow_4, ← e8, eq_false c9, r12, Option.getD_some, ← e13, ← e14, ← e15, eq_true c16]))
        · skip
          have f18 : rg 0 11 p2 := rg_w (rg_neL fy4_2 rgc_m1 c16) (th_leI rfl) (th_leI rfl)
          refine lv_iload hx hb dX7_narrow_29 (lv_at hl 0 rfl) ?_
          refine lv_aload_n hx hb dX7_narrow_31 rfl (lv_at hl 1 rfl) ?_
          refine lv_iload_n hx hb dX7_narrow_32 rfl (lv_at hl 2 rfl) ?_
          refine lv_iload_n hx hb dX7_narrow_33 rfl (lv_at hl 3 rfl) ?_
          refine lv_iload_n hx hb dX7_narrow_34 rfl (lv_at hl 4 rfl) ?_
          have hA19 := th_Asub (τ := τ) hS
          refine va_calli (va_runV (As := [.int p1, .int p2, .int y4_3]) (rest := [.int x15]) ⟨hx, hb, hml, hown, hts⟩ (k_X7_barredBy l D cA Z τ gi_4 gr _ h0 t_h0 p1 fy4_1 p2 f18 y4_3 (rg_w f11 (th_leI rfl) (th_leI rfl))) (cwV 3 hts gX7_narrow_X7_barredBy rfl rfl rfl hd_X7_barredBy__3 ⟨Nat.le_of_ble_eq_true rfl, Nat.le_of_ble_eq_true rfl⟩) ⟨th_blind, tr_7 hK hH t_h0, (th_pre hH hK hN hZ hS hA19)⟩ rfl rfl hl.1 rfl (lv_room (Nat.le_of_ble_eq_true rfl)) dX7_narrow_35 ⟨Nat.le_of_ble_eq_true rfl, Nat.le_of_ble_eq_true rfl⟩) hS (fun q _ h => hA19 q h) hA19 (fun x20 u t H locs ht hvm hw20 hB hz1 hk1 hS => ?_)
          try dsimp only at hw20 hB
          rw [ht] at hB
          have hH := hB
          obtain ⟨gi20, gr20⟩ := u
          try dsimp only at hw20 hH
          obtain rfl : gr = gr20 := (hw20.2.1).symm
          have hM := hM.tr hw20.1 (fun _ h => h) (th_sub rfl)
          have e21 : x8 = gi20 h0 2 := Eq.trans e8 (Eq.symm (hw20.1 h0 2 (th_nzE t_h0 rfl) (th_nmE (key := 702) t_h0 rfl rfl)).1)
          have e22 : x15 = gi20 q12 (x14.toNatClampNeg) := Eq.trans e15 (Eq.symm (hw20.1 q12 (x14.toNatClampNeg) (th_nzE t12 rfl) (th_nmE (key := 3100) t12 rfl rfl)).1)
          refine lv_iconst (v := (-1)) hx hb dX7_narrow_38 ic_m1 ?_
          refine lv_ixor hx hb dX7_narrow_39 ?_
          refine lv_topi (fun x23 e23 => ?_)
          refine lv_iand hx hb dX7_narrow_40 ?_
          refine lv_topi (fun x24 e24 => ?_)
          refine lv_istore (i := 4) (lv' := [(4, .int x24), (0, .ref h0), (1, .int p1), (2, .int p2), (3, .int y4_3)]) hx hb dX7_narrow_41 hl (th_ltN rfl) rfl (fun ls hl => ?_)
          exact J43 gi20 _ _ _ x24 x8 hH hS hM (lv_sub hl [1, 2, 3, 4, 0] rfl) fy4_1 (rg_w f18 (th_leI rfl) (th_leI rfl)) f11 e21 f10 (hF.trans (by simp only [↓reduceIte, f_X7_narrow_4, ← e8, eq_false c9, r12, Option.getD_some, ← e13, ← e14, ← e15, eq_false c16, hw20.2.2, ← e23, ← e24]))
  have hS : va_S (th_A τ s.heap.size) s.heap s.heap [] := va_S.rf
  have hl := lv_entry ([.ref h0, .int p1, .int p2]) (n := 5) (Nat.le_of_ble_eq_true rfl)
  rw [lg_entry_eq]
  generalize (lg_sl ([.ref h0, .int p1, .int p2]) ++ List.replicate (5 - (lg_sl ([.ref h0, .int p1, .int p2])).length) Slot.unset).toArray = ls at hl ⊢
  have hl : lv_has ls 5 [(0, .ref h0), (1, .int p1), (2, .int p2)] := hl
  have hF : F_X7_narrow τ Z gi gr h0 p1 p2 = F_X7_narrow τ Z gi gr h0 p1 p2 := rfl
  refine lv_iload_n hx hb dX7_narrow_0 rfl (lv_at hl 1 rfl) ?_
  refine lv_iconst (v := 1) hx hb dX7_narrow_1 ic_1 ?_
  refine lv_iadd hx hb dX7_narrow_2 ?_
  refine lv_topi (fun x25 e25 => ?_)
  have f25 : rg 1 5 x25 := rg_e e25 (rg_w (rg_add f_p1 rgc_1 (th_leI rfl) (th_leI rfl)) (th_leI rfl) (th_leI rfl))
  refine lv_istore_n (i := 3) (lv' := [(3, .int x25), (0, .ref h0), (1, .int p1), (2, .int p2)]) hx hb dX7_narrow_3 rfl hl (th_ltN rfl) rfl (fun ls hl => ?_)
  exact J4 _ gi _ _ _ x25 (Nat.lt_add_one _) hH hS hM (lv_sub hl [1, 2, 3, 0] rfl) f_p1 f_p2 f25 (hF.trans (by simp only [F_X7_narrow, ← e25]))
end
section
noncomputable def f_X5_refugeOf_57 (τ : th_t) (Z : th_Zt) (gi : th_i) (gr : th_r) (h0 : Nat) (h1 : Nat) (p2 : Int32) (y2_3 : Int32) (k_2 : Int32 → Int32) : Int32 :=
  let x1 : Int32 := y2_3 + 1
  k_2 x1
noncomputable def f_X5_refugeOf_2 (τ : th_t) (Z : th_Zt) (gi : th_i) (gr : th_r) (h0 : Nat) (h1 : Nat) (p2 : Int32) : Nat → Int32 → Int32
  | 0, y2_3 => 0
  | n2 + 1, y2_3 =>
    let q2 : Nat := (gr h0 0).getD 0
    let x3 : Int32 := gi q2 5
    if x3 ≤ y2_3 then (
      (-1)) else (
      let r9 : Option Nat := F_X0_buoyAt τ Z gi gr q2 y2_3
      Option.elim r9 (
        f_X5_refugeOf_57 τ Z gi gr h0 h1 p2 y2_3 (f_X5_refugeOf_2 τ Z gi gr h0 h1 p2 n2) ) (fun q10 =>
        let x12 : Int32 := F_X3_holds τ Z gi gr q10 h1 p2
        if x12 = (0 : Int32) then (
          f_X5_refugeOf_57 τ Z gi gr h0 h1 p2 y2_3 (f_X5_refugeOf_2 τ Z gi gr h0 h1 p2 n2) ) else (
          let q17 : Nat := (gr h0 1).getD 0
          let x19 : Int32 := F_X0_mayLie τ Z gi gr q2 h1 q10 q17
          if x19 = (0 : Int32) then (
            f_X5_refugeOf_57 τ Z gi gr h0 h1 p2 y2_3 (f_X5_refugeOf_2 τ Z gi gr h0 h1 p2 n2) ) else (
            y2_3))))
noncomputable def F_X5_refugeOf (τ : th_t) (Z : th_Zt) (gi : th_i) (gr : th_r) (h0 : Nat) (h1 : Nat) (p2 : Int32) : Int32 :=
  f_X5_refugeOf_2 τ Z gi gr h0 h1 p2 ((12 - (0 : Int32).toInt).toNat + 1) 0
set_option maxHeartbeats 8000000 in
set_option maxRecDepth 100000 in
theorem k_X5_refugeOf (l : Launch) (D : va_G) (cA : Nat → ClassId) (Z : th_Zt) (τ : th_t) (gi : th_i) (gr : th_r) (sz : Nat) (h0 : Nat) (t_h0 : τ h0 = 5) (h1 : Nat) (t_h1 : τ h1 = 8 ∨ τ h1 = 9 ∨ τ h1 = 4) (p2 : Int32) : Met l yX5_refugeOf wsX5_refugeOf ({ frames := 4, cells := 0, slots := 0, locals := 123 }) (va_Pc [.ref h0, .ref h1, .int p2] (th_Pre D cA Z τ gi gr sz)) (va_Qi (fun (r : Int32) (_ : Unit) => (F_X5_refugeOf τ Z gi gr h0 h1 p2 = r)) (fun (_ : Unit) t => th_H D cA τ gi gr t.heap) (th_A τ sz)) 0 0 (th_A τ sz) := by
  refine Met.ofW (cc := cX5_refugeOf) (maxL := 5) (ret := (some .int)) (by decide) rfl ?_
  intro p e s m args below meth c s₁ B hml hv
  obtain ⟨rfl, hsz, hH, hK, hN, hZ⟩ := hv
  have hx := B.exec
  have hb := B.bytes
  have hr := B.returns
  have hts := atoms_spec (ws := wsX5_refugeOf) B.pre
  have hown : s.vm.findClass RX5 = some m.cls := findClass_of_methodNamed B.named
  have hlocks := B.notSynchronized
  subst hsz
  have J2 : ∀ (n2 : Nat) (H : Heap) (locs : List Loc) (ls : Array Slot) (y2_3 : Int32), (12 - y2_3.toInt).toNat < n2 → th_H D cA τ gi gr H → va_S (th_A τ s.heap.size) s.heap H locs → lv_has ls 5 [(0, .ref h0), (1, .ref h1), (2, .int p2), (3, .int y2_3)] → rg 0 12 y2_3 → F_X5_refugeOf τ Z gi gr h0 h1 p2 = f_X5_refugeOf_2 τ Z gi gr h0 h1 p2 n2 y2_3 → W p l e (headSpec wsX5_refugeOf ({ frames := 4, cells := 0, slots := 0, locals := 123 })).room s m [.ref h0, .ref h1, .int p2].toArray below meth c H locs 0 0 (MQ below (va_Qi (fun (r : Int32) (_ : Unit) => (F_X5_refugeOf τ Z gi gr h0 h1 p2 = r)) (fun (_ : Unit) t => th_H D cA τ gi gr t.heap) (th_A τ s.heap.size)) [.ref h0, .ref h1, .int p2].toArray s 0 0 (th_A τ s.heap.size)) (F0 m 2 ls []) := by
    intro n2
    induction n2 with
    | zero =>
      intro H locs ls y2_3 hn
      exact absurd hn (Nat.not_lt_zero _)
    | succ n2 ih2 =>
      intro H locs ls y2_3 hn2 hH hS hl fy2_3 hF
      have J57 : ∀ (H : Heap) (locs : List Loc) (ls : Array Slot), th_H D cA τ gi gr H → va_S (th_A τ s.heap.size) s.heap H locs → lv_has ls 5 [(0, .ref h0), (1, .ref h1), (2, .int p2), (3, .int y2_3)] → rg 0 11 y2_3 → F_X5_refugeOf τ Z gi gr h0 h1 p2 = f_X5_refugeOf_57 τ Z gi gr h0 h1 p2 y2_3 (f_X5_refugeOf_2 τ Z gi gr h0 h1 p2 n2) → W p l e (headSpec wsX5_refugeOf ({ frames := 4, cells := 0, slots := 0, locals := 123 })).room s m [.ref h0, .ref h1, .int p2].toArray below meth c H locs 0 0 (MQ below (va_Qi (fun (r : Int32) (_ : Unit) => (F_X5_refugeOf τ Z gi gr h0 h1 p2 = r)) (fun (_ : Unit) t => th_H D cA τ gi gr t.heap) (th_A τ s.heap.size)) [.ref h0, .ref h1, .int p2].toArray s 0 0 (th_A τ s.heap.size)) (F0 m 57 ls []) := by
        intro H locs ls hH hS hl fy57_3 hF
        obtain ⟨x1, e1⟩ : ∃ y : Int32, y = y2_3 + 1 := ⟨_, rfl⟩
        have f1 : rg 1 12 x1 := rg_e e1 (rg_w (rg_add fy57_3 rgc_1 (th_leI rfl) (th_leI rfl)) (th_leI rfl) (th_leI rfl))
        refine lv_iinc (v := x1) (lv' := [(3, .int x1), (0, .ref h0), (1, .ref h1), (2, .int p2)]) hx hb dX5_refugeOf_57 hl (k := 3) rfl (by rw [e1]; rfl) (th_ltN rfl) rfl (fun ls hl => ?_)
        refine lv_goto (tgt := 2) hx hb dX5_refugeOf_60 (th_eqI rfl) ?_
        exact ih2 _ _ _ x1 (th_up (rg_dA e1 fy57_3 rgc_1 (th_leI rfl) (th_leI rfl)) fy57_3 hn2 (th_ltI rfl)) hH hS (lv_sub hl [1, 2, 3, 0] rfl) (rg_w f1 (th_leI rfl) (th_leI rfl)) (hF.trans (by simp only [f_X5_refugeOf_57, ← e1]))
      refine lv_iload_n hx hb dX5_refugeOf_2 rfl (lv_at hl 3 rfl) ?_
      refine lv_aload_n hx hb dX5_refugeOf_3 rfl (lv_at hl 0 rfl) ?_
      obtain ⟨q2, r2, t2⟩ : ∃ q, gr h0 0 = some q ∧ τ q = 1 := (thI_5 hH t_h0).1
      refine th_get (ci := 4) (v := .ref q2) (T := TX5) (C := RX5) (N := 3) hx hb hts (fun w h => List.mem_cons_of_mem _ (List.mem_append_left _ (List.mem_append_left _ (List.mem_append_left _ (List.mem_append_left _ (List.mem_append_left _ (List.mem_append_left _ (List.mem_append_right _ h)))))))) hown hK hH t_h0 (th_nz rfl) (thE_5 _ _ _) rfl 0 (th_ltN rfl) (hts (.fieldLink RX5 22 "BayMoorings$Flight" "bay" "LBayMoorings$Bay;") (List.mem_cons_of_mem _ (List.mem_append_left _ (List.mem_append_left _ (List.mem_append_left _ (List.mem_append_left _ (List.mem_append_left _ (List.mem_append_left _ (List.mem_append_left _ (List.mem_append_left _ (List.mem_of_getElem? (i := 0) rfl))))))))))) (fun _ h9 => h9) (th_fR r2 rfl) dX5_refugeOf_4 ?_
      obtain ⟨x3, e3⟩ : ∃ y : Int32, y = gi q2 5 := ⟨_, rfl⟩
      refine th_get (ci := 0) (v := .int x3) (T := TX0) (C := RX0) (N := 9) hx hb hts (fun w h => List.mem_cons_of_mem _ (List.mem_append_left _ (List.mem_append_left _ (List.mem_append_left _ (List.mem_append_left _ (List.mem_append_left _ (List.mem_append_right _ h))))))) hown hK hH t2 (th_nz rfl) (thE_1 _ _ _) rfl 5 (th_ltN rfl) (hts (.fieldLink RX5 66 "BayMoorings$Bay" "buoyCount" "I") (List.mem_cons_of_mem _ (List.mem_append_left _ (List.mem_append_left _ (List.mem_append_left _ (List.mem_append_left _ (List.mem_append_left _ (List.mem_append_left _ (List.mem_append_left _ (List.mem_append_left _ (List.mem_of_getElem? (i := 1) rfl))))))))))) (fun _ h9 => h9) (th_fI e3 rfl) dX5_refugeOf_7 ?_
      have f3 : rg 0 12 x3 := rg_e e3 ((thI_1 hH t2).2.2.2.2.2.1)
      refine lv_icmp_ge (tgt := 63) hx hb dX5_refugeOf_10 (th_eqI rfl) (fun c4 => ?_) (fun c4 => ?_)
      · skip
        refine lv_iconst (v := (-1)) hx hb dX5_refugeOf_63 ic_m1 ?_
        exact W.iret (v := (-1)) hx hb hr (fun t ht hW => ⟨⟨(-1), (), rfl, (hF.trans (by simp only [↓reduceIte, f_X5_refugeOf_2, r2, Option.getD_some, ← e3, eq_true c4])), th_Ht ht hH⟩, hS.F ht⟩) hS.2.2 dX5_refugeOf_64
      · skip
        have f5 : rg 1 12 x3 := rg_w (rg_nle f3 fy2_3 c4).1 (th_leI rfl) (th_leI rfl)
        have f6 : rg 0 11 y2_3 := rg_w (rg_nle f3 fy2_3 c4).2 (th_leI rfl) (th_leI rfl)
        refine lv_aload_n hx hb dX5_refugeOf_13 rfl (lv_at hl 0 rfl) ?_
        refine th_get (ci := 4) (v := .ref q2) (T := TX5) (C := RX5) (N := 3) hx hb hts (fun w h => List.mem_cons_of_mem _ (List.mem_append_left _ (List.mem_append_left _ (List.mem_append_left _ (List.mem_append_left _ (List.mem_append_left _ (List.mem_append_left _ (List.mem_append_right _ h)))))))) hown hK hH t_h0 (th_nz rfl) (thE_5 _ _ _) rfl 0 (th_ltN rfl) (hts (.fieldLink RX5 22 "BayMoorings$Flight" "bay" "LBayMoorings$Bay;") (List.mem_cons_of_mem _ (List.mem_append_left _ (List.mem_append_left _ (List.mem_append_left _ (List.mem_append_left _ (List.mem_append_left _ (List.mem_append_left _ (List.mem_append_left _ (List.mem_append_left _ (List.mem_of_getElem? (i := 0) rfl))))))))))) (fun _ h9 => h9) (th_fR r2 rfl) dX5_refugeOf_14 ?_
        refine lv_iload_n hx hb dX5_refugeOf_17 rfl (lv_at hl 3 rfl) ?_
        have hA8 := th_Asub (τ := τ) hS
        refine va_callq (va_runV (As := [.int y2_3]) (rest := []) ⟨hx, hb, hml, hown, hts⟩ (k_X0_buoyAt l D cA Z τ gi gr _ q2 t2 y2_3) (cwV 1 hts gX5_refugeOf_X0_buoyAt rfl rfl rfl hd_X0_buoyAt__1 ⟨Nat.le_of_ble_eq_true rfl, Nat.le_of_ble_eq_true rfl⟩) ⟨th_blind, tr_1 hK hH t2, (th_pre hH hK hN hZ hS hA8)⟩ rfl rfl hl.1 rfl (lv_room (Nat.le_of_ble_eq_true rfl)) dX5_refugeOf_18 ⟨Nat.le_of_ble_eq_true rfl, Nat.le_of_ble_eq_true rfl⟩) hS (fun q _ h => hA8 q h) hA8 (fun r9 u t H locs ht hvm hw9 hB hz1 hk1 hS => ?_)
        try dsimp only at hw9 hB
        rw [ht] at hB
        have hH := hB
        refine th_astoreq (i := 4) (lv' := [(4, va_rf r9), (0, .ref h0), (1, .ref h1), (2, .int p2), (3, .int y2_3)]) hx hb dX5_refugeOf_21 hl (th_ltN rfl) rfl (fun ls hl => ?_)
        refine th_aloadq hx hb dX5_refugeOf_23 (lv_at hl 0 rfl) ?_
        refine th_ifnull (tgt := 57) hx hb dX5_refugeOf_25 (th_eqI rfl) (fun z10 => ?_) (fun q10 z10 => ?_)
        · skip
          subst z10
          have hl : lv_has ls 5 [(4, .null), (0, .ref h0), (1, .ref h1), (2, .int p2), (3, .int y2_3)] := hl
          exact J57 _ _ _ hH hS (lv_sub hl [1, 2, 3, 4] rfl) f6 (hF.trans (by simp only [↓reduceIte, f_X5_refugeOf_2, r2, Option.getD_some, ← e3, eq_false c4, hw9.2, Option.elim_none]))
        · skip
          subst z10
          have t10 := hw9.1 q10 rfl
          have hl : lv_has ls 5 [(4, .ref q10), (0, .ref h0), (1, .ref h1), (2, .int p2), (3, .int y2_3)] := hl
          refine lv_aload hx hb dX5_refugeOf_28 (lv_at hl 0 rfl) ?_
          refine lv_aload_n hx hb dX5_refugeOf_30 rfl (lv_at hl 2 rfl) ?_
          refine lv_iload_n hx hb dX5_refugeOf_31 rfl (lv_at hl 3 rfl) ?_
          have hA11 := th_Asub (τ := τ) hS
          refine va_calli (va_runV (As := [.ref h1, .int p2]) (rest := []) ⟨hx, hb, hml, hown, hts⟩ (k_X3_holds l D cA Z τ gi gr _ q10 t10 h1 t_h1 p2) (cwV 2 hts gX5_refugeOf_X3_holds rfl rfl rfl hd_X3_holds__2 ⟨Nat.le_of_ble_eq_true rfl, Nat.le_of_ble_eq_true rfl⟩) ⟨th_blind, tr_3 hK hH t10, (th_pre hH hK hN hZ hS hA11)⟩ rfl rfl hl.1 rfl (lv_room (Nat.le_of_ble_eq_true rfl)) dX5_refugeOf_32 ⟨Nat.le_of_ble_eq_true rfl, Nat.le_of_ble_eq_true rfl⟩) hS (fun q _ h => hA11 q h) hA11 (fun x12 u t H locs ht hvm hw12 hB hz1 hk1 hS => ?_)
          try dsimp only at hw12 hB
          rw [ht] at hB
          have hH := hB
          refine lv_if_eq (tgt := 57) hx hb dX5_refugeOf_35 (th_eqI rfl) (fun c13 => ?_) (fun c13 => ?_)
          · skip
            have f14 : rg 0 0 x12 := rg_w (rg_eq hw12.1 rgc_0 c13).1 (th_leI rfl) (th_leI rfl)
            exact J57 _ _ _ hH hS (lv_sub hl [1, 2, 3, 4] rfl) f6 (hF.trans (by simp only [↓reduceIte, f_X5_refugeOf_2, r2, Option.getD_some, ← e3, eq_false c4, hw9.2, Option.elim_some, hw12.2, eq_true c13]))
          · skip
            have f15 : rg 1 1 x12 := rg_w (rg_neL hw12.1 rgc_0 c13) (th_leI rfl) (th_leI rfl)
            refine lv_aload_n hx hb dX5_refugeOf_38 rfl (lv_at hl 1 rfl) ?_
            refine th_get (ci := 4) (v := .ref q2) (T := TX5) (C := RX5) (N := 3) hx hb hts (fun w h => List.mem_cons_of_mem _ (List.mem_append_left _ (List.mem_append_left _ (List.mem_append_left _ (List.mem_append_left _ (List.mem_append_left _ (List.mem_append_left _ (List.mem_append_right _ h)))))))) hown hK hH t_h0 (th_nz rfl) (thE_5 _ _ _) rfl 0 (th_ltN rfl) (hts (.fieldLink RX5 22 "BayMoorings$Flight" "bay" "LBayMoorings$Bay;") (List.mem_cons_of_mem _ (List.mem_append_left _ (List.mem_append_left _ (List.mem_append_left _ (List.mem_append_left _ (List.mem_append_left _ (List.mem_append_left _ (List.mem_append_left _ (List.mem_append_left _ (List.mem_of_getElem? (i := 0) rfl))))))))))) (fun _ h9 => h9) (th_fR r2 rfl) dX5_refugeOf_39 ?_
            refine lv_aload_n hx hb dX5_refugeOf_42 rfl (lv_at hl 2 rfl) ?_
            refine lv_aload hx hb dX5_refugeOf_43 (lv_at hl 0 rfl) ?_
            refine lv_aload_n hx hb dX5_refugeOf_45 rfl (lv_at hl 1 rfl) ?_
            obtain ⟨q17, r17, t17⟩ : ∃ q, gr h0 1 = some q ∧ τ q = 2 := (thI_5 hH t_h0).2
            refine th_get (ci := 4) (v := .ref q17) (T := TX5) (C := RX5) (N := 3) hx hb hts (fun w h => List.mem_cons_of_mem _ (List.mem_append_left _ (List.mem_append_left _ (List.mem_append_left _ (List.mem_append_left _ (List.mem_append_left _ (List.mem_append_left _ (List.mem_append_right _ h)))))))) hown hK hH t_h0 (th_nz rfl) (thE_5 _ _ _) rfl 1 (th_ltN rfl) (hts (.fieldLink RX5 12 "BayMoorings$Flight" "berths" "LBayMoorings$Berths;") (List.mem_cons_of_mem _ (List.mem_append_left _ (List.mem_append_left _ (List.mem_append_left _ (List.mem_append_left _ (List.mem_append_left _ (List.mem_append_left _ (List.mem_append_left _ (List.mem_append_left _ (List.mem_of_getElem? (i := 2) rfl))))))))))) (fun _ h9 => h9) (th_fR r17 rfl) dX5_refugeOf_46 ?_
            have hA18 := th_Asub (τ := τ) hS
            refine va_calli (va_runV (As := [.ref h1, .ref q10, .ref q17]) (rest := []) ⟨hx, hb, hml, hown, hts⟩ (k_X0_mayLie l D cA Z τ gi gr _ q2 t2 h1 t_h1 q10 t10 q17 t17) (cwV 3 hts gX5_refugeOf_X0_mayLie rfl rfl rfl hd_X0_mayLie__3 ⟨Nat.le_of_ble_eq_true rfl, Nat.le_of_ble_eq_true rfl⟩) ⟨th_blind, tr_1 hK hH t2, (th_pre hH hK hN hZ hS hA18)⟩ rfl rfl hl.1 rfl (lv_room (Nat.le_of_ble_eq_true rfl)) dX5_refugeOf_49 ⟨Nat.le_of_ble_eq_true rfl, Nat.le_of_ble_eq_true rfl⟩) hS (fun q _ h => hA18 q h) hA18 (fun x19 u t H locs ht hvm hw19 hB hz1 hk1 hS => ?_)
            try dsimp only at hw19 hB
            rw [ht] at hB
            have hH := hB
            refine lv_if_eq (tgt := 57) hx hb dX5_refugeOf_52 (th_eqI rfl) (fun c20 => ?_) (fun c20 => ?_)
            · skip
              have f21 : rg 0 0 x19 := rg_w (rg_eq hw19.1 rgc_0 c20).1 (th_leI rfl) (th_leI rfl)
              exact J57 _ _ _ hH hS (lv_sub hl [1, 2, 3, 4] rfl) f6 (hF.trans (by simp only [↓reduceIte, f_X5_refugeOf_2, r2, Option.getD_some, ← e3, eq_false c4, hw9.2, Option.elim_some, hw12.2, eq_false c13, r17, hw19.2, eq_true c20]))
            · skip
              have f22 : rg 1 1 x19 := rg_w (rg_neL hw19.1 rgc_0 c20) (th_leI rfl) (th_leI rfl)
              refine lv_iload_n hx hb dX5_refugeOf_55 rfl (lv_at hl 4 rfl) ?_
              exact W.iret (v := y2_3) hx hb hr (fun t ht hW => ⟨⟨y2_3, (), rfl, (hF.trans (by simp only [↓reduceIte, f_X5_refugeOf_2, r2, Option.getD_some, ← e3, eq_false c4, hw9.2, Option.elim_some, hw12.2, eq_false c13, r17, hw19.2, eq_false c20])), th_Ht ht hH⟩, hS.F ht⟩) hS.2.2 dX5_refugeOf_56
  have hS : va_S (th_A τ s.heap.size) s.heap s.heap [] := va_S.rf
  have hl := lv_entry ([.ref h0, .ref h1, .int p2]) (n := 5) (Nat.le_of_ble_eq_true rfl)
  rw [lg_entry_eq]
  generalize (lg_sl ([.ref h0, .ref h1, .int p2]) ++ List.replicate (5 - (lg_sl ([.ref h0, .ref h1, .int p2])).length) Slot.unset).toArray = ls at hl ⊢
  have hl : lv_has ls 5 [(0, .ref h0), (1, .ref h1), (2, .int p2)] := hl
  have hF : F_X5_refugeOf τ Z gi gr h0 h1 p2 = F_X5_refugeOf τ Z gi gr h0 h1 p2 := rfl
  refine lv_iconst (v := 0) hx hb dX5_refugeOf_0 ic_0 ?_
  refine lv_istore_n (i := 3) (lv' := [(3, .int 0), (0, .ref h0), (1, .ref h1), (2, .int p2)]) hx hb dX5_refugeOf_1 rfl hl (th_ltN rfl) rfl (fun ls hl => ?_)
  exact J2 _ _ _ _ 0 (Nat.lt_add_one _) hH hS (lv_sub hl [1, 2, 3, 0] rfl) (rg_w rgc_0 (th_leI rfl) (th_leI rfl)) (hF.trans (by simp only [F_X5_refugeOf]))
end
section
noncomputable def f_J7_fill_53178_24_5 (τ : th_t) (Z : th_Zt) (gi : th_i) (gr : th_r) (h0 : Nat) (p1 : Int32) : Nat → th_i → Int32 → Int32 → th_i
  | 0, gi_5, y5_2, y5_3 => (gi_5)
  | n5 + 1, gi_5, y5_2, y5_3 =>
    if y5_3 ≤ y5_2 then (
      (gi_5)) else (
      let gi4 : th_i := va_up gi_5 h0 (upd (gi_5 h0) y5_2.toNatClampNeg p1)
      let x5 : Int32 := y5_2 + 1
      (f_J7_fill_53178_24_5 τ Z gi gr h0 p1 n5) gi4 x5 y5_3)
noncomputable def F_J7_fill_53178_24 (τ : th_t) (Z : th_Zt) (gi : th_i) (gr : th_r) (h0 : Nat) (p1 : Int32) : th_i :=
  f_J7_fill_53178_24_5 τ Z gi gr h0 p1 ((16 - (0 : Int32).toInt).toNat + 1) gi 0 16
set_option maxHeartbeats 8000000 in
set_option maxRecDepth 100000 in
theorem k_J7_fill_53178_24 (l : Launch) (D : va_G) (cA : Nat → ClassId) (Z : th_Zt) (τ : th_t) (gi : th_i) (gr : th_r) (sz : Nat) (h0 : Nat) (t_h0 : τ h0 = 24) (p1 : Int32) : Met l yJ7_fill_53178 wsJ7_fill_53178 ({ frames := 0, cells := 0, slots := 0, locals := 0 }) (va_Pc [.ref h0, .int p1] (th_Pre D cA Z τ gi gr sz)) (va_Qv (fun (u : th_i × th_r) => th_Mod [2400] τ gi gr u.1 u.2 ∧ u.2 = gr ∧ (F_J7_fill_53178_24 τ Z gi gr h0 p1 = u.1)) (fun (u : th_i × th_r) t => th_H D cA τ u.1 u.2 t.heap) (th_A τ sz)) 0 0 (th_A τ sz) := by
  refine Met.ofW (cc := cJ7_fill_53178) (maxL := 4) (ret := none) (by decide) rfl ?_
  intro p e s m args below meth c s₁ B hml hv
  obtain ⟨rfl, hsz, hH, hK, hN, hZ⟩ := hv
  have hx := B.exec
  have hb := B.bytes
  have hr := B.returns
  have hts := atoms_spec (ws := wsJ7_fill_53178) B.pre
  have hown : s.vm.findClass RJ7 = some m.cls := findClass_of_methodNamed B.named
  have hlocks := B.notSynchronized
  subst hsz
  have hM : th_Mod [2400] τ gi gr gi gr := th_Mod.rf
  have J5 : ∀ (n5 : Nat) (gi_5 : th_i) (H : Heap) (locs : List Loc) (ls : Array Slot) (y5_2 : Int32) (y5_3 : Int32), (16 - y5_2.toInt).toNat < n5 → th_H D cA τ gi_5 gr H → va_S (th_A τ s.heap.size) s.heap H locs → th_Mod [2400] τ gi gr gi_5 gr → lv_has ls 4 [(0, .ref h0), (1, .int p1), (2, .int y5_2), (3, .int y5_3)] → rg 0 16 y5_2 → rg 16 16 y5_3 → F_J7_fill_53178_24 τ Z gi gr h0 p1 = f_J7_fill_53178_24_5 τ Z gi gr h0 p1 n5 gi_5 y5_2 y5_3 → W p l e (headSpec wsJ7_fill_53178 ({ frames := 0, cells := 0, slots := 0, locals := 0 })).room s m [.ref h0, .int p1].toArray below meth c H locs 0 0 (MQ below (va_Qv (fun (u : th_i × th_r) => th_Mod [2400] τ gi gr u.1 u.2 ∧ u.2 = gr ∧ (F_J7_fill_53178_24 τ Z gi gr h0 p1 = u.1)) (fun (u : th_i × th_r) t => th_H D cA τ u.1 u.2 t.heap) (th_A τ s.heap.size)) [.ref h0, .int p1].toArray s 0 0 (th_A τ s.heap.size)) (F0 m 5 ls []) := by
    intro n5
    induction n5 with
    | zero =>
      intro gi_5 H locs ls y5_2 y5_3 hn
      exact absurd hn (Nat.not_lt_zero _)
    | succ n5 ih5 =>
      intro gi_5 H locs ls y5_2 y5_3 hn5 hH hS hM hl fy5_2 fy5_3 hF
      refine lv_iload_n hx hb dJ7_fill_53178_5 rfl (lv_at hl 2 rfl) ?_
      refine lv_iload_n hx hb dJ7_fill_53178_6 rfl (lv_at hl 3 rfl) ?_
      refine lv_icmp_ge (tgt := 20) hx hb dJ7_fill_53178_7 (th_eqI rfl) (fun c1 => ?_) (fun c1 => ?_)
      · skip
        have f2 : rg 16 16 y5_2 := rg_w (rg_le fy5_3 fy5_2 c1).2 (th_leI rfl) (th_leI rfl)
        exact W.vret hx hb hr (fun t ht hW => ⟨⟨(gi_5, gr), rfl, ⟨hM, rfl, (hF.trans (by simp only [↓reduceIte, f_J7_fill_53178_24_5, eq_true c1]))⟩, th_Ht ht hH⟩, hS.F ht⟩) hS.2.2 dJ7_fill_53178_20
      · skip
        have f3 : rg 0 15 y5_2 := rg_w (rg_nle fy5_3 fy5_2 c1).2 (th_leI rfl) (th_leI rfl)
        refine lv_aload_n hx hb dJ7_fill_53178_10 rfl (lv_at hl 0 rfl) ?_
        refine lv_iload_n hx hb dJ7_fill_53178_11 rfl (lv_at hl 2 rfl) ?_
        refine lv_iload_n hx hb dJ7_fill_53178_12 rfl (lv_at hl 1 rfl) ?_
        refine th_iast hx hb hK hH hS t_h0 (th_nz rfl) (Or.inl (th_nzE t_h0 rfl)) 0 (fun _ => thE_24 _ _ _) rfl (rg_in (n := 16) f3 (th_leI rfl) (th_ltI rfl)) (trivial) dJ7_fill_53178_13 (fun gi4 H locs hu4 ho4 hH hS => ?_)
        have eg4 : gi4 = va_up gi_5 h0 (upd (gi_5 h0) y5_2.toNatClampNeg p1) := th_upE hu4 ho4
        have hM := hM.i t_h0 (th_mem (a := 2400) rfl) ho4
        obtain ⟨x5, e5⟩ : ∃ y : Int32, y = y5_2 + 1 := ⟨_, rfl⟩
        have f5 : rg 1 16 x5 := rg_e e5 (rg_w (rg_add f3 rgc_1 (th_leI rfl) (th_leI rfl)) (th_leI rfl) (th_leI rfl))
        refine lv_iinc (v := x5) (lv' := [(2, .int x5), (0, .ref h0), (1, .int p1), (3, .int y5_3)]) hx hb dJ7_fill_53178_14 hl (k := 2) rfl (by rw [e5]; rfl) (th_ltN rfl) rfl (fun ls hl => ?_)
        refine lv_goto (tgt := 5) hx hb dJ7_fill_53178_17 (th_eqI rfl) ?_
        exact ih5 gi4 _ _ _ x5 y5_3 (th_up (rg_dA e5 f3 rgc_1 (th_leI rfl) (th_leI rfl)) f3 hn5 (th_ltI rfl)) hH hS hM (lv_sub hl [1, 2, 0, 3] rfl) (rg_w f5 (th_leI rfl) (th_leI rfl)) fy5_3 (hF.trans (by simp only [↓reduceIte, f_J7_fill_53178_24_5, eq_false c1, ← eg4, ← e5]))
  have hS : va_S (th_A τ s.heap.size) s.heap s.heap [] := va_S.rf
  have hl := lv_entry ([.ref h0, .int p1]) (n := 4) (Nat.le_of_ble_eq_true rfl)
  rw [lg_entry_eq]
  generalize (lg_sl ([.ref h0, .int p1]) ++ List.replicate (4 - (lg_sl ([.ref h0, .int p1])).length) Slot.unset).toArray = ls at hl ⊢
  have hl : lv_has ls 4 [(0, .ref h0), (1, .int p1)] := hl
  have hF : F_J7_fill_53178_24 τ Z gi gr h0 p1 = F_J7_fill_53178_24 τ Z gi gr h0 p1 := rfl
  refine lv_iconst (v := 0) hx hb dJ7_fill_53178_0 ic_0 ?_
  refine lv_istore_n (i := 2) (lv' := [(2, .int 0), (0, .ref h0), (1, .int p1)]) hx hb dJ7_fill_53178_1 rfl hl (th_ltN rfl) rfl (fun ls hl => ?_)
  refine lv_aload_n hx hb dJ7_fill_53178_2 rfl (lv_at hl 1 rfl) ?_
  refine va_alen (v := 16) hx hb hK (hH.P t_h0 (th_nz rfl) rfl) 0 0 rfl rfl rfl dJ7_fill_53178_3 ?_
  refine lv_istore_n (i := 3) (lv' := [(3, .int 16), (2, .int 0), (0, .ref h0), (1, .int p1)]) hx hb dJ7_fill_53178_4 rfl hl (th_ltN rfl) rfl (fun ls hl => ?_)
  exact J5 _ gi _ _ _ 0 16 (Nat.lt_add_one _) hH hS hM (lv_sub hl [2, 3, 1, 0] rfl) (rg_w rgc_0 (th_leI rfl) (th_leI rfl)) rgc_16 (hF.trans (by simp only [F_J7_fill_53178_24]))

noncomputable def f_J7_fill_53178_25_5 (τ : th_t) (Z : th_Zt) (gi : th_i) (gr : th_r) (h0 : Nat) (p1 : Int32) : Nat → th_i → Int32 → Int32 → th_i
  | 0, gi_5, y5_2, y5_3 => (gi_5)
  | n5 + 1, gi_5, y5_2, y5_3 =>
    if y5_3 ≤ y5_2 then (
      (gi_5)) else (
      let gi4 : th_i := va_up gi_5 h0 (upd (gi_5 h0) y5_2.toNatClampNeg p1)
      let x5 : Int32 := y5_2 + 1
      (f_J7_fill_53178_25_5 τ Z gi gr h0 p1 n5) gi4 x5 y5_3)
noncomputable def F_J7_fill_53178_25 (τ : th_t) (Z : th_Zt) (gi : th_i) (gr : th_r) (h0 : Nat) (p1 : Int32) : th_i :=
  f_J7_fill_53178_25_5 τ Z gi gr h0 p1 ((12 - (0 : Int32).toInt).toNat + 1) gi 0 12
set_option maxHeartbeats 8000000 in
set_option maxRecDepth 100000 in
theorem k_J7_fill_53178_25 (l : Launch) (D : va_G) (cA : Nat → ClassId) (Z : th_Zt) (τ : th_t) (gi : th_i) (gr : th_r) (sz : Nat) (h0 : Nat) (t_h0 : τ h0 = 25) (p1 : Int32) : Met l yJ7_fill_53178 wsJ7_fill_53178 ({ frames := 0, cells := 0, slots := 0, locals := 0 }) (va_Pc [.ref h0, .int p1] (th_Pre D cA Z τ gi gr sz)) (va_Qv (fun (u : th_i × th_r) => th_Mod [2500] τ gi gr u.1 u.2 ∧ u.2 = gr ∧ (F_J7_fill_53178_25 τ Z gi gr h0 p1 = u.1)) (fun (u : th_i × th_r) t => th_H D cA τ u.1 u.2 t.heap) (th_A τ sz)) 0 0 (th_A τ sz) := by
  refine Met.ofW (cc := cJ7_fill_53178) (maxL := 4) (ret := none) (by decide) rfl ?_
  intro p e s m args below meth c s₁ B hml hv
  obtain ⟨rfl, hsz, hH, hK, hN, hZ⟩ := hv
  have hx := B.exec
  have hb := B.bytes
  have hr := B.returns
  have hts := atoms_spec (ws := wsJ7_fill_53178) B.pre
  have hown : s.vm.findClass RJ7 = some m.cls := findClass_of_methodNamed B.named
  have hlocks := B.notSynchronized
  subst hsz
  have hM : th_Mod [2500] τ gi gr gi gr := th_Mod.rf
  have J5 : ∀ (n5 : Nat) (gi_5 : th_i) (H : Heap) (locs : List Loc) (ls : Array Slot) (y5_2 : Int32) (y5_3 : Int32), (12 - y5_2.toInt).toNat < n5 → th_H D cA τ gi_5 gr H → va_S (th_A τ s.heap.size) s.heap H locs → th_Mod [2500] τ gi gr gi_5 gr → lv_has ls 4 [(0, .ref h0), (1, .int p1), (2, .int y5_2), (3, .int y5_3)] → rg 0 12 y5_2 → rg 12 12 y5_3 → F_J7_fill_53178_25 τ Z gi gr h0 p1 = f_J7_fill_53178_25_5 τ Z gi gr h0 p1 n5 gi_5 y5_2 y5_3 → W p l e (headSpec wsJ7_fill_53178 ({ frames := 0, cells := 0, slots := 0, locals := 0 })).room s m [.ref h0, .int p1].toArray below meth c H locs 0 0 (MQ below (va_Qv (fun (u : th_i × th_r) => th_Mod [2500] τ gi gr u.1 u.2 ∧ u.2 = gr ∧ (F_J7_fill_53178_25 τ Z gi gr h0 p1 = u.1)) (fun (u : th_i × th_r) t => th_H D cA τ u.1 u.2 t.heap) (th_A τ s.heap.size)) [.ref h0, .int p1].toArray s 0 0 (th_A τ s.heap.size)) (F0 m 5 ls []) := by
    intro n5
    induction n5 with
    | zero =>
      intro gi_5 H locs ls y5_2 y5_3 hn
      exact absurd hn (Nat.not_lt_zero _)
    | succ n5 ih5 =>
      intro gi_5 H locs ls y5_2 y5_3 hn5 hH hS hM hl fy5_2 fy5_3 hF
      refine lv_iload_n hx hb dJ7_fill_53178_5 rfl (lv_at hl 2 rfl) ?_
      refine lv_iload_n hx hb dJ7_fill_53178_6 rfl (lv_at hl 3 rfl) ?_
      refine lv_icmp_ge (tgt := 20) hx hb dJ7_fill_53178_7 (th_eqI rfl) (fun c1 => ?_) (fun c1 => ?_)
      · skip
        have f2 : rg 12 12 y5_2 := rg_w (rg_le fy5_3 fy5_2 c1).2 (th_leI rfl) (th_leI rfl)
        exact W.vret hx hb hr (fun t ht hW => ⟨⟨(gi_5, gr), rfl, ⟨hM, rfl, (hF.trans (by simp only [↓reduceIte, f_J7_fill_53178_25_5, eq_true c1]))⟩, th_Ht ht hH⟩, hS.F ht⟩) hS.2.2 dJ7_fill_53178_20
      · skip
        have f3 : rg 0 11 y5_2 := rg_w (rg_nle fy5_3 fy5_2 c1).2 (th_leI rfl) (th_leI rfl)
        refine lv_aload_n hx hb dJ7_fill_53178_10 rfl (lv_at hl 0 rfl) ?_
        refine lv_iload_n hx hb dJ7_fill_53178_11 rfl (lv_at hl 2 rfl) ?_
        refine lv_iload_n hx hb dJ7_fill_53178_12 rfl (lv_at hl 1 rfl) ?_
        refine th_iast hx hb hK hH hS t_h0 (th_nz rfl) (Or.inl (th_nzE t_h0 rfl)) 0 (fun _ => thE_25 _ _ _) rfl (rg_in (n := 12) f3 (th_leI rfl) (th_ltI rfl)) (trivial) dJ7_fill_53178_13 (fun gi4 H locs hu4 ho4 hH hS => ?_)
        have eg4 : gi4 = va_up gi_5 h0 (upd (gi_5 h0) y5_2.toNatClampNeg p1) := th_upE hu4 ho4
        have hM := hM.i t_h0 (th_mem (a := 2500) rfl) ho4
        obtain ⟨x5, e5⟩ : ∃ y : Int32, y = y5_2 + 1 := ⟨_, rfl⟩
        have f5 : rg 1 12 x5 := rg_e e5 (rg_w (rg_add f3 rgc_1 (th_leI rfl) (th_leI rfl)) (th_leI rfl) (th_leI rfl))
        refine lv_iinc (v := x5) (lv' := [(2, .int x5), (0, .ref h0), (1, .int p1), (3, .int y5_3)]) hx hb dJ7_fill_53178_14 hl (k := 2) rfl (by rw [e5]; rfl) (th_ltN rfl) rfl (fun ls hl => ?_)
        refine lv_goto (tgt := 5) hx hb dJ7_fill_53178_17 (th_eqI rfl) ?_
        exact ih5 gi4 _ _ _ x5 y5_3 (th_up (rg_dA e5 f3 rgc_1 (th_leI rfl) (th_leI rfl)) f3 hn5 (th_ltI rfl)) hH hS hM (lv_sub hl [1, 2, 0, 3] rfl) (rg_w f5 (th_leI rfl) (th_leI rfl)) fy5_3 (hF.trans (by simp only [↓reduceIte, f_J7_fill_53178_25_5, eq_false c1, ← eg4, ← e5]))
  have hS : va_S (th_A τ s.heap.size) s.heap s.heap [] := va_S.rf
  have hl := lv_entry ([.ref h0, .int p1]) (n := 4) (Nat.le_of_ble_eq_true rfl)
  rw [lg_entry_eq]
  generalize (lg_sl ([.ref h0, .int p1]) ++ List.replicate (4 - (lg_sl ([.ref h0, .int p1])).length) Slot.unset).toArray = ls at hl ⊢
  have hl : lv_has ls 4 [(0, .ref h0), (1, .int p1)] := hl
  have hF : F_J7_fill_53178_25 τ Z gi gr h0 p1 = F_J7_fill_53178_25 τ Z gi gr h0 p1 := rfl
  refine lv_iconst (v := 0) hx hb dJ7_fill_53178_0 ic_0 ?_
  refine lv_istore_n (i := 2) (lv' := [(2, .int 0), (0, .ref h0), (1, .int p1)]) hx hb dJ7_fill_53178_1 rfl hl (th_ltN rfl) rfl (fun ls hl => ?_)
  refine lv_aload_n hx hb dJ7_fill_53178_2 rfl (lv_at hl 1 rfl) ?_
  refine va_alen (v := 12) hx hb hK (hH.P t_h0 (th_nz rfl) rfl) 0 0 rfl rfl rfl dJ7_fill_53178_3 ?_
  refine lv_istore_n (i := 3) (lv' := [(3, .int 12), (2, .int 0), (0, .ref h0), (1, .int p1)]) hx hb dJ7_fill_53178_4 rfl hl (th_ltN rfl) rfl (fun ls hl => ?_)
  exact J5 _ gi _ _ _ 0 12 (Nat.lt_add_one _) hH hS hM (lv_sub hl [2, 3, 1, 0] rfl) (rg_w rgc_0 (th_leI rfl) (th_leI rfl)) rgc_12 (hF.trans (by simp only [F_J7_fill_53178_25]))

noncomputable def f_J7_fill_53178_32_5 (τ : th_t) (Z : th_Zt) (gi : th_i) (gr : th_r) (h0 : Nat) (p1 : Int32) : Nat → th_i → Int32 → Int32 → th_i
  | 0, gi_5, y5_2, y5_3 => (gi_5)
  | n5 + 1, gi_5, y5_2, y5_3 =>
    if y5_3 ≤ y5_2 then (
      (gi_5)) else (
      let gi4 : th_i := va_up gi_5 h0 (upd (gi_5 h0) y5_2.toNatClampNeg p1)
      let x5 : Int32 := y5_2 + 1
      (f_J7_fill_53178_32_5 τ Z gi gr h0 p1 n5) gi4 x5 y5_3)
noncomputable def F_J7_fill_53178_32 (τ : th_t) (Z : th_Zt) (gi : th_i) (gr : th_r) (h0 : Nat) (p1 : Int32) : th_i :=
  f_J7_fill_53178_32_5 τ Z gi gr h0 p1 ((300 - (0 : Int32).toInt).toNat + 1) gi 0 300
set_option maxHeartbeats 8000000 in
set_option maxRecDepth 100000 in
theorem k_J7_fill_53178_32 (l : Launch) (D : va_G) (cA : Nat → ClassId) (Z : th_Zt) (τ : th_t) (gi : th_i) (gr : th_r) (sz : Nat) (h0 : Nat) (t_h0 : τ h0 = 32) (p1 : Int32) : Met l yJ7_fill_53178 wsJ7_fill_53178 ({ frames := 0, cells := 0, slots := 0, locals := 0 }) (va_Pc [.ref h0, .int p1] (th_Pre D cA Z τ gi gr sz)) (va_Qv (fun (u : th_i × th_r) => th_Mod [3200] τ gi gr u.1 u.2 ∧ u.2 = gr ∧ (F_J7_fill_53178_32 τ Z gi gr h0 p1 = u.1)) (fun (u : th_i × th_r) t => th_H D cA τ u.1 u.2 t.heap) (th_A τ sz)) 0 0 (th_A τ sz) := by
  refine Met.ofW (cc := cJ7_fill_53178) (maxL := 4) (ret := none) (by decide) rfl ?_
  intro p e s m args below meth c s₁ B hml hv
  obtain ⟨rfl, hsz, hH, hK, hN, hZ⟩ := hv
  have hx := B.exec
  have hb := B.bytes
  have hr := B.returns
  have hts := atoms_spec (ws := wsJ7_fill_53178) B.pre
  have hown : s.vm.findClass RJ7 = some m.cls := findClass_of_methodNamed B.named
  have hlocks := B.notSynchronized
  subst hsz
  have hM : th_Mod [3200] τ gi gr gi gr := th_Mod.rf
  have J5 : ∀ (n5 : Nat) (gi_5 : th_i) (H : Heap) (locs : List Loc) (ls : Array Slot) (y5_2 : Int32) (y5_3 : Int32), (300 - y5_2.toInt).toNat < n5 → th_H D cA τ gi_5 gr H → va_S (th_A τ s.heap.size) s.heap H locs → th_Mod [3200] τ gi gr gi_5 gr → lv_has ls 4 [(0, .ref h0), (1, .int p1), (2, .int y5_2), (3, .int y5_3)] → rg 0 300 y5_2 → rg 300 300 y5_3 → F_J7_fill_53178_32 τ Z gi gr h0 p1 = f_J7_fill_53178_32_5 τ Z gi gr h0 p1 n5 gi_5 y5_2 y5_3 → W p l e (headSpec wsJ7_fill_53178 ({ frames := 0, cells := 0, slots := 0, locals := 0 })).room s m [.ref h0, .int p1].toArray below meth c H locs 0 0 (MQ below (va_Qv (fun (u : th_i × th_r) => th_Mod [3200] τ gi gr u.1 u.2 ∧ u.2 = gr ∧ (F_J7_fill_53178_32 τ Z gi gr h0 p1 = u.1)) (fun (u : th_i × th_r) t => th_H D cA τ u.1 u.2 t.heap) (th_A τ s.heap.size)) [.ref h0, .int p1].toArray s 0 0 (th_A τ s.heap.size)) (F0 m 5 ls []) := by
    intro n5
    induction n5 with
    | zero =>
      intro gi_5 H locs ls y5_2 y5_3 hn
      exact absurd hn (Nat.not_lt_zero _)
    | succ n5 ih5 =>
      intro gi_5 H locs ls y5_2 y5_3 hn5 hH hS hM hl fy5_2 fy5_3 hF
      refine lv_iload_n hx hb dJ7_fill_53178_5 rfl (lv_at hl 2 rfl) ?_
      refine lv_iload_n hx hb dJ7_fill_53178_6 rfl (lv_at hl 3 rfl) ?_
      refine lv_icmp_ge (tgt := 20) hx hb dJ7_fill_53178_7 (th_eqI rfl) (fun c1 => ?_) (fun c1 => ?_)
      · skip
        have f2 : rg 300 300 y5_2 := rg_w (rg_le fy5_3 fy5_2 c1).2 (th_leI rfl) (th_leI rfl)
        exact W.vret hx hb hr (fun t ht hW => ⟨⟨(gi_5, gr), rfl, ⟨hM, rfl, (hF.trans (by simp only [↓reduceIte, f_J7_fill_53178_32_5, eq_true c1]))⟩, th_Ht ht hH⟩, hS.F ht⟩) hS.2.2 dJ7_fill_53178_20
      · skip
        have f3 : rg 0 299 y5_2 := rg_w (rg_nle fy5_3 fy5_2 c1).2 (th_leI rfl) (th_leI rfl)
        refine lv_aload_n hx hb dJ7_fill_53178_10 rfl (lv_at hl 0 rfl) ?_
        refine lv_iload_n hx hb dJ7_fill_53178_11 rfl (lv_at hl 2 rfl) ?_
        refine lv_iload_n hx hb dJ7_fill_53178_12 rfl (lv_at hl 1 rfl) ?_
        refine th_iast hx hb hK hH hS t_h0 (th_nz rfl) (Or.inl (th_nzE t_h0 rfl)) 0 (fun _ => thE_32 _ _ _) rfl (rg_in (n := 300) f3 (th_leI rfl) (th_ltI rfl)) (trivial) dJ7_fill_53178_13 (fun gi4 H locs hu4 ho4 hH hS => ?_)
        have eg4 : gi4 = va_up gi_5 h0 (upd (gi_5 h0) y5_2.toNatClampNeg p1) := th_upE hu4 ho4
        have hM := hM.i t_h0 (th_mem (a := 3200) rfl) ho4
        obtain ⟨x5, e5⟩ : ∃ y : Int32, y = y5_2 + 1 := ⟨_, rfl⟩
        have f5 : rg 1 300 x5 := rg_e e5 (rg_w (rg_add f3 rgc_1 (th_leI rfl) (th_leI rfl)) (th_leI rfl) (th_leI rfl))
        refine lv_iinc (v := x5) (lv' := [(2, .int x5), (0, .ref h0), (1, .int p1), (3, .int y5_3)]) hx hb dJ7_fill_53178_14 hl (k := 2) rfl (by rw [e5]; rfl) (th_ltN rfl) rfl (fun ls hl => ?_)
        refine lv_goto (tgt := 5) hx hb dJ7_fill_53178_17 (th_eqI rfl) ?_
        exact ih5 gi4 _ _ _ x5 y5_3 (th_up (rg_dA e5 f3 rgc_1 (th_leI rfl) (th_leI rfl)) f3 hn5 (th_ltI rfl)) hH hS hM (lv_sub hl [1, 2, 0, 3] rfl) (rg_w f5 (th_leI rfl) (th_leI rfl)) fy5_3 (hF.trans (by simp only [↓reduceIte, f_J7_fill_53178_32_5, eq_false c1, ← eg4, ← e5]))
  have hS : va_S (th_A τ s.heap.size) s.heap s.heap [] := va_S.rf
  have hl := lv_entry ([.ref h0, .int p1]) (n := 4) (Nat.le_of_ble_eq_true rfl)
  rw [lg_entry_eq]
  generalize (lg_sl ([.ref h0, .int p1]) ++ List.replicate (4 - (lg_sl ([.ref h0, .int p1])).length) Slot.unset).toArray = ls at hl ⊢
  have hl : lv_has ls 4 [(0, .ref h0), (1, .int p1)] := hl
  have hF : F_J7_fill_53178_32 τ Z gi gr h0 p1 = F_J7_fill_53178_32 τ Z gi gr h0 p1 := rfl
  refine lv_iconst (v := 0) hx hb dJ7_fill_53178_0 ic_0 ?_
  refine lv_istore_n (i := 2) (lv' := [(2, .int 0), (0, .ref h0), (1, .int p1)]) hx hb dJ7_fill_53178_1 rfl hl (th_ltN rfl) rfl (fun ls hl => ?_)
  refine lv_aload_n hx hb dJ7_fill_53178_2 rfl (lv_at hl 1 rfl) ?_
  refine va_alen (v := 300) hx hb hK (hH.P t_h0 (th_nz rfl) rfl) 0 0 rfl rfl rfl dJ7_fill_53178_3 ?_
  refine lv_istore_n (i := 3) (lv' := [(3, .int 300), (2, .int 0), (0, .ref h0), (1, .int p1)]) hx hb dJ7_fill_53178_4 rfl hl (th_ltN rfl) rfl (fun ls hl => ?_)
  exact J5 _ gi _ _ _ 0 300 (Nat.lt_add_one _) hH hS hM (lv_sub hl [2, 3, 1, 0] rfl) (rg_w rgc_0 (th_leI rfl) (th_leI rfl)) rgc_300 (hF.trans (by simp only [F_J7_fill_53178_32]))

noncomputable def F_J6_bitCount_0f7a4 (τ : th_t) (Z : th_Zt) (gi : th_i) (gr : th_r) (p0 : Int32) : Int32 :=
  let x1 : Int32 := (p0.toUInt32 >>> (Int32.toUInt32 1 &&& Int32.toUInt32 31)).toInt32
  let x2 : Int32 := x1 &&& 1431655765
  let x3 : Int32 := p0 - x2
  let x4 : Int32 := x3 &&& 858993459
  let x5 : Int32 := (x3.toUInt32 >>> (Int32.toUInt32 2 &&& Int32.toUInt32 31)).toInt32
  let x6 : Int32 := x5 &&& 858993459
  let x7 : Int32 := x4 + x6
  let x8 : Int32 := (x7.toUInt32 >>> (Int32.toUInt32 4 &&& Int32.toUInt32 31)).toInt32
  let x9 : Int32 := x7 + x8
  let x10 : Int32 := x9 &&& 252645135
  let x11 : Int32 := (x10.toUInt32 >>> (Int32.toUInt32 8 &&& Int32.toUInt32 31)).toInt32
  let x12 : Int32 := x10 + x11
  let x13 : Int32 := (x12.toUInt32 >>> (Int32.toUInt32 16 &&& Int32.toUInt32 31)).toInt32
  let x14 : Int32 := x12 + x13
  let x15 : Int32 := x14 &&& 63
  x15
set_option maxHeartbeats 8000000 in
set_option maxRecDepth 100000 in
theorem k_J6_bitCount_0f7a4 (l : Launch) (D : va_G) (cA : Nat → ClassId) (Z : th_Zt) (τ : th_t) (gi : th_i) (gr : th_r) (sz : Nat) (p0 : Int32) : Met l yJ6_bitCount_0f7a4 wsJ6_bitCount_0f7a4 ({ frames := 0, cells := 0, slots := 0, locals := 0 }) (va_Pc [.int p0] (th_Pre D cA Z τ gi gr sz)) (va_Qi (fun (r : Int32) (_ : Unit) => (F_J6_bitCount_0f7a4 τ Z gi gr p0 = r)) (fun (_ : Unit) t => th_H D cA τ gi gr t.heap) (th_A τ sz)) 0 0 (th_A τ sz) := by
  refine Met.ofW (cc := cJ6_bitCount_0f7a4) (maxL := 1) (ret := (some .int)) (by decide) rfl ?_
  intro p e s m args below meth c s₁ B hml hv
  obtain ⟨rfl, hsz, hH, hK, hN, hZ⟩ := hv
  have hx := B.exec
  have hb := B.bytes
  have hr := B.returns
  have hts := atoms_spec (ws := wsJ6_bitCount_0f7a4) B.pre
  have hown : s.vm.findClass RJ6 = some m.cls := findClass_of_methodNamed B.named
  have hlocks := B.notSynchronized
  subst hsz
  have hS : va_S (th_A τ s.heap.size) s.heap s.heap [] := va_S.rf
  have hl := lv_entry ([.int p0]) (n := 1) (Nat.le_of_ble_eq_true rfl)
  rw [lg_entry_eq]
  generalize (lg_sl ([.int p0]) ++ List.replicate (1 - (lg_sl ([.int p0])).length) Slot.unset).toArray = ls at hl ⊢
  have hl : lv_has ls 1 [(0, .int p0)] := hl
  have hF : F_J6_bitCount_0f7a4 τ Z gi gr p0 = F_J6_bitCount_0f7a4 τ Z gi gr p0 := rfl
  refine lv_iload_n hx hb dJ6_bitCount_0f7a4_0 rfl (lv_at hl 0 rfl) ?_
  refine lv_iload_n hx hb dJ6_bitCount_0f7a4_1 rfl (lv_at hl 0 rfl) ?_
  refine lv_iconst (v := 1) hx hb dJ6_bitCount_0f7a4_2 ic_1 ?_
  refine lv_iushr hx hb dJ6_bitCount_0f7a4_3 rfl ?_
  refine lv_topi (fun x1 e1 => ?_)
  refine lv_ldcw (v := 1431655765) hx hb hown (hts (.constant RJ6 265 (1431655765)) (List.mem_cons_of_mem _ (List.mem_of_getElem? (i := 0) rfl))) dJ6_bitCount_0f7a4_4 ?_
  refine lv_iand hx hb dJ6_bitCount_0f7a4_7 ?_
  refine lv_topi (fun x2 e2 => ?_)
  refine lv_isub hx hb dJ6_bitCount_0f7a4_8 ?_
  refine lv_topi (fun x3 e3 => ?_)
  refine lv_istore_n (i := 0) (lv' := [(0, .int x3)]) hx hb dJ6_bitCount_0f7a4_9 rfl hl (th_ltN rfl) rfl (fun ls hl => ?_)
  refine lv_iload_n hx hb dJ6_bitCount_0f7a4_10 rfl (lv_at hl 0 rfl) ?_
  refine lv_ldcw (v := 858993459) hx hb hown (hts (.constant RJ6 266 (858993459)) (List.mem_cons_of_mem _ (List.mem_of_getElem? (i := 1) rfl))) dJ6_bitCount_0f7a4_11 ?_
  refine lv_iand hx hb dJ6_bitCount_0f7a4_14 ?_
  refine lv_topi (fun x4 e4 => ?_)
  refine lv_iload_n hx hb dJ6_bitCount_0f7a4_15 rfl (lv_at hl 0 rfl) ?_
  refine lv_iconst (v := 2) hx hb dJ6_bitCount_0f7a4_16 ic_2 ?_
  refine lv_iushr hx hb dJ6_bitCount_0f7a4_17 rfl ?_
  refine lv_topi (fun x5 e5 => ?_)
  refine lv_ldcw (v := 858993459) hx hb hown (hts (.constant RJ6 266 (858993459)) (List.mem_cons_of_mem _ (List.mem_of_getElem? (i := 1) rfl))) dJ6_bitCount_0f7a4_18 ?_
  refine lv_iand hx hb dJ6_bitCount_0f7a4_21 ?_
  refine lv_topi (fun x6 e6 => ?_)
  refine lv_iadd hx hb dJ6_bitCount_0f7a4_22 ?_
  refine lv_topi (fun x7 e7 => ?_)
  refine lv_istore_n (i := 0) (lv' := [(0, .int x7)]) hx hb dJ6_bitCount_0f7a4_23 rfl hl (th_ltN rfl) rfl (fun ls hl => ?_)
  refine lv_iload_n hx hb dJ6_bitCount_0f7a4_24 rfl (lv_at hl 0 rfl) ?_
  refine lv_iload_n hx hb dJ6_bitCount_0f7a4_25 rfl (lv_at hl 0 rfl) ?_
  refine lv_iconst (v := 4) hx hb dJ6_bitCount_0f7a4_26 ic_4 ?_
  refine lv_iushr hx hb dJ6_bitCount_0f7a4_27 rfl ?_
  refine lv_topi (fun x8 e8 => ?_)
  refine lv_iadd hx hb dJ6_bitCount_0f7a4_28 ?_
  refine lv_topi (fun x9 e9 => ?_)
  refine lv_ldcw (v := 252645135) hx hb hown (hts (.constant RJ6 267 (252645135)) (List.mem_cons_of_mem _ (List.mem_of_getElem? (i := 2) rfl))) dJ6_bitCount_0f7a4_29 ?_
  refine lv_iand hx hb dJ6_bitCount_0f7a4_32 ?_
  refine lv_topi (fun x10 e10 => ?_)
  refine lv_istore_n (i := 0) (lv' := [(0, .int x10)]) hx hb dJ6_bitCount_0f7a4_33 rfl hl (th_ltN rfl) rfl (fun ls hl => ?_)
  refine lv_iload_n hx hb dJ6_bitCount_0f7a4_34 rfl (lv_at hl 0 rfl) ?_
  refine lv_iload_n hx hb dJ6_bitCount_0f7a4_35 rfl (lv_at hl 0 rfl) ?_
  refine lv_bipush (v := 8) hx hb dJ6_bitCount_0f7a4_36 bp_8 ?_
  refine lv_iushr hx hb dJ6_bitCount_0f7a4_38 rfl ?_
  refine lv_topi (fun x11 e11 => ?_)
  refine lv_iadd hx hb dJ6_bitCount_0f7a4_39 ?_
  refine lv_topi (fun x12 e12 => ?_)
  refine lv_istore_n (i := 0) (lv' := [(0, .int x12)]) hx hb dJ6_bitCount_0f7a4_40 rfl hl (th_ltN rfl) rfl (fun ls hl => ?_)
  refine lv_iload_n hx hb dJ6_bitCount_0f7a4_41 rfl (lv_at hl 0 rfl) ?_
  refine lv_iload_n hx hb dJ6_bitCount_0f7a4_42 rfl (lv_at hl 0 rfl) ?_
  refine lv_bipush (v := 16) hx hb dJ6_bitCount_0f7a4_43 bp_16 ?_
  refine lv_iushr hx hb dJ6_bitCount_0f7a4_45 rfl ?_
  refine lv_topi (fun x13 e13 => ?_)
  refine lv_iadd hx hb dJ6_bitCount_0f7a4_46 ?_
  refine lv_topi (fun x14 e14 => ?_)
  refine lv_istore_n (i := 0) (lv' := [(0, .int x14)]) hx hb dJ6_bitCount_0f7a4_47 rfl hl (th_ltN rfl) rfl (fun ls hl => ?_)
  refine lv_iload_n hx hb dJ6_bitCount_0f7a4_48 rfl (lv_at hl 0 rfl) ?_
  refine lv_bipush (v := 63) hx hb dJ6_bitCount_0f7a4_49 bp_63 ?_
  refine lv_iand hx hb dJ6_bitCount_0f7a4_51 ?_
  refine lv_topi (fun x15 e15 => ?_)
  have f15 : rg 0 63 x15 := rg_e e15 (rg_and 6 (by decide) (th_leN rfl) (th_eqI rfl))
  exact W.iret (v := x15) hx hb hr (fun t ht hW => ⟨⟨x15, (), rfl, (hF.trans (by simp only [F_J6_bitCount_0f7a4, ← e1, ← e2, ← e3, ← e4, ← e5, ← e6, ← e7, ← e8, ← e9, ← e10, ← e11, ← e12, ← e13, ← e14, ← e15])), th_Ht ht hH⟩, hS.F ht⟩) hS.2.2 dJ6_bitCount_0f7a4_52

noncomputable def F_X1_copyFrom (τ : th_t) (Z : th_Zt) (gi : th_i) (gr : th_r) (h0 : Nat) (h1 : Nat) : th_i :=
  let q1 : Nat := (gr h1 0).getD 0
  let q2 : Nat := (gr h0 0).getD 0
  let gi3 : th_i := va_up gi q2 (va_cpy (gi q1) (gi q2) (0 : Int32).toNatClampNeg (0 : Int32).toNatClampNeg (16 : Int32).toNatClampNeg)
  let q4 : Nat := (gr h1 1).getD 0
  let q5 : Nat := (gr h0 1).getD 0
  let gi6 : th_i := va_up gi3 q5 (va_cpy (gi3 q4) (gi3 q5) (0 : Int32).toNatClampNeg (0 : Int32).toNatClampNeg (12 : Int32).toNatClampNeg)
  (gi6)
set_option maxHeartbeats 8000000 in
set_option maxRecDepth 100000 in
theorem k_X1_copyFrom (l : Launch) (D : va_G) (cA : Nat → ClassId) (Z : th_Zt) (τ : th_t) (gi : th_i) (gr : th_r) (sz : Nat) (h0 : Nat) (t_h0 : τ h0 = 2) (h1 : Nat) (t_h1 : τ h1 = 2) : Met l yX1_copyFrom wsX1_copyFrom ({ frames := 1, cells := 0, slots := 0, locals := 60 }) (va_Pc [.ref h0, .ref h1] (th_Pre D cA Z τ gi gr sz)) (va_Qv (fun (u : th_i × th_r) => th_Mod [2400, 2500] τ gi gr u.1 u.2 ∧ u.2 = gr ∧ (F_X1_copyFrom τ Z gi gr h0 h1 = u.1)) (fun (u : th_i × th_r) t => th_H D cA τ u.1 u.2 t.heap) (th_A τ sz)) 0 0 (th_A τ sz) := by
  refine Met.ofW (cc := cX1_copyFrom) (maxL := 2) (ret := none) (by decide) rfl ?_
  intro p e s m args below meth c s₁ B hml hv
  obtain ⟨rfl, hsz, hH, hK, hN, hZ⟩ := hv
  have hx := B.exec
  have hb := B.bytes
  have hr := B.returns
  have hts := atoms_spec (ws := wsX1_copyFrom) B.pre
  have hown : s.vm.findClass RX1 = some m.cls := findClass_of_methodNamed B.named
  have hlocks := B.notSynchronized
  subst hsz
  have hM : th_Mod [2400, 2500] τ gi gr gi gr := th_Mod.rf
  have hS : va_S (th_A τ s.heap.size) s.heap s.heap [] := va_S.rf
  have hl := lv_entry ([.ref h0, .ref h1]) (n := 2) (Nat.le_of_ble_eq_true rfl)
  rw [lg_entry_eq]
  generalize (lg_sl ([.ref h0, .ref h1]) ++ List.replicate (2 - (lg_sl ([.ref h0, .ref h1])).length) Slot.unset).toArray = ls at hl ⊢
  have hl : lv_has ls 2 [(0, .ref h0), (1, .ref h1)] := hl
  have hF : F_X1_copyFrom τ Z gi gr h0 h1 = F_X1_copyFrom τ Z gi gr h0 h1 := rfl
  refine lv_aload_n hx hb dX1_copyFrom_0 rfl (lv_at hl 1 rfl) ?_
  obtain ⟨q1, r1, t1⟩ : ∃ q, gr h1 0 = some q ∧ τ q = 24 := (thI_2 hH t_h1).1
  refine th_get (ci := 1) (v := .ref q1) (T := TX1) (C := RX1) (N := 2) hx hb hts (fun w h => List.mem_cons_of_mem _ (List.mem_append_right _ h)) hown hK hH t_h1 (th_nz rfl) (thE_2 _ _ _) rfl 0 (th_ltN rfl) (hts (.fieldLink RX1 9 "BayMoorings$Berths" "buoyOfBoat" "[I") (List.mem_cons_of_mem _ (List.mem_append_left _ (List.mem_of_getElem? (i := 0) rfl)))) (fun _ h9 => h9) (th_fR r1 rfl) dX1_copyFrom_1 ?_
  refine lv_iconst (v := 0) hx hb dX1_copyFrom_4 ic_0 ?_
  refine lv_aload_n hx hb dX1_copyFrom_5 rfl (lv_at hl 0 rfl) ?_
  obtain ⟨q2, r2, t2⟩ : ∃ q, gr h0 0 = some q ∧ τ q = 24 := (thI_2 hH t_h0).1
  refine th_get (ci := 1) (v := .ref q2) (T := TX1) (C := RX1) (N := 2) hx hb hts (fun w h => List.mem_cons_of_mem _ (List.mem_append_right _ h)) hown hK hH t_h0 (th_nz rfl) (thE_2 _ _ _) rfl 0 (th_ltN rfl) (hts (.fieldLink RX1 9 "BayMoorings$Berths" "buoyOfBoat" "[I") (List.mem_cons_of_mem _ (List.mem_append_left _ (List.mem_of_getElem? (i := 0) rfl)))) (fun _ h9 => h9) (th_fR r2 rfl) dX1_copyFrom_6 ?_
  refine lv_iconst (v := 0) hx hb dX1_copyFrom_9 ic_0 ?_
  refine lv_bipush (v := 16) hx hb dX1_copyFrom_10 bp_16 ?_
  refine th_copy hx hb (by rw [hml]; exact hl.1.symm) hown (hts (.methodLink RX1 32 arraycopyName) (List.mem_cons_of_mem _ (List.mem_append_left _ (List.mem_of_getElem? (i := 1) rfl)))) (hts (.native arraycopyName) (List.mem_cons_of_mem _ (List.mem_append_left _ (List.mem_of_getElem? (i := 2) rfl)))) (hts (.static arraycopyName) (List.mem_cons_of_mem _ (List.mem_append_left _ (List.mem_of_getElem? (i := 3) rfl)))) (hts (.initialized "java/lang/System") (List.mem_cons_of_mem _ (List.mem_append_left _ (List.mem_of_getElem? (i := 4) rfl)))) hK hH hS t1 t2 (by decide) (by decide) (Or.inl (by rw [t2]; decide)) 0 rfl rfl (fun _ => rfl) (by decide) (by decide) (by decide) (by decide) (by decide) (fun _ => trivial) (Nat.le_of_ble_eq_true rfl) (Nat.le_of_ble_eq_true rfl) dX1_copyFrom_12 (fun gi3 H locs eg3 ho3 hH hS => ?_)
  have hM := hM.a t2 (fun _ => th_mem (a := 2400) rfl) ho3
  refine lv_aload_n hx hb dX1_copyFrom_15 rfl (lv_at hl 1 rfl) ?_
  obtain ⟨q4, r4, t4⟩ : ∃ q, gr h1 1 = some q ∧ τ q = 25 := (thI_2 hH t_h1).2
  refine th_get (ci := 1) (v := .ref q4) (T := TX1) (C := RX1) (N := 2) hx hb hts (fun w h => List.mem_cons_of_mem _ (List.mem_append_right _ h)) hown hK hH t_h1 (th_nz rfl) (thE_2 _ _ _) rfl 1 (th_ltN rfl) (hts (.fieldLink RX1 15 "BayMoorings$Berths" "boatOfBuoy" "[I") (List.mem_cons_of_mem _ (List.mem_append_left _ (List.mem_of_getElem? (i := 5) rfl)))) (fun _ h9 => h9) (th_fR r4 rfl) dX1_copyFrom_16 ?_
  refine lv_iconst (v := 0) hx hb dX1_copyFrom_19 ic_0 ?_
  refine lv_aload_n hx hb dX1_copyFrom_20 rfl (lv_at hl 0 rfl) ?_
  obtain ⟨q5, r5, t5⟩ : ∃ q, gr h0 1 = some q ∧ τ q = 25 := (thI_2 hH t_h0).2
  refine th_get (ci := 1) (v := .ref q5) (T := TX1) (C := RX1) (N := 2) hx hb hts (fun w h => List.mem_cons_of_mem _ (List.mem_append_right _ h)) hown hK hH t_h0 (th_nz rfl) (thE_2 _ _ _) rfl 1 (th_ltN rfl) (hts (.fieldLink RX1 15 "BayMoorings$Berths" "boatOfBuoy" "[I") (List.mem_cons_of_mem _ (List.mem_append_left _ (List.mem_of_getElem? (i := 5) rfl)))) (fun _ h9 => h9) (th_fR r5 rfl) dX1_copyFrom_21 ?_
  refine lv_iconst (v := 0) hx hb dX1_copyFrom_24 ic_0 ?_
  refine lv_bipush (v := 12) hx hb dX1_copyFrom_25 bp_12 ?_
  refine th_copy hx hb (by rw [hml]; exact hl.1.symm) hown (hts (.methodLink RX1 32 arraycopyName) (List.mem_cons_of_mem _ (List.mem_append_left _ (List.mem_of_getElem? (i := 1) rfl)))) (hts (.native arraycopyName) (List.mem_cons_of_mem _ (List.mem_append_left _ (List.mem_of_getElem? (i := 2) rfl)))) (hts (.static arraycopyName) (List.mem_cons_of_mem _ (List.mem_append_left _ (List.mem_of_getElem? (i := 3) rfl)))) (hts (.initialized "java/lang/System") (List.mem_cons_of_mem _ (List.mem_append_left _ (List.mem_of_getElem? (i := 4) rfl)))) hK hH hS t4 t5 (by decide) (by decide) (Or.inl (by rw [t5]; decide)) 0 rfl rfl (fun _ => rfl) (by decide) (by decide) (by decide) (by decide) (by decide) (fun _ => trivial) (Nat.le_of_ble_eq_true rfl) (Nat.le_of_ble_eq_true rfl) dX1_copyFrom_27 (fun gi6 H locs eg6 ho6 hH hS => ?_)
  have hM := hM.a t5 (fun _ => th_mem (a := 2500) rfl) ho6
  exact W.vret hx hb hr (fun t ht hW => ⟨⟨(gi6, gr), rfl, ⟨hM, rfl, (hF.trans (by simp only [F_X1_copyFrom, r1, Option.getD_some, r2, ← eg3, r4, r5, ← eg6]))⟩, th_Ht ht hH⟩, hS.F ht⟩) hS.2.2 dX1_copyFrom_30
end
