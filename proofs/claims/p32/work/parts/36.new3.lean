noncomputable def M_X11_init (τ : th_t) (Z : th_Zt) (gi : th_i) (gr : th_r) (h0 : Nat) (tO : th_t) (gO : th_i) (qO : th_r) : Prop :=
  ∃ (q1 : Nat), τ q1 = 0 ∧ h0 ≠ q1 ∧ (
  ∃ (τ2 : th_t) (gi2 : th_i) (gr2 : th_r), M_X0_init τ Z gi gr q1 τ2 gi2 gr2 ∧ τ2 h0 = 0 ∧ (
  ∃ (q5 : Nat), τ2 q5 = 0 ∧ h0 ≠ q5 ∧ (
  ∃ (τ6 : th_t) (gi6 : th_i) (gr6 : th_r), M_X10_init τ2 Z gi2 gr2 q5 q1 τ6 gi6 gr6 ∧ τ6 h0 = 0 ∧ (
  ∃ (q10 : Nat), τ6 q10 = 0 ∧ h0 ≠ q10 ∧ (
  ∃ (τ11 : th_t) (gi11 : th_i) (gr11 : th_r), M_X7_init τ6 Z gi6 gr6 q10 q1 τ11 gi11 gr11 ∧ τ11 h0 = 0 ∧ (
  ∃ (q16 : Nat), τ11 q16 = 0 ∧ h0 ≠ q16 ∧ (
  ∃ (τ17 : th_t) (gi17 : th_i) (gr17 : th_r), M_X6_init τ11 Z gi11 gr11 q16 q1 τ17 gi17 gr17 ∧ τ17 h0 = 0 ∧ (
  ∃ (q23 : Nat), τ17 q23 = 0 ∧ h0 ≠ q23 ∧ (
  ∃ (τ24 : th_t) (gi24 : th_i) (gr24 : th_r), M_X5_init τ17 Z gi17 gr17 q23 q1 τ24 gi24 gr24 ∧ τ24 h0 = 0 ∧ (
  ∃ (q31 : Nat), τ24 q31 = 0 ∧ h0 ≠ q31 ∧ (
  let τ31 : th_t := va_up τ24 q31 36
  let gi31 : th_i := va_up gi24 q31 (fun _ => 0)
  ∃ (q39 : Nat), τ31 q39 = 0 ∧ h0 ≠ q39 ∧ (
  let τ39 : th_t := va_up τ31 q39 37
  let gi39 : th_i := va_up gi31 q39 (fun _ => 0)
  tO = va_up τ39 h0 11 ∧ gO = va_up gi39 h0 (fun k => match k with | 8 => 3 | 9 => 1 | _ => 0) ∧ qO = va_up gr24 h0 (fun k => match k with | 0 => some q1 | 1 => some q5 | 2 => some q10 | 3 => some q16 | 4 => some q23 | 5 => some q31 | 6 => some q39 | _ => none)))))))))))))
set_option maxHeartbeats 20000000 in
set_option maxRecDepth 100000 in
theorem k_X11_init (l : Launch) (D : va_G) (cA : Nat → ClassId) (Z : th_Zt) (τ : th_t) (gi : th_i) (gr : th_r) (sz : Nat) (h0 : Nat) : Met l yX11_init wsX11_init ({ frames := 3, cells := 25, slots := 580, locals := 71 }) (va_Pc [.ref h0] (th_PreC D cA Z τ gi gr sz h0 (.inr (10, [.null, .null, .null, .null, .null, .null, .null, .int 0, .int 0, .int 0])))) (va_Qv (fun (u : th_t × th_i × th_r) => th_Ext [2300, 2400, 2500] τ gi gr sz h0 u.1 u.2.1 u.2.2 ∧ u.1 h0 = 11 ∧ (u.2.1 h0 7 = 0) ∧ (u.2.1 h0 8 = 3) ∧ (u.2.1 h0 9 = 1) ∧ (M_X11_init τ Z gi gr h0 u.1 u.2.1 u.2.2)) (fun (u : th_t × th_i × th_r) t => th_H D cA u.1 u.2.1 u.2.2 t.heap) (th_AC τ sz h0)) 25 580 (th_AC τ sz h0) := by
  refine Met.ofW (cc := cX11_init) (maxL := 1) (ret := none) (by decide) rfl ?_
  intro p e s m args below meth c s₁ B hml hv
  obtain ⟨rfl, hsz, hH, hK, hN, hZ, z_h0, hR_h0⟩ := hv
  have hx := B.exec
  have hb := B.bytes
  have hr := B.returns
  have hts := atoms_spec (ws := wsX11_init) B.pre
  have hown : s.vm.findClass RX11 = some m.cls := findClass_of_methodNamed B.named
  have hlocks := B.notSynchronized
  have hin : meth.name = "<init>" := (name_of_methodNamed B.named B.method).1
  subst hsz
  have hA : ∀ q : Nat, s.heap.size ≤ q → (th_AC τ s.heap.size h0) q := fun q h => Or.inr (Or.inr h)
  have hE : th_Ext [2300, 2400, 2500] τ gi gr s.heap.size h0 τ gi gr := th_Ext.rf
  have hS : va_S (th_AC τ s.heap.size h0) s.heap s.heap [] := va_S.rf
  have hl := lv_entry ([.ref h0]) (n := 1) (Nat.le_of_ble_eq_true rfl)
  rw [lg_entry_eq]
  generalize (lg_sl ([.ref h0]) ++ List.replicate (1 - (lg_sl ([.ref h0])).length) Slot.unset).toArray = ls at hl ⊢
  have hl : lv_has ls 1 [(0, .ref h0)] := hl
  have hF : (∀ (tO : th_t) (gO : th_i) (qO : th_r), M_X11_init τ Z gi gr h0 tO gO qO → M_X11_init τ Z gi gr h0 tO gO qO) := fun tO gO qO h9 => h9
  refine lv_aload_n hx hb dX11_init_0 rfl (lv_at hl 0 rfl) ?_
  refine W.objInit hx hb hown (hts (.methodLink RX11 1 objectInit) (List.mem_cons_of_mem _ (List.mem_append_left _ (List.mem_append_left _ (List.mem_append_left _ (List.mem_append_left _ (List.mem_append_left _ (List.mem_append_left _ (List.mem_append_left _ (List.mem_append_left _ (List.mem_of_getElem? (i := 0) rfl))))))))))) (hts (.instanceMethod objectInit) (List.mem_cons_of_mem _ (List.mem_append_left _ (List.mem_append_left _ (List.mem_append_left _ (List.mem_append_left _ (List.mem_append_left _ (List.mem_append_left _ (List.mem_append_left _ (List.mem_append_left _ (List.mem_of_getElem? (i := 1) rfl))))))))))) (hts (.code objectInit ⟨#[0xb1]⟩ 1 none) (List.mem_cons_of_mem _ (List.mem_append_left _ (List.mem_append_left _ (List.mem_append_left _ (List.mem_append_left _ (List.mem_append_left _ (List.mem_append_left _ (List.mem_append_left _ (List.mem_append_left _ (List.mem_of_getElem? (i := 2) rfl))))))))))) rfl (by rw [hml]; exact hl.1) rfl dX11_init_1 (Nat.le_of_ble_eq_true rfl) (Nat.le_of_ble_eq_true rfl) ?_
  refine W.eq (g2 := F0 m 4 ls []) rfl ?_
  refine lv_aload_n hx hb dX11_init_4 rfl (lv_at hl 0 rfl) ?_
  have hle1 := hS.1
  have lt1_h0 := (hR_h0 0 _ rfl).lt
  refine th_newO (ci := 0) (fs := [.null, .null, .null, .null, .null, .int 0, .int 0, .int 0, .int 0]) (C := RX0) (T := TX0) (N := 9) hx hb hts (fun w h => List.mem_cons_of_mem _ (List.mem_append_left _ (List.mem_append_left _ (List.mem_append_left _ (List.mem_append_left _ (List.mem_append_left _ (List.mem_append_left _ (List.mem_append_right _ h)))))))) tyX0 tyX0_ok hown (hts (.classLink RX11 7 RX0) (List.mem_cons_of_mem _ (List.mem_append_left _ (List.mem_append_left _ (List.mem_append_left _ (List.mem_append_left _ (List.mem_append_left _ (List.mem_append_left _ (List.mem_append_left _ (List.mem_append_left _ (List.mem_of_getElem? (i := 3) rfl))))))))))) (hts (.instantiable RX0 9) (List.mem_cons_of_mem _ (List.mem_append_left _ (List.mem_append_left _ (List.mem_append_left _ (List.mem_append_left _ (List.mem_append_left _ (List.mem_append_left _ (List.mem_append_left _ (List.mem_append_left _ (List.mem_of_getElem? (i := 4) rfl))))))))))) (hts (.initialized RX0) (List.mem_cons_of_mem _ (List.mem_append_left _ (List.mem_append_left _ (List.mem_append_left _ (List.mem_append_left _ (List.mem_append_left _ (List.mem_append_left _ (List.mem_append_left _ (List.mem_append_left _ (List.mem_of_getElem? (i := 5) rfl))))))))))) hK hH hS hA rfl (fun j hj => by rcases (show j = 0 ∨ j = 1 ∨ j = 2 ∨ j = 3 ∨ j = 4 ∨ j = 5 ∨ j = 6 ∨ j = 7 ∨ j = 8 by omega) with rfl | rfl | rfl | rfl | rfl | rfl | rfl | rfl | rfl <;> rfl) (Nat.le_of_ble_eq_true rfl) (Nat.le_of_ble_eq_true rfl) dX11_init_5 (fun q1 H s1 y1 n1 o1 hR_q1 hH hS => ?_)
  have le1 : s.heap.size ≤ q1 := by rw [← s1]; exact hle1
  have hR_h0 := th_P1 hR_h0 (o1 _ (by rw [← s1]; exact lt1_h0))
  have ne_h0_q1 : h0 ≠ q1 := Nat.ne_of_lt (by rw [← s1]; exact lt1_h0)
  refine W.widen (k := 1) (n := 9) (by omega) (by omega) ?_
  refine lv_dup hx hb dX11_init_8 rfl ?_
  have hle2 := hS.1
  have lt2_h0 := (hR_h0 0 _ rfl).lt
  have lt2_q1 := (hR_q1 0 _ rfl).lt
  have hAC2 : ∀ x, th_AC τ _ q1 x → (th_AC τ s.heap.size h0) x := th_ACn hE hS le1
  refine va_callv (va_runI (As := []) (rest := [.ref q1, .ref h0]) ⟨hx, hb, hml, hown, hts⟩ (k_X0_init l D cA Z τ gi gr _ q1) (cwI 0 hts gX11_init_X0_init rfl rfl rfl (hts (.initialized RX0) (List.mem_cons_of_mem _ (List.mem_append_left _ (List.mem_append_left _ (List.mem_append_left _ (List.mem_append_left _ (List.mem_append_left _ (List.mem_append_left _ (List.mem_append_left _ (List.mem_append_left _ (List.mem_of_getElem? (i := 5) rfl))))))))))) (hts (.methodLink RX11 9 yX0_init) (List.mem_cons_of_mem _ (List.mem_append_left _ (List.mem_append_left _ (List.mem_append_left _ (List.mem_append_left _ (List.mem_append_left _ (List.mem_append_left _ (List.mem_append_left _ (List.mem_append_right _ (List.mem_append_left _ (List.mem_of_getElem? (i := 5) rfl)))))))))))) (hts (.instanceMethod yX0_init) (List.mem_cons_of_mem _ (List.mem_append_left _ (List.mem_append_left _ (List.mem_append_left _ (List.mem_append_left _ (List.mem_append_left _ (List.mem_append_left _ (List.mem_append_left _ (List.mem_append_right _ (List.mem_append_left _ (List.mem_of_getElem? (i := 6) rfl)))))))))))) rfl (by decide +kernel) ⟨Nat.le_of_ble_eq_true rfl, Nat.le_of_ble_eq_true rfl⟩) ⟨th_blindC, th_preC hH hK hN hZ hS hAC2 n1 hR_q1⟩ rfl rfl hl.1 rfl (lv_room (Nat.le_of_ble_eq_true rfl)) dX11_init_9 ⟨Nat.le_of_ble_eq_true rfl, Nat.le_of_ble_eq_true rfl⟩) hS (fun x _ h => hAC2 x h) hAC2 (fun u t H locs ht hvm hw2 hB hz2 hk2 hS => ?_)
  obtain ⟨τ2, gi2, gr2⟩ := u
  try dsimp only at hw2 hB
  rw [ht] at hB
  have hH := hB
  have hR_h0 := th_P1 hR_h0 (hk2 _ lt2_h0 (th_nAC z_h0 ne_h0_q1 lt2_h0))
  have z3 : τ2 h0 = 0 := (th_zx hw2.1 z_h0 ne_h0_q1 lt2_h0)
  have hE := hE.tr hw2.1 (Or.inr le1) hle2 (by decide)
  have tn2 := hw2.2.1
  refine W.widen (k := 8) (n := 115) (by omega) (by omega) ?_
  refine th_rputF (ci := 10) (v := .ref q1) (T := TX11) (C := RX11) (N := 10) (ty := (.object "BayMoorings$Bay")) hx hb hts (fun w h => List.mem_cons_of_mem _ (List.mem_append_left _ (List.mem_append_left _ (List.mem_append_left _ (List.mem_append_left _ (List.mem_append_left _ (List.mem_append_right _ h))))))) tyX11 tyX11_ok nmX11 hown hK hH hS z3 (Or.inl rfl) hR_h0 rfl 0 (by decide) (hts (.fieldLink RX11 10 "BayMoorings" "bay" "LBayMoorings$Bay;") (List.mem_cons_of_mem _ (List.mem_append_left _ (List.mem_append_left _ (List.mem_append_left _ (List.mem_append_left _ (List.mem_append_left _ (List.mem_append_left _ (List.mem_append_left _ (List.mem_append_left _ (List.mem_of_getElem? (i := 6) rfl))))))))))) (fun _ h9 => h9) rfl hin rfl (by decide +kernel) rfl rfl (Nat.le_of_ble_eq_true rfl) dX11_init_12 (fun H locs hR_h0 hH hS y4 o4 => ?_)
  have hR_h0 : va_P D vwCl [(h0, .inr (10, [.ref q1, .null, .null, .null, .null, .null, .null, .int 0, .int 0, .int 0]))] H := hR_h0
  refine lv_aload_n hx hb dX11_init_15 rfl (lv_at hl 0 rfl) ?_
  have hle5 := hS.1
  have lt5_h0 := (hR_h0 0 _ rfl).lt
  refine th_newO (ci := 9) (fs := [.null, .null, .int 0]) (C := RX10) (T := TX10) (N := 3) hx hb hts (fun w h => List.mem_cons_of_mem _ (List.mem_append_left _ (List.mem_append_left _ (List.mem_append_left _ (List.mem_append_left _ (List.mem_append_right _ h)))))) tyX10 tyX10_ok hown (hts (.classLink RX11 16 RX10) (List.mem_cons_of_mem _ (List.mem_append_left _ (List.mem_append_left _ (List.mem_append_left _ (List.mem_append_left _ (List.mem_append_left _ (List.mem_append_left _ (List.mem_append_left _ (List.mem_append_left _ (List.mem_of_getElem? (i := 7) rfl))))))))))) (hts (.instantiable RX10 3) (List.mem_cons_of_mem _ (List.mem_append_left _ (List.mem_append_left _ (List.mem_append_left _ (List.mem_append_left _ (List.mem_append_left _ (List.mem_append_left _ (List.mem_append_left _ (List.mem_append_left _ (List.mem_of_getElem? (i := 8) rfl))))))))))) (hts (.initialized RX10) (List.mem_cons_of_mem _ (List.mem_append_left _ (List.mem_append_left _ (List.mem_append_left _ (List.mem_append_left _ (List.mem_append_left _ (List.mem_append_left _ (List.mem_append_left _ (List.mem_append_left _ (List.mem_of_getElem? (i := 9) rfl))))))))))) hK hH hS hA rfl (fun j hj => by rcases (show j = 0 ∨ j = 1 ∨ j = 2 by omega) with rfl | rfl | rfl <;> rfl) (Nat.le_of_ble_eq_true rfl) (Nat.le_of_ble_eq_true rfl) dX11_init_16 (fun q5 H s5 y5 n5 o5 hR_q5 hH hS => ?_)
  have le5 : s.heap.size ≤ q5 := by rw [← s5]; exact hle5
  have hR_h0 := th_P1 hR_h0 (o5 _ (by rw [← s5]; exact lt5_h0))
  have ne_h0_q5 : h0 ≠ q5 := Nat.ne_of_lt (by rw [← s5]; exact lt5_h0)
  refine W.widen (k := 9) (n := 118) (by omega) (by omega) ?_
  refine lv_dup hx hb dX11_init_19 rfl ?_
  refine lv_aload_n hx hb dX11_init_20 rfl (lv_at hl 0 rfl) ?_
  refine va_get (D := D) (ci := 10) (v := .ref q1) (C := RX11) (T := TX11) (N := 10) hx hb hts (fun w h => List.mem_cons_of_mem _ (List.mem_append_left _ (List.mem_append_left _ (List.mem_append_left _ (List.mem_append_left _ (List.mem_append_left _ (List.mem_append_right _ h))))))) hown hK hR_h0 0 rfl rfl 0 (by decide) (hts (.fieldLink RX11 10 "BayMoorings" "bay" "LBayMoorings$Bay;") (List.mem_cons_of_mem _ (List.mem_append_left _ (List.mem_append_left _ (List.mem_append_left _ (List.mem_append_left _ (List.mem_append_left _ (List.mem_append_left _ (List.mem_append_left _ (List.mem_append_left _ (List.mem_of_getElem? (i := 6) rfl))))))))))) (fun _ h9 => h9) rfl dX11_init_21 ?_
  have hle6 := hS.1
  have lt6_h0 := (hR_h0 0 _ rfl).lt
  have lt6_q5 := (hR_q5 0 _ rfl).lt
  have hAC6 : ∀ x, th_AC τ2 _ q5 x → (th_AC τ s.heap.size h0) x := th_ACn hE hS le5
  refine va_callv (va_runI (As := [.ref q1]) (rest := [.ref q5, .ref h0]) ⟨hx, hb, hml, hown, hts⟩ (k_X10_init l D cA Z τ2 gi2 gr2 _ q5 q1 tn2) (cwI 1 hts gX11_init_X10_init rfl rfl rfl (hts (.initialized RX10) (List.mem_cons_of_mem _ (List.mem_append_left _ (List.mem_append_left _ (List.mem_append_left _ (List.mem_append_left _ (List.mem_append_left _ (List.mem_append_left _ (List.mem_append_left _ (List.mem_append_left _ (List.mem_of_getElem? (i := 9) rfl))))))))))) (hts (.methodLink RX11 18 yX10_init) (List.mem_cons_of_mem _ (List.mem_append_left _ (List.mem_append_left _ (List.mem_append_left _ (List.mem_append_left _ (List.mem_append_left _ (List.mem_append_left _ (List.mem_append_left _ (List.mem_append_right _ (List.mem_append_right _ (List.mem_append_left _ (List.mem_of_getElem? (i := 10) rfl))))))))))))) (hts (.instanceMethod yX10_init) (List.mem_cons_of_mem _ (List.mem_append_left _ (List.mem_append_left _ (List.mem_append_left _ (List.mem_append_left _ (List.mem_append_left _ (List.mem_append_left _ (List.mem_append_left _ (List.mem_append_right _ (List.mem_append_right _ (List.mem_append_left _ (List.mem_of_getElem? (i := 11) rfl))))))))))))) rfl (by decide +kernel) ⟨Nat.le_of_ble_eq_true rfl, Nat.le_of_ble_eq_true rfl⟩) ⟨th_blindC, th_preC hH hK hN hZ hS hAC6 n5 hR_q5⟩ rfl rfl hl.1 rfl (lv_room (Nat.le_of_ble_eq_true rfl)) dX11_init_24 ⟨Nat.le_of_ble_eq_true rfl, Nat.le_of_ble_eq_true rfl⟩) hS (fun x _ h => hAC6 x h) hAC6 (fun u t H locs ht hvm hw6 hB hz6 hk6 hS => ?_)
  obtain ⟨τ6, gi6, gr6⟩ := u
  try dsimp only at hw6 hB
  rw [ht] at hB
  have hH := hB
  have hR_h0 := th_P1 hR_h0 (hk6 _ lt6_h0 (th_nAC z3 ne_h0_q5 lt6_h0))
  have t7 : τ6 q1 = 1 := ((hw6.1.1 q1 (by rw [tn2]; decide)).trans tn2)
  have z8 : τ6 h0 = 0 := (th_zx hw6.1 z3 ne_h0_q5 lt6_h0)
  have hE := hE.tr hw6.1 (Or.inr le5) hle6 (by decide)
  have tn6 := hw6.2.1
  refine W.widen (k := 10) (n := 128) (by omega) (by omega) ?_
  refine th_rputF (ci := 10) (v := .ref q5) (T := TX11) (C := RX11) (N := 10) (ty := (.object "BayMoorings$WaitingList")) hx hb hts (fun w h => List.mem_cons_of_mem _ (List.mem_append_left _ (List.mem_append_left _ (List.mem_append_left _ (List.mem_append_left _ (List.mem_append_left _ (List.mem_append_right _ h))))))) tyX11 tyX11_ok nmX11 hown hK hH hS z8 (Or.inl rfl) hR_h0 rfl 1 (by decide) (hts (.fieldLink RX11 21 "BayMoorings" "waiting" "LBayMoorings$WaitingList;") (List.mem_cons_of_mem _ (List.mem_append_left _ (List.mem_append_left _ (List.mem_append_left _ (List.mem_append_left _ (List.mem_append_left _ (List.mem_append_left _ (List.mem_append_left _ (List.mem_append_left _ (List.mem_of_getElem? (i := 10) rfl))))))))))) (fun _ h9 => h9) rfl hin rfl (by decide +kernel) rfl rfl (Nat.le_of_ble_eq_true rfl) dX11_init_27 (fun H locs hR_h0 hH hS y9 o9 => ?_)
  have hR_h0 : va_P D vwCl [(h0, .inr (10, [.ref q1, .ref q5, .null, .null, .null, .null, .null, .int 0, .int 0, .int 0]))] H := hR_h0
  refine lv_aload_n hx hb dX11_init_30 rfl (lv_at hl 0 rfl) ?_
  have hle10 := hS.1
  have lt10_h0 := (hR_h0 0 _ rfl).lt
  refine th_newO (ci := 6) (fs := [.null, .null, .int 0, .null, .null, .null, .null, .int 0]) (C := RX7) (T := TX7) (N := 8) hx hb hts (fun w h => List.mem_cons_of_mem _ (List.mem_append_left _ (List.mem_append_left _ (List.mem_append_left _ (List.mem_append_right _ h))))) tyX7 tyX7_ok hown (hts (.classLink RX11 25 RX7) (List.mem_cons_of_mem _ (List.mem_append_left _ (List.mem_append_left _ (List.mem_append_left _ (List.mem_append_left _ (List.mem_append_left _ (List.mem_append_left _ (List.mem_append_left _ (List.mem_append_left _ (List.mem_of_getElem? (i := 11) rfl))))))))))) (hts (.instantiable RX7 8) (List.mem_cons_of_mem _ (List.mem_append_left _ (List.mem_append_left _ (List.mem_append_left _ (List.mem_append_left _ (List.mem_append_left _ (List.mem_append_left _ (List.mem_append_left _ (List.mem_append_left _ (List.mem_of_getElem? (i := 12) rfl))))))))))) (hts (.initialized RX7) (List.mem_cons_of_mem _ (List.mem_append_left _ (List.mem_append_left _ (List.mem_append_left _ (List.mem_append_left _ (List.mem_append_left _ (List.mem_append_left _ (List.mem_append_left _ (List.mem_append_left _ (List.mem_of_getElem? (i := 13) rfl))))))))))) hK hH hS hA rfl (fun j hj => by rcases (show j = 0 ∨ j = 1 ∨ j = 2 ∨ j = 3 ∨ j = 4 ∨ j = 5 ∨ j = 6 ∨ j = 7 by omega) with rfl | rfl | rfl | rfl | rfl | rfl | rfl | rfl <;> rfl) (Nat.le_of_ble_eq_true rfl) (Nat.le_of_ble_eq_true rfl) dX11_init_31 (fun q10 H s10 y10 n10 o10 hR_q10 hH hS => ?_)
  have le10 : s.heap.size ≤ q10 := by rw [← s10]; exact hle10
  have hR_h0 := th_P1 hR_h0 (o10 _ (by rw [← s10]; exact lt10_h0))
  have ne_h0_q10 : h0 ≠ q10 := Nat.ne_of_lt (by rw [← s10]; exact lt10_h0)
  refine W.widen (k := 11) (n := 136) (by omega) (by omega) ?_
  refine lv_dup hx hb dX11_init_34 rfl ?_
  refine lv_aload_n hx hb dX11_init_35 rfl (lv_at hl 0 rfl) ?_
  refine va_get (D := D) (ci := 10) (v := .ref q1) (C := RX11) (T := TX11) (N := 10) hx hb hts (fun w h => List.mem_cons_of_mem _ (List.mem_append_left _ (List.mem_append_left _ (List.mem_append_left _ (List.mem_append_left _ (List.mem_append_left _ (List.mem_append_right _ h))))))) hown hK hR_h0 0 rfl rfl 0 (by decide) (hts (.fieldLink RX11 10 "BayMoorings" "bay" "LBayMoorings$Bay;") (List.mem_cons_of_mem _ (List.mem_append_left _ (List.mem_append_left _ (List.mem_append_left _ (List.mem_append_left _ (List.mem_append_left _ (List.mem_append_left _ (List.mem_append_left _ (List.mem_append_left _ (List.mem_of_getElem? (i := 6) rfl))))))))))) (fun _ h9 => h9) rfl dX11_init_36 ?_
  have hle11 := hS.1
  have lt11_h0 := (hR_h0 0 _ rfl).lt
  have lt11_q10 := (hR_q10 0 _ rfl).lt
  have hAC11 : ∀ x, th_AC τ6 _ q10 x → (th_AC τ s.heap.size h0) x := th_ACn hE hS le10
  refine va_callv (va_runI (As := [.ref q1]) (rest := [.ref q10, .ref h0]) ⟨hx, hb, hml, hown, hts⟩ (k_X7_init l D cA Z τ6 gi6 gr6 _ q10 q1 t7) (cwI 1 hts gX11_init_X7_init rfl rfl rfl (hts (.initialized RX7) (List.mem_cons_of_mem _ (List.mem_append_left _ (List.mem_append_left _ (List.mem_append_left _ (List.mem_append_left _ (List.mem_append_left _ (List.mem_append_left _ (List.mem_append_left _ (List.mem_append_left _ (List.mem_of_getElem? (i := 13) rfl))))))))))) (hts (.methodLink RX11 27 yX7_init) (List.mem_cons_of_mem _ (List.mem_append_left _ (List.mem_append_left _ (List.mem_append_left _ (List.mem_append_left _ (List.mem_append_left _ (List.mem_append_left _ (List.mem_append_left _ (List.mem_append_right _ (List.mem_append_right _ (List.mem_append_left _ (List.mem_of_getElem? (i := 17) rfl))))))))))))) (hts (.instanceMethod yX7_init) (List.mem_cons_of_mem _ (List.mem_append_left _ (List.mem_append_left _ (List.mem_append_left _ (List.mem_append_left _ (List.mem_append_left _ (List.mem_append_left _ (List.mem_append_left _ (List.mem_append_right _ (List.mem_append_right _ (List.mem_append_left _ (List.mem_of_getElem? (i := 18) rfl))))))))))))) rfl (by decide +kernel) ⟨Nat.le_of_ble_eq_true rfl, Nat.le_of_ble_eq_true rfl⟩) ⟨th_blindC, th_preC hH hK hN hZ hS hAC11 n10 hR_q10⟩ rfl rfl hl.1 rfl (lv_room (Nat.le_of_ble_eq_true rfl)) dX11_init_39 ⟨Nat.le_of_ble_eq_true rfl, Nat.le_of_ble_eq_true rfl⟩) hS (fun x _ h => hAC11 x h) hAC11 (fun u t H locs ht hvm hw11 hB hz11 hk11 hS => ?_)
  obtain ⟨τ11, gi11, gr11⟩ := u
  try dsimp only at hw11 hB
  rw [ht] at hB
  have hH := hB
  have hR_h0 := th_P1 hR_h0 (hk11 _ lt11_h0 (th_nAC z8 ne_h0_q10 lt11_h0))
  have t12 : τ11 q1 = 1 := ((hw11.1.1 q1 (by rw [t7]; decide)).trans t7)
  have t13 : τ11 q5 = 10 := ((hw11.1.1 q5 (by rw [tn6]; decide)).trans tn6)
  have z14 : τ11 h0 = 0 := (th_zx hw11.1 z8 ne_h0_q10 lt11_h0)
  have hE := hE.tr hw11.1 (Or.inr le10) hle11 (by decide)
  have tn11 := hw11.2.1
  refine W.widen (k := 16) (n := 481) (by omega) (by omega) ?_
  refine th_rputF (ci := 10) (v := .ref q10) (T := TX11) (C := RX11) (N := 10) (ty := (.object "BayMoorings$Search")) hx hb hts (fun w h => List.mem_cons_of_mem _ (List.mem_append_left _ (List.mem_append_left _ (List.mem_append_left _ (List.mem_append_left _ (List.mem_append_left _ (List.mem_append_right _ h))))))) tyX11 tyX11_ok nmX11 hown hK hH hS z14 (Or.inl rfl) hR_h0 rfl 2 (by decide) (hts (.fieldLink RX11 28 "BayMoorings" "search" "LBayMoorings$Search;") (List.mem_cons_of_mem _ (List.mem_append_left _ (List.mem_append_left _ (List.mem_append_left _ (List.mem_append_left _ (List.mem_append_left _ (List.mem_append_left _ (List.mem_append_left _ (List.mem_append_left _ (List.mem_of_getElem? (i := 14) rfl))))))))))) (fun _ h9 => h9) rfl hin rfl (by decide +kernel) rfl rfl (Nat.le_of_ble_eq_true rfl) dX11_init_42 (fun H locs hR_h0 hH hS y15 o15 => ?_)
  have hR_h0 : va_P D vwCl [(h0, .inr (10, [.ref q1, .ref q5, .ref q10, .null, .null, .null, .null, .int 0, .int 0, .int 0]))] H := hR_h0
  refine lv_aload_n hx hb dX11_init_45 rfl (lv_at hl 0 rfl) ?_
  have hle16 := hS.1
  have lt16_h0 := (hR_h0 0 _ rfl).lt
  refine th_newO (ci := 5) (fs := [.null, .null, .null, .int 0]) (C := RX6) (T := TX6) (N := 4) hx hb hts (fun w h => List.mem_cons_of_mem _ (List.mem_append_left _ (List.mem_append_left _ (List.mem_append_right _ h)))) tyX6 tyX6_ok hown (hts (.classLink RX11 32 RX6) (List.mem_cons_of_mem _ (List.mem_append_left _ (List.mem_append_left _ (List.mem_append_left _ (List.mem_append_left _ (List.mem_append_left _ (List.mem_append_left _ (List.mem_append_left _ (List.mem_append_left _ (List.mem_of_getElem? (i := 15) rfl))))))))))) (hts (.instantiable RX6 4) (List.mem_cons_of_mem _ (List.mem_append_left _ (List.mem_append_left _ (List.mem_append_left _ (List.mem_append_left _ (List.mem_append_left _ (List.mem_append_left _ (List.mem_append_left _ (List.mem_append_left _ (List.mem_of_getElem? (i := 16) rfl))))))))))) (hts (.initialized RX6) (List.mem_cons_of_mem _ (List.mem_append_left _ (List.mem_append_left _ (List.mem_append_left _ (List.mem_append_left _ (List.mem_append_left _ (List.mem_append_left _ (List.mem_append_left _ (List.mem_append_left _ (List.mem_of_getElem? (i := 17) rfl))))))))))) hK hH hS hA rfl (fun j hj => by rcases (show j = 0 ∨ j = 1 ∨ j = 2 ∨ j = 3 by omega) with rfl | rfl | rfl | rfl <;> rfl) (Nat.le_of_ble_eq_true rfl) (Nat.le_of_ble_eq_true rfl) dX11_init_46 (fun q16 H s16 y16 n16 o16 hR_q16 hH hS => ?_)
  have le16 : s.heap.size ≤ q16 := by rw [← s16]; exact hle16
  have hR_h0 := th_P1 hR_h0 (o16 _ (by rw [← s16]; exact lt16_h0))
  have ne_h0_q16 : h0 ≠ q16 := Nat.ne_of_lt (by rw [← s16]; exact lt16_h0)
  refine W.widen (k := 17) (n := 485) (by omega) (by omega) ?_
  refine lv_dup hx hb dX11_init_49 rfl ?_
  refine lv_aload_n hx hb dX11_init_50 rfl (lv_at hl 0 rfl) ?_
  refine va_get (D := D) (ci := 10) (v := .ref q1) (C := RX11) (T := TX11) (N := 10) hx hb hts (fun w h => List.mem_cons_of_mem _ (List.mem_append_left _ (List.mem_append_left _ (List.mem_append_left _ (List.mem_append_left _ (List.mem_append_left _ (List.mem_append_right _ h))))))) hown hK hR_h0 0 rfl rfl 0 (by decide) (hts (.fieldLink RX11 10 "BayMoorings" "bay" "LBayMoorings$Bay;") (List.mem_cons_of_mem _ (List.mem_append_left _ (List.mem_append_left _ (List.mem_append_left _ (List.mem_append_left _ (List.mem_append_left _ (List.mem_append_left _ (List.mem_append_left _ (List.mem_append_left _ (List.mem_of_getElem? (i := 6) rfl))))))))))) (fun _ h9 => h9) rfl dX11_init_51 ?_
  have hle17 := hS.1
  have lt17_h0 := (hR_h0 0 _ rfl).lt
  have lt17_q16 := (hR_q16 0 _ rfl).lt
  have hAC17 : ∀ x, th_AC τ11 _ q16 x → (th_AC τ s.heap.size h0) x := th_ACn hE hS le16
  refine va_callv (va_runI (As := [.ref q1]) (rest := [.ref q16, .ref h0]) ⟨hx, hb, hml, hown, hts⟩ (k_X6_init l D cA Z τ11 gi11 gr11 _ q16 q1 t12) (cwI 1 hts gX11_init_X6_init rfl rfl rfl (hts (.initialized RX6) (List.mem_cons_of_mem _ (List.mem_append_left _ (List.mem_append_left _ (List.mem_append_left _ (List.mem_append_left _ (List.mem_append_left _ (List.mem_append_left _ (List.mem_append_left _ (List.mem_append_left _ (List.mem_of_getElem? (i := 17) rfl))))))))))) (hts (.methodLink RX11 34 yX6_init) (List.mem_cons_of_mem _ (List.mem_append_left _ (List.mem_append_left _ (List.mem_append_left _ (List.mem_append_left _ (List.mem_append_left _ (List.mem_append_left _ (List.mem_append_left _ (List.mem_append_right _ (List.mem_append_right _ (List.mem_append_right _ (List.mem_of_getElem? (i := 6) rfl))))))))))))) (hts (.instanceMethod yX6_init) (List.mem_cons_of_mem _ (List.mem_append_left _ (List.mem_append_left _ (List.mem_append_left _ (List.mem_append_left _ (List.mem_append_left _ (List.mem_append_left _ (List.mem_append_left _ (List.mem_append_right _ (List.mem_append_right _ (List.mem_append_right _ (List.mem_of_getElem? (i := 7) rfl))))))))))))) rfl (by decide +kernel) ⟨Nat.le_of_ble_eq_true rfl, Nat.le_of_ble_eq_true rfl⟩) ⟨th_blindC, th_preC hH hK hN hZ hS hAC17 n16 hR_q16⟩ rfl rfl hl.1 rfl (lv_room (Nat.le_of_ble_eq_true rfl)) dX11_init_54 ⟨Nat.le_of_ble_eq_true rfl, Nat.le_of_ble_eq_true rfl⟩) hS (fun x _ h => hAC17 x h) hAC17 (fun u t H locs ht hvm hw17 hB hz17 hk17 hS => ?_)
  obtain ⟨τ17, gi17, gr17⟩ := u
  try dsimp only at hw17 hB
  rw [ht] at hB
  have hH := hB
  have hR_h0 := th_P1 hR_h0 (hk17 _ lt17_h0 (th_nAC z14 ne_h0_q16 lt17_h0))
  have t18 : τ17 q1 = 1 := ((hw17.1.1 q1 (by rw [t12]; decide)).trans t12)
  have t19 : τ17 q5 = 10 := ((hw17.1.1 q5 (by rw [t13]; decide)).trans t13)
  have t20 : τ17 q10 = 7 := ((hw17.1.1 q10 (by rw [tn11]; decide)).trans tn11)
  have z21 : τ17 h0 = 0 := (th_zx hw17.1 z14 ne_h0_q16 lt17_h0)
  have hE := hE.tr hw17.1 (Or.inr le16) hle17 (by decide)
  have tn17 := hw17.2.1
  refine W.widen (k := 19) (n := 517) (by omega) (by omega) ?_
  refine th_rputF (ci := 10) (v := .ref q16) (T := TX11) (C := RX11) (N := 10) (ty := (.object "BayMoorings$Rings")) hx hb hts (fun w h => List.mem_cons_of_mem _ (List.mem_append_left _ (List.mem_append_left _ (List.mem_append_left _ (List.mem_append_left _ (List.mem_append_left _ (List.mem_append_right _ h))))))) tyX11 tyX11_ok nmX11 hown hK hH hS z21 (Or.inl rfl) hR_h0 rfl 3 (by decide) (hts (.fieldLink RX11 35 "BayMoorings" "rings" "LBayMoorings$Rings;") (List.mem_cons_of_mem _ (List.mem_append_left _ (List.mem_append_left _ (List.mem_append_left _ (List.mem_append_left _ (List.mem_append_left _ (List.mem_append_left _ (List.mem_append_left _ (List.mem_append_left _ (List.mem_of_getElem? (i := 18) rfl))))))))))) (fun _ h9 => h9) rfl hin rfl (by decide +kernel) rfl rfl (Nat.le_of_ble_eq_true rfl) dX11_init_57 (fun H locs hR_h0 hH hS y22 o22 => ?_)
  have hR_h0 : va_P D vwCl [(h0, .inr (10, [.ref q1, .ref q5, .ref q10, .ref q16, .null, .null, .null, .int 0, .int 0, .int 0]))] H := hR_h0
  refine lv_aload_n hx hb dX11_init_60 rfl (lv_at hl 0 rfl) ?_
  have hle23 := hS.1
  have lt23_h0 := (hR_h0 0 _ rfl).lt
  refine th_newO (ci := 4) (fs := [.null, .null, .int 0]) (C := RX5) (T := TX5) (N := 3) hx hb hts (fun w h => List.mem_cons_of_mem _ (List.mem_append_left _ (List.mem_append_right _ h))) tyX5 tyX5_ok hown (hts (.classLink RX11 39 RX5) (List.mem_cons_of_mem _ (List.mem_append_left _ (List.mem_append_left _ (List.mem_append_left _ (List.mem_append_left _ (List.mem_append_left _ (List.mem_append_left _ (List.mem_append_left _ (List.mem_append_left _ (List.mem_of_getElem? (i := 19) rfl))))))))))) (hts (.instantiable RX5 3) (List.mem_cons_of_mem _ (List.mem_append_left _ (List.mem_append_left _ (List.mem_append_left _ (List.mem_append_left _ (List.mem_append_left _ (List.mem_append_left _ (List.mem_append_left _ (List.mem_append_left _ (List.mem_of_getElem? (i := 20) rfl))))))))))) (hts (.initialized RX5) (List.mem_cons_of_mem _ (List.mem_append_left _ (List.mem_append_left _ (List.mem_append_left _ (List.mem_append_left _ (List.mem_append_left _ (List.mem_append_left _ (List.mem_append_left _ (List.mem_append_left _ (List.mem_of_getElem? (i := 21) rfl))))))))))) hK hH hS hA rfl (fun j hj => by rcases (show j = 0 ∨ j = 1 ∨ j = 2 by omega) with rfl | rfl | rfl <;> rfl) (Nat.le_of_ble_eq_true rfl) (Nat.le_of_ble_eq_true rfl) dX11_init_61 (fun q23 H s23 y23 n23 o23 hR_q23 hH hS => ?_)
  have le23 : s.heap.size ≤ q23 := by rw [← s23]; exact hle23
  have hR_h0 := th_P1 hR_h0 (o23 _ (by rw [← s23]; exact lt23_h0))
  have ne_h0_q23 : h0 ≠ q23 := Nat.ne_of_lt (by rw [← s23]; exact lt23_h0)
  refine W.widen (k := 20) (n := 520) (by omega) (by omega) ?_
  refine lv_dup hx hb dX11_init_64 rfl ?_
  refine lv_aload_n hx hb dX11_init_65 rfl (lv_at hl 0 rfl) ?_
  refine va_get (D := D) (ci := 10) (v := .ref q1) (C := RX11) (T := TX11) (N := 10) hx hb hts (fun w h => List.mem_cons_of_mem _ (List.mem_append_left _ (List.mem_append_left _ (List.mem_append_left _ (List.mem_append_left _ (List.mem_append_left _ (List.mem_append_right _ h))))))) hown hK hR_h0 0 rfl rfl 0 (by decide) (hts (.fieldLink RX11 10 "BayMoorings" "bay" "LBayMoorings$Bay;") (List.mem_cons_of_mem _ (List.mem_append_left _ (List.mem_append_left _ (List.mem_append_left _ (List.mem_append_left _ (List.mem_append_left _ (List.mem_append_left _ (List.mem_append_left _ (List.mem_append_left _ (List.mem_of_getElem? (i := 6) rfl))))))))))) (fun _ h9 => h9) rfl dX11_init_66 ?_
  have hle24 := hS.1
  have lt24_h0 := (hR_h0 0 _ rfl).lt
  have lt24_q23 := (hR_q23 0 _ rfl).lt
  have hAC24 : ∀ x, th_AC τ17 _ q23 x → (th_AC τ s.heap.size h0) x := th_ACn hE hS le23
  refine va_callv (va_runI (As := [.ref q1]) (rest := [.ref q23, .ref h0]) ⟨hx, hb, hml, hown, hts⟩ (k_X5_init l D cA Z τ17 gi17 gr17 _ q23 q1 t18) (cwI 1 hts gX11_init_X5_init rfl rfl rfl (hts (.initialized RX5) (List.mem_cons_of_mem _ (List.mem_append_left _ (List.mem_append_left _ (List.mem_append_left _ (List.mem_append_left _ (List.mem_append_left _ (List.mem_append_left _ (List.mem_append_left _ (List.mem_append_left _ (List.mem_of_getElem? (i := 21) rfl))))))))))) (hts (.methodLink RX11 41 yX5_init) (List.mem_cons_of_mem _ (List.mem_append_left _ (List.mem_append_left _ (List.mem_append_left _ (List.mem_append_left _ (List.mem_append_left _ (List.mem_append_left _ (List.mem_append_left _ (List.mem_append_right _ (List.mem_append_right _ (List.mem_append_right _ (List.mem_of_getElem? (i := 14) rfl))))))))))))) (hts (.instanceMethod yX5_init) (List.mem_cons_of_mem _ (List.mem_append_left _ (List.mem_append_left _ (List.mem_append_left _ (List.mem_append_left _ (List.mem_append_left _ (List.mem_append_left _ (List.mem_append_left _ (List.mem_append_right _ (List.mem_append_right _ (List.mem_append_right _ (List.mem_of_getElem? (i := 15) rfl))))))))))))) rfl (by decide +kernel) ⟨Nat.le_of_ble_eq_true rfl, Nat.le_of_ble_eq_true rfl⟩) ⟨th_blindC, th_preC hH hK hN hZ hS hAC24 n23 hR_q23⟩ rfl rfl hl.1 rfl (lv_room (Nat.le_of_ble_eq_true rfl)) dX11_init_69 ⟨Nat.le_of_ble_eq_true rfl, Nat.le_of_ble_eq_true rfl⟩) hS (fun x _ h => hAC24 x h) hAC24 (fun u t H locs ht hvm hw24 hB hz24 hk24 hS => ?_)
  obtain ⟨τ24, gi24, gr24⟩ := u
  try dsimp only at hw24 hB
  rw [ht] at hB
  have hH := hB
  have hR_h0 := th_P1 hR_h0 (hk24 _ lt24_h0 (th_nAC z21 ne_h0_q23 lt24_h0))
  have t25 : τ24 q1 = 1 := ((hw24.1.1 q1 (by rw [t18]; decide)).trans t18)
  have t26 : τ24 q5 = 10 := ((hw24.1.1 q5 (by rw [t19]; decide)).trans t19)
  have t27 : τ24 q10 = 7 := ((hw24.1.1 q10 (by rw [t20]; decide)).trans t20)
  have t28 : τ24 q16 = 6 := ((hw24.1.1 q16 (by rw [tn17]; decide)).trans tn17)
  have z29 : τ24 h0 = 0 := (th_zx hw24.1 z21 ne_h0_q23 lt24_h0)
  have hE := hE.tr hw24.1 (Or.inr le23) hle24 (by decide)
  have tn24 := hw24.2.1
  refine W.widen (k := 23) (n := 550) (by omega) (by omega) ?_
  refine th_rputF (ci := 10) (v := .ref q23) (T := TX11) (C := RX11) (N := 10) (ty := (.object "BayMoorings$Flight")) hx hb hts (fun w h => List.mem_cons_of_mem _ (List.mem_append_left _ (List.mem_append_left _ (List.mem_append_left _ (List.mem_append_left _ (List.mem_append_left _ (List.mem_append_right _ h))))))) tyX11 tyX11_ok nmX11 hown hK hH hS z29 (Or.inl rfl) hR_h0 rfl 4 (by decide) (hts (.fieldLink RX11 42 "BayMoorings" "flight" "LBayMoorings$Flight;") (List.mem_cons_of_mem _ (List.mem_append_left _ (List.mem_append_left _ (List.mem_append_left _ (List.mem_append_left _ (List.mem_append_left _ (List.mem_append_left _ (List.mem_append_left _ (List.mem_append_left _ (List.mem_of_getElem? (i := 22) rfl))))))))))) (fun _ h9 => h9) rfl hin rfl (by decide +kernel) rfl rfl (Nat.le_of_ble_eq_true rfl) dX11_init_72 (fun H locs hR_h0 hH hS y30 o30 => ?_)
  have hR_h0 : va_P D vwCl [(h0, .inr (10, [.ref q1, .ref q5, .ref q10, .ref q16, .ref q23, .null, .null, .int 0, .int 0, .int 0]))] H := hR_h0
  refine lv_aload_n hx hb dX11_init_75 rfl (lv_at hl 0 rfl) ?_
  refine lv_bipush (v := 6) hx hb dX11_init_76 (by decide) ?_
  have hle31 := hS.1
  have lt31_h0 := (hR_h0 0 _ rfl).lt
  refine th_newI (atype := .int) (cI := cA 0) (N' := 6) hx hb (hts (.arrayClass .int) (List.mem_cons_of_mem _ (List.mem_append_left _ (List.mem_append_left _ (List.mem_append_left _ (List.mem_append_left _ (List.mem_append_left _ (List.mem_append_left _ (List.mem_append_left _ (List.mem_append_left _ (List.mem_of_getElem? (i := 23) rfl))))))))))) hK 0 rfl (fun h => h) hH hS hA 36 (by decide) (by decide) (by decide) (Nat.le_of_ble_eq_true rfl) (Nat.le_of_ble_eq_true rfl) rfl (fun _ => rfl) (fun _ _ => trivial) dX11_init_78 (fun q31 H s31 y31 n31 o31 hH hS => ?_)
  have le31 : s.heap.size ≤ q31 := by rw [← s31]; exact hle31
  have hR_h0 := th_P1 hR_h0 (o31 _ (by rw [← s31]; exact lt31_h0))
  obtain ⟨τ31, et31⟩ : ∃ t, t = va_up τ24 q31 36 := ⟨_, rfl⟩
  have zz31 := hE.z n31
  obtain ⟨gi31, eg31⟩ : ∃ g, g = va_up gi24 q31 (fun _ => 0) := ⟨_, rfl⟩
  have hE := hE.add (k0 := 36) (f := (fun _ => 0)) (r := gr24 q31) n31 (Or.inr le31)
  rw [th_upid gr24 q31, ← et31, ← eg31] at hE
  rw [← et31, ← eg31] at hH
  have og31 : ∀ b, b ≠ q31 → gi31 b = gi24 b := fun b hb => by rw [eg31]; exact va_up_ne _ _ hb
  have t32 : τ31 q1 = 1 := (by rw [et31]; exact th_tk t25 (by decide) n31)
  have t33 : τ31 q5 = 10 := (by rw [et31]; exact th_tk t26 (by decide) n31)
  have t34 : τ31 q10 = 7 := (by rw [et31]; exact th_tk t27 (by decide) n31)
  have t35 : τ31 q16 = 6 := (by rw [et31]; exact th_tk t28 (by decide) n31)
  have t36 : τ31 q23 = 5 := (by rw [et31]; exact th_tk tn24 (by decide) n31)
  have z37 : τ31 h0 = 0 := (by rw [et31]; exact th_tz z29 (Nat.ne_of_lt (by rw [← s31]; exact lt31_h0)))
  have tn31 : τ31 q31 = 36 := by rw [et31]; exact va_up_self _ _ _
  refine W.widen (k := 24) (n := 556) (by omega) (by omega) ?_
  refine th_rputF (ci := 10) (v := .ref q31) (T := TX11) (C := RX11) (N := 10) (ty := (.array .int)) hx hb hts (fun w h => List.mem_cons_of_mem _ (List.mem_append_left _ (List.mem_append_left _ (List.mem_append_left _ (List.mem_append_left _ (List.mem_append_left _ (List.mem_append_right _ h))))))) tyX11 tyX11_ok nmX11 hown hK hH hS z37 (Or.inl rfl) hR_h0 rfl 5 (by decide) (hts (.fieldLink RX11 46 "BayMoorings" "findings" "[I") (List.mem_cons_of_mem _ (List.mem_append_left _ (List.mem_append_left _ (List.mem_append_left _ (List.mem_append_left _ (List.mem_append_left _ (List.mem_append_left _ (List.mem_append_left _ (List.mem_append_right _ (List.mem_append_left _ (List.mem_of_getElem? (i := 0) rfl)))))))))))) (fun _ h9 => h9) rfl hin rfl (by decide +kernel) rfl rfl (Nat.le_of_ble_eq_true rfl) dX11_init_80 (fun H locs hR_h0 hH hS y38 o38 => ?_)
  have hR_h0 : va_P D vwCl [(h0, .inr (10, [.ref q1, .ref q5, .ref q10, .ref q16, .ref q23, .ref q31, .null, .int 0, .int 0, .int 0]))] H := hR_h0
  refine lv_aload_n hx hb dX11_init_83 rfl (lv_at hl 0 rfl) ?_
  refine lv_bipush (v := 24) hx hb dX11_init_84 (by decide) ?_
  have hle39 := hS.1
  have lt39_h0 := (hR_h0 0 _ rfl).lt
  refine th_newI (atype := .int) (cI := cA 0) (N' := 24) hx hb (hts (.arrayClass .int) (List.mem_cons_of_mem _ (List.mem_append_left _ (List.mem_append_left _ (List.mem_append_left _ (List.mem_append_left _ (List.mem_append_left _ (List.mem_append_left _ (List.mem_append_left _ (List.mem_append_left _ (List.mem_of_getElem? (i := 23) rfl))))))))))) hK 0 rfl (fun h => h) hH hS hA 37 (by decide) (by decide) (by decide) (Nat.le_of_ble_eq_true rfl) (Nat.le_of_ble_eq_true rfl) rfl (fun _ => rfl) (fun _ _ => trivial) dX11_init_86 (fun q39 H s39 y39 n39 o39 hH hS => ?_)
  have le39 : s.heap.size ≤ q39 := by rw [← s39]; exact hle39
  have hR_h0 := th_P1 hR_h0 (o39 _ (by rw [← s39]; exact lt39_h0))
  obtain ⟨τ39, et39⟩ : ∃ t, t = va_up τ31 q39 37 := ⟨_, rfl⟩
  have zz39 := hE.z n39
  obtain ⟨gi39, eg39⟩ : ∃ g, g = va_up gi31 q39 (fun _ => 0) := ⟨_, rfl⟩
  have hE := hE.add (k0 := 37) (f := (fun _ => 0)) (r := gr24 q39) n39 (Or.inr le39)
  rw [th_upid gr24 q39, ← et39, ← eg39] at hE
  rw [← et39, ← eg39] at hH
  have og39 : ∀ b, b ≠ q39 → gi39 b = gi31 b := fun b hb => by rw [eg39]; exact va_up_ne _ _ hb
  have t40 : τ39 q1 = 1 := (by rw [et39]; exact th_tk t32 (by decide) n39)
  have t41 : τ39 q5 = 10 := (by rw [et39]; exact th_tk t33 (by decide) n39)
  have t42 : τ39 q10 = 7 := (by rw [et39]; exact th_tk t34 (by decide) n39)
  have t43 : τ39 q16 = 6 := (by rw [et39]; exact th_tk t35 (by decide) n39)
  have t44 : τ39 q23 = 5 := (by rw [et39]; exact th_tk t36 (by decide) n39)
  have t45 : τ39 q31 = 36 := (by rw [et39]; exact th_tk tn31 (by decide) n39)
  have z46 : τ39 h0 = 0 := (by rw [et39]; exact th_tz z37 (Nat.ne_of_lt (by rw [← s39]; exact lt39_h0)))
  have tn39 : τ39 q39 = 37 := by rw [et39]; exact va_up_self _ _ _
  refine W.widen (k := 25) (n := 580) (by omega) (by omega) ?_
  refine th_rputF (ci := 10) (v := .ref q39) (T := TX11) (C := RX11) (N := 10) (ty := (.array .int)) hx hb hts (fun w h => List.mem_cons_of_mem _ (List.mem_append_left _ (List.mem_append_left _ (List.mem_append_left _ (List.mem_append_left _ (List.mem_append_left _ (List.mem_append_right _ h))))))) tyX11 tyX11_ok nmX11 hown hK hH hS z46 (Or.inl rfl) hR_h0 rfl 6 (by decide) (hts (.fieldLink RX11 50 "BayMoorings" "numbers" "[I") (List.mem_cons_of_mem _ (List.mem_append_left _ (List.mem_append_left _ (List.mem_append_left _ (List.mem_append_left _ (List.mem_append_left _ (List.mem_append_left _ (List.mem_append_left _ (List.mem_append_right _ (List.mem_append_left _ (List.mem_of_getElem? (i := 1) rfl)))))))))))) (fun _ h9 => h9) rfl hin rfl (by decide +kernel) rfl rfl (Nat.le_of_ble_eq_true rfl) dX11_init_88 (fun H locs hR_h0 hH hS y47 o47 => ?_)
  have hR_h0 : va_P D vwCl [(h0, .inr (10, [.ref q1, .ref q5, .ref q10, .ref q16, .ref q23, .ref q31, .ref q39, .int 0, .int 0, .int 0]))] H := hR_h0
  refine lv_aload_n hx hb dX11_init_91 rfl (lv_at hl 0 rfl) ?_
  refine lv_iconst (v := 0) hx hb dX11_init_92 (by decide) ?_
  refine th_rput (ci := 10) (v := .int 0) (T := TX11) (C := RX11) (N := 10) (ty := .int) hx hb hts (fun w h => List.mem_cons_of_mem _ (List.mem_append_left _ (List.mem_append_left _ (List.mem_append_left _ (List.mem_append_left _ (List.mem_append_left _ (List.mem_append_right _ h))))))) tyX11 tyX11_ok nmX11 hown hK hH hS z46 (Or.inl rfl) hR_h0 rfl 7 (by decide) (hts (.fieldLink RX11 53 "BayMoorings" "numberCount" "I") (List.mem_cons_of_mem _ (List.mem_append_left _ (List.mem_append_left _ (List.mem_append_left _ (List.mem_append_left _ (List.mem_append_left _ (List.mem_append_left _ (List.mem_append_left _ (List.mem_append_right _ (List.mem_append_left _ (List.mem_of_getElem? (i := 2) rfl)))))))))))) (fun _ h9 => h9) rfl (by decide +kernel) rfl rfl (Nat.le_of_ble_eq_true rfl) dX11_init_93 (fun H locs hR_h0 hH hS y48 o48 => ?_)
  have hR_h0 : va_P D vwCl [(h0, .inr (10, [.ref q1, .ref q5, .ref q10, .ref q16, .ref q23, .ref q31, .ref q39, .int 0, .int 0, .int 0]))] H := hR_h0
  refine lv_aload_n hx hb dX11_init_96 rfl (lv_at hl 0 rfl) ?_
  refine lv_iconst (v := 3) hx hb dX11_init_97 (by decide) ?_
  refine th_rput (ci := 10) (v := .int 3) (T := TX11) (C := RX11) (N := 10) (ty := .int) hx hb hts (fun w h => List.mem_cons_of_mem _ (List.mem_append_left _ (List.mem_append_left _ (List.mem_append_left _ (List.mem_append_left _ (List.mem_append_left _ (List.mem_append_right _ h))))))) tyX11 tyX11_ok nmX11 hown hK hH hS z46 (Or.inl rfl) hR_h0 rfl 8 (by decide) (hts (.fieldLink RX11 57 "BayMoorings" "rateNow" "I") (List.mem_cons_of_mem _ (List.mem_append_left _ (List.mem_append_left _ (List.mem_append_left _ (List.mem_append_left _ (List.mem_append_left _ (List.mem_append_left _ (List.mem_append_left _ (List.mem_append_right _ (List.mem_append_left _ (List.mem_of_getElem? (i := 3) rfl)))))))))))) (fun _ h9 => h9) rfl (by decide +kernel) rfl rfl (Nat.le_of_ble_eq_true rfl) dX11_init_98 (fun H locs hR_h0 hH hS y49 o49 => ?_)
  have hR_h0 : va_P D vwCl [(h0, .inr (10, [.ref q1, .ref q5, .ref q10, .ref q16, .ref q23, .ref q31, .ref q39, .int 0, .int 3, .int 0]))] H := hR_h0
  refine lv_aload_n hx hb dX11_init_101 rfl (lv_at hl 0 rfl) ?_
  refine lv_iconst (v := 1) hx hb dX11_init_102 (by decide) ?_
  refine th_rput (ci := 10) (v := .int 1) (T := TX11) (C := RX11) (N := 10) (ty := .boolean) hx hb hts (fun w h => List.mem_cons_of_mem _ (List.mem_append_left _ (List.mem_append_left _ (List.mem_append_left _ (List.mem_append_left _ (List.mem_append_left _ (List.mem_append_right _ h))))))) tyX11 tyX11_ok nmX11 hown hK hH hS z46 (Or.inl rfl) hR_h0 rfl 9 (by decide) (hts (.fieldLink RX11 60 "BayMoorings" "refuserStays" "Z") (List.mem_cons_of_mem _ (List.mem_append_left _ (List.mem_append_left _ (List.mem_append_left _ (List.mem_append_left _ (List.mem_append_left _ (List.mem_append_left _ (List.mem_append_left _ (List.mem_append_right _ (List.mem_append_left _ (List.mem_of_getElem? (i := 4) rfl)))))))))))) (fun _ h9 => h9) rfl (by decide +kernel) (rg_nb (rg_w (show rg 1 1 (1 : Int32) from ⟨by decide, by decide⟩) (by decide) (by decide))) (rg_fb (rg_w (show rg 1 1 (1 : Int32) from ⟨by decide, by decide⟩) (by decide) (by decide))) (Nat.le_of_ble_eq_true rfl) dX11_init_103 (fun H locs hR_h0 hH hS y50 o50 => ?_)
  have hR_h0 : va_P D vwCl [(h0, .inr (10, [.ref q1, .ref q5, .ref q10, .ref q16, .ref q23, .ref q31, .ref q39, .int 0, .int 3, .int 1]))] H := hR_h0
  have hFp := hH.push (k0 := 11) (f := (fun k => match k with | 8 => 3 | 9 => 1 | _ => 0)) (r := (fun k => match k with | 0 => some q1 | 1 => some q5 | 2 => some q10 | 3 => some q16 | 4 => some q23 | 5 => some q31 | 6 => some q39 | _ => none)) (H1 := _) z46 (hR_h0 0 _ rfl) (⟨⟨q1, rfl, th_tk t40 (by decide) z46⟩, ⟨q5, rfl, th_tk t41 (by decide) z46⟩, ⟨q10, rfl, th_tk t42 (by decide) z46⟩, ⟨q16, rfl, th_tk t43 (by decide) z46⟩, ⟨q23, rfl, th_tk t44 (by decide) z46⟩, ⟨q31, rfl, th_tk t45 (by decide) z46⟩, ⟨q39, rfl, th_tk tn39 (by decide) z46⟩, (rg_w (show rg 0 0 (0 : Int32) from ⟨by decide, by decide⟩) (by decide) (by decide)), (rg_w (show rg 1 1 (1 : Int32) from ⟨by decide, by decide⟩) (by decide) (by decide))⟩) (fun _ _ => rfl)
  exact W.vret hx hb hr (fun t ht hW => ⟨⟨(va_up τ39 h0 11, va_up gi39 h0 (fun k => match k with | 8 => 3 | 9 => 1 | _ => 0), va_up gr24 h0 (fun k => match k with | 0 => some q1 | 1 => some q5 | 2 => some q10 | 3 => some q16 | 4 => some q23 | 5 => some q31 | 6 => some q39 | _ => none)), rfl, ⟨hE.add z46 (Or.inl rfl), va_up_self _ _ _, congrFun (va_up_self _ _ _) 7, congrFun (va_up_self _ _ _) 8, congrFun (va_up_self _ _ _) 9, (hF _ _ _ (by (try simp only [M_X11_init]); refine ⟨q1, n1, ne_h0_q1, ?_⟩; refine ⟨τ2, gi2, gr2, hw2.2.2.2.2.2.2, z3, ?_⟩; refine ⟨q5, n5, ne_h0_q5, ?_⟩; refine ⟨τ6, gi6, gr6, hw6.2.2, z8, ?_⟩; refine ⟨q10, n10, ne_h0_q10, ?_⟩; refine ⟨τ11, gi11, gr11, hw11.2.2, z14, ?_⟩; refine ⟨q16, n16, ne_h0_q16, ?_⟩; refine ⟨τ17, gi17, gr17, hw17.2.2, z21, ?_⟩; refine ⟨q23, n23, ne_h0_q23, ?_⟩; refine ⟨τ24, gi24, gr24, hw24.2.2, z29, ?_⟩; refine ⟨q31, n31, Nat.ne_of_lt (by rw [← s31]; exact lt31_h0), ?_⟩; (try simp only [← et31, ← eg31]); refine ⟨q39, n39, Nat.ne_of_lt (by rw [← s39]; exact lt39_h0), ?_⟩; (try simp only [← et31, ← eg31, ← et39, ← eg39]); first | done | exact ⟨(by first | rfl | trivial), (by first | rfl | trivial), (by first | rfl | trivial)⟩))⟩, th_Ht ht hFp⟩, hS.F ht⟩) hS.2.2 dX11_init_106

set_option maxHeartbeats 20000000 in
set_option maxRecDepth 100000 in
theorem k_X12_init (l : Launch) (D : va_G) (cA : Nat → ClassId) (Z : th_Zt) (τ : th_t) (gi : th_i) (gr : th_r) (sz : Nat) (h0 : Nat) : Met l yX12_init wsX12_init ({ frames := 1, cells := 29, slots := 709, locals := 30 }) (va_Pc [.ref h0] (th_PreC D cA Z τ gi gr sz h0 (.inr (11, [.int 0, .null, .null, .null, .null, .null, .null, .null, .int 0, .null, .null, .null, .null, .null, .int 0, .null, .null, .int 0, .null, .null, .int 0, .null, .null, .int 0, .int 0, .null, .null, .int 0, .null, .null, .null, .null, .null, .int 0, .null, .null, .null, .null])))) (va_Qv (fun (u : th_t × th_i × th_r) => th_Ext [5200, 5300] τ gi gr sz h0 u.1 u.2.1 u.2.2 ∧ u.1 h0 = 12 ∧ (u.2.1 h0 0 = 0) ∧ (u.2.1 h0 8 = 0) ∧ (u.2.1 h0 14 = 255) ∧ (u.2.1 h0 17 = 0) ∧ (u.2.1 h0 20 = 1) ∧ (u.2.1 h0 23 = 3) ∧ (u.2.1 h0 24 = 0)) (fun (u : th_t × th_i × th_r) t => th_H D cA u.1 u.2.1 u.2.2 t.heap) (th_AC τ sz h0)) 29 709 (th_AC τ sz h0) := by
  refine Met.ofW (cc := cX12_init) (maxL := 1) (ret := none) (by decide) rfl ?_
  intro p e s m args below meth c s₁ B hml hv
  obtain ⟨rfl, hsz, hH, hK, hN, hZ, z_h0, hR_h0⟩ := hv
  have hx := B.exec
  have hb := B.bytes
  have hr := B.returns
  have hts := atoms_spec (ws := wsX12_init) B.pre
  have hown : s.vm.findClass RX12 = some m.cls := findClass_of_methodNamed B.named
  have hlocks := B.notSynchronized
  have hin : meth.name = "<init>" := (name_of_methodNamed B.named B.method).1
  subst hsz
  have hA : ∀ q : Nat, s.heap.size ≤ q → (th_AC τ s.heap.size h0) q := fun q h => Or.inr (Or.inr h)
  have hE : th_Ext [5200, 5300] τ gi gr s.heap.size h0 τ gi gr := th_Ext.rf
  have hS : va_S (th_AC τ s.heap.size h0) s.heap s.heap [] := va_S.rf
  have hl := lv_entry ([.ref h0]) (n := 1) (Nat.le_of_ble_eq_true rfl)
  rw [lg_entry_eq]
  generalize (lg_sl ([.ref h0]) ++ List.replicate (1 - (lg_sl ([.ref h0])).length) Slot.unset).toArray = ls at hl ⊢
  have hl : lv_has ls 1 [(0, .ref h0)] := hl
  refine lv_aload_n hx hb dX12_init_0 rfl (lv_at hl 0 rfl) ?_
  refine W.objInit hx hb hown (hts (.methodLink RX12 3 objectInit) (List.mem_cons_of_mem _ (List.mem_append_left _ (List.mem_append_left _ (List.mem_of_getElem? (i := 0) rfl))))) (hts (.instanceMethod objectInit) (List.mem_cons_of_mem _ (List.mem_append_left _ (List.mem_append_left _ (List.mem_of_getElem? (i := 1) rfl))))) (hts (.code objectInit ⟨#[0xb1]⟩ 1 none) (List.mem_cons_of_mem _ (List.mem_append_left _ (List.mem_append_left _ (List.mem_of_getElem? (i := 2) rfl))))) rfl (by rw [hml]; exact hl.1) rfl dX12_init_1 (Nat.le_of_ble_eq_true rfl) (Nat.le_of_ble_eq_true rfl) ?_
  refine W.eq (g2 := F0 m 4 ls []) rfl ?_
  refine lv_aload_n hx hb dX12_init_4 rfl (lv_at hl 0 rfl) ?_
  refine lv_bipush (v := 12) hx hb dX12_init_5 (by decide) ?_
  have hle1 := hS.1
  have lt1_h0 := (hR_h0 0 _ rfl).lt
  refine th_newI (atype := .int) (cI := cA 0) (N' := 12) hx hb (hts (.arrayClass .int) (List.mem_cons_of_mem _ (List.mem_append_left _ (List.mem_append_left _ (List.mem_of_getElem? (i := 3) rfl))))) hK 0 rfl (fun h => h) hH hS hA 40 (by decide) (by decide) (by decide) (Nat.le_of_ble_eq_true rfl) (Nat.le_of_ble_eq_true rfl) rfl (fun _ => rfl) (fun _ _ => trivial) dX12_init_7 (fun q1 H s1 y1 n1 o1 hH hS => ?_)
  have le1 : s.heap.size ≤ q1 := by rw [← s1]; exact hle1
  have hR_h0 := th_P1 hR_h0 (o1 _ (by rw [← s1]; exact lt1_h0))
  obtain ⟨τ1, et1⟩ : ∃ t, t = va_up τ q1 40 := ⟨_, rfl⟩
  have zz1 := hE.z n1
  obtain ⟨gi1, eg1⟩ : ∃ g, g = va_up gi q1 (fun _ => 0) := ⟨_, rfl⟩
  have hE := hE.add (k0 := 40) (f := (fun _ => 0)) (r := gr q1) n1 (Or.inr le1)
  rw [th_upid gr q1, ← et1, ← eg1] at hE
  rw [← et1, ← eg1] at hH
  have og1 : ∀ b, b ≠ q1 → gi1 b = gi b := fun b hb => by rw [eg1]; exact va_up_ne _ _ hb
  have z2 : τ1 h0 = 0 := (by rw [et1]; exact th_tz z_h0 (Nat.ne_of_lt (by rw [← s1]; exact lt1_h0)))
  have tn1 : τ1 q1 = 40 := by rw [et1]; exact va_up_self _ _ _
  refine W.widen (k := 1) (n := 12) (by omega) (by omega) ?_
  refine th_rputF (ci := 11) (v := .ref q1) (T := TX12) (C := RX12) (N := 38) (ty := (.array .int)) hx hb hts (fun w h => List.mem_cons_of_mem _ (List.mem_append_right _ h)) tyX12 tyX12_ok nmX12 hown hK hH hS z2 (Or.inl rfl) hR_h0 rfl 1 (by decide) (hts (.fieldLink RX12 9 "BayMooringsModel" "atX" "[I") (List.mem_cons_of_mem _ (List.mem_append_left _ (List.mem_append_left _ (List.mem_of_getElem? (i := 4) rfl))))) (fun _ h9 => h9) rfl hin rfl (by decide +kernel) rfl rfl (Nat.le_of_ble_eq_true rfl) dX12_init_9 (fun H locs hR_h0 hH hS y3 o3 => ?_)
  have hR_h0 : va_P D vwCl [(h0, .inr (11, [.int 0, .ref q1, .null, .null, .null, .null, .null, .null, .int 0, .null, .null, .null, .null, .null, .int 0, .null, .null, .int 0, .null, .null, .int 0, .null, .null, .int 0, .int 0, .null, .null, .int 0, .null, .null, .null, .null, .null, .int 0, .null, .null, .null, .null]))] H := hR_h0
  refine lv_aload_n hx hb dX12_init_12 rfl (lv_at hl 0 rfl) ?_
  refine lv_bipush (v := 12) hx hb dX12_init_13 (by decide) ?_
  have hle4 := hS.1
  have lt4_h0 := (hR_h0 0 _ rfl).lt
  refine th_newI (atype := .int) (cI := cA 0) (N' := 12) hx hb (hts (.arrayClass .int) (List.mem_cons_of_mem _ (List.mem_append_left _ (List.mem_append_left _ (List.mem_of_getElem? (i := 3) rfl))))) hK 0 rfl (fun h => h) hH hS hA 41 (by decide) (by decide) (by decide) (Nat.le_of_ble_eq_true rfl) (Nat.le_of_ble_eq_true rfl) rfl (fun _ => rfl) (fun _ _ => trivial) dX12_init_15 (fun q4 H s4 y4 n4 o4 hH hS => ?_)
  have le4 : s.heap.size ≤ q4 := by rw [← s4]; exact hle4
  have hR_h0 := th_P1 hR_h0 (o4 _ (by rw [← s4]; exact lt4_h0))
  obtain ⟨τ4, et4⟩ : ∃ t, t = va_up τ1 q4 41 := ⟨_, rfl⟩
  have zz4 := hE.z n4
  obtain ⟨gi4, eg4⟩ : ∃ g, g = va_up gi1 q4 (fun _ => 0) := ⟨_, rfl⟩
  have hE := hE.add (k0 := 41) (f := (fun _ => 0)) (r := gr q4) n4 (Or.inr le4)
  rw [th_upid gr q4, ← et4, ← eg4] at hE
  rw [← et4, ← eg4] at hH
  have og4 : ∀ b, b ≠ q4 → gi4 b = gi1 b := fun b hb => by rw [eg4]; exact va_up_ne _ _ hb
  have t5 : τ4 q1 = 40 := (by rw [et4]; exact th_tk tn1 (by decide) n4)
  have z6 : τ4 h0 = 0 := (by rw [et4]; exact th_tz z2 (Nat.ne_of_lt (by rw [← s4]; exact lt4_h0)))
  have tn4 : τ4 q4 = 41 := by rw [et4]; exact va_up_self _ _ _
  refine W.widen (k := 2) (n := 24) (by omega) (by omega) ?_
  refine th_rputF (ci := 11) (v := .ref q4) (T := TX12) (C := RX12) (N := 38) (ty := (.array .int)) hx hb hts (fun w h => List.mem_cons_of_mem _ (List.mem_append_right _ h)) tyX12 tyX12_ok nmX12 hown hK hH hS z6 (Or.inl rfl) hR_h0 rfl 2 (by decide) (hts (.fieldLink RX12 13 "BayMooringsModel" "atY" "[I") (List.mem_cons_of_mem _ (List.mem_append_left _ (List.mem_append_left _ (List.mem_of_getElem? (i := 5) rfl))))) (fun _ h9 => h9) rfl hin rfl (by decide +kernel) rfl rfl (Nat.le_of_ble_eq_true rfl) dX12_init_17 (fun H locs hR_h0 hH hS y7 o7 => ?_)
  have hR_h0 : va_P D vwCl [(h0, .inr (11, [.int 0, .ref q1, .ref q4, .null, .null, .null, .null, .null, .int 0, .null, .null, .null, .null, .null, .int 0, .null, .null, .int 0, .null, .null, .int 0, .null, .null, .int 0, .int 0, .null, .null, .int 0, .null, .null, .null, .null, .null, .int 0, .null, .null, .null, .null]))] H := hR_h0
  refine lv_aload_n hx hb dX12_init_20 rfl (lv_at hl 0 rfl) ?_
  refine lv_bipush (v := 12) hx hb dX12_init_21 (by decide) ?_
  have hle8 := hS.1
  have lt8_h0 := (hR_h0 0 _ rfl).lt
  refine th_newI (atype := .int) (cI := cA 0) (N' := 12) hx hb (hts (.arrayClass .int) (List.mem_cons_of_mem _ (List.mem_append_left _ (List.mem_append_left _ (List.mem_of_getElem? (i := 3) rfl))))) hK 0 rfl (fun h => h) hH hS hA 42 (by decide) (by decide) (by decide) (Nat.le_of_ble_eq_true rfl) (Nat.le_of_ble_eq_true rfl) rfl (fun _ => rfl) (fun _ _ => (fun _ _ => (show rg 0 300 (0 : Int32) from ⟨by decide, by decide⟩))) dX12_init_23 (fun q8 H s8 y8 n8 o8 hH hS => ?_)
  have le8 : s.heap.size ≤ q8 := by rw [← s8]; exact hle8
  have hR_h0 := th_P1 hR_h0 (o8 _ (by rw [← s8]; exact lt8_h0))
  obtain ⟨τ8, et8⟩ : ∃ t, t = va_up τ4 q8 42 := ⟨_, rfl⟩
  have zz8 := hE.z n8
  obtain ⟨gi8, eg8⟩ : ∃ g, g = va_up gi4 q8 (fun _ => 0) := ⟨_, rfl⟩
  have hE := hE.add (k0 := 42) (f := (fun _ => 0)) (r := gr q8) n8 (Or.inr le8)
  rw [th_upid gr q8, ← et8, ← eg8] at hE
  rw [← et8, ← eg8] at hH
  have og8 : ∀ b, b ≠ q8 → gi8 b = gi4 b := fun b hb => by rw [eg8]; exact va_up_ne _ _ hb
  have t9 : τ8 q1 = 40 := (by rw [et8]; exact th_tk t5 (by decide) n8)
  have t10 : τ8 q4 = 41 := (by rw [et8]; exact th_tk tn4 (by decide) n8)
  have z11 : τ8 h0 = 0 := (by rw [et8]; exact th_tz z6 (Nat.ne_of_lt (by rw [← s8]; exact lt8_h0)))
  have tn8 : τ8 q8 = 42 := by rw [et8]; exact va_up_self _ _ _
  refine W.widen (k := 3) (n := 36) (by omega) (by omega) ?_
  refine th_rputF (ci := 11) (v := .ref q8) (T := TX12) (C := RX12) (N := 38) (ty := (.array .int)) hx hb hts (fun w h => List.mem_cons_of_mem _ (List.mem_append_right _ h)) tyX12 tyX12_ok nmX12 hown hK hH hS z11 (Or.inl rfl) hR_h0 rfl 3 (by decide) (hts (.fieldLink RX12 16 "BayMooringsModel" "depth" "[I") (List.mem_cons_of_mem _ (List.mem_append_left _ (List.mem_append_left _ (List.mem_of_getElem? (i := 6) rfl))))) (fun _ h9 => h9) rfl hin rfl (by decide +kernel) rfl rfl (Nat.le_of_ble_eq_true rfl) dX12_init_25 (fun H locs hR_h0 hH hS y12 o12 => ?_)
  have hR_h0 : va_P D vwCl [(h0, .inr (11, [.int 0, .ref q1, .ref q4, .ref q8, .null, .null, .null, .null, .int 0, .null, .null, .null, .null, .null, .int 0, .null, .null, .int 0, .null, .null, .int 0, .null, .null, .int 0, .int 0, .null, .null, .int 0, .null, .null, .null, .null, .null, .int 0, .null, .null, .null, .null]))] H := hR_h0
  refine lv_aload_n hx hb dX12_init_28 rfl (lv_at hl 0 rfl) ?_
  refine lv_bipush (v := 12) hx hb dX12_init_29 (by decide) ?_
  have hle13 := hS.1
  have lt13_h0 := (hR_h0 0 _ rfl).lt
  refine th_newI (atype := .int) (cI := cA 0) (N' := 12) hx hb (hts (.arrayClass .int) (List.mem_cons_of_mem _ (List.mem_append_left _ (List.mem_append_left _ (List.mem_of_getElem? (i := 3) rfl))))) hK 0 rfl (fun h => h) hH hS hA 43 (by decide) (by decide) (by decide) (Nat.le_of_ble_eq_true rfl) (Nat.le_of_ble_eq_true rfl) rfl (fun _ => rfl) (fun _ _ => (fun _ _ => (show rg 0 400 (0 : Int32) from ⟨by decide, by decide⟩))) dX12_init_31 (fun q13 H s13 y13 n13 o13 hH hS => ?_)
  have le13 : s.heap.size ≤ q13 := by rw [← s13]; exact hle13
  have hR_h0 := th_P1 hR_h0 (o13 _ (by rw [← s13]; exact lt13_h0))
  obtain ⟨τ13, et13⟩ : ∃ t, t = va_up τ8 q13 43 := ⟨_, rfl⟩
  have zz13 := hE.z n13
  obtain ⟨gi13, eg13⟩ : ∃ g, g = va_up gi8 q13 (fun _ => 0) := ⟨_, rfl⟩
  have hE := hE.add (k0 := 43) (f := (fun _ => 0)) (r := gr q13) n13 (Or.inr le13)
  rw [th_upid gr q13, ← et13, ← eg13] at hE
  rw [← et13, ← eg13] at hH
  have og13 : ∀ b, b ≠ q13 → gi13 b = gi8 b := fun b hb => by rw [eg13]; exact va_up_ne _ _ hb
  have t14 : τ13 q1 = 40 := (by rw [et13]; exact th_tk t9 (by decide) n13)
  have t15 : τ13 q4 = 41 := (by rw [et13]; exact th_tk t10 (by decide) n13)
  have t16 : τ13 q8 = 42 := (by rw [et13]; exact th_tk tn8 (by decide) n13)
  have z17 : τ13 h0 = 0 := (by rw [et13]; exact th_tz z11 (Nat.ne_of_lt (by rw [← s13]; exact lt13_h0)))
  have tn13 : τ13 q13 = 43 := by rw [et13]; exact va_up_self _ _ _
  refine W.widen (k := 4) (n := 48) (by omega) (by omega) ?_
  refine th_rputF (ci := 11) (v := .ref q13) (T := TX12) (C := RX12) (N := 38) (ty := (.array .int)) hx hb hts (fun w h => List.mem_cons_of_mem _ (List.mem_append_right _ h)) tyX12 tyX12_ok nmX12 hown hK hH hS z17 (Or.inl rfl) hR_h0 rfl 4 (by decide) (hts (.fieldLink RX12 19 "BayMooringsModel" "chain" "[I") (List.mem_cons_of_mem _ (List.mem_append_left _ (List.mem_append_left _ (List.mem_of_getElem? (i := 7) rfl))))) (fun _ h9 => h9) rfl hin rfl (by decide +kernel) rfl rfl (Nat.le_of_ble_eq_true rfl) dX12_init_33 (fun H locs hR_h0 hH hS y18 o18 => ?_)
  have hR_h0 : va_P D vwCl [(h0, .inr (11, [.int 0, .ref q1, .ref q4, .ref q8, .ref q13, .null, .null, .null, .int 0, .null, .null, .null, .null, .null, .int 0, .null, .null, .int 0, .null, .null, .int 0, .null, .null, .int 0, .int 0, .null, .null, .int 0, .null, .null, .null, .null, .null, .int 0, .null, .null, .null, .null]))] H := hR_h0
  refine lv_aload_n hx hb dX12_init_36 rfl (lv_at hl 0 rfl) ?_
  refine lv_bipush (v := 12) hx hb dX12_init_37 (by decide) ?_
  have hle19 := hS.1
  have lt19_h0 := (hR_h0 0 _ rfl).lt
  refine th_newI (atype := .int) (cI := cA 0) (N' := 12) hx hb (hts (.arrayClass .int) (List.mem_cons_of_mem _ (List.mem_append_left _ (List.mem_append_left _ (List.mem_of_getElem? (i := 3) rfl))))) hK 0 rfl (fun h => h) hH hS hA 44 (by decide) (by decide) (by decide) (Nat.le_of_ble_eq_true rfl) (Nat.le_of_ble_eq_true rfl) rfl (fun _ => rfl) (fun _ _ => trivial) dX12_init_39 (fun q19 H s19 y19 n19 o19 hH hS => ?_)
  have le19 : s.heap.size ≤ q19 := by rw [← s19]; exact hle19
  have hR_h0 := th_P1 hR_h0 (o19 _ (by rw [← s19]; exact lt19_h0))
  obtain ⟨τ19, et19⟩ : ∃ t, t = va_up τ13 q19 44 := ⟨_, rfl⟩
  have zz19 := hE.z n19
  obtain ⟨gi19, eg19⟩ : ∃ g, g = va_up gi13 q19 (fun _ => 0) := ⟨_, rfl⟩
  have hE := hE.add (k0 := 44) (f := (fun _ => 0)) (r := gr q19) n19 (Or.inr le19)
  rw [th_upid gr q19, ← et19, ← eg19] at hE
  rw [← et19, ← eg19] at hH
  have og19 : ∀ b, b ≠ q19 → gi19 b = gi13 b := fun b hb => by rw [eg19]; exact va_up_ne _ _ hb
  have t20 : τ19 q1 = 40 := (by rw [et19]; exact th_tk t14 (by decide) n19)
  have t21 : τ19 q4 = 41 := (by rw [et19]; exact th_tk t15 (by decide) n19)
  have t22 : τ19 q8 = 42 := (by rw [et19]; exact th_tk t16 (by decide) n19)
  have t23 : τ19 q13 = 43 := (by rw [et19]; exact th_tk tn13 (by decide) n19)
  have z24 : τ19 h0 = 0 := (by rw [et19]; exact th_tz z17 (Nat.ne_of_lt (by rw [← s19]; exact lt19_h0)))
  have tn19 : τ19 q19 = 44 := by rw [et19]; exact va_up_self _ _ _
  refine W.widen (k := 5) (n := 60) (by omega) (by omega) ?_
  refine th_rputF (ci := 11) (v := .ref q19) (T := TX12) (C := RX12) (N := 38) (ty := (.array .int)) hx hb hts (fun w h => List.mem_cons_of_mem _ (List.mem_append_right _ h)) tyX12 tyX12_ok nmX12 hown hK hH hS z24 (Or.inl rfl) hR_h0 rfl 5 (by decide) (hts (.fieldLink RX12 22 "BayMooringsModel" "low" "[I") (List.mem_cons_of_mem _ (List.mem_append_left _ (List.mem_append_left _ (List.mem_of_getElem? (i := 8) rfl))))) (fun _ h9 => h9) rfl hin rfl (by decide +kernel) rfl rfl (Nat.le_of_ble_eq_true rfl) dX12_init_41 (fun H locs hR_h0 hH hS y25 o25 => ?_)
  have hR_h0 : va_P D vwCl [(h0, .inr (11, [.int 0, .ref q1, .ref q4, .ref q8, .ref q13, .ref q19, .null, .null, .int 0, .null, .null, .null, .null, .null, .int 0, .null, .null, .int 0, .null, .null, .int 0, .null, .null, .int 0, .int 0, .null, .null, .int 0, .null, .null, .null, .null, .null, .int 0, .null, .null, .null, .null]))] H := hR_h0
  refine lv_aload_n hx hb dX12_init_44 rfl (lv_at hl 0 rfl) ?_
  refine lv_bipush (v := 12) hx hb dX12_init_45 (by decide) ?_
  have hle26 := hS.1
  have lt26_h0 := (hR_h0 0 _ rfl).lt
  refine th_newI (atype := .int) (cI := cA 0) (N' := 12) hx hb (hts (.arrayClass .int) (List.mem_cons_of_mem _ (List.mem_append_left _ (List.mem_append_left _ (List.mem_of_getElem? (i := 3) rfl))))) hK 0 rfl (fun h => h) hH hS hA 45 (by decide) (by decide) (by decide) (Nat.le_of_ble_eq_true rfl) (Nat.le_of_ble_eq_true rfl) rfl (fun _ => rfl) (fun _ _ => trivial) dX12_init_47 (fun q26 H s26 y26 n26 o26 hH hS => ?_)
  have le26 : s.heap.size ≤ q26 := by rw [← s26]; exact hle26
  have hR_h0 := th_P1 hR_h0 (o26 _ (by rw [← s26]; exact lt26_h0))
  obtain ⟨τ26, et26⟩ : ∃ t, t = va_up τ19 q26 45 := ⟨_, rfl⟩
  have zz26 := hE.z n26
  obtain ⟨gi26, eg26⟩ : ∃ g, g = va_up gi19 q26 (fun _ => 0) := ⟨_, rfl⟩
  have hE := hE.add (k0 := 45) (f := (fun _ => 0)) (r := gr q26) n26 (Or.inr le26)
  rw [th_upid gr q26, ← et26, ← eg26] at hE
  rw [← et26, ← eg26] at hH
  have og26 : ∀ b, b ≠ q26 → gi26 b = gi19 b := fun b hb => by rw [eg26]; exact va_up_ne _ _ hb
  have t27 : τ26 q1 = 40 := (by rw [et26]; exact th_tk t20 (by decide) n26)
  have t28 : τ26 q4 = 41 := (by rw [et26]; exact th_tk t21 (by decide) n26)
  have t29 : τ26 q8 = 42 := (by rw [et26]; exact th_tk t22 (by decide) n26)
  have t30 : τ26 q13 = 43 := (by rw [et26]; exact th_tk t23 (by decide) n26)
  have t31 : τ26 q19 = 44 := (by rw [et26]; exact th_tk tn19 (by decide) n26)
  have z32 : τ26 h0 = 0 := (by rw [et26]; exact th_tz z24 (Nat.ne_of_lt (by rw [← s26]; exact lt26_h0)))
  have tn26 : τ26 q26 = 45 := by rw [et26]; exact va_up_self _ _ _
  refine W.widen (k := 6) (n := 72) (by omega) (by omega) ?_
  refine th_rputF (ci := 11) (v := .ref q26) (T := TX12) (C := RX12) (N := 38) (ty := (.array .int)) hx hb hts (fun w h => List.mem_cons_of_mem _ (List.mem_append_right _ h)) tyX12 tyX12_ok nmX12 hown hK hH hS z32 (Or.inl rfl) hR_h0 rfl 6 (by decide) (hts (.fieldLink RX12 25 "BayMooringsModel" "high" "[I") (List.mem_cons_of_mem _ (List.mem_append_left _ (List.mem_append_left _ (List.mem_of_getElem? (i := 9) rfl))))) (fun _ h9 => h9) rfl hin rfl (by decide +kernel) rfl rfl (Nat.le_of_ble_eq_true rfl) dX12_init_49 (fun H locs hR_h0 hH hS y33 o33 => ?_)
  have hR_h0 : va_P D vwCl [(h0, .inr (11, [.int 0, .ref q1, .ref q4, .ref q8, .ref q13, .ref q19, .ref q26, .null, .int 0, .null, .null, .null, .null, .null, .int 0, .null, .null, .int 0, .null, .null, .int 0, .null, .null, .int 0, .int 0, .null, .null, .int 0, .null, .null, .null, .null, .null, .int 0, .null, .null, .null, .null]))] H := hR_h0
  refine lv_aload_n hx hb dX12_init_52 rfl (lv_at hl 0 rfl) ?_
  refine lv_bipush (v := 12) hx hb dX12_init_53 (by decide) ?_
  have hle34 := hS.1
  have lt34_h0 := (hR_h0 0 _ rfl).lt
  refine th_newI (atype := .int) (cI := cA 0) (N' := 12) hx hb (hts (.arrayClass .int) (List.mem_cons_of_mem _ (List.mem_append_left _ (List.mem_append_left _ (List.mem_of_getElem? (i := 3) rfl))))) hK 0 rfl (fun h => h) hH hS hA 46 (by decide) (by decide) (by decide) (Nat.le_of_ble_eq_true rfl) (Nat.le_of_ble_eq_true rfl) rfl (fun _ => rfl) (fun _ _ => (fun _ _ => (show rg (-1) 15 (0 : Int32) from ⟨by decide, by decide⟩))) dX12_init_55 (fun q34 H s34 y34 n34 o34 hH hS => ?_)
  have le34 : s.heap.size ≤ q34 := by rw [← s34]; exact hle34
  have hR_h0 := th_P1 hR_h0 (o34 _ (by rw [← s34]; exact lt34_h0))
  obtain ⟨τ34, et34⟩ : ∃ t, t = va_up τ26 q34 46 := ⟨_, rfl⟩
  have zz34 := hE.z n34
  obtain ⟨gi34, eg34⟩ : ∃ g, g = va_up gi26 q34 (fun _ => 0) := ⟨_, rfl⟩
  have hE := hE.add (k0 := 46) (f := (fun _ => 0)) (r := gr q34) n34 (Or.inr le34)
  rw [th_upid gr q34, ← et34, ← eg34] at hE
  rw [← et34, ← eg34] at hH
  have og34 : ∀ b, b ≠ q34 → gi34 b = gi26 b := fun b hb => by rw [eg34]; exact va_up_ne _ _ hb
  have t35 : τ34 q1 = 40 := (by rw [et34]; exact th_tk t27 (by decide) n34)
  have t36 : τ34 q4 = 41 := (by rw [et34]; exact th_tk t28 (by decide) n34)
  have t37 : τ34 q8 = 42 := (by rw [et34]; exact th_tk t29 (by decide) n34)
  have t38 : τ34 q13 = 43 := (by rw [et34]; exact th_tk t30 (by decide) n34)
  have t39 : τ34 q19 = 44 := (by rw [et34]; exact th_tk t31 (by decide) n34)
  have t40 : τ34 q26 = 45 := (by rw [et34]; exact th_tk tn26 (by decide) n34)
  have z41 : τ34 h0 = 0 := (by rw [et34]; exact th_tz z32 (Nat.ne_of_lt (by rw [← s34]; exact lt34_h0)))
  have tn34 : τ34 q34 = 46 := by rw [et34]; exact va_up_self _ _ _
  refine W.widen (k := 7) (n := 84) (by omega) (by omega) ?_
  refine th_rputF (ci := 11) (v := .ref q34) (T := TX12) (C := RX12) (N := 38) (ty := (.array .int)) hx hb hts (fun w h => List.mem_cons_of_mem _ (List.mem_append_right _ h)) tyX12 tyX12_ok nmX12 hown hK hH hS z41 (Or.inl rfl) hR_h0 rfl 7 (by decide) (hts (.fieldLink RX12 28 "BayMooringsModel" "boatAt" "[I") (List.mem_cons_of_mem _ (List.mem_append_left _ (List.mem_append_left _ (List.mem_of_getElem? (i := 10) rfl))))) (fun _ h9 => h9) rfl hin rfl (by decide +kernel) rfl rfl (Nat.le_of_ble_eq_true rfl) dX12_init_57 (fun H locs hR_h0 hH hS y42 o42 => ?_)
  have hR_h0 : va_P D vwCl [(h0, .inr (11, [.int 0, .ref q1, .ref q4, .ref q8, .ref q13, .ref q19, .ref q26, .ref q34, .int 0, .null, .null, .null, .null, .null, .int 0, .null, .null, .int 0, .null, .null, .int 0, .null, .null, .int 0, .int 0, .null, .null, .int 0, .null, .null, .null, .null, .null, .int 0, .null, .null, .null, .null]))] H := hR_h0
  refine lv_aload_n hx hb dX12_init_60 rfl (lv_at hl 0 rfl) ?_
  refine lv_bipush (v := 16) hx hb dX12_init_61 (by decide) ?_
  have hle43 := hS.1
  have lt43_h0 := (hR_h0 0 _ rfl).lt
  refine th_newI (atype := .int) (cI := cA 0) (N' := 16) hx hb (hts (.arrayClass .int) (List.mem_cons_of_mem _ (List.mem_append_left _ (List.mem_append_left _ (List.mem_of_getElem? (i := 3) rfl))))) hK 0 rfl (fun h => h) hH hS hA 47 (by decide) (by decide) (by decide) (Nat.le_of_ble_eq_true rfl) (Nat.le_of_ble_eq_true rfl) rfl (fun _ => rfl) (fun _ _ => trivial) dX12_init_63 (fun q43 H s43 y43 n43 o43 hH hS => ?_)
  have le43 : s.heap.size ≤ q43 := by rw [← s43]; exact hle43
  have hR_h0 := th_P1 hR_h0 (o43 _ (by rw [← s43]; exact lt43_h0))
  obtain ⟨τ43, et43⟩ : ∃ t, t = va_up τ34 q43 47 := ⟨_, rfl⟩
  have zz43 := hE.z n43
  obtain ⟨gi43, eg43⟩ : ∃ g, g = va_up gi34 q43 (fun _ => 0) := ⟨_, rfl⟩
  have hE := hE.add (k0 := 47) (f := (fun _ => 0)) (r := gr q43) n43 (Or.inr le43)
  rw [th_upid gr q43, ← et43, ← eg43] at hE
  rw [← et43, ← eg43] at hH
  have og43 : ∀ b, b ≠ q43 → gi43 b = gi34 b := fun b hb => by rw [eg43]; exact va_up_ne _ _ hb
  have t44 : τ43 q1 = 40 := (by rw [et43]; exact th_tk t35 (by decide) n43)
  have t45 : τ43 q4 = 41 := (by rw [et43]; exact th_tk t36 (by decide) n43)
  have t46 : τ43 q8 = 42 := (by rw [et43]; exact th_tk t37 (by decide) n43)
  have t47 : τ43 q13 = 43 := (by rw [et43]; exact th_tk t38 (by decide) n43)
  have t48 : τ43 q19 = 44 := (by rw [et43]; exact th_tk t39 (by decide) n43)
  have t49 : τ43 q26 = 45 := (by rw [et43]; exact th_tk t40 (by decide) n43)
  have t50 : τ43 q34 = 46 := (by rw [et43]; exact th_tk tn34 (by decide) n43)
  have z51 : τ43 h0 = 0 := (by rw [et43]; exact th_tz z41 (Nat.ne_of_lt (by rw [← s43]; exact lt43_h0)))
  have tn43 : τ43 q43 = 47 := by rw [et43]; exact va_up_self _ _ _
  refine W.widen (k := 8) (n := 100) (by omega) (by omega) ?_
  refine th_rputF (ci := 11) (v := .ref q43) (T := TX12) (C := RX12) (N := 38) (ty := (.array .int)) hx hb hts (fun w h => List.mem_cons_of_mem _ (List.mem_append_right _ h)) tyX12 tyX12_ok nmX12 hown hK hH hS z51 (Or.inl rfl) hR_h0 rfl 9 (by decide) (hts (.fieldLink RX12 31 "BayMooringsModel" "kindOf" "[I") (List.mem_cons_of_mem _ (List.mem_append_left _ (List.mem_append_left _ (List.mem_of_getElem? (i := 11) rfl))))) (fun _ h9 => h9) rfl hin rfl (by decide +kernel) rfl rfl (Nat.le_of_ble_eq_true rfl) dX12_init_65 (fun H locs hR_h0 hH hS y52 o52 => ?_)
  have hR_h0 : va_P D vwCl [(h0, .inr (11, [.int 0, .ref q1, .ref q4, .ref q8, .ref q13, .ref q19, .ref q26, .ref q34, .int 0, .ref q43, .null, .null, .null, .null, .int 0, .null, .null, .int 0, .null, .null, .int 0, .null, .null, .int 0, .int 0, .null, .null, .int 0, .null, .null, .null, .null, .null, .int 0, .null, .null, .null, .null]))] H := hR_h0
  refine lv_aload_n hx hb dX12_init_68 rfl (lv_at hl 0 rfl) ?_
  refine lv_bipush (v := 16) hx hb dX12_init_69 (by decide) ?_
  have hle53 := hS.1
  have lt53_h0 := (hR_h0 0 _ rfl).lt
  refine th_newI (atype := .int) (cI := cA 0) (N' := 16) hx hb (hts (.arrayClass .int) (List.mem_cons_of_mem _ (List.mem_append_left _ (List.mem_append_left _ (List.mem_of_getElem? (i := 3) rfl))))) hK 0 rfl (fun h => h) hH hS hA 48 (by decide) (by decide) (by decide) (Nat.le_of_ble_eq_true rfl) (Nat.le_of_ble_eq_true rfl) rfl (fun _ => rfl) (fun _ _ => trivial) dX12_init_71 (fun q53 H s53 y53 n53 o53 hH hS => ?_)
  have le53 : s.heap.size ≤ q53 := by rw [← s53]; exact hle53
  have hR_h0 := th_P1 hR_h0 (o53 _ (by rw [← s53]; exact lt53_h0))
  obtain ⟨τ53, et53⟩ : ∃ t, t = va_up τ43 q53 48 := ⟨_, rfl⟩
  have zz53 := hE.z n53
  obtain ⟨gi53, eg53⟩ : ∃ g, g = va_up gi43 q53 (fun _ => 0) := ⟨_, rfl⟩
  have hE := hE.add (k0 := 48) (f := (fun _ => 0)) (r := gr q53) n53 (Or.inr le53)
  rw [th_upid gr q53, ← et53, ← eg53] at hE
  rw [← et53, ← eg53] at hH
  have og53 : ∀ b, b ≠ q53 → gi53 b = gi43 b := fun b hb => by rw [eg53]; exact va_up_ne _ _ hb
  have t54 : τ53 q1 = 40 := (by rw [et53]; exact th_tk t44 (by decide) n53)
  have t55 : τ53 q4 = 41 := (by rw [et53]; exact th_tk t45 (by decide) n53)
  have t56 : τ53 q8 = 42 := (by rw [et53]; exact th_tk t46 (by decide) n53)
  have t57 : τ53 q13 = 43 := (by rw [et53]; exact th_tk t47 (by decide) n53)
  have t58 : τ53 q19 = 44 := (by rw [et53]; exact th_tk t48 (by decide) n53)
  have t59 : τ53 q26 = 45 := (by rw [et53]; exact th_tk t49 (by decide) n53)
  have t60 : τ53 q34 = 46 := (by rw [et53]; exact th_tk t50 (by decide) n53)
  have t61 : τ53 q43 = 47 := (by rw [et53]; exact th_tk tn43 (by decide) n53)
  have z62 : τ53 h0 = 0 := (by rw [et53]; exact th_tz z51 (Nat.ne_of_lt (by rw [← s53]; exact lt53_h0)))
  have tn53 : τ53 q53 = 48 := by rw [et53]; exact va_up_self _ _ _
  refine W.widen (k := 9) (n := 116) (by omega) (by omega) ?_
  refine th_rputF (ci := 11) (v := .ref q53) (T := TX12) (C := RX12) (N := 38) (ty := (.array .int)) hx hb hts (fun w h => List.mem_cons_of_mem _ (List.mem_append_right _ h)) tyX12 tyX12_ok nmX12 hown hK hH hS z62 (Or.inl rfl) hR_h0 rfl 10 (by decide) (hts (.fieldLink RX12 34 "BayMooringsModel" "lengthOf" "[I") (List.mem_cons_of_mem _ (List.mem_append_left _ (List.mem_append_left _ (List.mem_of_getElem? (i := 12) rfl))))) (fun _ h9 => h9) rfl hin rfl (by decide +kernel) rfl rfl (Nat.le_of_ble_eq_true rfl) dX12_init_73 (fun H locs hR_h0 hH hS y63 o63 => ?_)
  have hR_h0 : va_P D vwCl [(h0, .inr (11, [.int 0, .ref q1, .ref q4, .ref q8, .ref q13, .ref q19, .ref q26, .ref q34, .int 0, .ref q43, .ref q53, .null, .null, .null, .int 0, .null, .null, .int 0, .null, .null, .int 0, .null, .null, .int 0, .int 0, .null, .null, .int 0, .null, .null, .null, .null, .null, .int 0, .null, .null, .null, .null]))] H := hR_h0
  refine lv_aload_n hx hb dX12_init_76 rfl (lv_at hl 0 rfl) ?_
  refine lv_bipush (v := 16) hx hb dX12_init_77 (by decide) ?_
  have hle64 := hS.1
  have lt64_h0 := (hR_h0 0 _ rfl).lt
  refine th_newI (atype := .int) (cI := cA 0) (N' := 16) hx hb (hts (.arrayClass .int) (List.mem_cons_of_mem _ (List.mem_append_left _ (List.mem_append_left _ (List.mem_of_getElem? (i := 3) rfl))))) hK 0 rfl (fun h => h) hH hS hA 49 (by decide) (by decide) (by decide) (Nat.le_of_ble_eq_true rfl) (Nat.le_of_ble_eq_true rfl) rfl (fun _ => rfl) (fun _ _ => trivial) dX12_init_79 (fun q64 H s64 y64 n64 o64 hH hS => ?_)
  have le64 : s.heap.size ≤ q64 := by rw [← s64]; exact hle64
  have hR_h0 := th_P1 hR_h0 (o64 _ (by rw [← s64]; exact lt64_h0))
  obtain ⟨τ64, et64⟩ : ∃ t, t = va_up τ53 q64 49 := ⟨_, rfl⟩
  have zz64 := hE.z n64
  obtain ⟨gi64, eg64⟩ : ∃ g, g = va_up gi53 q64 (fun _ => 0) := ⟨_, rfl⟩
  have hE := hE.add (k0 := 49) (f := (fun _ => 0)) (r := gr q64) n64 (Or.inr le64)
  rw [th_upid gr q64, ← et64, ← eg64] at hE
  rw [← et64, ← eg64] at hH
  have og64 : ∀ b, b ≠ q64 → gi64 b = gi53 b := fun b hb => by rw [eg64]; exact va_up_ne _ _ hb
  have t65 : τ64 q1 = 40 := (by rw [et64]; exact th_tk t54 (by decide) n64)
  have t66 : τ64 q4 = 41 := (by rw [et64]; exact th_tk t55 (by decide) n64)
  have t67 : τ64 q8 = 42 := (by rw [et64]; exact th_tk t56 (by decide) n64)
  have t68 : τ64 q13 = 43 := (by rw [et64]; exact th_tk t57 (by decide) n64)
  have t69 : τ64 q19 = 44 := (by rw [et64]; exact th_tk t58 (by decide) n64)
  have t70 : τ64 q26 = 45 := (by rw [et64]; exact th_tk t59 (by decide) n64)
  have t71 : τ64 q34 = 46 := (by rw [et64]; exact th_tk t60 (by decide) n64)
  have t72 : τ64 q43 = 47 := (by rw [et64]; exact th_tk t61 (by decide) n64)
  have t73 : τ64 q53 = 48 := (by rw [et64]; exact th_tk tn53 (by decide) n64)
  have z74 : τ64 h0 = 0 := (by rw [et64]; exact th_tz z62 (Nat.ne_of_lt (by rw [← s64]; exact lt64_h0)))
  have tn64 : τ64 q64 = 49 := by rw [et64]; exact va_up_self _ _ _
  refine W.widen (k := 10) (n := 132) (by omega) (by omega) ?_
  refine th_rputF (ci := 11) (v := .ref q64) (T := TX12) (C := RX12) (N := 38) (ty := (.array .int)) hx hb hts (fun w h => List.mem_cons_of_mem _ (List.mem_append_right _ h)) tyX12 tyX12_ok nmX12 hown hK hH hS z74 (Or.inl rfl) hR_h0 rfl 11 (by decide) (hts (.fieldLink RX12 37 "BayMooringsModel" "draughtOf" "[I") (List.mem_cons_of_mem _ (List.mem_append_left _ (List.mem_append_left _ (List.mem_of_getElem? (i := 13) rfl))))) (fun _ h9 => h9) rfl hin rfl (by decide +kernel) rfl rfl (Nat.le_of_ble_eq_true rfl) dX12_init_81 (fun H locs hR_h0 hH hS y75 o75 => ?_)
  have hR_h0 : va_P D vwCl [(h0, .inr (11, [.int 0, .ref q1, .ref q4, .ref q8, .ref q13, .ref q19, .ref q26, .ref q34, .int 0, .ref q43, .ref q53, .ref q64, .null, .null, .int 0, .null, .null, .int 0, .null, .null, .int 0, .null, .null, .int 0, .int 0, .null, .null, .int 0, .null, .null, .null, .null, .null, .int 0, .null, .null, .null, .null]))] H := hR_h0
  refine lv_aload_n hx hb dX12_init_84 rfl (lv_at hl 0 rfl) ?_
  refine lv_bipush (v := 16) hx hb dX12_init_85 (by decide) ?_
  have hle76 := hS.1
  have lt76_h0 := (hR_h0 0 _ rfl).lt
  refine th_newI (atype := .int) (cI := cA 0) (N' := 16) hx hb (hts (.arrayClass .int) (List.mem_cons_of_mem _ (List.mem_append_left _ (List.mem_append_left _ (List.mem_of_getElem? (i := 3) rfl))))) hK 0 rfl (fun h => h) hH hS hA 50 (by decide) (by decide) (by decide) (Nat.le_of_ble_eq_true rfl) (Nat.le_of_ble_eq_true rfl) rfl (fun _ => rfl) (fun _ _ => (fun _ _ => (show rg (-1) 11 (0 : Int32) from ⟨by decide, by decide⟩))) dX12_init_87 (fun q76 H s76 y76 n76 o76 hH hS => ?_)
  have le76 : s.heap.size ≤ q76 := by rw [← s76]; exact hle76
  have hR_h0 := th_P1 hR_h0 (o76 _ (by rw [← s76]; exact lt76_h0))
  obtain ⟨τ76, et76⟩ : ∃ t, t = va_up τ64 q76 50 := ⟨_, rfl⟩
  have zz76 := hE.z n76
  obtain ⟨gi76, eg76⟩ : ∃ g, g = va_up gi64 q76 (fun _ => 0) := ⟨_, rfl⟩
  have hE := hE.add (k0 := 50) (f := (fun _ => 0)) (r := gr q76) n76 (Or.inr le76)
  rw [th_upid gr q76, ← et76, ← eg76] at hE
  rw [← et76, ← eg76] at hH
  have og76 : ∀ b, b ≠ q76 → gi76 b = gi64 b := fun b hb => by rw [eg76]; exact va_up_ne _ _ hb
  have t77 : τ76 q1 = 40 := (by rw [et76]; exact th_tk t65 (by decide) n76)
  have t78 : τ76 q4 = 41 := (by rw [et76]; exact th_tk t66 (by decide) n76)
  have t79 : τ76 q8 = 42 := (by rw [et76]; exact th_tk t67 (by decide) n76)
  have t80 : τ76 q13 = 43 := (by rw [et76]; exact th_tk t68 (by decide) n76)
  have t81 : τ76 q19 = 44 := (by rw [et76]; exact th_tk t69 (by decide) n76)
  have t82 : τ76 q26 = 45 := (by rw [et76]; exact th_tk t70 (by decide) n76)
  have t83 : τ76 q34 = 46 := (by rw [et76]; exact th_tk t71 (by decide) n76)
  have t84 : τ76 q43 = 47 := (by rw [et76]; exact th_tk t72 (by decide) n76)
  have t85 : τ76 q53 = 48 := (by rw [et76]; exact th_tk t73 (by decide) n76)
  have t86 : τ76 q64 = 49 := (by rw [et76]; exact th_tk tn64 (by decide) n76)
  have z87 : τ76 h0 = 0 := (by rw [et76]; exact th_tz z74 (Nat.ne_of_lt (by rw [← s76]; exact lt76_h0)))
  have tn76 : τ76 q76 = 50 := by rw [et76]; exact va_up_self _ _ _
  refine W.widen (k := 11) (n := 148) (by omega) (by omega) ?_
  refine th_rputF (ci := 11) (v := .ref q76) (T := TX12) (C := RX12) (N := 38) (ty := (.array .int)) hx hb hts (fun w h => List.mem_cons_of_mem _ (List.mem_append_right _ h)) tyX12 tyX12_ok nmX12 hown hK hH hS z87 (Or.inl rfl) hR_h0 rfl 12 (by decide) (hts (.fieldLink RX12 40 "BayMooringsModel" "buoyOf" "[I") (List.mem_cons_of_mem _ (List.mem_append_left _ (List.mem_append_left _ (List.mem_of_getElem? (i := 14) rfl))))) (fun _ h9 => h9) rfl hin rfl (by decide +kernel) rfl rfl (Nat.le_of_ble_eq_true rfl) dX12_init_89 (fun H locs hR_h0 hH hS y88 o88 => ?_)
  have hR_h0 : va_P D vwCl [(h0, .inr (11, [.int 0, .ref q1, .ref q4, .ref q8, .ref q13, .ref q19, .ref q26, .ref q34, .int 0, .ref q43, .ref q53, .ref q64, .ref q76, .null, .int 0, .null, .null, .int 0, .null, .null, .int 0, .null, .null, .int 0, .int 0, .null, .null, .int 0, .null, .null, .null, .null, .null, .int 0, .null, .null, .null, .null]))] H := hR_h0
  refine lv_aload_n hx hb dX12_init_92 rfl (lv_at hl 0 rfl) ?_
  refine lv_bipush (v := 24) hx hb dX12_init_93 (by decide) ?_
  have hle89 := hS.1
  have lt89_h0 := (hR_h0 0 _ rfl).lt
  refine th_newI (atype := .int) (cI := cA 0) (N' := 24) hx hb (hts (.arrayClass .int) (List.mem_cons_of_mem _ (List.mem_append_left _ (List.mem_append_left _ (List.mem_of_getElem? (i := 3) rfl))))) hK 0 rfl (fun h => h) hH hS hA 51 (by decide) (by decide) (by decide) (Nat.le_of_ble_eq_true rfl) (Nat.le_of_ble_eq_true rfl) rfl (fun _ => rfl) (fun _ _ => (fun _ _ => (show rg 0 200 (0 : Int32) from ⟨by decide, by decide⟩))) dX12_init_95 (fun q89 H s89 y89 n89 o89 hH hS => ?_)
  have le89 : s.heap.size ≤ q89 := by rw [← s89]; exact hle89
  have hR_h0 := th_P1 hR_h0 (o89 _ (by rw [← s89]; exact lt89_h0))
  obtain ⟨τ89, et89⟩ : ∃ t, t = va_up τ76 q89 51 := ⟨_, rfl⟩
  have zz89 := hE.z n89
  obtain ⟨gi89, eg89⟩ : ∃ g, g = va_up gi76 q89 (fun _ => 0) := ⟨_, rfl⟩
  have hE := hE.add (k0 := 51) (f := (fun _ => 0)) (r := gr q89) n89 (Or.inr le89)
  rw [th_upid gr q89, ← et89, ← eg89] at hE
  rw [← et89, ← eg89] at hH
  have og89 : ∀ b, b ≠ q89 → gi89 b = gi76 b := fun b hb => by rw [eg89]; exact va_up_ne _ _ hb
  have t90 : τ89 q1 = 40 := (by rw [et89]; exact th_tk t77 (by decide) n89)
  have t91 : τ89 q4 = 41 := (by rw [et89]; exact th_tk t78 (by decide) n89)
  have t92 : τ89 q8 = 42 := (by rw [et89]; exact th_tk t79 (by decide) n89)
  have t93 : τ89 q13 = 43 := (by rw [et89]; exact th_tk t80 (by decide) n89)
  have t94 : τ89 q19 = 44 := (by rw [et89]; exact th_tk t81 (by decide) n89)
  have t95 : τ89 q26 = 45 := (by rw [et89]; exact th_tk t82 (by decide) n89)
  have t96 : τ89 q34 = 46 := (by rw [et89]; exact th_tk t83 (by decide) n89)
  have t97 : τ89 q43 = 47 := (by rw [et89]; exact th_tk t84 (by decide) n89)
  have t98 : τ89 q53 = 48 := (by rw [et89]; exact th_tk t85 (by decide) n89)
  have t99 : τ89 q64 = 49 := (by rw [et89]; exact th_tk t86 (by decide) n89)
  have t100 : τ89 q76 = 50 := (by rw [et89]; exact th_tk tn76 (by decide) n89)
  have z101 : τ89 h0 = 0 := (by rw [et89]; exact th_tz z87 (Nat.ne_of_lt (by rw [← s89]; exact lt89_h0)))
  have tn89 : τ89 q89 = 51 := by rw [et89]; exact va_up_self _ _ _
  refine W.widen (k := 12) (n := 172) (by omega) (by omega) ?_
  refine th_rputF (ci := 11) (v := .ref q89) (T := TX12) (C := RX12) (N := 38) (ty := (.array .int)) hx hb hts (fun w h => List.mem_cons_of_mem _ (List.mem_append_right _ h)) tyX12 tyX12_ok nmX12 hown hK hH hS z101 (Or.inl rfl) hR_h0 rfl 13 (by decide) (hts (.fieldLink RX12 43 "BayMooringsModel" "tides" "[I") (List.mem_cons_of_mem _ (List.mem_append_left _ (List.mem_append_left _ (List.mem_of_getElem? (i := 15) rfl))))) (fun _ h9 => h9) rfl hin rfl (by decide +kernel) rfl rfl (Nat.le_of_ble_eq_true rfl) dX12_init_97 (fun H locs hR_h0 hH hS y102 o102 => ?_)
  have hR_h0 : va_P D vwCl [(h0, .inr (11, [.int 0, .ref q1, .ref q4, .ref q8, .ref q13, .ref q19, .ref q26, .ref q34, .int 0, .ref q43, .ref q53, .ref q64, .ref q76, .ref q89, .int 0, .null, .null, .int 0, .null, .null, .int 0, .null, .null, .int 0, .int 0, .null, .null, .int 0, .null, .null, .null, .null, .null, .int 0, .null, .null, .null, .null]))] H := hR_h0
  refine lv_aload_n hx hb dX12_init_100 rfl (lv_at hl 0 rfl) ?_
  refine lv_sipush (v := 255) hx hb dX12_init_101 (by decide) ?_
  refine th_rput (ci := 11) (v := .int 255) (T := TX12) (C := RX12) (N := 38) (ty := .int) hx hb hts (fun w h => List.mem_cons_of_mem _ (List.mem_append_right _ h)) tyX12 tyX12_ok nmX12 hown hK hH hS z101 (Or.inl rfl) hR_h0 rfl 14 (by decide) (hts (.fieldLink RX12 46 "BayMooringsModel" "winds" "I") (List.mem_cons_of_mem _ (List.mem_append_left _ (List.mem_append_left _ (List.mem_of_getElem? (i := 16) rfl))))) (fun _ h9 => h9) rfl (by decide +kernel) rfl rfl (Nat.le_of_ble_eq_true rfl) dX12_init_104 (fun H locs hR_h0 hH hS y103 o103 => ?_)
  have hR_h0 : va_P D vwCl [(h0, .inr (11, [.int 0, .ref q1, .ref q4, .ref q8, .ref q13, .ref q19, .ref q26, .ref q34, .int 0, .ref q43, .ref q53, .ref q64, .ref q76, .ref q89, .int 255, .null, .null, .int 0, .null, .null, .int 0, .null, .null, .int 0, .int 0, .null, .null, .int 0, .null, .null, .null, .null, .null, .int 0, .null, .null, .null, .null]))] H := hR_h0
  refine lv_aload_n hx hb dX12_init_107 rfl (lv_at hl 0 rfl) ?_
  refine lv_bipush (v := 8) hx hb dX12_init_108 (by decide) ?_
  have hle104 := hS.1
  have lt104_h0 := (hR_h0 0 _ rfl).lt
  refine th_newI (atype := .int) (cI := cA 0) (N' := 8) hx hb (hts (.arrayClass .int) (List.mem_cons_of_mem _ (List.mem_append_left _ (List.mem_append_left _ (List.mem_of_getElem? (i := 3) rfl))))) hK 0 rfl (fun h => h) hH hS hA 52 (by decide) (by decide) (by decide) (Nat.le_of_ble_eq_true rfl) (Nat.le_of_ble_eq_true rfl) rfl (fun _ => rfl) (fun _ _ => trivial) dX12_init_110 (fun q104 H s104 y104 n104 o104 hH hS => ?_)
  have le104 : s.heap.size ≤ q104 := by rw [← s104]; exact hle104
  have hR_h0 := th_P1 hR_h0 (o104 _ (by rw [← s104]; exact lt104_h0))
  obtain ⟨τ104, et104⟩ : ∃ t, t = va_up τ89 q104 52 := ⟨_, rfl⟩
  have zz104 := hE.z n104
  obtain ⟨gi104, eg104⟩ : ∃ g, g = va_up gi89 q104 (fun _ => 0) := ⟨_, rfl⟩
  have hE := hE.add (k0 := 52) (f := (fun _ => 0)) (r := gr q104) n104 (Or.inr le104)
  rw [th_upid gr q104, ← et104, ← eg104] at hE
  rw [← et104, ← eg104] at hH
  have og104 : ∀ b, b ≠ q104 → gi104 b = gi89 b := fun b hb => by rw [eg104]; exact va_up_ne _ _ hb
  have t105 : τ104 q1 = 40 := (by rw [et104]; exact th_tk t90 (by decide) n104)
  have t106 : τ104 q4 = 41 := (by rw [et104]; exact th_tk t91 (by decide) n104)
  have t107 : τ104 q8 = 42 := (by rw [et104]; exact th_tk t92 (by decide) n104)
  have t108 : τ104 q13 = 43 := (by rw [et104]; exact th_tk t93 (by decide) n104)
  have t109 : τ104 q19 = 44 := (by rw [et104]; exact th_tk t94 (by decide) n104)
  have t110 : τ104 q26 = 45 := (by rw [et104]; exact th_tk t95 (by decide) n104)
  have t111 : τ104 q34 = 46 := (by rw [et104]; exact th_tk t96 (by decide) n104)
  have t112 : τ104 q43 = 47 := (by rw [et104]; exact th_tk t97 (by decide) n104)
  have t113 : τ104 q53 = 48 := (by rw [et104]; exact th_tk t98 (by decide) n104)
  have t114 : τ104 q64 = 49 := (by rw [et104]; exact th_tk t99 (by decide) n104)
  have t115 : τ104 q76 = 50 := (by rw [et104]; exact th_tk t100 (by decide) n104)
  have t116 : τ104 q89 = 51 := (by rw [et104]; exact th_tk tn89 (by decide) n104)
  have z117 : τ104 h0 = 0 := (by rw [et104]; exact th_tz z101 (Nat.ne_of_lt (by rw [← s104]; exact lt104_h0)))
  have tn104 : τ104 q104 = 52 := by rw [et104]; exact va_up_self _ _ _
  refine W.widen (k := 13) (n := 180) (by omega) (by omega) ?_
  refine lv_dup hx hb dX12_init_112 rfl ?_
  refine lv_iconst (v := 0) hx hb dX12_init_113 (by decide) ?_
  refine lv_iconst (v := 0) hx hb dX12_init_114 (by decide) ?_
  refine th_iastR hx hb hK hH hS tn104 (by decide) (th_AE hE hS _ (Or.inl (by rw [tn104]; decide))) 0 (fun _ => rfl) rfl (rg_in (n := 8) (show rg 0 0 (0 : Int32) from ⟨by decide, by decide⟩) (by decide) (by decide)) (trivial) dX12_init_115 (fun gi118 H locs hu118 ho118 hH hS oq => ?_)
  have hR_h0 := th_P1 hR_h0 (oq _ (th_ne0 z117 tn104 (by decide)))
  have hE := hE.new zz104 (fun b hb => funext fun j => ho118 b j (Or.inl hb)) (fun _ _ => rfl)
  refine lv_dup hx hb dX12_init_116 rfl ?_
  refine lv_iconst (v := 1) hx hb dX12_init_117 (by decide) ?_
  refine lv_iconst (v := 1) hx hb dX12_init_118 (by decide) ?_
  refine th_iastR hx hb hK hH hS tn104 (by decide) (th_AE hE hS _ (Or.inl (by rw [tn104]; decide))) 0 (fun _ => rfl) rfl (rg_in (n := 8) (show rg 1 1 (1 : Int32) from ⟨by decide, by decide⟩) (by decide) (by decide)) (trivial) dX12_init_119 (fun gi119 H locs hu119 ho119 hH hS oq => ?_)
  have hR_h0 := th_P1 hR_h0 (oq _ (th_ne0 z117 tn104 (by decide)))
  have hE := hE.new zz104 (fun b hb => funext fun j => ho119 b j (Or.inl hb)) (fun _ _ => rfl)
  refine lv_dup hx hb dX12_init_120 rfl ?_
  refine lv_iconst (v := 2) hx hb dX12_init_121 (by decide) ?_
  refine lv_iconst (v := 1) hx hb dX12_init_122 (by decide) ?_
  refine th_iastR hx hb hK hH hS tn104 (by decide) (th_AE hE hS _ (Or.inl (by rw [tn104]; decide))) 0 (fun _ => rfl) rfl (rg_in (n := 8) (show rg 2 2 (2 : Int32) from ⟨by decide, by decide⟩) (by decide) (by decide)) (trivial) dX12_init_123 (fun gi121 H locs hu121 ho121 hH hS oq => ?_)
  have hR_h0 := th_P1 hR_h0 (oq _ (th_ne0 z117 tn104 (by decide)))
  have hE := hE.new zz104 (fun b hb => funext fun j => ho121 b j (Or.inl hb)) (fun _ _ => rfl)
  refine lv_dup hx hb dX12_init_124 rfl ?_
  refine lv_iconst (v := 3) hx hb dX12_init_125 (by decide) ?_
  refine lv_iconst (v := 1) hx hb dX12_init_126 (by decide) ?_
  refine th_iastR hx hb hK hH hS tn104 (by decide) (th_AE hE hS _ (Or.inl (by rw [tn104]; decide))) 0 (fun _ => rfl) rfl (rg_in (n := 8) (show rg 3 3 (3 : Int32) from ⟨by decide, by decide⟩) (by decide) (by decide)) (trivial) dX12_init_127 (fun gi123 H locs hu123 ho123 hH hS oq => ?_)
  have hR_h0 := th_P1 hR_h0 (oq _ (th_ne0 z117 tn104 (by decide)))
  have hE := hE.new zz104 (fun b hb => funext fun j => ho123 b j (Or.inl hb)) (fun _ _ => rfl)
  refine lv_dup hx hb dX12_init_128 rfl ?_
  refine lv_iconst (v := 4) hx hb dX12_init_129 (by decide) ?_
  refine lv_iconst (v := 0) hx hb dX12_init_130 (by decide) ?_
  refine th_iastR hx hb hK hH hS tn104 (by decide) (th_AE hE hS _ (Or.inl (by rw [tn104]; decide))) 0 (fun _ => rfl) rfl (rg_in (n := 8) (show rg 4 4 (4 : Int32) from ⟨by decide, by decide⟩) (by decide) (by decide)) (trivial) dX12_init_131 (fun gi125 H locs hu125 ho125 hH hS oq => ?_)
  have hR_h0 := th_P1 hR_h0 (oq _ (th_ne0 z117 tn104 (by decide)))
  have hE := hE.new zz104 (fun b hb => funext fun j => ho125 b j (Or.inl hb)) (fun _ _ => rfl)
  refine lv_dup hx hb dX12_init_132 rfl ?_
  refine lv_iconst (v := 5) hx hb dX12_init_133 (by decide) ?_
  refine lv_iconst (v := (-1)) hx hb dX12_init_134 (by decide) ?_
  refine th_iastR hx hb hK hH hS tn104 (by decide) (th_AE hE hS _ (Or.inl (by rw [tn104]; decide))) 0 (fun _ => rfl) rfl (rg_in (n := 8) (show rg 5 5 (5 : Int32) from ⟨by decide, by decide⟩) (by decide) (by decide)) (trivial) dX12_init_135 (fun gi127 H locs hu127 ho127 hH hS oq => ?_)
  have hR_h0 := th_P1 hR_h0 (oq _ (th_ne0 z117 tn104 (by decide)))
  have hE := hE.new zz104 (fun b hb => funext fun j => ho127 b j (Or.inl hb)) (fun _ _ => rfl)
  refine lv_dup hx hb dX12_init_136 rfl ?_
  refine lv_bipush (v := 6) hx hb dX12_init_137 (by decide) ?_
  refine lv_iconst (v := (-1)) hx hb dX12_init_139 (by decide) ?_
  refine th_iastR hx hb hK hH hS tn104 (by decide) (th_AE hE hS _ (Or.inl (by rw [tn104]; decide))) 0 (fun _ => rfl) rfl (rg_in (n := 8) (show rg 6 6 (6 : Int32) from ⟨by decide, by decide⟩) (by decide) (by decide)) (trivial) dX12_init_140 (fun gi129 H locs hu129 ho129 hH hS oq => ?_)
  have hR_h0 := th_P1 hR_h0 (oq _ (th_ne0 z117 tn104 (by decide)))
  have hE := hE.new zz104 (fun b hb => funext fun j => ho129 b j (Or.inl hb)) (fun _ _ => rfl)
  refine lv_dup hx hb dX12_init_141 rfl ?_
  refine lv_bipush (v := 7) hx hb dX12_init_142 (by decide) ?_
  refine lv_iconst (v := (-1)) hx hb dX12_init_144 (by decide) ?_
  refine th_iastR hx hb hK hH hS tn104 (by decide) (th_AE hE hS _ (Or.inl (by rw [tn104]; decide))) 0 (fun _ => rfl) rfl (rg_in (n := 8) (show rg 7 7 (7 : Int32) from ⟨by decide, by decide⟩) (by decide) (by decide)) (trivial) dX12_init_145 (fun gi131 H locs hu131 ho131 hH hS oq => ?_)
  have hR_h0 := th_P1 hR_h0 (oq _ (th_ne0 z117 tn104 (by decide)))
  have hE := hE.new zz104 (fun b hb => funext fun j => ho131 b j (Or.inl hb)) (fun _ _ => rfl)
  refine th_rputF (ci := 11) (v := .ref q104) (T := TX12) (C := RX12) (N := 38) (ty := (.array .int)) hx hb hts (fun w h => List.mem_cons_of_mem _ (List.mem_append_right _ h)) tyX12 tyX12_ok nmX12 hown hK hH hS z117 (Or.inl rfl) hR_h0 rfl 15 (by decide) (hts (.fieldLink RX12 50 "BayMooringsModel" "wayX" "[I") (List.mem_cons_of_mem _ (List.mem_append_left _ (List.mem_append_left _ (List.mem_of_getElem? (i := 17) rfl))))) (fun _ h9 => h9) rfl hin rfl (by decide +kernel) rfl rfl (Nat.le_of_ble_eq_true rfl) dX12_init_146 (fun H locs hR_h0 hH hS y133 o133 => ?_)
  have hR_h0 : va_P D vwCl [(h0, .inr (11, [.int 0, .ref q1, .ref q4, .ref q8, .ref q13, .ref q19, .ref q26, .ref q34, .int 0, .ref q43, .ref q53, .ref q64, .ref q76, .ref q89, .int 255, .ref q104, .null, .int 0, .null, .null, .int 0, .null, .null, .int 0, .int 0, .null, .null, .int 0, .null, .null, .null, .null, .null, .int 0, .null, .null, .null, .null]))] H := hR_h0
  refine lv_aload_n hx hb dX12_init_149 rfl (lv_at hl 0 rfl) ?_
  refine lv_bipush (v := 8) hx hb dX12_init_150 (by decide) ?_
  have hle134 := hS.1
  have lt134_h0 := (hR_h0 0 _ rfl).lt
  refine th_newI (atype := .int) (cI := cA 0) (N' := 8) hx hb (hts (.arrayClass .int) (List.mem_cons_of_mem _ (List.mem_append_left _ (List.mem_append_left _ (List.mem_of_getElem? (i := 3) rfl))))) hK 0 rfl (fun h => h) hH hS hA 53 (by decide) (by decide) (by decide) (Nat.le_of_ble_eq_true rfl) (Nat.le_of_ble_eq_true rfl) rfl (fun _ => rfl) (fun _ _ => trivial) dX12_init_152 (fun q134 H s134 y134 n134 o134 hH hS => ?_)
  have le134 : s.heap.size ≤ q134 := by rw [← s134]; exact hle134
  have hR_h0 := th_P1 hR_h0 (o134 _ (by rw [← s134]; exact lt134_h0))
  obtain ⟨τ134, et134⟩ : ∃ t, t = va_up τ104 q134 53 := ⟨_, rfl⟩
  have zz134 := hE.z n134
  obtain ⟨gi134, eg134⟩ : ∃ g, g = va_up gi131 q134 (fun _ => 0) := ⟨_, rfl⟩
  have hE := hE.add (k0 := 53) (f := (fun _ => 0)) (r := gr q134) n134 (Or.inr le134)
  rw [th_upid gr q134, ← et134, ← eg134] at hE
  rw [← et134, ← eg134] at hH
  have og134 : ∀ b, b ≠ q134 → gi134 b = gi131 b := fun b hb => by rw [eg134]; exact va_up_ne _ _ hb
  have t135 : τ134 q1 = 40 := (by rw [et134]; exact th_tk t105 (by decide) n134)
  have t136 : τ134 q4 = 41 := (by rw [et134]; exact th_tk t106 (by decide) n134)
  have t137 : τ134 q8 = 42 := (by rw [et134]; exact th_tk t107 (by decide) n134)
  have t138 : τ134 q13 = 43 := (by rw [et134]; exact th_tk t108 (by decide) n134)
  have t139 : τ134 q19 = 44 := (by rw [et134]; exact th_tk t109 (by decide) n134)
  have t140 : τ134 q26 = 45 := (by rw [et134]; exact th_tk t110 (by decide) n134)
  have t141 : τ134 q34 = 46 := (by rw [et134]; exact th_tk t111 (by decide) n134)
  have t142 : τ134 q43 = 47 := (by rw [et134]; exact th_tk t112 (by decide) n134)
  have t143 : τ134 q53 = 48 := (by rw [et134]; exact th_tk t113 (by decide) n134)
  have t144 : τ134 q64 = 49 := (by rw [et134]; exact th_tk t114 (by decide) n134)
  have t145 : τ134 q76 = 50 := (by rw [et134]; exact th_tk t115 (by decide) n134)
  have t146 : τ134 q89 = 51 := (by rw [et134]; exact th_tk t116 (by decide) n134)
  have t147 : τ134 q104 = 52 := (by rw [et134]; exact th_tk tn104 (by decide) n134)
  have z148 : τ134 h0 = 0 := (by rw [et134]; exact th_tz z117 (Nat.ne_of_lt (by rw [← s134]; exact lt134_h0)))
  have tn134 : τ134 q134 = 53 := by rw [et134]; exact va_up_self _ _ _
  have e149 : (-1) = gi134 q104 ((7 : Int32).toNatClampNeg) := by rw [og134 q104 (th_ne t147 tn134 (by decide))]; exact hu131.symm
  refine W.widen (k := 14) (n := 188) (by omega) (by omega) ?_
  refine lv_dup hx hb dX12_init_154 rfl ?_
  refine lv_iconst (v := 0) hx hb dX12_init_155 (by decide) ?_
  refine lv_iconst (v := (-1)) hx hb dX12_init_156 (by decide) ?_
  refine th_iastR hx hb hK hH hS tn134 (by decide) (th_AE hE hS _ (Or.inl (by rw [tn134]; decide))) 0 (fun _ => rfl) rfl (rg_in (n := 8) (show rg 0 0 (0 : Int32) from ⟨by decide, by decide⟩) (by decide) (by decide)) (trivial) dX12_init_157 (fun gi150 H locs hu150 ho150 hH hS oq => ?_)
  have hR_h0 := th_P1 hR_h0 (oq _ (th_ne0 z148 tn134 (by decide)))
  have e151 : (-1) = gi150 q104 ((7 : Int32).toNatClampNeg) := by rw [ho150 _ _ (Or.inl (th_ne t147 tn134 (by decide)))]; exact e149
  have hE := hE.new zz134 (fun b hb => funext fun j => ho150 b j (Or.inl hb)) (fun _ _ => rfl)
  refine lv_dup hx hb dX12_init_158 rfl ?_
  refine lv_iconst (v := 1) hx hb dX12_init_159 (by decide) ?_
  refine lv_iconst (v := (-1)) hx hb dX12_init_160 (by decide) ?_
  refine th_iastR hx hb hK hH hS tn134 (by decide) (th_AE hE hS _ (Or.inl (by rw [tn134]; decide))) 0 (fun _ => rfl) rfl (rg_in (n := 8) (show rg 1 1 (1 : Int32) from ⟨by decide, by decide⟩) (by decide) (by decide)) (trivial) dX12_init_161 (fun gi152 H locs hu152 ho152 hH hS oq => ?_)
  have hR_h0 := th_P1 hR_h0 (oq _ (th_ne0 z148 tn134 (by decide)))
  have e153 : (-1) = gi152 q104 ((7 : Int32).toNatClampNeg) := by rw [ho152 _ _ (Or.inl (th_ne t147 tn134 (by decide)))]; exact e151
  have hE := hE.new zz134 (fun b hb => funext fun j => ho152 b j (Or.inl hb)) (fun _ _ => rfl)
  refine lv_dup hx hb dX12_init_162 rfl ?_
  refine lv_iconst (v := 2) hx hb dX12_init_163 (by decide) ?_
  refine lv_iconst (v := 0) hx hb dX12_init_164 (by decide) ?_
  refine th_iastR hx hb hK hH hS tn134 (by decide) (th_AE hE hS _ (Or.inl (by rw [tn134]; decide))) 0 (fun _ => rfl) rfl (rg_in (n := 8) (show rg 2 2 (2 : Int32) from ⟨by decide, by decide⟩) (by decide) (by decide)) (trivial) dX12_init_165 (fun gi155 H locs hu155 ho155 hH hS oq => ?_)
  have hR_h0 := th_P1 hR_h0 (oq _ (th_ne0 z148 tn134 (by decide)))
  have e156 : (-1) = gi155 q104 ((7 : Int32).toNatClampNeg) := by rw [ho155 _ _ (Or.inl (th_ne t147 tn134 (by decide)))]; exact e153
  have hE := hE.new zz134 (fun b hb => funext fun j => ho155 b j (Or.inl hb)) (fun _ _ => rfl)
  refine lv_dup hx hb dX12_init_166 rfl ?_
  refine lv_iconst (v := 3) hx hb dX12_init_167 (by decide) ?_
  refine lv_iconst (v := 1) hx hb dX12_init_168 (by decide) ?_
  refine th_iastR hx hb hK hH hS tn134 (by decide) (th_AE hE hS _ (Or.inl (by rw [tn134]; decide))) 0 (fun _ => rfl) rfl (rg_in (n := 8) (show rg 3 3 (3 : Int32) from ⟨by decide, by decide⟩) (by decide) (by decide)) (trivial) dX12_init_169 (fun gi158 H locs hu158 ho158 hH hS oq => ?_)
  have hR_h0 := th_P1 hR_h0 (oq _ (th_ne0 z148 tn134 (by decide)))
  have e159 : (-1) = gi158 q104 ((7 : Int32).toNatClampNeg) := by rw [ho158 _ _ (Or.inl (th_ne t147 tn134 (by decide)))]; exact e156
  have hE := hE.new zz134 (fun b hb => funext fun j => ho158 b j (Or.inl hb)) (fun _ _ => rfl)
  refine lv_dup hx hb dX12_init_170 rfl ?_
  refine lv_iconst (v := 4) hx hb dX12_init_171 (by decide) ?_
  refine lv_iconst (v := 1) hx hb dX12_init_172 (by decide) ?_
  refine th_iastR hx hb hK hH hS tn134 (by decide) (th_AE hE hS _ (Or.inl (by rw [tn134]; decide))) 0 (fun _ => rfl) rfl (rg_in (n := 8) (show rg 4 4 (4 : Int32) from ⟨by decide, by decide⟩) (by decide) (by decide)) (trivial) dX12_init_173 (fun gi161 H locs hu161 ho161 hH hS oq => ?_)
  have hR_h0 := th_P1 hR_h0 (oq _ (th_ne0 z148 tn134 (by decide)))
  have e162 : (-1) = gi161 q104 ((7 : Int32).toNatClampNeg) := by rw [ho161 _ _ (Or.inl (th_ne t147 tn134 (by decide)))]; exact e159
  have hE := hE.new zz134 (fun b hb => funext fun j => ho161 b j (Or.inl hb)) (fun _ _ => rfl)
  refine lv_dup hx hb dX12_init_174 rfl ?_
  refine lv_iconst (v := 5) hx hb dX12_init_175 (by decide) ?_
  refine lv_iconst (v := 1) hx hb dX12_init_176 (by decide) ?_
  refine th_iastR hx hb hK hH hS tn134 (by decide) (th_AE hE hS _ (Or.inl (by rw [tn134]; decide))) 0 (fun _ => rfl) rfl (rg_in (n := 8) (show rg 5 5 (5 : Int32) from ⟨by decide, by decide⟩) (by decide) (by decide)) (trivial) dX12_init_177 (fun gi164 H locs hu164 ho164 hH hS oq => ?_)
  have hR_h0 := th_P1 hR_h0 (oq _ (th_ne0 z148 tn134 (by decide)))
  have e165 : (-1) = gi164 q104 ((7 : Int32).toNatClampNeg) := by rw [ho164 _ _ (Or.inl (th_ne t147 tn134 (by decide)))]; exact e162
  have hE := hE.new zz134 (fun b hb => funext fun j => ho164 b j (Or.inl hb)) (fun _ _ => rfl)
  refine lv_dup hx hb dX12_init_178 rfl ?_
  refine lv_bipush (v := 6) hx hb dX12_init_179 (by decide) ?_
  refine lv_iconst (v := 0) hx hb dX12_init_181 (by decide) ?_
  refine th_iastR hx hb hK hH hS tn134 (by decide) (th_AE hE hS _ (Or.inl (by rw [tn134]; decide))) 0 (fun _ => rfl) rfl (rg_in (n := 8) (show rg 6 6 (6 : Int32) from ⟨by decide, by decide⟩) (by decide) (by decide)) (trivial) dX12_init_182 (fun gi167 H locs hu167 ho167 hH hS oq => ?_)
  have hR_h0 := th_P1 hR_h0 (oq _ (th_ne0 z148 tn134 (by decide)))
  have e168 : (-1) = gi167 q104 ((7 : Int32).toNatClampNeg) := by rw [ho167 _ _ (Or.inl (th_ne t147 tn134 (by decide)))]; exact e165
  have hE := hE.new zz134 (fun b hb => funext fun j => ho167 b j (Or.inl hb)) (fun _ _ => rfl)
  refine lv_dup hx hb dX12_init_183 rfl ?_
  refine lv_bipush (v := 7) hx hb dX12_init_184 (by decide) ?_
  refine lv_iconst (v := (-1)) hx hb dX12_init_186 (by decide) ?_
  refine th_iastR hx hb hK hH hS tn134 (by decide) (th_AE hE hS _ (Or.inl (by rw [tn134]; decide))) 0 (fun _ => rfl) rfl (rg_in (n := 8) (show rg 7 7 (7 : Int32) from ⟨by decide, by decide⟩) (by decide) (by decide)) (trivial) dX12_init_187 (fun gi170 H locs hu170 ho170 hH hS oq => ?_)
  have hR_h0 := th_P1 hR_h0 (oq _ (th_ne0 z148 tn134 (by decide)))
  have e171 : (-1) = gi170 q104 ((7 : Int32).toNatClampNeg) := by rw [ho170 _ _ (Or.inl (th_ne t147 tn134 (by decide)))]; exact e168
  have hE := hE.new zz134 (fun b hb => funext fun j => ho170 b j (Or.inl hb)) (fun _ _ => rfl)
  refine th_rputF (ci := 11) (v := .ref q134) (T := TX12) (C := RX12) (N := 38) (ty := (.array .int)) hx hb hts (fun w h => List.mem_cons_of_mem _ (List.mem_append_right _ h)) tyX12 tyX12_ok nmX12 hown hK hH hS z148 (Or.inl rfl) hR_h0 rfl 16 (by decide) (hts (.fieldLink RX12 53 "BayMooringsModel" "wayY" "[I") (List.mem_cons_of_mem _ (List.mem_append_left _ (List.mem_append_left _ (List.mem_of_getElem? (i := 18) rfl))))) (fun _ h9 => h9) rfl hin rfl (by decide +kernel) rfl rfl (Nat.le_of_ble_eq_true rfl) dX12_init_188 (fun H locs hR_h0 hH hS y173 o173 => ?_)
  have hR_h0 : va_P D vwCl [(h0, .inr (11, [.int 0, .ref q1, .ref q4, .ref q8, .ref q13, .ref q19, .ref q26, .ref q34, .int 0, .ref q43, .ref q53, .ref q64, .ref q76, .ref q89, .int 255, .ref q104, .ref q134, .int 0, .null, .null, .int 0, .null, .null, .int 0, .int 0, .null, .null, .int 0, .null, .null, .null, .null, .null, .int 0, .null, .null, .null, .null]))] H := hR_h0
  refine lv_aload_n hx hb dX12_init_191 rfl (lv_at hl 0 rfl) ?_
  refine lv_bipush (v := 10) hx hb dX12_init_192 (by decide) ?_
  have hle174 := hS.1
  have lt174_h0 := (hR_h0 0 _ rfl).lt
  refine th_newI (atype := .int) (cI := cA 0) (N' := 10) hx hb (hts (.arrayClass .int) (List.mem_cons_of_mem _ (List.mem_append_left _ (List.mem_append_left _ (List.mem_of_getElem? (i := 3) rfl))))) hK 0 rfl (fun h => h) hH hS hA 54 (by decide) (by decide) (by decide) (Nat.le_of_ble_eq_true rfl) (Nat.le_of_ble_eq_true rfl) rfl (fun _ => rfl) (fun _ _ => (fun _ _ => (show rg 0 15 (0 : Int32) from ⟨by decide, by decide⟩))) dX12_init_194 (fun q174 H s174 y174 n174 o174 hH hS => ?_)
  have le174 : s.heap.size ≤ q174 := by rw [← s174]; exact hle174
  have hR_h0 := th_P1 hR_h0 (o174 _ (by rw [← s174]; exact lt174_h0))
  obtain ⟨τ174, et174⟩ : ∃ t, t = va_up τ134 q174 54 := ⟨_, rfl⟩
  have zz174 := hE.z n174
  obtain ⟨gi174, eg174⟩ : ∃ g, g = va_up gi170 q174 (fun _ => 0) := ⟨_, rfl⟩
  have hE := hE.add (k0 := 54) (f := (fun _ => 0)) (r := gr q174) n174 (Or.inr le174)
  rw [th_upid gr q174, ← et174, ← eg174] at hE
  rw [← et174, ← eg174] at hH
  have og174 : ∀ b, b ≠ q174 → gi174 b = gi170 b := fun b hb => by rw [eg174]; exact va_up_ne _ _ hb
  have t175 : τ174 q1 = 40 := (by rw [et174]; exact th_tk t135 (by decide) n174)
  have t176 : τ174 q4 = 41 := (by rw [et174]; exact th_tk t136 (by decide) n174)
  have t177 : τ174 q8 = 42 := (by rw [et174]; exact th_tk t137 (by decide) n174)
  have t178 : τ174 q13 = 43 := (by rw [et174]; exact th_tk t138 (by decide) n174)
  have t179 : τ174 q19 = 44 := (by rw [et174]; exact th_tk t139 (by decide) n174)
  have t180 : τ174 q26 = 45 := (by rw [et174]; exact th_tk t140 (by decide) n174)
  have t181 : τ174 q34 = 46 := (by rw [et174]; exact th_tk t141 (by decide) n174)
  have t182 : τ174 q43 = 47 := (by rw [et174]; exact th_tk t142 (by decide) n174)
  have t183 : τ174 q53 = 48 := (by rw [et174]; exact th_tk t143 (by decide) n174)
  have t184 : τ174 q64 = 49 := (by rw [et174]; exact th_tk t144 (by decide) n174)
  have t185 : τ174 q76 = 50 := (by rw [et174]; exact th_tk t145 (by decide) n174)
  have t186 : τ174 q89 = 51 := (by rw [et174]; exact th_tk t146 (by decide) n174)
  have t187 : τ174 q104 = 52 := (by rw [et174]; exact th_tk t147 (by decide) n174)
  have t188 : τ174 q134 = 53 := (by rw [et174]; exact th_tk tn134 (by decide) n174)
  have z189 : τ174 h0 = 0 := (by rw [et174]; exact th_tz z148 (Nat.ne_of_lt (by rw [← s174]; exact lt174_h0)))
  have tn174 : τ174 q174 = 54 := by rw [et174]; exact va_up_self _ _ _
  have e190 : (-1) = gi174 q104 ((7 : Int32).toNatClampNeg) := by rw [og174 q104 (th_ne t187 tn174 (by decide))]; exact e171
  have e191 : (-1) = gi174 q134 ((7 : Int32).toNatClampNeg) := by rw [og174 q134 (th_ne t188 tn174 (by decide))]; exact hu170.symm
  refine W.widen (k := 15) (n := 198) (by omega) (by omega) ?_
  refine th_rputF (ci := 11) (v := .ref q174) (T := TX12) (C := RX12) (N := 38) (ty := (.array .int)) hx hb hts (fun w h => List.mem_cons_of_mem _ (List.mem_append_right _ h)) tyX12 tyX12_ok nmX12 hown hK hH hS z189 (Or.inl rfl) hR_h0 rfl 18 (by decide) (hts (.fieldLink RX12 56 "BayMooringsModel" "list" "[I") (List.mem_cons_of_mem _ (List.mem_append_left _ (List.mem_append_left _ (List.mem_of_getElem? (i := 19) rfl))))) (fun _ h9 => h9) rfl hin rfl (by decide +kernel) rfl rfl (Nat.le_of_ble_eq_true rfl) dX12_init_196 (fun H locs hR_h0 hH hS y192 o192 => ?_)
  have hR_h0 : va_P D vwCl [(h0, .inr (11, [.int 0, .ref q1, .ref q4, .ref q8, .ref q13, .ref q19, .ref q26, .ref q34, .int 0, .ref q43, .ref q53, .ref q64, .ref q76, .ref q89, .int 255, .ref q104, .ref q134, .int 0, .ref q174, .null, .int 0, .null, .null, .int 0, .int 0, .null, .null, .int 0, .null, .null, .null, .null, .null, .int 0, .null, .null, .null, .null]))] H := hR_h0
  refine lv_aload_n hx hb dX12_init_199 rfl (lv_at hl 0 rfl) ?_
  refine lv_bipush (v := 16) hx hb dX12_init_200 (by decide) ?_
  have hle193 := hS.1
  have lt193_h0 := (hR_h0 0 _ rfl).lt
  refine th_newI (atype := .int) (cI := cA 0) (N' := 16) hx hb (hts (.arrayClass .int) (List.mem_cons_of_mem _ (List.mem_append_left _ (List.mem_append_left _ (List.mem_of_getElem? (i := 3) rfl))))) hK 0 rfl (fun h => h) hH hS hA 55 (by decide) (by decide) (by decide) (Nat.le_of_ble_eq_true rfl) (Nat.le_of_ble_eq_true rfl) rfl (fun _ => rfl) (fun _ _ => trivial) dX12_init_202 (fun q193 H s193 y193 n193 o193 hH hS => ?_)
  have le193 : s.heap.size ≤ q193 := by rw [← s193]; exact hle193
  have hR_h0 := th_P1 hR_h0 (o193 _ (by rw [← s193]; exact lt193_h0))
  obtain ⟨τ193, et193⟩ : ∃ t, t = va_up τ174 q193 55 := ⟨_, rfl⟩
  have zz193 := hE.z n193
  obtain ⟨gi193, eg193⟩ : ∃ g, g = va_up gi174 q193 (fun _ => 0) := ⟨_, rfl⟩
  have hE := hE.add (k0 := 55) (f := (fun _ => 0)) (r := gr q193) n193 (Or.inr le193)
  rw [th_upid gr q193, ← et193, ← eg193] at hE
  rw [← et193, ← eg193] at hH
  have og193 : ∀ b, b ≠ q193 → gi193 b = gi174 b := fun b hb => by rw [eg193]; exact va_up_ne _ _ hb
  have t194 : τ193 q1 = 40 := (by rw [et193]; exact th_tk t175 (by decide) n193)
  have t195 : τ193 q4 = 41 := (by rw [et193]; exact th_tk t176 (by decide) n193)
  have t196 : τ193 q8 = 42 := (by rw [et193]; exact th_tk t177 (by decide) n193)
  have t197 : τ193 q13 = 43 := (by rw [et193]; exact th_tk t178 (by decide) n193)
  have t198 : τ193 q19 = 44 := (by rw [et193]; exact th_tk t179 (by decide) n193)
  have t199 : τ193 q26 = 45 := (by rw [et193]; exact th_tk t180 (by decide) n193)
  have t200 : τ193 q34 = 46 := (by rw [et193]; exact th_tk t181 (by decide) n193)
  have t201 : τ193 q43 = 47 := (by rw [et193]; exact th_tk t182 (by decide) n193)
  have t202 : τ193 q53 = 48 := (by rw [et193]; exact th_tk t183 (by decide) n193)
  have t203 : τ193 q64 = 49 := (by rw [et193]; exact th_tk t184 (by decide) n193)
  have t204 : τ193 q76 = 50 := (by rw [et193]; exact th_tk t185 (by decide) n193)
  have t205 : τ193 q89 = 51 := (by rw [et193]; exact th_tk t186 (by decide) n193)
  have t206 : τ193 q104 = 52 := (by rw [et193]; exact th_tk t187 (by decide) n193)
  have t207 : τ193 q134 = 53 := (by rw [et193]; exact th_tk t188 (by decide) n193)
  have t208 : τ193 q174 = 54 := (by rw [et193]; exact th_tk tn174 (by decide) n193)
  have z209 : τ193 h0 = 0 := (by rw [et193]; exact th_tz z189 (Nat.ne_of_lt (by rw [← s193]; exact lt193_h0)))
  have tn193 : τ193 q193 = 55 := by rw [et193]; exact va_up_self _ _ _
  have e210 : (-1) = gi193 q104 ((7 : Int32).toNatClampNeg) := by rw [og193 q104 (th_ne t206 tn193 (by decide))]; exact e190
  have e211 : (-1) = gi193 q134 ((7 : Int32).toNatClampNeg) := by rw [og193 q134 (th_ne t207 tn193 (by decide))]; exact e191
  refine W.widen (k := 16) (n := 214) (by omega) (by omega) ?_
  refine th_rputF (ci := 11) (v := .ref q193) (T := TX12) (C := RX12) (N := 38) (ty := (.array .int)) hx hb hts (fun w h => List.mem_cons_of_mem _ (List.mem_append_right _ h)) tyX12 tyX12_ok nmX12 hown hK hH hS z209 (Or.inl rfl) hR_h0 rfl 19 (by decide) (hts (.fieldLink RX12 59 "BayMooringsModel" "refused" "[I") (List.mem_cons_of_mem _ (List.mem_append_left _ (List.mem_append_left _ (List.mem_of_getElem? (i := 20) rfl))))) (fun _ h9 => h9) rfl hin rfl (by decide +kernel) rfl rfl (Nat.le_of_ble_eq_true rfl) dX12_init_204 (fun H locs hR_h0 hH hS y212 o212 => ?_)
  have hR_h0 : va_P D vwCl [(h0, .inr (11, [.int 0, .ref q1, .ref q4, .ref q8, .ref q13, .ref q19, .ref q26, .ref q34, .int 0, .ref q43, .ref q53, .ref q64, .ref q76, .ref q89, .int 255, .ref q104, .ref q134, .int 0, .ref q174, .ref q193, .int 0, .null, .null, .int 0, .int 0, .null, .null, .int 0, .null, .null, .null, .null, .null, .int 0, .null, .null, .null, .null]))] H := hR_h0
  refine lv_aload_n hx hb dX12_init_207 rfl (lv_at hl 0 rfl) ?_
  refine lv_iconst (v := 1) hx hb dX12_init_208 (by decide) ?_
  refine th_rput (ci := 11) (v := .int 1) (T := TX12) (C := RX12) (N := 38) (ty := .int) hx hb hts (fun w h => List.mem_cons_of_mem _ (List.mem_append_right _ h)) tyX12 tyX12_ok nmX12 hown hK hH hS z209 (Or.inl rfl) hR_h0 rfl 20 (by decide) (hts (.fieldLink RX12 62 "BayMooringsModel" "stays" "I") (List.mem_cons_of_mem _ (List.mem_append_left _ (List.mem_append_left _ (List.mem_of_getElem? (i := 21) rfl))))) (fun _ h9 => h9) rfl (by decide +kernel) rfl rfl (Nat.le_of_ble_eq_true rfl) dX12_init_209 (fun H locs hR_h0 hH hS y213 o213 => ?_)
  have hR_h0 : va_P D vwCl [(h0, .inr (11, [.int 0, .ref q1, .ref q4, .ref q8, .ref q13, .ref q19, .ref q26, .ref q34, .int 0, .ref q43, .ref q53, .ref q64, .ref q76, .ref q89, .int 255, .ref q104, .ref q134, .int 0, .ref q174, .ref q193, .int 1, .null, .null, .int 0, .int 0, .null, .null, .int 0, .null, .null, .null, .null, .null, .int 0, .null, .null, .null, .null]))] H := hR_h0
  refine lv_aload_n hx hb dX12_init_212 rfl (lv_at hl 0 rfl) ?_
  refine lv_bipush (v := 16) hx hb dX12_init_213 (by decide) ?_
  have hle214 := hS.1
  have lt214_h0 := (hR_h0 0 _ rfl).lt
  refine th_newI (atype := .int) (cI := cA 0) (N' := 16) hx hb (hts (.arrayClass .int) (List.mem_cons_of_mem _ (List.mem_append_left _ (List.mem_append_left _ (List.mem_of_getElem? (i := 3) rfl))))) hK 0 rfl (fun h => h) hH hS hA 56 (by decide) (by decide) (by decide) (Nat.le_of_ble_eq_true rfl) (Nat.le_of_ble_eq_true rfl) rfl (fun _ => rfl) (fun _ _ => (fun _ _ => (show rg 0 4 (0 : Int32) from ⟨by decide, by decide⟩))) dX12_init_215 (fun q214 H s214 y214 n214 o214 hH hS => ?_)
  have le214 : s.heap.size ≤ q214 := by rw [← s214]; exact hle214
  have hR_h0 := th_P1 hR_h0 (o214 _ (by rw [← s214]; exact lt214_h0))
  obtain ⟨τ214, et214⟩ : ∃ t, t = va_up τ193 q214 56 := ⟨_, rfl⟩
  have zz214 := hE.z n214
  obtain ⟨gi214, eg214⟩ : ∃ g, g = va_up gi193 q214 (fun _ => 0) := ⟨_, rfl⟩
  have hE := hE.add (k0 := 56) (f := (fun _ => 0)) (r := gr q214) n214 (Or.inr le214)
  rw [th_upid gr q214, ← et214, ← eg214] at hE
  rw [← et214, ← eg214] at hH
  have og214 : ∀ b, b ≠ q214 → gi214 b = gi193 b := fun b hb => by rw [eg214]; exact va_up_ne _ _ hb
  have t215 : τ214 q1 = 40 := (by rw [et214]; exact th_tk t194 (by decide) n214)
  have t216 : τ214 q4 = 41 := (by rw [et214]; exact th_tk t195 (by decide) n214)
  have t217 : τ214 q8 = 42 := (by rw [et214]; exact th_tk t196 (by decide) n214)
  have t218 : τ214 q13 = 43 := (by rw [et214]; exact th_tk t197 (by decide) n214)
  have t219 : τ214 q19 = 44 := (by rw [et214]; exact th_tk t198 (by decide) n214)
  have t220 : τ214 q26 = 45 := (by rw [et214]; exact th_tk t199 (by decide) n214)
  have t221 : τ214 q34 = 46 := (by rw [et214]; exact th_tk t200 (by decide) n214)
  have t222 : τ214 q43 = 47 := (by rw [et214]; exact th_tk t201 (by decide) n214)
  have t223 : τ214 q53 = 48 := (by rw [et214]; exact th_tk t202 (by decide) n214)
  have t224 : τ214 q64 = 49 := (by rw [et214]; exact th_tk t203 (by decide) n214)
  have t225 : τ214 q76 = 50 := (by rw [et214]; exact th_tk t204 (by decide) n214)
  have t226 : τ214 q89 = 51 := (by rw [et214]; exact th_tk t205 (by decide) n214)
  have t227 : τ214 q104 = 52 := (by rw [et214]; exact th_tk t206 (by decide) n214)
  have t228 : τ214 q134 = 53 := (by rw [et214]; exact th_tk t207 (by decide) n214)
  have t229 : τ214 q174 = 54 := (by rw [et214]; exact th_tk t208 (by decide) n214)
  have t230 : τ214 q193 = 55 := (by rw [et214]; exact th_tk tn193 (by decide) n214)
  have z231 : τ214 h0 = 0 := (by rw [et214]; exact th_tz z209 (Nat.ne_of_lt (by rw [← s214]; exact lt214_h0)))
  have tn214 : τ214 q214 = 56 := by rw [et214]; exact va_up_self _ _ _
  have e232 : (-1) = gi214 q104 ((7 : Int32).toNatClampNeg) := by rw [og214 q104 (th_ne t227 tn214 (by decide))]; exact e210
  have e233 : (-1) = gi214 q134 ((7 : Int32).toNatClampNeg) := by rw [og214 q134 (th_ne t228 tn214 (by decide))]; exact e211
  refine W.widen (k := 17) (n := 230) (by omega) (by omega) ?_
  refine th_rputF (ci := 11) (v := .ref q214) (T := TX12) (C := RX12) (N := 38) (ty := (.array .int)) hx hb hts (fun w h => List.mem_cons_of_mem _ (List.mem_append_right _ h)) tyX12 tyX12_ok nmX12 hown hK hH hS z231 (Or.inl rfl) hR_h0 rfl 21 (by decide) (hts (.fieldLink RX12 65 "BayMooringsModel" "rathers" "[I") (List.mem_cons_of_mem _ (List.mem_append_left _ (List.mem_append_left _ (List.mem_of_getElem? (i := 22) rfl))))) (fun _ h9 => h9) rfl hin rfl (by decide +kernel) rfl rfl (Nat.le_of_ble_eq_true rfl) dX12_init_217 (fun H locs hR_h0 hH hS y234 o234 => ?_)
  have hR_h0 : va_P D vwCl [(h0, .inr (11, [.int 0, .ref q1, .ref q4, .ref q8, .ref q13, .ref q19, .ref q26, .ref q34, .int 0, .ref q43, .ref q53, .ref q64, .ref q76, .ref q89, .int 255, .ref q104, .ref q134, .int 0, .ref q174, .ref q193, .int 1, .ref q214, .null, .int 0, .int 0, .null, .null, .int 0, .null, .null, .null, .null, .null, .int 0, .null, .null, .null, .null]))] H := hR_h0
  refine lv_aload_n hx hb dX12_init_220 rfl (lv_at hl 0 rfl) ?_
  refine lv_bipush (v := 64) hx hb dX12_init_221 (by decide) ?_
  have hle235 := hS.1
  have lt235_h0 := (hR_h0 0 _ rfl).lt
  refine th_newI (atype := .int) (cI := cA 0) (N' := 64) hx hb (hts (.arrayClass .int) (List.mem_cons_of_mem _ (List.mem_append_left _ (List.mem_append_left _ (List.mem_of_getElem? (i := 3) rfl))))) hK 0 rfl (fun h => h) hH hS hA 57 (by decide) (by decide) (by decide) (Nat.le_of_ble_eq_true rfl) (Nat.le_of_ble_eq_true rfl) rfl (fun _ => rfl) (fun _ _ => (fun _ _ => (show rg 0 11 (0 : Int32) from ⟨by decide, by decide⟩))) dX12_init_223 (fun q235 H s235 y235 n235 o235 hH hS => ?_)
  have le235 : s.heap.size ≤ q235 := by rw [← s235]; exact hle235
  have hR_h0 := th_P1 hR_h0 (o235 _ (by rw [← s235]; exact lt235_h0))
  obtain ⟨τ235, et235⟩ : ∃ t, t = va_up τ214 q235 57 := ⟨_, rfl⟩
  have zz235 := hE.z n235
  obtain ⟨gi235, eg235⟩ : ∃ g, g = va_up gi214 q235 (fun _ => 0) := ⟨_, rfl⟩
  have hE := hE.add (k0 := 57) (f := (fun _ => 0)) (r := gr q235) n235 (Or.inr le235)
  rw [th_upid gr q235, ← et235, ← eg235] at hE
  rw [← et235, ← eg235] at hH
  have og235 : ∀ b, b ≠ q235 → gi235 b = gi214 b := fun b hb => by rw [eg235]; exact va_up_ne _ _ hb
  have t236 : τ235 q1 = 40 := (by rw [et235]; exact th_tk t215 (by decide) n235)
  have t237 : τ235 q4 = 41 := (by rw [et235]; exact th_tk t216 (by decide) n235)
  have t238 : τ235 q8 = 42 := (by rw [et235]; exact th_tk t217 (by decide) n235)
  have t239 : τ235 q13 = 43 := (by rw [et235]; exact th_tk t218 (by decide) n235)
  have t240 : τ235 q19 = 44 := (by rw [et235]; exact th_tk t219 (by decide) n235)
  have t241 : τ235 q26 = 45 := (by rw [et235]; exact th_tk t220 (by decide) n235)
  have t242 : τ235 q34 = 46 := (by rw [et235]; exact th_tk t221 (by decide) n235)
  have t243 : τ235 q43 = 47 := (by rw [et235]; exact th_tk t222 (by decide) n235)
  have t244 : τ235 q53 = 48 := (by rw [et235]; exact th_tk t223 (by decide) n235)
  have t245 : τ235 q64 = 49 := (by rw [et235]; exact th_tk t224 (by decide) n235)
  have t246 : τ235 q76 = 50 := (by rw [et235]; exact th_tk t225 (by decide) n235)
  have t247 : τ235 q89 = 51 := (by rw [et235]; exact th_tk t226 (by decide) n235)
  have t248 : τ235 q104 = 52 := (by rw [et235]; exact th_tk t227 (by decide) n235)
  have t249 : τ235 q134 = 53 := (by rw [et235]; exact th_tk t228 (by decide) n235)
  have t250 : τ235 q174 = 54 := (by rw [et235]; exact th_tk t229 (by decide) n235)
  have t251 : τ235 q193 = 55 := (by rw [et235]; exact th_tk t230 (by decide) n235)
  have t252 : τ235 q214 = 56 := (by rw [et235]; exact th_tk tn214 (by decide) n235)
  have z253 : τ235 h0 = 0 := (by rw [et235]; exact th_tz z231 (Nat.ne_of_lt (by rw [← s235]; exact lt235_h0)))
  have tn235 : τ235 q235 = 57 := by rw [et235]; exact va_up_self _ _ _
  have e254 : (-1) = gi235 q104 ((7 : Int32).toNatClampNeg) := by rw [og235 q104 (th_ne t248 tn235 (by decide))]; exact e232
  have e255 : (-1) = gi235 q134 ((7 : Int32).toNatClampNeg) := by rw [og235 q134 (th_ne t249 tn235 (by decide))]; exact e233
  refine W.widen (k := 18) (n := 294) (by omega) (by omega) ?_
  refine th_rputF (ci := 11) (v := .ref q235) (T := TX12) (C := RX12) (N := 38) (ty := (.array .int)) hx hb hts (fun w h => List.mem_cons_of_mem _ (List.mem_append_right _ h)) tyX12 tyX12_ok nmX12 hown hK hH hS z253 (Or.inl rfl) hR_h0 rfl 22 (by decide) (hts (.fieldLink RX12 68 "BayMooringsModel" "rather" "[I") (List.mem_cons_of_mem _ (List.mem_append_left _ (List.mem_append_left _ (List.mem_of_getElem? (i := 23) rfl))))) (fun _ h9 => h9) rfl hin rfl (by decide +kernel) rfl rfl (Nat.le_of_ble_eq_true rfl) dX12_init_225 (fun H locs hR_h0 hH hS y256 o256 => ?_)
  have hR_h0 : va_P D vwCl [(h0, .inr (11, [.int 0, .ref q1, .ref q4, .ref q8, .ref q13, .ref q19, .ref q26, .ref q34, .int 0, .ref q43, .ref q53, .ref q64, .ref q76, .ref q89, .int 255, .ref q104, .ref q134, .int 0, .ref q174, .ref q193, .int 1, .ref q214, .ref q235, .int 0, .int 0, .null, .null, .int 0, .null, .null, .null, .null, .null, .int 0, .null, .null, .null, .null]))] H := hR_h0
  refine lv_aload_n hx hb dX12_init_228 rfl (lv_at hl 0 rfl) ?_
  refine lv_iconst (v := 3) hx hb dX12_init_229 (by decide) ?_
  refine th_rput (ci := 11) (v := .int 3) (T := TX12) (C := RX12) (N := 38) (ty := .int) hx hb hts (fun w h => List.mem_cons_of_mem _ (List.mem_append_right _ h)) tyX12 tyX12_ok nmX12 hown hK hH hS z253 (Or.inl rfl) hR_h0 rfl 23 (by decide) (hts (.fieldLink RX12 71 "BayMooringsModel" "rate" "I") (List.mem_cons_of_mem _ (List.mem_append_left _ (List.mem_append_right _ (List.mem_of_getElem? (i := 0) rfl))))) (fun _ h9 => h9) rfl (by decide +kernel) rfl rfl (Nat.le_of_ble_eq_true rfl) dX12_init_230 (fun H locs hR_h0 hH hS y257 o257 => ?_)
  have hR_h0 : va_P D vwCl [(h0, .inr (11, [.int 0, .ref q1, .ref q4, .ref q8, .ref q13, .ref q19, .ref q26, .ref q34, .int 0, .ref q43, .ref q53, .ref q64, .ref q76, .ref q89, .int 255, .ref q104, .ref q134, .int 0, .ref q174, .ref q193, .int 1, .ref q214, .ref q235, .int 3, .int 0, .null, .null, .int 0, .null, .null, .null, .null, .null, .int 0, .null, .null, .null, .null]))] H := hR_h0
  refine lv_aload_n hx hb dX12_init_233 rfl (lv_at hl 0 rfl) ?_
  refine lv_bipush (v := 24) hx hb dX12_init_234 (by decide) ?_
  have hle258 := hS.1
  have lt258_h0 := (hR_h0 0 _ rfl).lt
  refine th_newI (atype := .int) (cI := cA 0) (N' := 24) hx hb (hts (.arrayClass .int) (List.mem_cons_of_mem _ (List.mem_append_left _ (List.mem_append_left _ (List.mem_of_getElem? (i := 3) rfl))))) hK 0 rfl (fun h => h) hH hS hA 58 (by decide) (by decide) (by decide) (Nat.le_of_ble_eq_true rfl) (Nat.le_of_ble_eq_true rfl) rfl (fun _ => rfl) (fun _ _ => trivial) dX12_init_236 (fun q258 H s258 y258 n258 o258 hH hS => ?_)
  have le258 : s.heap.size ≤ q258 := by rw [← s258]; exact hle258
  have hR_h0 := th_P1 hR_h0 (o258 _ (by rw [← s258]; exact lt258_h0))
  obtain ⟨τ258, et258⟩ : ∃ t, t = va_up τ235 q258 58 := ⟨_, rfl⟩
  have zz258 := hE.z n258
  obtain ⟨gi258, eg258⟩ : ∃ g, g = va_up gi235 q258 (fun _ => 0) := ⟨_, rfl⟩
  have hE := hE.add (k0 := 58) (f := (fun _ => 0)) (r := gr q258) n258 (Or.inr le258)
  rw [th_upid gr q258, ← et258, ← eg258] at hE
  rw [← et258, ← eg258] at hH
  have og258 : ∀ b, b ≠ q258 → gi258 b = gi235 b := fun b hb => by rw [eg258]; exact va_up_ne _ _ hb
  have t259 : τ258 q1 = 40 := (by rw [et258]; exact th_tk t236 (by decide) n258)
  have t260 : τ258 q4 = 41 := (by rw [et258]; exact th_tk t237 (by decide) n258)
  have t261 : τ258 q8 = 42 := (by rw [et258]; exact th_tk t238 (by decide) n258)
  have t262 : τ258 q13 = 43 := (by rw [et258]; exact th_tk t239 (by decide) n258)
  have t263 : τ258 q19 = 44 := (by rw [et258]; exact th_tk t240 (by decide) n258)
  have t264 : τ258 q26 = 45 := (by rw [et258]; exact th_tk t241 (by decide) n258)
  have t265 : τ258 q34 = 46 := (by rw [et258]; exact th_tk t242 (by decide) n258)
  have t266 : τ258 q43 = 47 := (by rw [et258]; exact th_tk t243 (by decide) n258)
  have t267 : τ258 q53 = 48 := (by rw [et258]; exact th_tk t244 (by decide) n258)
  have t268 : τ258 q64 = 49 := (by rw [et258]; exact th_tk t245 (by decide) n258)
  have t269 : τ258 q76 = 50 := (by rw [et258]; exact th_tk t246 (by decide) n258)
  have t270 : τ258 q89 = 51 := (by rw [et258]; exact th_tk t247 (by decide) n258)
  have t271 : τ258 q104 = 52 := (by rw [et258]; exact th_tk t248 (by decide) n258)
  have t272 : τ258 q134 = 53 := (by rw [et258]; exact th_tk t249 (by decide) n258)
  have t273 : τ258 q174 = 54 := (by rw [et258]; exact th_tk t250 (by decide) n258)
  have t274 : τ258 q193 = 55 := (by rw [et258]; exact th_tk t251 (by decide) n258)
  have t275 : τ258 q214 = 56 := (by rw [et258]; exact th_tk t252 (by decide) n258)
  have t276 : τ258 q235 = 57 := (by rw [et258]; exact th_tk tn235 (by decide) n258)
  have z277 : τ258 h0 = 0 := (by rw [et258]; exact th_tz z253 (Nat.ne_of_lt (by rw [← s258]; exact lt258_h0)))
  have tn258 : τ258 q258 = 58 := by rw [et258]; exact va_up_self _ _ _
  have e278 : (-1) = gi258 q104 ((7 : Int32).toNatClampNeg) := by rw [og258 q104 (th_ne t271 tn258 (by decide))]; exact e254
  have e279 : (-1) = gi258 q134 ((7 : Int32).toNatClampNeg) := by rw [og258 q134 (th_ne t272 tn258 (by decide))]; exact e255
  refine W.widen (k := 19) (n := 318) (by omega) (by omega) ?_
  refine th_rputF (ci := 11) (v := .ref q258) (T := TX12) (C := RX12) (N := 38) (ty := (.array .int)) hx hb hts (fun w h => List.mem_cons_of_mem _ (List.mem_append_right _ h)) tyX12 tyX12_ok nmX12 hown hK hH hS z277 (Or.inl rfl) hR_h0 rfl 25 (by decide) (hts (.fieldLink RX12 74 "BayMooringsModel" "told" "[I") (List.mem_cons_of_mem _ (List.mem_append_left _ (List.mem_append_right _ (List.mem_of_getElem? (i := 1) rfl))))) (fun _ h9 => h9) rfl hin rfl (by decide +kernel) rfl rfl (Nat.le_of_ble_eq_true rfl) dX12_init_238 (fun H locs hR_h0 hH hS y280 o280 => ?_)
  have hR_h0 : va_P D vwCl [(h0, .inr (11, [.int 0, .ref q1, .ref q4, .ref q8, .ref q13, .ref q19, .ref q26, .ref q34, .int 0, .ref q43, .ref q53, .ref q64, .ref q76, .ref q89, .int 255, .ref q104, .ref q134, .int 0, .ref q174, .ref q193, .int 1, .ref q214, .ref q235, .int 3, .int 0, .ref q258, .null, .int 0, .null, .null, .null, .null, .null, .int 0, .null, .null, .null, .null]))] H := hR_h0
  refine lv_aload_n hx hb dX12_init_241 rfl (lv_at hl 0 rfl) ?_
  refine lv_bipush (v := 6) hx hb dX12_init_242 (by decide) ?_
  have hle281 := hS.1
  have lt281_h0 := (hR_h0 0 _ rfl).lt
  refine th_newI (atype := .int) (cI := cA 0) (N' := 6) hx hb (hts (.arrayClass .int) (List.mem_cons_of_mem _ (List.mem_append_left _ (List.mem_append_left _ (List.mem_of_getElem? (i := 3) rfl))))) hK 0 rfl (fun h => h) hH hS hA 59 (by decide) (by decide) (by decide) (Nat.le_of_ble_eq_true rfl) (Nat.le_of_ble_eq_true rfl) rfl (fun _ => rfl) (fun _ _ => trivial) dX12_init_244 (fun q281 H s281 y281 n281 o281 hH hS => ?_)
  have le281 : s.heap.size ≤ q281 := by rw [← s281]; exact hle281
  have hR_h0 := th_P1 hR_h0 (o281 _ (by rw [← s281]; exact lt281_h0))
  obtain ⟨τ281, et281⟩ : ∃ t, t = va_up τ258 q281 59 := ⟨_, rfl⟩
  have zz281 := hE.z n281
  obtain ⟨gi281, eg281⟩ : ∃ g, g = va_up gi258 q281 (fun _ => 0) := ⟨_, rfl⟩
  have hE := hE.add (k0 := 59) (f := (fun _ => 0)) (r := gr q281) n281 (Or.inr le281)
  rw [th_upid gr q281, ← et281, ← eg281] at hE
  rw [← et281, ← eg281] at hH
  have og281 : ∀ b, b ≠ q281 → gi281 b = gi258 b := fun b hb => by rw [eg281]; exact va_up_ne _ _ hb
  have t282 : τ281 q1 = 40 := (by rw [et281]; exact th_tk t259 (by decide) n281)
  have t283 : τ281 q4 = 41 := (by rw [et281]; exact th_tk t260 (by decide) n281)
  have t284 : τ281 q8 = 42 := (by rw [et281]; exact th_tk t261 (by decide) n281)
  have t285 : τ281 q13 = 43 := (by rw [et281]; exact th_tk t262 (by decide) n281)
  have t286 : τ281 q19 = 44 := (by rw [et281]; exact th_tk t263 (by decide) n281)
  have t287 : τ281 q26 = 45 := (by rw [et281]; exact th_tk t264 (by decide) n281)
  have t288 : τ281 q34 = 46 := (by rw [et281]; exact th_tk t265 (by decide) n281)
  have t289 : τ281 q43 = 47 := (by rw [et281]; exact th_tk t266 (by decide) n281)
  have t290 : τ281 q53 = 48 := (by rw [et281]; exact th_tk t267 (by decide) n281)
  have t291 : τ281 q64 = 49 := (by rw [et281]; exact th_tk t268 (by decide) n281)
  have t292 : τ281 q76 = 50 := (by rw [et281]; exact th_tk t269 (by decide) n281)
  have t293 : τ281 q89 = 51 := (by rw [et281]; exact th_tk t270 (by decide) n281)
  have t294 : τ281 q104 = 52 := (by rw [et281]; exact th_tk t271 (by decide) n281)
  have t295 : τ281 q134 = 53 := (by rw [et281]; exact th_tk t272 (by decide) n281)
  have t296 : τ281 q174 = 54 := (by rw [et281]; exact th_tk t273 (by decide) n281)
  have t297 : τ281 q193 = 55 := (by rw [et281]; exact th_tk t274 (by decide) n281)
  have t298 : τ281 q214 = 56 := (by rw [et281]; exact th_tk t275 (by decide) n281)
  have t299 : τ281 q235 = 57 := (by rw [et281]; exact th_tk t276 (by decide) n281)
  have t300 : τ281 q258 = 58 := (by rw [et281]; exact th_tk tn258 (by decide) n281)
  have z301 : τ281 h0 = 0 := (by rw [et281]; exact th_tz z277 (Nat.ne_of_lt (by rw [← s281]; exact lt281_h0)))
  have tn281 : τ281 q281 = 59 := by rw [et281]; exact va_up_self _ _ _
  have e302 : (-1) = gi281 q104 ((7 : Int32).toNatClampNeg) := by rw [og281 q104 (th_ne t294 tn281 (by decide))]; exact e278
  have e303 : (-1) = gi281 q134 ((7 : Int32).toNatClampNeg) := by rw [og281 q134 (th_ne t295 tn281 (by decide))]; exact e279
  refine W.widen (k := 20) (n := 324) (by omega) (by omega) ?_
  refine th_rputF (ci := 11) (v := .ref q281) (T := TX12) (C := RX12) (N := 38) (ty := (.array .int)) hx hb hts (fun w h => List.mem_cons_of_mem _ (List.mem_append_right _ h)) tyX12 tyX12_ok nmX12 hown hK hH hS z301 (Or.inl rfl) hR_h0 rfl 26 (by decide) (hts (.fieldLink RX12 77 "BayMooringsModel" "findings" "[I") (List.mem_cons_of_mem _ (List.mem_append_left _ (List.mem_append_right _ (List.mem_of_getElem? (i := 2) rfl))))) (fun _ h9 => h9) rfl hin rfl (by decide +kernel) rfl rfl (Nat.le_of_ble_eq_true rfl) dX12_init_246 (fun H locs hR_h0 hH hS y304 o304 => ?_)
  have hR_h0 : va_P D vwCl [(h0, .inr (11, [.int 0, .ref q1, .ref q4, .ref q8, .ref q13, .ref q19, .ref q26, .ref q34, .int 0, .ref q43, .ref q53, .ref q64, .ref q76, .ref q89, .int 255, .ref q104, .ref q134, .int 0, .ref q174, .ref q193, .int 1, .ref q214, .ref q235, .int 3, .int 0, .ref q258, .ref q281, .int 0, .null, .null, .null, .null, .null, .int 0, .null, .null, .null, .null]))] H := hR_h0
  refine lv_aload_n hx hb dX12_init_249 rfl (lv_at hl 0 rfl) ?_
  refine lv_iconst (v := 5) hx hb dX12_init_250 (by decide) ?_
  have hle305 := hS.1
  have lt305_h0 := (hR_h0 0 _ rfl).lt
  refine th_newI (atype := .int) (cI := cA 0) (N' := 5) hx hb (hts (.arrayClass .int) (List.mem_cons_of_mem _ (List.mem_append_left _ (List.mem_append_left _ (List.mem_of_getElem? (i := 3) rfl))))) hK 0 rfl (fun h => h) hH hS hA 60 (by decide) (by decide) (by decide) (Nat.le_of_ble_eq_true rfl) (Nat.le_of_ble_eq_true rfl) rfl (fun _ => rfl) (fun _ _ => (fun _ _ => (show rg 0 15 (0 : Int32) from ⟨by decide, by decide⟩))) dX12_init_251 (fun q305 H s305 y305 n305 o305 hH hS => ?_)
  have le305 : s.heap.size ≤ q305 := by rw [← s305]; exact hle305
  have hR_h0 := th_P1 hR_h0 (o305 _ (by rw [← s305]; exact lt305_h0))
  obtain ⟨τ305, et305⟩ : ∃ t, t = va_up τ281 q305 60 := ⟨_, rfl⟩
  have zz305 := hE.z n305
  obtain ⟨gi305, eg305⟩ : ∃ g, g = va_up gi281 q305 (fun _ => 0) := ⟨_, rfl⟩
  have hE := hE.add (k0 := 60) (f := (fun _ => 0)) (r := gr q305) n305 (Or.inr le305)
  rw [th_upid gr q305, ← et305, ← eg305] at hE
  rw [← et305, ← eg305] at hH
  have og305 : ∀ b, b ≠ q305 → gi305 b = gi281 b := fun b hb => by rw [eg305]; exact va_up_ne _ _ hb
  have t306 : τ305 q1 = 40 := (by rw [et305]; exact th_tk t282 (by decide) n305)
  have t307 : τ305 q4 = 41 := (by rw [et305]; exact th_tk t283 (by decide) n305)
  have t308 : τ305 q8 = 42 := (by rw [et305]; exact th_tk t284 (by decide) n305)
  have t309 : τ305 q13 = 43 := (by rw [et305]; exact th_tk t285 (by decide) n305)
  have t310 : τ305 q19 = 44 := (by rw [et305]; exact th_tk t286 (by decide) n305)
  have t311 : τ305 q26 = 45 := (by rw [et305]; exact th_tk t287 (by decide) n305)
  have t312 : τ305 q34 = 46 := (by rw [et305]; exact th_tk t288 (by decide) n305)
  have t313 : τ305 q43 = 47 := (by rw [et305]; exact th_tk t289 (by decide) n305)
  have t314 : τ305 q53 = 48 := (by rw [et305]; exact th_tk t290 (by decide) n305)
  have t315 : τ305 q64 = 49 := (by rw [et305]; exact th_tk t291 (by decide) n305)
  have t316 : τ305 q76 = 50 := (by rw [et305]; exact th_tk t292 (by decide) n305)
  have t317 : τ305 q89 = 51 := (by rw [et305]; exact th_tk t293 (by decide) n305)
  have t318 : τ305 q104 = 52 := (by rw [et305]; exact th_tk t294 (by decide) n305)
  have t319 : τ305 q134 = 53 := (by rw [et305]; exact th_tk t295 (by decide) n305)
  have t320 : τ305 q174 = 54 := (by rw [et305]; exact th_tk t296 (by decide) n305)
  have t321 : τ305 q193 = 55 := (by rw [et305]; exact th_tk t297 (by decide) n305)
  have t322 : τ305 q214 = 56 := (by rw [et305]; exact th_tk t298 (by decide) n305)
  have t323 : τ305 q235 = 57 := (by rw [et305]; exact th_tk t299 (by decide) n305)
  have t324 : τ305 q258 = 58 := (by rw [et305]; exact th_tk t300 (by decide) n305)
  have t325 : τ305 q281 = 59 := (by rw [et305]; exact th_tk tn281 (by decide) n305)
  have z326 : τ305 h0 = 0 := (by rw [et305]; exact th_tz z301 (Nat.ne_of_lt (by rw [← s305]; exact lt305_h0)))
  have tn305 : τ305 q305 = 60 := by rw [et305]; exact va_up_self _ _ _
  have e327 : (-1) = gi305 q104 ((7 : Int32).toNatClampNeg) := by rw [og305 q104 (th_ne t318 tn305 (by decide))]; exact e302
  have e328 : (-1) = gi305 q134 ((7 : Int32).toNatClampNeg) := by rw [og305 q134 (th_ne t319 tn305 (by decide))]; exact e303
  refine W.widen (k := 21) (n := 329) (by omega) (by omega) ?_
  refine th_rputF (ci := 11) (v := .ref q305) (T := TX12) (C := RX12) (N := 38) (ty := (.array .int)) hx hb hts (fun w h => List.mem_cons_of_mem _ (List.mem_append_right _ h)) tyX12 tyX12_ok nmX12 hown hK hH hS z326 (Or.inl rfl) hR_h0 rfl 28 (by decide) (hts (.fieldLink RX12 80 "BayMooringsModel" "someOf" "[I") (List.mem_cons_of_mem _ (List.mem_append_left _ (List.mem_append_right _ (List.mem_of_getElem? (i := 3) rfl))))) (fun _ h9 => h9) rfl hin rfl (by decide +kernel) rfl rfl (Nat.le_of_ble_eq_true rfl) dX12_init_253 (fun H locs hR_h0 hH hS y329 o329 => ?_)
  have hR_h0 : va_P D vwCl [(h0, .inr (11, [.int 0, .ref q1, .ref q4, .ref q8, .ref q13, .ref q19, .ref q26, .ref q34, .int 0, .ref q43, .ref q53, .ref q64, .ref q76, .ref q89, .int 255, .ref q104, .ref q134, .int 0, .ref q174, .ref q193, .int 1, .ref q214, .ref q235, .int 3, .int 0, .ref q258, .ref q281, .int 0, .ref q305, .null, .null, .null, .null, .int 0, .null, .null, .null, .null]))] H := hR_h0
  refine lv_aload_n hx hb dX12_init_256 rfl (lv_at hl 0 rfl) ?_
  refine lv_iconst (v := 5) hx hb dX12_init_257 (by decide) ?_
  have hle330 := hS.1
  have lt330_h0 := (hR_h0 0 _ rfl).lt
  refine th_newI (atype := .int) (cI := cA 0) (N' := 5) hx hb (hts (.arrayClass .int) (List.mem_cons_of_mem _ (List.mem_append_left _ (List.mem_append_left _ (List.mem_of_getElem? (i := 3) rfl))))) hK 0 rfl (fun h => h) hH hS hA 61 (by decide) (by decide) (by decide) (Nat.le_of_ble_eq_true rfl) (Nat.le_of_ble_eq_true rfl) rfl (fun _ => rfl) (fun _ _ => trivial) dX12_init_258 (fun q330 H s330 y330 n330 o330 hH hS => ?_)
  have le330 : s.heap.size ≤ q330 := by rw [← s330]; exact hle330
  have hR_h0 := th_P1 hR_h0 (o330 _ (by rw [← s330]; exact lt330_h0))
  obtain ⟨τ330, et330⟩ : ∃ t, t = va_up τ305 q330 61 := ⟨_, rfl⟩
  have zz330 := hE.z n330
  obtain ⟨gi330, eg330⟩ : ∃ g, g = va_up gi305 q330 (fun _ => 0) := ⟨_, rfl⟩
  have hE := hE.add (k0 := 61) (f := (fun _ => 0)) (r := gr q330) n330 (Or.inr le330)
  rw [th_upid gr q330, ← et330, ← eg330] at hE
  rw [← et330, ← eg330] at hH
  have og330 : ∀ b, b ≠ q330 → gi330 b = gi305 b := fun b hb => by rw [eg330]; exact va_up_ne _ _ hb
  have t331 : τ330 q1 = 40 := (by rw [et330]; exact th_tk t306 (by decide) n330)
  have t332 : τ330 q4 = 41 := (by rw [et330]; exact th_tk t307 (by decide) n330)
  have t333 : τ330 q8 = 42 := (by rw [et330]; exact th_tk t308 (by decide) n330)
  have t334 : τ330 q13 = 43 := (by rw [et330]; exact th_tk t309 (by decide) n330)
  have t335 : τ330 q19 = 44 := (by rw [et330]; exact th_tk t310 (by decide) n330)
  have t336 : τ330 q26 = 45 := (by rw [et330]; exact th_tk t311 (by decide) n330)
  have t337 : τ330 q34 = 46 := (by rw [et330]; exact th_tk t312 (by decide) n330)
  have t338 : τ330 q43 = 47 := (by rw [et330]; exact th_tk t313 (by decide) n330)
  have t339 : τ330 q53 = 48 := (by rw [et330]; exact th_tk t314 (by decide) n330)
  have t340 : τ330 q64 = 49 := (by rw [et330]; exact th_tk t315 (by decide) n330)
  have t341 : τ330 q76 = 50 := (by rw [et330]; exact th_tk t316 (by decide) n330)
  have t342 : τ330 q89 = 51 := (by rw [et330]; exact th_tk t317 (by decide) n330)
  have t343 : τ330 q104 = 52 := (by rw [et330]; exact th_tk t318 (by decide) n330)
  have t344 : τ330 q134 = 53 := (by rw [et330]; exact th_tk t319 (by decide) n330)
  have t345 : τ330 q174 = 54 := (by rw [et330]; exact th_tk t320 (by decide) n330)
  have t346 : τ330 q193 = 55 := (by rw [et330]; exact th_tk t321 (by decide) n330)
  have t347 : τ330 q214 = 56 := (by rw [et330]; exact th_tk t322 (by decide) n330)
  have t348 : τ330 q235 = 57 := (by rw [et330]; exact th_tk t323 (by decide) n330)
  have t349 : τ330 q258 = 58 := (by rw [et330]; exact th_tk t324 (by decide) n330)
  have t350 : τ330 q281 = 59 := (by rw [et330]; exact th_tk t325 (by decide) n330)
  have t351 : τ330 q305 = 60 := (by rw [et330]; exact th_tk tn305 (by decide) n330)
  have z352 : τ330 h0 = 0 := (by rw [et330]; exact th_tz z326 (Nat.ne_of_lt (by rw [← s330]; exact lt330_h0)))
  have tn330 : τ330 q330 = 61 := by rw [et330]; exact va_up_self _ _ _
  have e353 : (-1) = gi330 q104 ((7 : Int32).toNatClampNeg) := by rw [og330 q104 (th_ne t343 tn330 (by decide))]; exact e327
  have e354 : (-1) = gi330 q134 ((7 : Int32).toNatClampNeg) := by rw [og330 q134 (th_ne t344 tn330 (by decide))]; exact e328
  refine W.widen (k := 22) (n := 334) (by omega) (by omega) ?_
  refine th_rputF (ci := 11) (v := .ref q330) (T := TX12) (C := RX12) (N := 38) (ty := (.array .int)) hx hb hts (fun w h => List.mem_cons_of_mem _ (List.mem_append_right _ h)) tyX12 tyX12_ok nmX12 hown hK hH hS z352 (Or.inl rfl) hR_h0 rfl 29 (by decide) (hts (.fieldLink RX12 83 "BayMooringsModel" "may" "[I") (List.mem_cons_of_mem _ (List.mem_append_left _ (List.mem_append_right _ (List.mem_of_getElem? (i := 4) rfl))))) (fun _ h9 => h9) rfl hin rfl (by decide +kernel) rfl rfl (Nat.le_of_ble_eq_true rfl) dX12_init_260 (fun H locs hR_h0 hH hS y355 o355 => ?_)
  have hR_h0 : va_P D vwCl [(h0, .inr (11, [.int 0, .ref q1, .ref q4, .ref q8, .ref q13, .ref q19, .ref q26, .ref q34, .int 0, .ref q43, .ref q53, .ref q64, .ref q76, .ref q89, .int 255, .ref q104, .ref q134, .int 0, .ref q174, .ref q193, .int 1, .ref q214, .ref q235, .int 3, .int 0, .ref q258, .ref q281, .int 0, .ref q305, .ref q330, .null, .null, .null, .int 0, .null, .null, .null, .null]))] H := hR_h0
  refine lv_aload_n hx hb dX12_init_263 rfl (lv_at hl 0 rfl) ?_
  refine lv_bipush (v := 6) hx hb dX12_init_264 (by decide) ?_
  have hle356 := hS.1
  have lt356_h0 := (hR_h0 0 _ rfl).lt
  refine th_newI (atype := .int) (cI := cA 0) (N' := 6) hx hb (hts (.arrayClass .int) (List.mem_cons_of_mem _ (List.mem_append_left _ (List.mem_append_left _ (List.mem_of_getElem? (i := 3) rfl))))) hK 0 rfl (fun h => h) hH hS hA 62 (by decide) (by decide) (by decide) (Nat.le_of_ble_eq_true rfl) (Nat.le_of_ble_eq_true rfl) rfl (fun _ => rfl) (fun _ _ => (fun _ _ => (show rg (-1) 13 (0 : Int32) from ⟨by decide, by decide⟩))) dX12_init_266 (fun q356 H s356 y356 n356 o356 hH hS => ?_)
  have le356 : s.heap.size ≤ q356 := by rw [← s356]; exact hle356
  have hR_h0 := th_P1 hR_h0 (o356 _ (by rw [← s356]; exact lt356_h0))
  obtain ⟨τ356, et356⟩ : ∃ t, t = va_up τ330 q356 62 := ⟨_, rfl⟩
  have zz356 := hE.z n356
  obtain ⟨gi356, eg356⟩ : ∃ g, g = va_up gi330 q356 (fun _ => 0) := ⟨_, rfl⟩
  have hE := hE.add (k0 := 62) (f := (fun _ => 0)) (r := gr q356) n356 (Or.inr le356)
  rw [th_upid gr q356, ← et356, ← eg356] at hE
  rw [← et356, ← eg356] at hH
  have og356 : ∀ b, b ≠ q356 → gi356 b = gi330 b := fun b hb => by rw [eg356]; exact va_up_ne _ _ hb
  have t357 : τ356 q1 = 40 := (by rw [et356]; exact th_tk t331 (by decide) n356)
  have t358 : τ356 q4 = 41 := (by rw [et356]; exact th_tk t332 (by decide) n356)
  have t359 : τ356 q8 = 42 := (by rw [et356]; exact th_tk t333 (by decide) n356)
  have t360 : τ356 q13 = 43 := (by rw [et356]; exact th_tk t334 (by decide) n356)
  have t361 : τ356 q19 = 44 := (by rw [et356]; exact th_tk t335 (by decide) n356)
  have t362 : τ356 q26 = 45 := (by rw [et356]; exact th_tk t336 (by decide) n356)
  have t363 : τ356 q34 = 46 := (by rw [et356]; exact th_tk t337 (by decide) n356)
  have t364 : τ356 q43 = 47 := (by rw [et356]; exact th_tk t338 (by decide) n356)
  have t365 : τ356 q53 = 48 := (by rw [et356]; exact th_tk t339 (by decide) n356)
  have t366 : τ356 q64 = 49 := (by rw [et356]; exact th_tk t340 (by decide) n356)
  have t367 : τ356 q76 = 50 := (by rw [et356]; exact th_tk t341 (by decide) n356)
  have t368 : τ356 q89 = 51 := (by rw [et356]; exact th_tk t342 (by decide) n356)
  have t369 : τ356 q104 = 52 := (by rw [et356]; exact th_tk t343 (by decide) n356)
  have t370 : τ356 q134 = 53 := (by rw [et356]; exact th_tk t344 (by decide) n356)
  have t371 : τ356 q174 = 54 := (by rw [et356]; exact th_tk t345 (by decide) n356)
  have t372 : τ356 q193 = 55 := (by rw [et356]; exact th_tk t346 (by decide) n356)
  have t373 : τ356 q214 = 56 := (by rw [et356]; exact th_tk t347 (by decide) n356)
  have t374 : τ356 q235 = 57 := (by rw [et356]; exact th_tk t348 (by decide) n356)
  have t375 : τ356 q258 = 58 := (by rw [et356]; exact th_tk t349 (by decide) n356)
  have t376 : τ356 q281 = 59 := (by rw [et356]; exact th_tk t350 (by decide) n356)
  have t377 : τ356 q305 = 60 := (by rw [et356]; exact th_tk t351 (by decide) n356)
  have t378 : τ356 q330 = 61 := (by rw [et356]; exact th_tk tn330 (by decide) n356)
  have z379 : τ356 h0 = 0 := (by rw [et356]; exact th_tz z352 (Nat.ne_of_lt (by rw [← s356]; exact lt356_h0)))
  have tn356 : τ356 q356 = 62 := by rw [et356]; exact va_up_self _ _ _
  have e380 : (-1) = gi356 q104 ((7 : Int32).toNatClampNeg) := by rw [og356 q104 (th_ne t369 tn356 (by decide))]; exact e353
  have e381 : (-1) = gi356 q134 ((7 : Int32).toNatClampNeg) := by rw [og356 q134 (th_ne t370 tn356 (by decide))]; exact e354
  refine W.widen (k := 23) (n := 340) (by omega) (by omega) ?_
  refine th_rputF (ci := 11) (v := .ref q356) (T := TX12) (C := RX12) (N := 38) (ty := (.array .int)) hx hb hts (fun w h => List.mem_cons_of_mem _ (List.mem_append_right _ h)) tyX12 tyX12_ok nmX12 hown hK hH hS z379 (Or.inl rfl) hR_h0 rfl 30 (by decide) (hts (.fieldLink RX12 86 "BayMooringsModel" "tried" "[I") (List.mem_cons_of_mem _ (List.mem_append_left _ (List.mem_append_right _ (List.mem_of_getElem? (i := 5) rfl))))) (fun _ h9 => h9) rfl hin rfl (by decide +kernel) rfl rfl (Nat.le_of_ble_eq_true rfl) dX12_init_268 (fun H locs hR_h0 hH hS y382 o382 => ?_)
  have hR_h0 : va_P D vwCl [(h0, .inr (11, [.int 0, .ref q1, .ref q4, .ref q8, .ref q13, .ref q19, .ref q26, .ref q34, .int 0, .ref q43, .ref q53, .ref q64, .ref q76, .ref q89, .int 255, .ref q104, .ref q134, .int 0, .ref q174, .ref q193, .int 1, .ref q214, .ref q235, .int 3, .int 0, .ref q258, .ref q281, .int 0, .ref q305, .ref q330, .ref q356, .null, .null, .int 0, .null, .null, .null, .null]))] H := hR_h0
  refine lv_aload_n hx hb dX12_init_271 rfl (lv_at hl 0 rfl) ?_
  refine lv_iconst (v := 5) hx hb dX12_init_272 (by decide) ?_
  have hle383 := hS.1
  have lt383_h0 := (hR_h0 0 _ rfl).lt
  refine th_newI (atype := .int) (cI := cA 0) (N' := 5) hx hb (hts (.arrayClass .int) (List.mem_cons_of_mem _ (List.mem_append_left _ (List.mem_append_left _ (List.mem_of_getElem? (i := 3) rfl))))) hK 0 rfl (fun h => h) hH hS hA 63 (by decide) (by decide) (by decide) (Nat.le_of_ble_eq_true rfl) (Nat.le_of_ble_eq_true rfl) rfl (fun _ => rfl) (fun _ _ => trivial) dX12_init_273 (fun q383 H s383 y383 n383 o383 hH hS => ?_)
  have le383 : s.heap.size ≤ q383 := by rw [← s383]; exact hle383
  have hR_h0 := th_P1 hR_h0 (o383 _ (by rw [← s383]; exact lt383_h0))
  obtain ⟨τ383, et383⟩ : ∃ t, t = va_up τ356 q383 63 := ⟨_, rfl⟩
  have zz383 := hE.z n383
  obtain ⟨gi383, eg383⟩ : ∃ g, g = va_up gi356 q383 (fun _ => 0) := ⟨_, rfl⟩
  have hE := hE.add (k0 := 63) (f := (fun _ => 0)) (r := gr q383) n383 (Or.inr le383)
  rw [th_upid gr q383, ← et383, ← eg383] at hE
  rw [← et383, ← eg383] at hH
  have og383 : ∀ b, b ≠ q383 → gi383 b = gi356 b := fun b hb => by rw [eg383]; exact va_up_ne _ _ hb
  have t384 : τ383 q1 = 40 := (by rw [et383]; exact th_tk t357 (by decide) n383)
  have t385 : τ383 q4 = 41 := (by rw [et383]; exact th_tk t358 (by decide) n383)
  have t386 : τ383 q8 = 42 := (by rw [et383]; exact th_tk t359 (by decide) n383)
  have t387 : τ383 q13 = 43 := (by rw [et383]; exact th_tk t360 (by decide) n383)
  have t388 : τ383 q19 = 44 := (by rw [et383]; exact th_tk t361 (by decide) n383)
  have t389 : τ383 q26 = 45 := (by rw [et383]; exact th_tk t362 (by decide) n383)
  have t390 : τ383 q34 = 46 := (by rw [et383]; exact th_tk t363 (by decide) n383)
  have t391 : τ383 q43 = 47 := (by rw [et383]; exact th_tk t364 (by decide) n383)
  have t392 : τ383 q53 = 48 := (by rw [et383]; exact th_tk t365 (by decide) n383)
  have t393 : τ383 q64 = 49 := (by rw [et383]; exact th_tk t366 (by decide) n383)
  have t394 : τ383 q76 = 50 := (by rw [et383]; exact th_tk t367 (by decide) n383)
  have t395 : τ383 q89 = 51 := (by rw [et383]; exact th_tk t368 (by decide) n383)
  have t396 : τ383 q104 = 52 := (by rw [et383]; exact th_tk t369 (by decide) n383)
  have t397 : τ383 q134 = 53 := (by rw [et383]; exact th_tk t370 (by decide) n383)
  have t398 : τ383 q174 = 54 := (by rw [et383]; exact th_tk t371 (by decide) n383)
  have t399 : τ383 q193 = 55 := (by rw [et383]; exact th_tk t372 (by decide) n383)
  have t400 : τ383 q214 = 56 := (by rw [et383]; exact th_tk t373 (by decide) n383)
  have t401 : τ383 q235 = 57 := (by rw [et383]; exact th_tk t374 (by decide) n383)
  have t402 : τ383 q258 = 58 := (by rw [et383]; exact th_tk t375 (by decide) n383)
  have t403 : τ383 q281 = 59 := (by rw [et383]; exact th_tk t376 (by decide) n383)
  have t404 : τ383 q305 = 60 := (by rw [et383]; exact th_tk t377 (by decide) n383)
  have t405 : τ383 q330 = 61 := (by rw [et383]; exact th_tk t378 (by decide) n383)
  have t406 : τ383 q356 = 62 := (by rw [et383]; exact th_tk tn356 (by decide) n383)
  have z407 : τ383 h0 = 0 := (by rw [et383]; exact th_tz z379 (Nat.ne_of_lt (by rw [← s383]; exact lt383_h0)))
  have tn383 : τ383 q383 = 63 := by rw [et383]; exact va_up_self _ _ _
  have e408 : (-1) = gi383 q104 ((7 : Int32).toNatClampNeg) := by rw [og383 q104 (th_ne t396 tn383 (by decide))]; exact e380
  have e409 : (-1) = gi383 q134 ((7 : Int32).toNatClampNeg) := by rw [og383 q134 (th_ne t397 tn383 (by decide))]; exact e381
  refine W.widen (k := 24) (n := 345) (by omega) (by omega) ?_
  refine th_rputF (ci := 11) (v := .ref q383) (T := TX12) (C := RX12) (N := 38) (ty := (.array .int)) hx hb hts (fun w h => List.mem_cons_of_mem _ (List.mem_append_right _ h)) tyX12 tyX12_ok nmX12 hown hK hH hS z407 (Or.inl rfl) hR_h0 rfl 31 (by decide) (hts (.fieldLink RX12 89 "BayMooringsModel" "best" "[I") (List.mem_cons_of_mem _ (List.mem_append_left _ (List.mem_append_right _ (List.mem_of_getElem? (i := 6) rfl))))) (fun _ h9 => h9) rfl hin rfl (by decide +kernel) rfl rfl (Nat.le_of_ble_eq_true rfl) dX12_init_275 (fun H locs hR_h0 hH hS y410 o410 => ?_)
  have hR_h0 : va_P D vwCl [(h0, .inr (11, [.int 0, .ref q1, .ref q4, .ref q8, .ref q13, .ref q19, .ref q26, .ref q34, .int 0, .ref q43, .ref q53, .ref q64, .ref q76, .ref q89, .int 255, .ref q104, .ref q134, .int 0, .ref q174, .ref q193, .int 1, .ref q214, .ref q235, .int 3, .int 0, .ref q258, .ref q281, .int 0, .ref q305, .ref q330, .ref q356, .ref q383, .null, .int 0, .null, .null, .null, .null]))] H := hR_h0
  refine lv_aload_n hx hb dX12_init_278 rfl (lv_at hl 0 rfl) ?_
  refine lv_sipush (v := 300) hx hb dX12_init_279 (by decide) ?_
  have hle411 := hS.1
  have lt411_h0 := (hR_h0 0 _ rfl).lt
  refine th_newI (atype := .int) (cI := cA 0) (N' := 300) hx hb (hts (.arrayClass .int) (List.mem_cons_of_mem _ (List.mem_append_left _ (List.mem_append_left _ (List.mem_of_getElem? (i := 3) rfl))))) hK 0 rfl (fun h => h) hH hS hA 64 (by decide) (by decide) (by decide) (Nat.le_of_ble_eq_true rfl) (Nat.le_of_ble_eq_true rfl) rfl (fun _ => rfl) (fun _ _ => trivial) dX12_init_282 (fun q411 H s411 y411 n411 o411 hH hS => ?_)
  have le411 : s.heap.size ≤ q411 := by rw [← s411]; exact hle411
  have hR_h0 := th_P1 hR_h0 (o411 _ (by rw [← s411]; exact lt411_h0))
  obtain ⟨τ411, et411⟩ : ∃ t, t = va_up τ383 q411 64 := ⟨_, rfl⟩
  have zz411 := hE.z n411
  obtain ⟨gi411, eg411⟩ : ∃ g, g = va_up gi383 q411 (fun _ => 0) := ⟨_, rfl⟩
  have hE := hE.add (k0 := 64) (f := (fun _ => 0)) (r := gr q411) n411 (Or.inr le411)
  rw [th_upid gr q411, ← et411, ← eg411] at hE
  rw [← et411, ← eg411] at hH
  have og411 : ∀ b, b ≠ q411 → gi411 b = gi383 b := fun b hb => by rw [eg411]; exact va_up_ne _ _ hb
  have t412 : τ411 q1 = 40 := (by rw [et411]; exact th_tk t384 (by decide) n411)
  have t413 : τ411 q4 = 41 := (by rw [et411]; exact th_tk t385 (by decide) n411)
  have t414 : τ411 q8 = 42 := (by rw [et411]; exact th_tk t386 (by decide) n411)
  have t415 : τ411 q13 = 43 := (by rw [et411]; exact th_tk t387 (by decide) n411)
  have t416 : τ411 q19 = 44 := (by rw [et411]; exact th_tk t388 (by decide) n411)
  have t417 : τ411 q26 = 45 := (by rw [et411]; exact th_tk t389 (by decide) n411)
  have t418 : τ411 q34 = 46 := (by rw [et411]; exact th_tk t390 (by decide) n411)
  have t419 : τ411 q43 = 47 := (by rw [et411]; exact th_tk t391 (by decide) n411)
  have t420 : τ411 q53 = 48 := (by rw [et411]; exact th_tk t392 (by decide) n411)
  have t421 : τ411 q64 = 49 := (by rw [et411]; exact th_tk t393 (by decide) n411)
  have t422 : τ411 q76 = 50 := (by rw [et411]; exact th_tk t394 (by decide) n411)
  have t423 : τ411 q89 = 51 := (by rw [et411]; exact th_tk t395 (by decide) n411)
  have t424 : τ411 q104 = 52 := (by rw [et411]; exact th_tk t396 (by decide) n411)
  have t425 : τ411 q134 = 53 := (by rw [et411]; exact th_tk t397 (by decide) n411)
  have t426 : τ411 q174 = 54 := (by rw [et411]; exact th_tk t398 (by decide) n411)
  have t427 : τ411 q193 = 55 := (by rw [et411]; exact th_tk t399 (by decide) n411)
  have t428 : τ411 q214 = 56 := (by rw [et411]; exact th_tk t400 (by decide) n411)
  have t429 : τ411 q235 = 57 := (by rw [et411]; exact th_tk t401 (by decide) n411)
  have t430 : τ411 q258 = 58 := (by rw [et411]; exact th_tk t402 (by decide) n411)
  have t431 : τ411 q281 = 59 := (by rw [et411]; exact th_tk t403 (by decide) n411)
  have t432 : τ411 q305 = 60 := (by rw [et411]; exact th_tk t404 (by decide) n411)
  have t433 : τ411 q330 = 61 := (by rw [et411]; exact th_tk t405 (by decide) n411)
  have t434 : τ411 q356 = 62 := (by rw [et411]; exact th_tk t406 (by decide) n411)
  have t435 : τ411 q383 = 63 := (by rw [et411]; exact th_tk tn383 (by decide) n411)
  have z436 : τ411 h0 = 0 := (by rw [et411]; exact th_tz z407 (Nat.ne_of_lt (by rw [← s411]; exact lt411_h0)))
  have tn411 : τ411 q411 = 64 := by rw [et411]; exact va_up_self _ _ _
  have e437 : (-1) = gi411 q104 ((7 : Int32).toNatClampNeg) := by rw [og411 q104 (th_ne t424 tn411 (by decide))]; exact e408
  have e438 : (-1) = gi411 q134 ((7 : Int32).toNatClampNeg) := by rw [og411 q134 (th_ne t425 tn411 (by decide))]; exact e409
  refine W.widen (k := 25) (n := 645) (by omega) (by omega) ?_
  refine th_rputF (ci := 11) (v := .ref q411) (T := TX12) (C := RX12) (N := 38) (ty := (.array .int)) hx hb hts (fun w h => List.mem_cons_of_mem _ (List.mem_append_right _ h)) tyX12 tyX12_ok nmX12 hown hK hH hS z436 (Or.inl rfl) hR_h0 rfl 32 (by decide) (hts (.fieldLink RX12 92 "BayMooringsModel" "touching" "[I") (List.mem_cons_of_mem _ (List.mem_append_left _ (List.mem_append_right _ (List.mem_of_getElem? (i := 7) rfl))))) (fun _ h9 => h9) rfl hin rfl (by decide +kernel) rfl rfl (Nat.le_of_ble_eq_true rfl) dX12_init_284 (fun H locs hR_h0 hH hS y439 o439 => ?_)
  have hR_h0 : va_P D vwCl [(h0, .inr (11, [.int 0, .ref q1, .ref q4, .ref q8, .ref q13, .ref q19, .ref q26, .ref q34, .int 0, .ref q43, .ref q53, .ref q64, .ref q76, .ref q89, .int 255, .ref q104, .ref q134, .int 0, .ref q174, .ref q193, .int 1, .ref q214, .ref q235, .int 3, .int 0, .ref q258, .ref q281, .int 0, .ref q305, .ref q330, .ref q356, .ref q383, .ref q411, .int 0, .null, .null, .null, .null]))] H := hR_h0
  refine lv_aload_n hx hb dX12_init_287 rfl (lv_at hl 0 rfl) ?_
  refine lv_bipush (v := 16) hx hb dX12_init_288 (by decide) ?_
  have hle440 := hS.1
  have lt440_h0 := (hR_h0 0 _ rfl).lt
  refine th_newI (atype := .int) (cI := cA 0) (N' := 16) hx hb (hts (.arrayClass .int) (List.mem_cons_of_mem _ (List.mem_append_left _ (List.mem_append_left _ (List.mem_of_getElem? (i := 3) rfl))))) hK 0 rfl (fun h => h) hH hS hA 65 (by decide) (by decide) (by decide) (Nat.le_of_ble_eq_true rfl) (Nat.le_of_ble_eq_true rfl) rfl (fun _ => rfl) (fun _ _ => (fun _ _ => (show rg (-1) 11 (0 : Int32) from ⟨by decide, by decide⟩))) dX12_init_290 (fun q440 H s440 y440 n440 o440 hH hS => ?_)
  have le440 : s.heap.size ≤ q440 := by rw [← s440]; exact hle440
  have hR_h0 := th_P1 hR_h0 (o440 _ (by rw [← s440]; exact lt440_h0))
  obtain ⟨τ440, et440⟩ : ∃ t, t = va_up τ411 q440 65 := ⟨_, rfl⟩
  have zz440 := hE.z n440
  obtain ⟨gi440, eg440⟩ : ∃ g, g = va_up gi411 q440 (fun _ => 0) := ⟨_, rfl⟩
  have hE := hE.add (k0 := 65) (f := (fun _ => 0)) (r := gr q440) n440 (Or.inr le440)
  rw [th_upid gr q440, ← et440, ← eg440] at hE
  rw [← et440, ← eg440] at hH
  have og440 : ∀ b, b ≠ q440 → gi440 b = gi411 b := fun b hb => by rw [eg440]; exact va_up_ne _ _ hb
  have t441 : τ440 q1 = 40 := (by rw [et440]; exact th_tk t412 (by decide) n440)
  have t442 : τ440 q4 = 41 := (by rw [et440]; exact th_tk t413 (by decide) n440)
  have t443 : τ440 q8 = 42 := (by rw [et440]; exact th_tk t414 (by decide) n440)
  have t444 : τ440 q13 = 43 := (by rw [et440]; exact th_tk t415 (by decide) n440)
  have t445 : τ440 q19 = 44 := (by rw [et440]; exact th_tk t416 (by decide) n440)
  have t446 : τ440 q26 = 45 := (by rw [et440]; exact th_tk t417 (by decide) n440)
  have t447 : τ440 q34 = 46 := (by rw [et440]; exact th_tk t418 (by decide) n440)
  have t448 : τ440 q43 = 47 := (by rw [et440]; exact th_tk t419 (by decide) n440)
  have t449 : τ440 q53 = 48 := (by rw [et440]; exact th_tk t420 (by decide) n440)
  have t450 : τ440 q64 = 49 := (by rw [et440]; exact th_tk t421 (by decide) n440)
  have t451 : τ440 q76 = 50 := (by rw [et440]; exact th_tk t422 (by decide) n440)
  have t452 : τ440 q89 = 51 := (by rw [et440]; exact th_tk t423 (by decide) n440)
  have t453 : τ440 q104 = 52 := (by rw [et440]; exact th_tk t424 (by decide) n440)
  have t454 : τ440 q134 = 53 := (by rw [et440]; exact th_tk t425 (by decide) n440)
  have t455 : τ440 q174 = 54 := (by rw [et440]; exact th_tk t426 (by decide) n440)
  have t456 : τ440 q193 = 55 := (by rw [et440]; exact th_tk t427 (by decide) n440)
  have t457 : τ440 q214 = 56 := (by rw [et440]; exact th_tk t428 (by decide) n440)
  have t458 : τ440 q235 = 57 := (by rw [et440]; exact th_tk t429 (by decide) n440)
  have t459 : τ440 q258 = 58 := (by rw [et440]; exact th_tk t430 (by decide) n440)
  have t460 : τ440 q281 = 59 := (by rw [et440]; exact th_tk t431 (by decide) n440)
  have t461 : τ440 q305 = 60 := (by rw [et440]; exact th_tk t432 (by decide) n440)
  have t462 : τ440 q330 = 61 := (by rw [et440]; exact th_tk t433 (by decide) n440)
  have t463 : τ440 q356 = 62 := (by rw [et440]; exact th_tk t434 (by decide) n440)
  have t464 : τ440 q383 = 63 := (by rw [et440]; exact th_tk t435 (by decide) n440)
  have t465 : τ440 q411 = 64 := (by rw [et440]; exact th_tk tn411 (by decide) n440)
  have z466 : τ440 h0 = 0 := (by rw [et440]; exact th_tz z436 (Nat.ne_of_lt (by rw [← s440]; exact lt440_h0)))
  have tn440 : τ440 q440 = 65 := by rw [et440]; exact va_up_self _ _ _
  have e467 : (-1) = gi440 q104 ((7 : Int32).toNatClampNeg) := by rw [og440 q104 (th_ne t453 tn440 (by decide))]; exact e437
  have e468 : (-1) = gi440 q134 ((7 : Int32).toNatClampNeg) := by rw [og440 q134 (th_ne t454 tn440 (by decide))]; exact e438
  refine W.widen (k := 26) (n := 661) (by omega) (by omega) ?_
  refine th_rputF (ci := 11) (v := .ref q440) (T := TX12) (C := RX12) (N := 38) (ty := (.array .int)) hx hb hts (fun w h => List.mem_cons_of_mem _ (List.mem_append_right _ h)) tyX12 tyX12_ok nmX12 hown hK hH hS z466 (Or.inl rfl) hR_h0 rfl 34 (by decide) (hts (.fieldLink RX12 95 "BayMooringsModel" "gets" "[I") (List.mem_cons_of_mem _ (List.mem_append_left _ (List.mem_append_right _ (List.mem_of_getElem? (i := 8) rfl))))) (fun _ h9 => h9) rfl hin rfl (by decide +kernel) rfl rfl (Nat.le_of_ble_eq_true rfl) dX12_init_292 (fun H locs hR_h0 hH hS y469 o469 => ?_)
  have hR_h0 : va_P D vwCl [(h0, .inr (11, [.int 0, .ref q1, .ref q4, .ref q8, .ref q13, .ref q19, .ref q26, .ref q34, .int 0, .ref q43, .ref q53, .ref q64, .ref q76, .ref q89, .int 255, .ref q104, .ref q134, .int 0, .ref q174, .ref q193, .int 1, .ref q214, .ref q235, .int 3, .int 0, .ref q258, .ref q281, .int 0, .ref q305, .ref q330, .ref q356, .ref q383, .ref q411, .int 0, .ref q440, .null, .null, .null]))] H := hR_h0
  refine lv_aload_n hx hb dX12_init_295 rfl (lv_at hl 0 rfl) ?_
  refine lv_bipush (v := 16) hx hb dX12_init_296 (by decide) ?_
  have hle470 := hS.1
  have lt470_h0 := (hR_h0 0 _ rfl).lt
  refine th_newI (atype := .boolean) (cI := cA 1) (N' := 16) hx hb (hts (.arrayClass .boolean) (List.mem_cons_of_mem _ (List.mem_append_left _ (List.mem_append_right _ (List.mem_of_getElem? (i := 9) rfl))))) hK 1 rfl (fun h => h) hH hS hA 66 (by decide) (by decide) (by decide) (Nat.le_of_ble_eq_true rfl) (Nat.le_of_ble_eq_true rfl) rfl (fun _ => rfl) (fun _ _ => (fun _ _ => (show rg 0 1 (0 : Int32) from ⟨by decide, by decide⟩))) dX12_init_298 (fun q470 H s470 y470 n470 o470 hH hS => ?_)
  have le470 : s.heap.size ≤ q470 := by rw [← s470]; exact hle470
  have hR_h0 := th_P1 hR_h0 (o470 _ (by rw [← s470]; exact lt470_h0))
  obtain ⟨τ470, et470⟩ : ∃ t, t = va_up τ440 q470 66 := ⟨_, rfl⟩
  have zz470 := hE.z n470
  obtain ⟨gi470, eg470⟩ : ∃ g, g = va_up gi440 q470 (fun _ => 0) := ⟨_, rfl⟩
  have hE := hE.add (k0 := 66) (f := (fun _ => 0)) (r := gr q470) n470 (Or.inr le470)
  rw [th_upid gr q470, ← et470, ← eg470] at hE
  rw [← et470, ← eg470] at hH
  have og470 : ∀ b, b ≠ q470 → gi470 b = gi440 b := fun b hb => by rw [eg470]; exact va_up_ne _ _ hb
  have t471 : τ470 q1 = 40 := (by rw [et470]; exact th_tk t441 (by decide) n470)
  have t472 : τ470 q4 = 41 := (by rw [et470]; exact th_tk t442 (by decide) n470)
  have t473 : τ470 q8 = 42 := (by rw [et470]; exact th_tk t443 (by decide) n470)
  have t474 : τ470 q13 = 43 := (by rw [et470]; exact th_tk t444 (by decide) n470)
  have t475 : τ470 q19 = 44 := (by rw [et470]; exact th_tk t445 (by decide) n470)
  have t476 : τ470 q26 = 45 := (by rw [et470]; exact th_tk t446 (by decide) n470)
  have t477 : τ470 q34 = 46 := (by rw [et470]; exact th_tk t447 (by decide) n470)
  have t478 : τ470 q43 = 47 := (by rw [et470]; exact th_tk t448 (by decide) n470)
  have t479 : τ470 q53 = 48 := (by rw [et470]; exact th_tk t449 (by decide) n470)
  have t480 : τ470 q64 = 49 := (by rw [et470]; exact th_tk t450 (by decide) n470)
  have t481 : τ470 q76 = 50 := (by rw [et470]; exact th_tk t451 (by decide) n470)
  have t482 : τ470 q89 = 51 := (by rw [et470]; exact th_tk t452 (by decide) n470)
  have t483 : τ470 q104 = 52 := (by rw [et470]; exact th_tk t453 (by decide) n470)
  have t484 : τ470 q134 = 53 := (by rw [et470]; exact th_tk t454 (by decide) n470)
  have t485 : τ470 q174 = 54 := (by rw [et470]; exact th_tk t455 (by decide) n470)
  have t486 : τ470 q193 = 55 := (by rw [et470]; exact th_tk t456 (by decide) n470)
  have t487 : τ470 q214 = 56 := (by rw [et470]; exact th_tk t457 (by decide) n470)
  have t488 : τ470 q235 = 57 := (by rw [et470]; exact th_tk t458 (by decide) n470)
  have t489 : τ470 q258 = 58 := (by rw [et470]; exact th_tk t459 (by decide) n470)
  have t490 : τ470 q281 = 59 := (by rw [et470]; exact th_tk t460 (by decide) n470)
  have t491 : τ470 q305 = 60 := (by rw [et470]; exact th_tk t461 (by decide) n470)
  have t492 : τ470 q330 = 61 := (by rw [et470]; exact th_tk t462 (by decide) n470)
  have t493 : τ470 q356 = 62 := (by rw [et470]; exact th_tk t463 (by decide) n470)
  have t494 : τ470 q383 = 63 := (by rw [et470]; exact th_tk t464 (by decide) n470)
  have t495 : τ470 q411 = 64 := (by rw [et470]; exact th_tk t465 (by decide) n470)
  have t496 : τ470 q440 = 65 := (by rw [et470]; exact th_tk tn440 (by decide) n470)
  have z497 : τ470 h0 = 0 := (by rw [et470]; exact th_tz z466 (Nat.ne_of_lt (by rw [← s470]; exact lt470_h0)))
  have tn470 : τ470 q470 = 66 := by rw [et470]; exact va_up_self _ _ _
  have e498 : (-1) = gi470 q104 ((7 : Int32).toNatClampNeg) := by rw [og470 q104 (th_ne t483 tn470 (by decide))]; exact e467
  have e499 : (-1) = gi470 q134 ((7 : Int32).toNatClampNeg) := by rw [og470 q134 (th_ne t484 tn470 (by decide))]; exact e468
  refine W.widen (k := 27) (n := 677) (by omega) (by omega) ?_
  refine th_rputF (ci := 11) (v := .ref q470) (T := TX12) (C := RX12) (N := 38) (ty := (.array .boolean)) hx hb hts (fun w h => List.mem_cons_of_mem _ (List.mem_append_right _ h)) tyX12 tyX12_ok nmX12 hown hK hH hS z497 (Or.inl rfl) hR_h0 rfl 35 (by decide) (hts (.fieldLink RX12 98 "BayMooringsModel" "inRing" "[Z") (List.mem_cons_of_mem _ (List.mem_append_left _ (List.mem_append_right _ (List.mem_of_getElem? (i := 10) rfl))))) (fun _ h9 => h9) rfl hin rfl (by decide +kernel) rfl rfl (Nat.le_of_ble_eq_true rfl) dX12_init_300 (fun H locs hR_h0 hH hS y500 o500 => ?_)
  have hR_h0 : va_P D vwCl [(h0, .inr (11, [.int 0, .ref q1, .ref q4, .ref q8, .ref q13, .ref q19, .ref q26, .ref q34, .int 0, .ref q43, .ref q53, .ref q64, .ref q76, .ref q89, .int 255, .ref q104, .ref q134, .int 0, .ref q174, .ref q193, .int 1, .ref q214, .ref q235, .int 3, .int 0, .ref q258, .ref q281, .int 0, .ref q305, .ref q330, .ref q356, .ref q383, .ref q411, .int 0, .ref q440, .ref q470, .null, .null]))] H := hR_h0
  refine lv_aload_n hx hb dX12_init_303 rfl (lv_at hl 0 rfl) ?_
  refine lv_bipush (v := 16) hx hb dX12_init_304 (by decide) ?_
  have hle501 := hS.1
  have lt501_h0 := (hR_h0 0 _ rfl).lt
  refine th_newI (atype := .int) (cI := cA 0) (N' := 16) hx hb (hts (.arrayClass .int) (List.mem_cons_of_mem _ (List.mem_append_left _ (List.mem_append_left _ (List.mem_of_getElem? (i := 3) rfl))))) hK 0 rfl (fun h => h) hH hS hA 67 (by decide) (by decide) (by decide) (Nat.le_of_ble_eq_true rfl) (Nat.le_of_ble_eq_true rfl) rfl (fun _ => rfl) (fun _ _ => (fun _ _ => (show rg 0 15 (0 : Int32) from ⟨by decide, by decide⟩))) dX12_init_306 (fun q501 H s501 y501 n501 o501 hH hS => ?_)
  have le501 : s.heap.size ≤ q501 := by rw [← s501]; exact hle501
  have hR_h0 := th_P1 hR_h0 (o501 _ (by rw [← s501]; exact lt501_h0))
  obtain ⟨τ501, et501⟩ : ∃ t, t = va_up τ470 q501 67 := ⟨_, rfl⟩
  have zz501 := hE.z n501
  obtain ⟨gi501, eg501⟩ : ∃ g, g = va_up gi470 q501 (fun _ => 0) := ⟨_, rfl⟩
  have hE := hE.add (k0 := 67) (f := (fun _ => 0)) (r := gr q501) n501 (Or.inr le501)
  rw [th_upid gr q501, ← et501, ← eg501] at hE
  rw [← et501, ← eg501] at hH
  have og501 : ∀ b, b ≠ q501 → gi501 b = gi470 b := fun b hb => by rw [eg501]; exact va_up_ne _ _ hb
  have t502 : τ501 q1 = 40 := (by rw [et501]; exact th_tk t471 (by decide) n501)
  have t503 : τ501 q4 = 41 := (by rw [et501]; exact th_tk t472 (by decide) n501)
  have t504 : τ501 q8 = 42 := (by rw [et501]; exact th_tk t473 (by decide) n501)
  have t505 : τ501 q13 = 43 := (by rw [et501]; exact th_tk t474 (by decide) n501)
  have t506 : τ501 q19 = 44 := (by rw [et501]; exact th_tk t475 (by decide) n501)
  have t507 : τ501 q26 = 45 := (by rw [et501]; exact th_tk t476 (by decide) n501)
  have t508 : τ501 q34 = 46 := (by rw [et501]; exact th_tk t477 (by decide) n501)
  have t509 : τ501 q43 = 47 := (by rw [et501]; exact th_tk t478 (by decide) n501)
  have t510 : τ501 q53 = 48 := (by rw [et501]; exact th_tk t479 (by decide) n501)
  have t511 : τ501 q64 = 49 := (by rw [et501]; exact th_tk t480 (by decide) n501)
  have t512 : τ501 q76 = 50 := (by rw [et501]; exact th_tk t481 (by decide) n501)
  have t513 : τ501 q89 = 51 := (by rw [et501]; exact th_tk t482 (by decide) n501)
  have t514 : τ501 q104 = 52 := (by rw [et501]; exact th_tk t483 (by decide) n501)
  have t515 : τ501 q134 = 53 := (by rw [et501]; exact th_tk t484 (by decide) n501)
  have t516 : τ501 q174 = 54 := (by rw [et501]; exact th_tk t485 (by decide) n501)
  have t517 : τ501 q193 = 55 := (by rw [et501]; exact th_tk t486 (by decide) n501)
  have t518 : τ501 q214 = 56 := (by rw [et501]; exact th_tk t487 (by decide) n501)
  have t519 : τ501 q235 = 57 := (by rw [et501]; exact th_tk t488 (by decide) n501)
  have t520 : τ501 q258 = 58 := (by rw [et501]; exact th_tk t489 (by decide) n501)
  have t521 : τ501 q281 = 59 := (by rw [et501]; exact th_tk t490 (by decide) n501)
  have t522 : τ501 q305 = 60 := (by rw [et501]; exact th_tk t491 (by decide) n501)
  have t523 : τ501 q330 = 61 := (by rw [et501]; exact th_tk t492 (by decide) n501)
  have t524 : τ501 q356 = 62 := (by rw [et501]; exact th_tk t493 (by decide) n501)
  have t525 : τ501 q383 = 63 := (by rw [et501]; exact th_tk t494 (by decide) n501)
  have t526 : τ501 q411 = 64 := (by rw [et501]; exact th_tk t495 (by decide) n501)
  have t527 : τ501 q440 = 65 := (by rw [et501]; exact th_tk t496 (by decide) n501)
  have t528 : τ501 q470 = 66 := (by rw [et501]; exact th_tk tn470 (by decide) n501)
  have z529 : τ501 h0 = 0 := (by rw [et501]; exact th_tz z497 (Nat.ne_of_lt (by rw [← s501]; exact lt501_h0)))
  have tn501 : τ501 q501 = 67 := by rw [et501]; exact va_up_self _ _ _
  have e530 : (-1) = gi501 q104 ((7 : Int32).toNatClampNeg) := by rw [og501 q104 (th_ne t514 tn501 (by decide))]; exact e498
  have e531 : (-1) = gi501 q134 ((7 : Int32).toNatClampNeg) := by rw [og501 q134 (th_ne t515 tn501 (by decide))]; exact e499
  refine W.widen (k := 28) (n := 693) (by omega) (by omega) ?_
  refine th_rputF (ci := 11) (v := .ref q501) (T := TX12) (C := RX12) (N := 38) (ty := (.array .int)) hx hb hts (fun w h => List.mem_cons_of_mem _ (List.mem_append_right _ h)) tyX12 tyX12_ok nmX12 hown hK hH hS z529 (Or.inl rfl) hR_h0 rfl 36 (by decide) (hts (.fieldLink RX12 102 "BayMooringsModel" "ring" "[I") (List.mem_cons_of_mem _ (List.mem_append_left _ (List.mem_append_right _ (List.mem_of_getElem? (i := 11) rfl))))) (fun _ h9 => h9) rfl hin rfl (by decide +kernel) rfl rfl (Nat.le_of_ble_eq_true rfl) dX12_init_308 (fun H locs hR_h0 hH hS y532 o532 => ?_)
  have hR_h0 : va_P D vwCl [(h0, .inr (11, [.int 0, .ref q1, .ref q4, .ref q8, .ref q13, .ref q19, .ref q26, .ref q34, .int 0, .ref q43, .ref q53, .ref q64, .ref q76, .ref q89, .int 255, .ref q104, .ref q134, .int 0, .ref q174, .ref q193, .int 1, .ref q214, .ref q235, .int 3, .int 0, .ref q258, .ref q281, .int 0, .ref q305, .ref q330, .ref q356, .ref q383, .ref q411, .int 0, .ref q440, .ref q470, .ref q501, .null]))] H := hR_h0
  refine lv_aload_n hx hb dX12_init_311 rfl (lv_at hl 0 rfl) ?_
  refine lv_bipush (v := 16) hx hb dX12_init_312 (by decide) ?_
  have hle533 := hS.1
  have lt533_h0 := (hR_h0 0 _ rfl).lt
  refine th_newI (atype := .int) (cI := cA 0) (N' := 16) hx hb (hts (.arrayClass .int) (List.mem_cons_of_mem _ (List.mem_append_left _ (List.mem_append_left _ (List.mem_of_getElem? (i := 3) rfl))))) hK 0 rfl (fun h => h) hH hS hA 68 (by decide) (by decide) (by decide) (Nat.le_of_ble_eq_true rfl) (Nat.le_of_ble_eq_true rfl) rfl (fun _ => rfl) (fun _ _ => (fun _ _ => (show rg (-1) 11 (0 : Int32) from ⟨by decide, by decide⟩))) dX12_init_314 (fun q533 H s533 y533 n533 o533 hH hS => ?_)
  have le533 : s.heap.size ≤ q533 := by rw [← s533]; exact hle533
  have hR_h0 := th_P1 hR_h0 (o533 _ (by rw [← s533]; exact lt533_h0))
  obtain ⟨τ533, et533⟩ : ∃ t, t = va_up τ501 q533 68 := ⟨_, rfl⟩
  have zz533 := hE.z n533
  obtain ⟨gi533, eg533⟩ : ∃ g, g = va_up gi501 q533 (fun _ => 0) := ⟨_, rfl⟩
  have hE := hE.add (k0 := 68) (f := (fun _ => 0)) (r := gr q533) n533 (Or.inr le533)
  rw [th_upid gr q533, ← et533, ← eg533] at hE
  rw [← et533, ← eg533] at hH
  have og533 : ∀ b, b ≠ q533 → gi533 b = gi501 b := fun b hb => by rw [eg533]; exact va_up_ne _ _ hb
  have t534 : τ533 q1 = 40 := (by rw [et533]; exact th_tk t502 (by decide) n533)
  have t535 : τ533 q4 = 41 := (by rw [et533]; exact th_tk t503 (by decide) n533)
  have t536 : τ533 q8 = 42 := (by rw [et533]; exact th_tk t504 (by decide) n533)
  have t537 : τ533 q13 = 43 := (by rw [et533]; exact th_tk t505 (by decide) n533)
  have t538 : τ533 q19 = 44 := (by rw [et533]; exact th_tk t506 (by decide) n533)
  have t539 : τ533 q26 = 45 := (by rw [et533]; exact th_tk t507 (by decide) n533)
  have t540 : τ533 q34 = 46 := (by rw [et533]; exact th_tk t508 (by decide) n533)
  have t541 : τ533 q43 = 47 := (by rw [et533]; exact th_tk t509 (by decide) n533)
  have t542 : τ533 q53 = 48 := (by rw [et533]; exact th_tk t510 (by decide) n533)
  have t543 : τ533 q64 = 49 := (by rw [et533]; exact th_tk t511 (by decide) n533)
  have t544 : τ533 q76 = 50 := (by rw [et533]; exact th_tk t512 (by decide) n533)
  have t545 : τ533 q89 = 51 := (by rw [et533]; exact th_tk t513 (by decide) n533)
  have t546 : τ533 q104 = 52 := (by rw [et533]; exact th_tk t514 (by decide) n533)
  have t547 : τ533 q134 = 53 := (by rw [et533]; exact th_tk t515 (by decide) n533)
  have t548 : τ533 q174 = 54 := (by rw [et533]; exact th_tk t516 (by decide) n533)
  have t549 : τ533 q193 = 55 := (by rw [et533]; exact th_tk t517 (by decide) n533)
  have t550 : τ533 q214 = 56 := (by rw [et533]; exact th_tk t518 (by decide) n533)
  have t551 : τ533 q235 = 57 := (by rw [et533]; exact th_tk t519 (by decide) n533)
  have t552 : τ533 q258 = 58 := (by rw [et533]; exact th_tk t520 (by decide) n533)
  have t553 : τ533 q281 = 59 := (by rw [et533]; exact th_tk t521 (by decide) n533)
  have t554 : τ533 q305 = 60 := (by rw [et533]; exact th_tk t522 (by decide) n533)
  have t555 : τ533 q330 = 61 := (by rw [et533]; exact th_tk t523 (by decide) n533)
  have t556 : τ533 q356 = 62 := (by rw [et533]; exact th_tk t524 (by decide) n533)
  have t557 : τ533 q383 = 63 := (by rw [et533]; exact th_tk t525 (by decide) n533)
  have t558 : τ533 q411 = 64 := (by rw [et533]; exact th_tk t526 (by decide) n533)
  have t559 : τ533 q440 = 65 := (by rw [et533]; exact th_tk t527 (by decide) n533)
  have t560 : τ533 q470 = 66 := (by rw [et533]; exact th_tk t528 (by decide) n533)
  have t561 : τ533 q501 = 67 := (by rw [et533]; exact th_tk tn501 (by decide) n533)
  have z562 : τ533 h0 = 0 := (by rw [et533]; exact th_tz z529 (Nat.ne_of_lt (by rw [← s533]; exact lt533_h0)))
  have tn533 : τ533 q533 = 68 := by rw [et533]; exact va_up_self _ _ _
  have e563 : (-1) = gi533 q104 ((7 : Int32).toNatClampNeg) := by rw [og533 q104 (th_ne t546 tn533 (by decide))]; exact e530
  have e564 : (-1) = gi533 q134 ((7 : Int32).toNatClampNeg) := by rw [og533 q134 (th_ne t547 tn533 (by decide))]; exact e531
  refine W.widen (k := 29) (n := 709) (by omega) (by omega) ?_
  refine th_rputF (ci := 11) (v := .ref q533) (T := TX12) (C := RX12) (N := 38) (ty := (.array .int)) hx hb hts (fun w h => List.mem_cons_of_mem _ (List.mem_append_right _ h)) tyX12 tyX12_ok nmX12 hown hK hH hS z562 (Or.inl rfl) hR_h0 rfl 37 (by decide) (hts (.fieldLink RX12 105 "BayMooringsModel" "then" "[I") (List.mem_cons_of_mem _ (List.mem_append_left _ (List.mem_append_right _ (List.mem_of_getElem? (i := 12) rfl))))) (fun _ h9 => h9) rfl hin rfl (by decide +kernel) rfl rfl (Nat.le_of_ble_eq_true rfl) dX12_init_316 (fun H locs hR_h0 hH hS y565 o565 => ?_)
  have hR_h0 : va_P D vwCl [(h0, .inr (11, [.int 0, .ref q1, .ref q4, .ref q8, .ref q13, .ref q19, .ref q26, .ref q34, .int 0, .ref q43, .ref q53, .ref q64, .ref q76, .ref q89, .int 255, .ref q104, .ref q134, .int 0, .ref q174, .ref q193, .int 1, .ref q214, .ref q235, .int 3, .int 0, .ref q258, .ref q281, .int 0, .ref q305, .ref q330, .ref q356, .ref q383, .ref q411, .int 0, .ref q440, .ref q470, .ref q501, .ref q533]))] H := hR_h0
  have hFp := hH.push (k0 := 12) (f := (fun k => match k with | 14 => 255 | 20 => 1 | 23 => 3 | _ => 0)) (r := (fun k => match k with | 1 => some q1 | 2 => some q4 | 3 => some q8 | 4 => some q13 | 5 => some q19 | 6 => some q26 | 7 => some q34 | 9 => some q43 | 10 => some q53 | 11 => some q64 | 12 => some q76 | 13 => some q89 | 15 => some q104 | 16 => some q134 | 18 => some q174 | 19 => some q193 | 21 => some q214 | 22 => some q235 | 25 => some q258 | 26 => some q281 | 28 => some q305 | 29 => some q330 | 30 => some q356 | 31 => some q383 | 32 => some q411 | 34 => some q440 | 35 => some q470 | 36 => some q501 | 37 => some q533 | _ => none)) (H1 := _) z562 (hR_h0 0 _ rfl) (⟨(rg_w (show rg 0 0 (0 : Int32) from ⟨by decide, by decide⟩) (by decide) (by decide)), ⟨q1, rfl, th_tk t534 (by decide) z562⟩, ⟨q4, rfl, th_tk t535 (by decide) z562⟩, ⟨q8, rfl, th_tk t536 (by decide) z562⟩, ⟨q13, rfl, th_tk t537 (by decide) z562⟩, ⟨q19, rfl, th_tk t538 (by decide) z562⟩, ⟨q26, rfl, th_tk t539 (by decide) z562⟩, ⟨q34, rfl, th_tk t540 (by decide) z562⟩, (rg_w (show rg 0 0 (0 : Int32) from ⟨by decide, by decide⟩) (by decide) (by decide)), ⟨q43, rfl, th_tk t541 (by decide) z562⟩, ⟨q53, rfl, th_tk t542 (by decide) z562⟩, ⟨q64, rfl, th_tk t543 (by decide) z562⟩, ⟨q76, rfl, th_tk t544 (by decide) z562⟩, ⟨q89, rfl, th_tk t545 (by decide) z562⟩, ⟨q104, rfl, th_tk t546 (by decide) z562⟩, ⟨q134, rfl, th_tk t547 (by decide) z562⟩, (rg_w (show rg 0 0 (0 : Int32) from ⟨by decide, by decide⟩) (by decide) (by decide)), ⟨q174, rfl, th_tk t548 (by decide) z562⟩, ⟨q193, rfl, th_tk t549 (by decide) z562⟩, ⟨q214, rfl, th_tk t550 (by decide) z562⟩, ⟨q235, rfl, th_tk t551 (by decide) z562⟩, (rg_w (show rg 0 0 (0 : Int32) from ⟨by decide, by decide⟩) (by decide) (by decide)), ⟨q258, rfl, th_tk t552 (by decide) z562⟩, ⟨q281, rfl, th_tk t553 (by decide) z562⟩, (rg_w (show rg 0 0 (0 : Int32) from ⟨by decide, by decide⟩) (by decide) (by decide)), ⟨q305, rfl, th_tk t554 (by decide) z562⟩, ⟨q330, rfl, th_tk t555 (by decide) z562⟩, ⟨q356, rfl, th_tk t556 (by decide) z562⟩, ⟨q383, rfl, th_tk t557 (by decide) z562⟩, ⟨q411, rfl, th_tk t558 (by decide) z562⟩, ⟨q440, rfl, th_tk t559 (by decide) z562⟩, ⟨q470, rfl, th_tk t560 (by decide) z562⟩, ⟨q501, rfl, th_tk t561 (by decide) z562⟩, ⟨q533, rfl, th_tk tn533 (by decide) z562⟩⟩) (fun _ _ => rfl)
  exact W.vret hx hb hr (fun t ht hW => ⟨⟨(va_up τ533 h0 12, va_up gi533 h0 (fun k => match k with | 14 => 255 | 20 => 1 | 23 => 3 | _ => 0), va_up gr h0 (fun k => match k with | 1 => some q1 | 2 => some q4 | 3 => some q8 | 4 => some q13 | 5 => some q19 | 6 => some q26 | 7 => some q34 | 9 => some q43 | 10 => some q53 | 11 => some q64 | 12 => some q76 | 13 => some q89 | 15 => some q104 | 16 => some q134 | 18 => some q174 | 19 => some q193 | 21 => some q214 | 22 => some q235 | 25 => some q258 | 26 => some q281 | 28 => some q305 | 29 => some q330 | 30 => some q356 | 31 => some q383 | 32 => some q411 | 34 => some q440 | 35 => some q470 | 36 => some q501 | 37 => some q533 | _ => none)), rfl, ⟨hE.add z562 (Or.inl rfl), va_up_self _ _ _, congrFun (va_up_self _ _ _) 0, congrFun (va_up_self _ _ _) 8, congrFun (va_up_self _ _ _) 14, congrFun (va_up_self _ _ _) 17, congrFun (va_up_self _ _ _) 20, congrFun (va_up_self _ _ _) 23, congrFun (va_up_self _ _ _) 24⟩, th_Ht ht hFp⟩, hS.F ht⟩) hS.2.2 dX12_init_319
