noncomputable def M_X11_init (τ : th_t) (Z : th_Zt) (gi : th_i) (gr : th_r) (h0 : Nat) (tO : th_t) (gO : th_i) (qO : th_r) : Prop :=
  ∃ (q1 : Nat), τ q1 = 0 ∧ h0 ≠ q1 ∧ (
  ∃ (τ2 : th_t) (gi2 : th_i) (gr2 : th_r), M_X0_init τ Z gi gr q1 τ2 gi2 gr2 ∧ τ2 h0 = 0 ∧ (
  ∃ (q5 : Nat), τ2 q5 = 0 ∧ h0 ≠ q5 ∧ (
  ∃ (τ6 : th_t) (gi6 : th_i) (gr6 : th_r), M_X10_init τ2 Z gi2 gr2 q5 q1 τ6 gi6 gr6 ∧ τ6 h0 = 0 ∧ (
  ∃ (q10 : Nat), τ6 q10 = 0 ∧ h0 ≠ q10 ∧ (
  ∃ (τ11 : th_t) (gi11 : th_i) (gr11 : th_r), M_X7_init τ6 Z gi6 gr6 q10 q1 τ11 gi11 gr11 ∧ τ11 h0 = 0 ∧ (
  ∃ (q16 : Nat), τ11 q16 = 0 ∧ h0 ≠ q16 ∧ (
  ∃ (τ17 : th_t) (gi17 : th_i) (gr17 : th_r), M_X6_init τ11 Z gi11 gr11 q16 q1 τ17 gi17 gr17 ∧ τ17 h0 = 0 ∧ (
  ∃ (q23 : Nat), τ17 q23 = 0 ∧ h0 ≠ q23 ∧ (
  ∃ (τ24 : th_t) (gi24 : th_i) (gr24 : th_r), M_X5_init τ17 Z gi17 gr17 q23 q1 τ24 gi24 gr24 ∧ τ24 h0 = 0 ∧ (
  ∃ (q31 : Nat), τ24 q31 = 0 ∧ h0 ≠ q31 ∧ (
  let τ31 : th_t := va_up τ24 q31 36
  let gi31 : th_i := va_up gi24 q31 (fun _ => 0)
  ∃ (q39 : Nat), τ31 q39 = 0 ∧ h0 ≠ q39 ∧ (
  let τ39 : th_t := va_up τ31 q39 37
  let gi39 : th_i := va_up gi31 q39 (fun _ => 0)
  tO = va_up τ39 h0 11 ∧ gO = va_up gi39 h0 (fun k => match k with | 8 => 3 | 9 => 1 | _ => 0) ∧ qO = va_up gr24 h0 (fun k => match k with | 0 => some q1 | 1 => some q5 | 2 => some q10 | 3 => some q16 | 4 => some q23 | 5 => some q31 | 6 => some q39 | _ => none)))))))))))))
set_option maxHeartbeats 20000000 in
set_option maxRecDepth 100000 in
theorem k_X11_init (l : Launch) (D : va_G) (cA : Nat → ClassId) (Z : th_Zt) (τ : th_t) (gi : th_i) (gr : th_r) (sz : Nat) (h0 : Nat) : Met l yX11_init wsX11_init ({ frames := 3, cells := 25, slots := 580, locals := 71 }) (va_Pc [.ref h0] (th_PreC D cA Z τ gi gr sz h0 (.inr (10, [.null, .null, .null, .null, .null, .null, .null, .int 0, .int 0, .int 0])))) (va_Qv (fun (u : th_t × th_i × th_r) => th_Ext [2300, 2400, 2500] τ gi gr sz h0 u.1 u.2.1 u.2.2 ∧ u.1 h0 = 11 ∧ (u.2.1 h0 7 = 0) ∧ (u.2.1 h0 8 = 3) ∧ (u.2.1 h0 9 = 1) ∧ (M_X11_init τ Z gi gr h0 u.1 u.2.1 u.2.2)) (fun (u : th_t × th_i × th_r) t => th_H D cA u.1 u.2.1 u.2.2 t.heap) (th_AC τ sz h0)) 25 580 (th_AC τ sz h0) := by
  refine Met.ofW (cc := cX11_init) (maxL := 1) (ret := none) (by decide) rfl ?_
  intro p e s m args below meth c s₁ B hml hv
  obtain ⟨rfl, hsz, hH, hK, hN, hZ, z_h0, hR_h0⟩ := hv
  have hx := B.exec
  have hb := B.bytes
  have hr := B.returns
  have hts := atoms_spec (ws := wsX11_init) B.pre
  have hown : s.vm.findClass RX11 = some m.cls := findClass_of_methodNamed B.named
  have hlocks := B.notSynchronized
  have hin : meth.name = "<init>" := (name_of_methodNamed B.named B.method).1
  subst hsz
  have hA : ∀ q : Nat, s.heap.size ≤ q → (th_AC τ s.heap.size h0) q := fun q h => Or.inr (Or.inr h)
  have hE : th_Ext [2300, 2400, 2500] τ gi gr s.heap.size h0 τ gi gr := th_Ext.rf
  have hS : va_S (th_AC τ s.heap.size h0) s.heap s.heap [] := va_S.rf
  have hl := lv_entry ([.ref h0]) (n := 1) (Nat.le_of_ble_eq_true rfl)
  rw [lg_entry_eq]
  generalize (lg_sl ([.ref h0]) ++ List.replicate (1 - (lg_sl ([.ref h0])).length) Slot.unset).toArray = ls at hl ⊢
  have hl : lv_has ls 1 [(0, .ref h0)] := hl
  have hF : (∀ (tO : th_t) (gO : th_i) (qO : th_r), M_X11_init τ Z gi gr h0 tO gO qO → M_X11_init τ Z gi gr h0 tO gO qO) := fun tO gO qO h9 => h9
  refine lv_aload_n hx hb dX11_init_0 rfl (lv_at hl 0 rfl) ?_
  refine W.objInit hx hb hown (hts (.methodLink RX11 1 objectInit) (List.mem_cons_of_mem _ (List.mem_append_left _ (List.mem_append_left _ (List.mem_append_left _ (List.mem_append_left _ (List.mem_append_left _ (List.mem_append_left _ (List.mem_append_left _ (List.mem_append_left _ (List.mem_of_getElem? (i := 0) rfl))))))))))) (hts (.instanceMethod objectInit) (List.mem_cons_of_mem _ (List.mem_append_left _ (List.mem_append_left _ (List.mem_append_left _ (List.mem_append_left _ (List.mem_append_left _ (List.mem_append_left _ (List.mem_append_left _ (List.mem_append_left _ (List.mem_of_getElem? (i := 1) rfl))))))))))) (hts (.code objectInit ⟨#[0xb1]⟩ 1 none) (List.mem_cons_of_mem _ (List.mem_append_left _ (List.mem_append_left _ (List.mem_append_left _ (List.mem_append_left _ (List.mem_append_left _ (List.mem_append_left _ (List.mem_append_left _ (List.mem_append_left _ (List.mem_of_getElem? (i := 2) rfl))))))))))) rfl (by rw [hml]; exact hl.1) rfl dX11_init_1 (Nat.le_of_ble_eq_true rfl) (Nat.le_of_ble_eq_true rfl) ?_
  refine W.eq (g2 := F0 m 4 ls []) rfl ?_
  refine lv_aload_n hx hb dX11_init_4 rfl (lv_at hl 0 rfl) ?_
  have hle1 := hS.1
  have lt1_h0 := (hR_h0 0 _ rfl).lt
  refine th_newO (ci := 0) (fs := [.null, .null, .null, .null, .null, .int 0, .int 0, .int 0, .int 0]) (C := RX0) (T := TX0) (N := 9) hx hb hts (fun w h => List.mem_cons_of_mem _ (List.mem_append_left _ (List.mem_append_left _ (List.mem_append_left _ (List.mem_append_left _ (List.mem_append_left _ (List.mem_append_left _ (List.mem_append_right _ h)))))))) tyX0 tyX0_ok hown (hts (.classLink RX11 7 RX0) (List.mem_cons_of_mem _ (List.mem_append_left _ (List.mem_append_left _ (List.mem_append_left _ (List.mem_append_left _ (List.mem_append_left _ (List.mem_append_left _ (List.mem_append_left _ (List.mem_append_left _ (List.mem_of_getElem? (i := 3) rfl))))))))))) (hts (.instantiable RX0 9) (List.mem_cons_of_mem _ (List.mem_append_left _ (List.mem_append_left _ (List.mem_append_left _ (List.mem_append_left _ (List.mem_append_left _ (List.mem_append_left _ (List.mem_append_left _ (List.mem_append_left _ (List.mem_of_getElem? (i := 4) rfl))))))))))) (hts (.initialized RX0) (List.mem_cons_of_mem _ (List.mem_append_left _ (List.mem_append_left _ (List.mem_append_left _ (List.mem_append_left _ (List.mem_append_left _ (List.mem_append_left _ (List.mem_append_left _ (List.mem_append_left _ (List.mem_of_getElem? (i := 5) rfl))))))))))) hK hH hS hA rfl (fun j hj => by rcases (show j = 0 ∨ j = 1 ∨ j = 2 ∨ j = 3 ∨ j = 4 ∨ j = 5 ∨ j = 6 ∨ j = 7 ∨ j = 8 by omega) with rfl | rfl | rfl | rfl | rfl | rfl | rfl | rfl | rfl <;> rfl) (Nat.le_of_ble_eq_true rfl) (Nat.le_of_ble_eq_true rfl) dX11_init_5 (fun q1 H s1 y1 n1 o1 hR_q1 hH hS => ?_)
  have le1 : s.heap.size ≤ q1 := th_leE s1 hle1
  have hR_h0 := th_P1 hR_h0 (o1 _ (th_ltE s1 lt1_h0))
  have ne_h0_q1 : h0 ≠ q1 := Nat.ne_of_lt (th_ltE s1 lt1_h0)
  refine W.widen (k := 1) (n := 9) (Nat.le_of_ble_eq_true rfl) (Nat.le_of_ble_eq_true rfl) ?_
  refine lv_dup hx hb dX11_init_8 rfl ?_
  have hle2 := hS.1
  have lt2_h0 := (hR_h0 0 _ rfl).lt
  have lt2_q1 := (hR_q1 0 _ rfl).lt
  have hAC2 : ∀ x, th_AC τ _ q1 x → (th_AC τ s.heap.size h0) x := th_ACn hE hS le1
  refine va_callv (va_runI (As := []) (rest := [.ref q1, .ref h0]) ⟨hx, hb, hml, hown, hts⟩ (k_X0_init l D cA Z τ gi gr _ q1) (cwI 0 hts gX11_init_X0_init rfl rfl rfl (hts (.initialized RX0) (List.mem_cons_of_mem _ (List.mem_append_left _ (List.mem_append_left _ (List.mem_append_left _ (List.mem_append_left _ (List.mem_append_left _ (List.mem_append_left _ (List.mem_append_left _ (List.mem_append_left _ (List.mem_of_getElem? (i := 5) rfl))))))))))) (hts (.methodLink RX11 9 yX0_init) (List.mem_cons_of_mem _ (List.mem_append_left _ (List.mem_append_left _ (List.mem_append_left _ (List.mem_append_left _ (List.mem_append_left _ (List.mem_append_left _ (List.mem_append_left _ (List.mem_append_right _ (List.mem_append_left _ (List.mem_of_getElem? (i := 5) rfl)))))))))))) (hts (.instanceMethod yX0_init) (List.mem_cons_of_mem _ (List.mem_append_left _ (List.mem_append_left _ (List.mem_append_left _ (List.mem_append_left _ (List.mem_append_left _ (List.mem_append_left _ (List.mem_append_left _ (List.mem_append_right _ (List.mem_append_left _ (List.mem_of_getElem? (i := 6) rfl)))))))))))) rfl (by decide +kernel) ⟨Nat.le_of_ble_eq_true rfl, Nat.le_of_ble_eq_true rfl⟩) ⟨th_blindC, th_preC hH hK hN hZ hS hAC2 n1 hR_q1⟩ rfl rfl hl.1 rfl (lv_room (Nat.le_of_ble_eq_true rfl)) dX11_init_9 ⟨Nat.le_of_ble_eq_true rfl, Nat.le_of_ble_eq_true rfl⟩) hS (fun x _ h => hAC2 x h) hAC2 (fun u t H locs ht hvm hw2 hB hz2 hk2 hS => ?_)
  obtain ⟨τ2, gi2, gr2⟩ := u
  try dsimp only at hw2 hB
  rw [ht] at hB
  have hH := hB
  have hR_h0 := th_P1 hR_h0 (hk2 _ lt2_h0 (th_nAC z_h0 ne_h0_q1 lt2_h0))
  have z3 : τ2 h0 = 0 := (th_zx hw2.1 z_h0 ne_h0_q1 lt2_h0)
  have hE := hE.tr hw2.1 (Or.inr le1) hle2 (by decide)
  have tn2 := hw2.2.1
  refine W.widen (k := 8) (n := 115) (Nat.le_of_ble_eq_true rfl) (Nat.le_of_ble_eq_true rfl) ?_
  refine th_rputF (ci := 10) (v := .ref q1) (T := TX11) (C := RX11) (N := 10) (ty := (.object "BayMoorings$Bay")) hx hb hts (fun w h => List.mem_cons_of_mem _ (List.mem_append_left _ (List.mem_append_left _ (List.mem_append_left _ (List.mem_append_left _ (List.mem_append_left _ (List.mem_append_right _ h))))))) tyX11 tyX11_ok nmX11 hown hK hH hS z3 (Or.inl rfl) hR_h0 rfl 0 (by decide) (hts (.fieldLink RX11 10 "BayMoorings" "bay" "LBayMoorings$Bay;") (List.mem_cons_of_mem _ (List.mem_append_left _ (List.mem_append_left _ (List.mem_append_left _ (List.mem_append_left _ (List.mem_append_left _ (List.mem_append_left _ (List.mem_append_left _ (List.mem_append_left _ (List.mem_of_getElem? (i := 6) rfl))))))))))) (fun _ h9 => h9) rfl hin rfl (by decide +kernel) rfl rfl (Nat.le_of_ble_eq_true rfl) dX11_init_12 (fun H locs hR_h0 hH hS y4 o4 => ?_)
  have hR_h0 : va_P D vwCl [(h0, .inr (10, [.ref q1, .null, .null, .null, .null, .null, .null, .int 0, .int 0, .int 0]))] H := hR_h0
  refine lv_aload_n hx hb dX11_init_15 rfl (lv_at hl 0 rfl) ?_
  have hle5 := hS.1
  have lt5_h0 := (hR_h0 0 _ rfl).lt
  refine th_newO (ci := 9) (fs := [.null, .null, .int 0]) (C := RX10) (T := TX10) (N := 3) hx hb hts (fun w h => List.mem_cons_of_mem _ (List.mem_append_left _ (List.mem_append_left _ (List.mem_append_left _ (List.mem_append_left _ (List.mem_append_right _ h)))))) tyX10 tyX10_ok hown (hts (.classLink RX11 16 RX10) (List.mem_cons_of_mem _ (List.mem_append_left _ (List.mem_append_left _ (List.mem_append_left _ (List.mem_append_left _ (List.mem_append_left _ (List.mem_append_left _ (List.mem_append_left _ (List.mem_append_left _ (List.mem_of_getElem? (i := 7) rfl))))))))))) (hts (.instantiable RX10 3) (List.mem_cons_of_mem _ (List.mem_append_left _ (List.mem_append_left _ (List.mem_append_left _ (List.mem_append_left _ (List.mem_append_left _ (List.mem_append_left _ (List.mem_append_left _ (List.mem_append_left _ (List.mem_of_getElem? (i := 8) rfl))))))))))) (hts (.initialized RX10) (List.mem_cons_of_mem _ (List.mem_append_left _ (List.mem_append_left _ (List.mem_append_left _ (List.mem_append_left _ (List.mem_append_left _ (List.mem_append_left _ (List.mem_append_left _ (List.mem_append_left _ (List.mem_of_getElem? (i := 9) rfl))))))))))) hK hH hS hA rfl (fun j hj => by rcases (show j = 0 ∨ j = 1 ∨ j = 2 by omega) with rfl | rfl | rfl <;> rfl) (Nat.le_of_ble_eq_true rfl) (Nat.le_of_ble_eq_true rfl) dX11_init_16 (fun q5 H s5 y5 n5 o5 hR_q5 hH hS => ?_)
  have le5 : s.heap.size ≤ q5 := th_leE s5 hle5
  have hR_h0 := th_P1 hR_h0 (o5 _ (th_ltE s5 lt5_h0))
  have ne_h0_q5 : h0 ≠ q5 := Nat.ne_of_lt (th_ltE s5 lt5_h0)
  refine W.widen (k := 9) (n := 118) (Nat.le_of_ble_eq_true rfl) (Nat.le_of_ble_eq_true rfl) ?_
  refine lv_dup hx hb dX11_init_19 rfl ?_
  refine lv_aload_n hx hb dX11_init_20 rfl (lv_at hl 0 rfl) ?_
  refine va_get (D := D) (ci := 10) (v := .ref q1) (C := RX11) (T := TX11) (N := 10) hx hb hts (fun w h => List.mem_cons_of_mem _ (List.mem_append_left _ (List.mem_append_left _ (List.mem_append_left _ (List.mem_append_left _ (List.mem_append_left _ (List.mem_append_right _ h))))))) hown hK hR_h0 0 rfl rfl 0 (by decide) (hts (.fieldLink RX11 10 "BayMoorings" "bay" "LBayMoorings$Bay;") (List.mem_cons_of_mem _ (List.mem_append_left _ (List.mem_append_left _ (List.mem_append_left _ (List.mem_append_left _ (List.mem_append_left _ (List.mem_append_left _ (List.mem_append_left _ (List.mem_append_left _ (List.mem_of_getElem? (i := 6) rfl))))))))))) (fun _ h9 => h9) rfl dX11_init_21 ?_
  have hle6 := hS.1
  have lt6_h0 := (hR_h0 0 _ rfl).lt
  have lt6_q5 := (hR_q5 0 _ rfl).lt
  have hAC6 : ∀ x, th_AC τ2 _ q5 x → (th_AC τ s.heap.size h0) x := th_ACn hE hS le5
  refine va_callv (va_runI (As := [.ref q1]) (rest := [.ref q5, .ref h0]) ⟨hx, hb, hml, hown, hts⟩ (k_X10_init l D cA Z τ2 gi2 gr2 _ q5 q1 tn2) (cwI 1 hts gX11_init_X10_init rfl rfl rfl (hts (.initialized RX10) (List.mem_cons_of_mem _ (List.mem_append_left _ (List.mem_append_left _ (List.mem_append_left _ (List.mem_append_left _ (List.mem_append_left _ (List.mem_append_left _ (List.mem_append_left _ (List.mem_append_left _ (List.mem_of_getElem? (i := 9) rfl))))))))))) (hts (.methodLink RX11 18 yX10_init) (List.mem_cons_of_mem _ (List.mem_append_left _ (List.mem_append_left _ (List.mem_append_left _ (List.mem_append_left _ (List.mem_append_left _ (List.mem_append_left _ (List.mem_append_left _ (List.mem_append_right _ (List.mem_append_right _ (List.mem_append_left _ (List.mem_of_getElem? (i := 10) rfl))))))))))))) (hts (.instanceMethod yX10_init) (List.mem_cons_of_mem _ (List.mem_append_left _ (List.mem_append_left _ (List.mem_append_left _ (List.mem_append_left _ (List.mem_append_left _ (List.mem_append_left _ (List.mem_append_left _ (List.mem_append_right _ (List.mem_append_right _ (List.mem_append_left _ (List.mem_of_getElem? (i := 11) rfl))))))))))))) rfl (by decide +kernel) ⟨Nat.le_of_ble_eq_true rfl, Nat.le_of_ble_eq_true rfl⟩) ⟨th_blindC, th_preC hH hK hN hZ hS hAC6 n5 hR_q5⟩ rfl rfl hl.1 rfl (lv_room (Nat.le_of_ble_eq_true rfl)) dX11_init_24 ⟨Nat.le_of_ble_eq_true rfl, Nat.le_of_ble_eq_true rfl⟩) hS (fun x _ h => hAC6 x h) hAC6 (fun u t H locs ht hvm hw6 hB hz6 hk6 hS => ?_)
  obtain ⟨τ6, gi6, gr6⟩ := u
  try dsimp only at hw6 hB
  rw [ht] at hB
  have hH := hB
  have hR_h0 := th_P1 hR_h0 (hk6 _ lt6_h0 (th_nAC z3 ne_h0_q5 lt6_h0))
  have t7 : τ6 q1 = 1 := ((hw6.1.1 q1 (by rw [tn2]; decide)).trans tn2)
  have z8 : τ6 h0 = 0 := (th_zx hw6.1 z3 ne_h0_q5 lt6_h0)
  have hE := hE.tr hw6.1 (Or.inr le5) hle6 (by decide)
  have tn6 := hw6.2.1
  refine W.widen (k := 10) (n := 128) (Nat.le_of_ble_eq_true rfl) (Nat.le_of_ble_eq_true rfl) ?_
  refine th_rputF (ci := 10) (v := .ref q5) (T := TX11) (C := RX11) (N := 10) (ty := (.object "BayMoorings$WaitingList")) hx hb hts (fun w h => List.mem_cons_of_mem _ (List.mem_append_left _ (List.mem_append_left _ (List.mem_append_left _ (List.mem_append_left _ (List.mem_append_left _ (List.mem_append_right _ h))))))) tyX11 tyX11_ok nmX11 hown hK hH hS z8 (Or.inl rfl) hR_h0 rfl 1 (by decide) (hts (.fieldLink RX11 21 "BayMoorings" "waiting" "LBayMoorings$WaitingList;") (List.mem_cons_of_mem _ (List.mem_append_left _ (List.mem_append_left _ (List.mem_append_left _ (List.mem_append_left _ (List.mem_append_left _ (List.mem_append_left _ (List.mem_append_left _ (List.mem_append_left _ (List.mem_of_getElem? (i := 10) rfl))))))))))) (fun _ h9 => h9) rfl hin rfl (by decide +kernel) rfl rfl (Nat.le_of_ble_eq_true rfl) dX11_init_27 (fun H locs hR_h0 hH hS y9 o9 => ?_)
  have hR_h0 : va_P D vwCl [(h0, .inr (10, [.ref q1, .ref q5, .null, .null, .null, .null, .null, .int 0, .int 0, .int 0]))] H := hR_h0
  refine lv_aload_n hx hb dX11_init_30 rfl (lv_at hl 0 rfl) ?_
  have hle10 := hS.1
  have lt10_h0 := (hR_h0 0 _ rfl).lt
  refine th_newO (ci := 6) (fs := [.null, .null, .int 0, .null, .null, .null, .null, .int 0]) (C := RX7) (T := TX7) (N := 8) hx hb hts (fun w h => List.mem_cons_of_mem _ (List.mem_append_left _ (List.mem_append_left _ (List.mem_append_left _ (List.mem_append_right _ h))))) tyX7 tyX7_ok hown (hts (.classLink RX11 25 RX7) (List.mem_cons_of_mem _ (List.mem_append_left _ (List.mem_append_left _ (List.mem_append_left _ (List.mem_append_left _ (List.mem_append_left _ (List.mem_append_left _ (List.mem_append_left _ (List.mem_append_left _ (List.mem_of_getElem? (i := 11) rfl))))))))))) (hts (.instantiable RX7 8) (List.mem_cons_of_mem _ (List.mem_append_left _ (List.mem_append_left _ (List.mem_append_left _ (List.mem_append_left _ (List.mem_append_left _ (List.mem_append_left _ (List.mem_append_left _ (List.mem_append_left _ (List.mem_of_getElem? (i := 12) rfl))))))))))) (hts (.initialized RX7) (List.mem_cons_of_mem _ (List.mem_append_left _ (List.mem_append_left _ (List.mem_append_left _ (List.mem_append_left _ (List.mem_append_left _ (List.mem_append_left _ (List.mem_append_left _ (List.mem_append_left _ (List.mem_of_getElem? (i := 13) rfl))))))))))) hK hH hS hA rfl (fun j hj => by rcases (show j = 0 ∨ j = 1 ∨ j = 2 ∨ j = 3 ∨ j = 4 ∨ j = 5 ∨ j = 6 ∨ j = 7 by omega) with rfl | rfl | rfl | rfl | rfl | rfl | rfl | rfl <;> rfl) (Nat.le_of_ble_eq_true rfl) (Nat.le_of_ble_eq_true rfl) dX11_init_31 (fun q10 H s10 y10 n10 o10 hR_q10 hH hS => ?_)
  have le10 : s.heap.size ≤ q10 := th_leE s10 hle10
  have hR_h0 := th_P1 hR_h0 (o10 _ (th_ltE s10 lt10_h0))
  have ne_h0_q10 : h0 ≠ q10 := Nat.ne_of_lt (th_ltE s10 lt10_h0)
  refine W.widen (k := 11) (n := 136) (Nat.le_of_ble_eq_true rfl) (Nat.le_of_ble_eq_true rfl) ?_
  refine lv_dup hx hb dX11_init_34 rfl ?_
  refine lv_aload_n hx hb dX11_init_35 rfl (lv_at hl 0 rfl) ?_
  refine va_get (D := D) (ci := 10) (v := .ref q1) (C := RX11) (T := TX11) (N := 10) hx hb hts (fun w h => List.mem_cons_of_mem _ (List.mem_append_left _ (List.mem_append_left _ (List.mem_append_left _ (List.mem_append_left _ (List.mem_append_left _ (List.mem_append_right _ h))))))) hown hK hR_h0 0 rfl rfl 0 (by decide) (hts (.fieldLink RX11 10 "BayMoorings" "bay" "LBayMoorings$Bay;") (List.mem_cons_of_mem _ (List.mem_append_left _ (List.mem_append_left _ (List.mem_append_left _ (List.mem_append_left _ (List.mem_append_left _ (List.mem_append_left _ (List.mem_append_left _ (List.mem_append_left _ (List.mem_of_getElem? (i := 6) rfl))))))))))) (fun _ h9 => h9) rfl dX11_init_36 ?_
  have hle11 := hS.1
  have lt11_h0 := (hR_h0 0 _ rfl).lt
  have lt11_q10 := (hR_q10 0 _ rfl).lt
  have hAC11 : ∀ x, th_AC τ6 _ q10 x → (th_AC τ s.heap.size h0) x := th_ACn hE hS le10
  refine va_callv (va_runI (As := [.ref q1]) (rest := [.ref q10, .ref h0]) ⟨hx, hb, hml, hown, hts⟩ (k_X7_init l D cA Z τ6 gi6 gr6 _ q10 q1 t7) (cwI 1 hts gX11_init_X7_init rfl rfl rfl (hts (.initialized RX7) (List.mem_cons_of_mem _ (List.mem_append_left _ (List.mem_append_left _ (List.mem_append_left _ (List.mem_append_left _ (List.mem_append_left _ (List.mem_append_left _ (List.mem_append_left _ (List.mem_append_left _ (List.mem_of_getElem? (i := 13) rfl))))))))))) (hts (.methodLink RX11 27 yX7_init) (List.mem_cons_of_mem _ (List.mem_append_left _ (List.mem_append_left _ (List.mem_append_left _ (List.mem_append_left _ (List.mem_append_left _ (List.mem_append_left _ (List.mem_append_left _ (List.mem_append_right _ (List.mem_append_right _ (List.mem_append_left _ (List.mem_of_getElem? (i := 17) rfl))))))))))))) (hts (.instanceMethod yX7_init) (List.mem_cons_of_mem _ (List.mem_append_left _ (List.mem_append_left _ (List.mem_append_left _ (List.mem_append_left _ (List.mem_append_left _ (List.mem_append_left _ (List.mem_append_left _ (List.mem_append_right _ (List.mem_append_right _ (List.mem_append_left _ (List.mem_of_getElem? (i := 18) rfl))))))))))))) rfl (by decide +kernel) ⟨Nat.le_of_ble_eq_true rfl, Nat.le_of_ble_eq_true rfl⟩) ⟨th_blindC, th_preC hH hK hN hZ hS hAC11 n10 hR_q10⟩ rfl rfl hl.1 rfl (lv_room (Nat.le_of_ble_eq_true rfl)) dX11_init_39 ⟨Nat.le_of_ble_eq_true rfl, Nat.le_of_ble_eq_true rfl⟩) hS (fun x _ h => hAC11 x h) hAC11 (fun u t H locs ht hvm hw11 hB hz11 hk11 hS => ?_)
  obtain ⟨τ11, gi11, gr11⟩ := u
  try dsimp only at hw11 hB
  rw [ht] at hB
  have hH := hB
  have hR_h0 := th_P1 hR_h0 (hk11 _ lt11_h0 (th_nAC z8 ne_h0_q10 lt11_h0))
  have t12 : τ11 q1 = 1 := ((hw11.1.1 q1 (by rw [t7]; decide)).trans t7)
  have t13 : τ11 q5 = 10 := ((hw11.1.1 q5 (by rw [tn6]; decide)).trans tn6)
  have z14 : τ11 h0 = 0 := (th_zx hw11.1 z8 ne_h0_q10 lt11_h0)
  have hE := hE.tr hw11.1 (Or.inr le10) hle11 (by decide)
  have tn11 := hw11.2.1
  refine W.widen (k := 16) (n := 481) (Nat.le_of_ble_eq_true rfl) (Nat.le_of_ble_eq_true rfl) ?_
  refine th_rputF (ci := 10) (v := .ref q10) (T := TX11) (C := RX11) (N := 10) (ty := (.object "BayMoorings$Search")) hx hb hts (fun w h => List.mem_cons_of_mem _ (List.mem_append_left _ (List.mem_append_left _ (List.mem_append_left _ (List.mem_append_left _ (List.mem_append_left _ (List.mem_append_right _ h))))))) tyX11 tyX11_ok nmX11 hown hK hH hS z14 (Or.inl rfl) hR_h0 rfl 2 (by decide) (hts (.fieldLink RX11 28 "BayMoorings" "search" "LBayMoorings$Search;") (List.mem_cons_of_mem _ (List.mem_append_left _ (List.mem_append_left _ (List.mem_append_left _ (List.mem_append_left _ (List.mem_append_left _ (List.mem_append_left _ (List.mem_append_left _ (List.mem_append_left _ (List.mem_of_getElem? (i := 14) rfl))))))))))) (fun _ h9 => h9) rfl hin rfl (by decide +kernel) rfl rfl (Nat.le_of_ble_eq_true rfl) dX11_init_42 (fun H locs hR_h0 hH hS y15 o15 => ?_)
  have hR_h0 : va_P D vwCl [(h0, .inr (10, [.ref q1, .ref q5, .ref q10, .null, .null, .null, .null, .int 0, .int 0, .int 0]))] H := hR_h0
  refine lv_aload_n hx hb dX11_init_45 rfl (lv_at hl 0 rfl) ?_
  have hle16 := hS.1
  have lt16_h0 := (hR_h0 0 _ rfl).lt
  refine th_newO (ci := 5) (fs := [.null, .null, .null, .int 0]) (C := RX6) (T := TX6) (N := 4) hx hb hts (fun w h => List.mem_cons_of_mem _ (List.mem_append_left _ (List.mem_append_left _ (List.mem_append_right _ h)))) tyX6 tyX6_ok hown (hts (.classLink RX11 32 RX6) (List.mem_cons_of_mem _ (List.mem_append_left _ (List.mem_append_left _ (List.mem_append_left _ (List.mem_append_left _ (List.mem_append_left _ (List.mem_append_left _ (List.mem_append_left _ (List.mem_append_left _ (List.mem_of_getElem? (i := 15) rfl))))))))))) (hts (.instantiable RX6 4) (List.mem_cons_of_mem _ (List.mem_append_left _ (List.mem_append_left _ (List.mem_append_left _ (List.mem_append_left _ (List.mem_append_left _ (List.mem_append_left _ (List.mem_append_left _ (List.mem_append_left _ (List.mem_of_getElem? (i := 16) rfl))))))))))) (hts (.initialized RX6) (List.mem_cons_of_mem _ (List.mem_append_left _ (List.mem_append_left _ (List.mem_append_left _ (List.mem_append_left _ (List.mem_append_left _ (List.mem_append_left _ (List.mem_append_left _ (List.mem_append_left _ (List.mem_of_getElem? (i := 17) rfl))))))))))) hK hH hS hA rfl (fun j hj => by rcases (show j = 0 ∨ j = 1 ∨ j = 2 ∨ j = 3 by omega) with rfl | rfl | rfl | rfl <;> rfl) (Nat.le_of_ble_eq_true rfl) (Nat.le_of_ble_eq_true rfl) dX11_init_46 (fun q16 H s16 y16 n16 o16 hR_q16 hH hS => ?_)
  have le16 : s.heap.size ≤ q16 := th_leE s16 hle16
  have hR_h0 := th_P1 hR_h0 (o16 _ (th_ltE s16 lt16_h0))
  have ne_h0_q16 : h0 ≠ q16 := Nat.ne_of_lt (th_ltE s16 lt16_h0)
  refine W.widen (k := 17) (n := 485) (Nat.le_of_ble_eq_true rfl) (Nat.le_of_ble_eq_true rfl) ?_
  refine lv_dup hx hb dX11_init_49 rfl ?_
  refine lv_aload_n hx hb dX11_init_50 rfl (lv_at hl 0 rfl) ?_
  refine va_get (D := D) (ci := 10) (v := .ref q1) (C := RX11) (T := TX11) (N := 10) hx hb hts (fun w h => List.mem_cons_of_mem _ (List.mem_append_left _ (List.mem_append_left _ (List.mem_append_left _ (List.mem_append_left _ (List.mem_append_left _ (List.mem_append_right _ h))))))) hown hK hR_h0 0 rfl rfl 0 (by decide) (hts (.fieldLink RX11 10 "BayMoorings" "bay" "LBayMoorings$Bay;") (List.mem_cons_of_mem _ (List.mem_append_left _ (List.mem_append_left _ (List.mem_append_left _ (List.mem_append_left _ (List.mem_append_left _ (List.mem_append_left _ (List.mem_append_left _ (List.mem_append_left _ (List.mem_of_getElem? (i := 6) rfl))))))))))) (fun _ h9 => h9) rfl dX11_init_51 ?_
  have hle17 := hS.1
  have lt17_h0 := (hR_h0 0 _ rfl).lt
  have lt17_q16 := (hR_q16 0 _ rfl).lt
  have hAC17 : ∀ x, th_AC τ11 _ q16 x → (th_AC τ s.heap.size h0) x := th_ACn hE hS le16
  refine va_callv (va_runI (As := [.ref q1]) (rest := [.ref q16, .ref h0]) ⟨hx, hb, hml, hown, hts⟩ (k_X6_init l D cA Z τ11 gi11 gr11 _ q16 q1 t12) (cwI 1 hts gX11_init_X6_init rfl rfl rfl (hts (.initialized RX6) (List.mem_cons_of_mem _ (List.mem_append_left _ (List.mem_append_left _ (List.mem_append_left _ (List.mem_append_left _ (List.mem_append_left _ (List.mem_append_left _ (List.mem_append_left _ (List.mem_append_left _ (List.mem_of_getElem? (i := 17) rfl))))))))))) (hts (.methodLink RX11 34 yX6_init) (List.mem_cons_of_mem _ (List.mem_append_left _ (List.mem_append_left _ (List.mem_append_left _ (List.mem_append_left _ (List.mem_append_left _ (List.mem_append_left _ (List.mem_append_left _ (List.mem_append_right _ (List.mem_append_right _ (List.mem_append_right _ (List.mem_of_getElem? (i := 6) rfl))))))))))))) (hts (.instanceMethod yX6_init) (List.mem_cons_of_mem _ (List.mem_append_left _ (List.mem_append_left _ (List.mem_append_left _ (List.mem_append_left _ (List.mem_append_left _ (List.mem_append_left _ (List.mem_append_left _ (List.mem_append_right _ (List.mem_append_right _ (List.mem_append_right _ (List.mem_of_getElem? (i := 7) rfl))))))))))))) rfl (by decide +kernel) ⟨Nat.le_of_ble_eq_true rfl, Nat.le_of_ble_eq_true rfl⟩) ⟨th_blindC, th_preC hH hK hN hZ hS hAC17 n16 hR_q16⟩ rfl rfl hl.1 rfl (lv_room (Nat.le_of_ble_eq_true rfl)) dX11_init_54 ⟨Nat.le_of_ble_eq_true rfl, Nat.le_of_ble_eq_true rfl⟩) hS (fun x _ h => hAC17 x h) hAC17 (fun u t H locs ht hvm hw17 hB hz17 hk17 hS => ?_)
  obtain ⟨τ17, gi17, gr17⟩ := u
  try dsimp only at hw17 hB
  rw [ht] at hB
  have hH := hB
  have hR_h0 := th_P1 hR_h0 (hk17 _ lt17_h0 (th_nAC z14 ne_h0_q16 lt17_h0))
  have t18 : τ17 q1 = 1 := ((hw17.1.1 q1 (by rw [t12]; decide)).trans t12)
  have t19 : τ17 q5 = 10 := ((hw17.1.1 q5 (by rw [t13]; decide)).trans t13)
  have t20 : τ17 q10 = 7 := ((hw17.1.1 q10 (by rw [tn11]; decide)).trans tn11)
  have z21 : τ17 h0 = 0 := (th_zx hw17.1 z14 ne_h0_q16 lt17_h0)
  have hE := hE.tr hw17.1 (Or.inr le16) hle17 (by decide)
  have tn17 := hw17.2.1
  refine W.widen (k := 19) (n := 517) (Nat.le_of_ble_eq_true rfl) (Nat.le_of_ble_eq_true rfl) ?_
  refine th_rputF (ci := 10) (v := .ref q16) (T := TX11) (C := RX11) (N := 10) (ty := (.object "BayMoorings$Rings")) hx hb hts (fun w h => List.mem_cons_of_mem _ (List.mem_append_left _ (List.mem_append_left _ (List.mem_append_left _ (List.mem_append_left _ (List.mem_append_left _ (List.mem_append_right _ h))))))) tyX11 tyX11_ok nmX11 hown hK hH hS z21 (Or.inl rfl) hR_h0 rfl 3 (by decide) (hts (.fieldLink RX11 35 "BayMoorings" "rings" "LBayMoorings$Rings;") (List.mem_cons_of_mem _ (List.mem_append_left _ (List.mem_append_left _ (List.mem_append_left _ (List.mem_append_left _ (List.mem_append_left _ (List.mem_append_left _ (List.mem_append_left _ (List.mem_append_left _ (List.mem_of_getElem? (i := 18) rfl))))))))))) (fun _ h9 => h9) rfl hin rfl (by decide +kernel) rfl rfl (Nat.le_of_ble_eq_true rfl) dX11_init_57 (fun H locs hR_h0 hH hS y22 o22 => ?_)
  have hR_h0 : va_P D vwCl [(h0, .inr (10, [.ref q1, .ref q5, .ref q10, .ref q16, .null, .null, .null, .int 0, .int 0, .int 0]))] H := hR_h0
  refine lv_aload_n hx hb dX11_init_60 rfl (lv_at hl 0 rfl) ?_
  have hle23 := hS.1
  have lt23_h0 := (hR_h0 0 _ rfl).lt
  refine th_newO (ci := 4) (fs := [.null, .null, .int 0]) (C := RX5) (T := TX5) (N := 3) hx hb hts (fun w h => List.mem_cons_of_mem _ (List.mem_append_left _ (List.mem_append_right _ h))) tyX5 tyX5_ok hown (hts (.classLink RX11 39 RX5) (List.mem_cons_of_mem _ (List.mem_append_left _ (List.mem_append_left _ (List.mem_append_left _ (List.mem_append_left _ (List.mem_append_left _ (List.mem_append_left _ (List.mem_append_left _ (List.mem_append_left _ (List.mem_of_getElem? (i := 19) rfl))))))))))) (hts (.instantiable RX5 3) (List.mem_cons_of_mem _ (List.mem_append_left _ (List.mem_append_left _ (List.mem_append_left _ (List.mem_append_left _ (List.mem_append_left _ (List.mem_append_left _ (List.mem_append_left _ (List.mem_append_left _ (List.mem_of_getElem? (i := 20) rfl))))))))))) (hts (.initialized RX5) (List.mem_cons_of_mem _ (List.mem_append_left _ (List.mem_append_left _ (List.mem_append_left _ (List.mem_append_left _ (List.mem_append_left _ (List.mem_append_left _ (List.mem_append_left _ (List.mem_append_left _ (List.mem_of_getElem? (i := 21) rfl))))))))))) hK hH hS hA rfl (fun j hj => by rcases (show j = 0 ∨ j = 1 ∨ j = 2 by omega) with rfl | rfl | rfl <;> rfl) (Nat.le_of_ble_eq_true rfl) (Nat.le_of_ble_eq_true rfl) dX11_init_61 (fun q23 H s23 y23 n23 o23 hR_q23 hH hS => ?_)
  have le23 : s.heap.size ≤ q23 := th_leE s23 hle23
  have hR_h0 := th_P1 hR_h0 (o23 _ (th_ltE s23 lt23_h0))
  have ne_h0_q23 : h0 ≠ q23 := Nat.ne_of_lt (th_ltE s23 lt23_h0)
  refine W.widen (k := 20) (n := 520) (Nat.le_of_ble_eq_true rfl) (Nat.le_of_ble_eq_true rfl) ?_
  refine lv_dup hx hb dX11_init_64 rfl ?_
  refine lv_aload_n hx hb dX11_init_65 rfl (lv_at hl 0 rfl) ?_
  refine va_get (D := D) (ci := 10) (v := .ref q1) (C := RX11) (T := TX11) (N := 10) hx hb hts (fun w h => List.mem_cons_of_mem _ (List.mem_append_left _ (List.mem_append_left _ (List.mem_append_left _ (List.mem_append_left _ (List.mem_append_left _ (List.mem_append_right _ h))))))) hown hK hR_h0 0 rfl rfl 0 (by decide) (hts (.fieldLink RX11 10 "BayMoorings" "bay" "LBayMoorings$Bay;") (List.mem_cons_of_mem _ (List.mem_append_left _ (List.mem_append_left _ (List.mem_append_left _ (List.mem_append_left _ (List.mem_append_left _ (List.mem_append_left _ (List.mem_append_left _ (List.mem_append_left _ (List.mem_of_getElem? (i := 6) rfl))))))))))) (fun _ h9 => h9) rfl dX11_init_66 ?_
  have hle24 := hS.1
  have lt24_h0 := (hR_h0 0 _ rfl).lt
  have lt24_q23 := (hR_q23 0 _ rfl).lt
  have hAC24 : ∀ x, th_AC τ17 _ q23 x → (th_AC τ s.heap.size h0) x := th_ACn hE hS le23
  refine va_callv (va_runI (As := [.ref q1]) (rest := [.ref q23, .ref h0]) ⟨hx, hb, hml, hown, hts⟩ (k_X5_init l D cA Z τ17 gi17 gr17 _ q23 q1 t18) (cwI 1 hts gX11_init_X5_init rfl rfl rfl (hts (.initialized RX5) (List.mem_cons_of_mem _ (List.mem_append_left _ (List.mem_append_left _ (List.mem_append_left _ (List.mem_append_left _ (List.mem_append_left _ (List.mem_append_left _ (List.mem_append_left _ (List.mem_append_left _ (List.mem_of_getElem? (i := 21) rfl))))))))))) (hts (.methodLink RX11 41 yX5_init) (List.mem_cons_of_mem _ (List.mem_append_left _ (List.mem_append_left _ (List.mem_append_left _ (List.mem_append_left _ (List.mem_append_left _ (List.mem_append_left _ (List.mem_append_left _ (List.mem_append_right _ (List.mem_append_right _ (List.mem_append_right _ (List.mem_of_getElem? (i := 14) rfl))))))))))))) (hts (.instanceMethod yX5_init) (List.mem_cons_of_mem _ (List.mem_append_left _ (List.mem_append_left _ (List.mem_append_left _ (List.mem_append_left _ (List.mem_append_left _ (List.mem_append_left _ (List.mem_append_left _ (List.mem_append_right _ (List.mem_append_right _ (List.mem_append_right _ (List.mem_of_getElem? (i := 15) rfl))))))))))))) rfl (by decide +kernel) ⟨Nat.le_of_ble_eq_true rfl, Nat.le_of_ble_eq_true rfl⟩) ⟨th_blindC, th_preC hH hK hN hZ hS hAC24 n23 hR_q23⟩ rfl rfl hl.1 rfl (lv_room (Nat.le_of_ble_eq_true rfl)) dX11_init_69 ⟨Nat.le_of_ble_eq_true rfl, Nat.le_of_ble_eq_true rfl⟩) hS (fun x _ h => hAC24 x h) hAC24 (fun u t H locs ht hvm hw24 hB hz24 hk24 hS => ?_)
  obtain ⟨τ24, gi24, gr24⟩ := u
  try dsimp only at hw24 hB
  rw [ht] at hB
  have hH := hB
  have hR_h0 := th_P1 hR_h0 (hk24 _ lt24_h0 (th_nAC z21 ne_h0_q23 lt24_h0))
  have t25 : τ24 q1 = 1 := ((hw24.1.1 q1 (by rw [t18]; decide)).trans t18)
  have t26 : τ24 q5 = 10 := ((hw24.1.1 q5 (by rw [t19]; decide)).trans t19)
  have t27 : τ24 q10 = 7 := ((hw24.1.1 q10 (by rw [t20]; decide)).trans t20)
  have t28 : τ24 q16 = 6 := ((hw24.1.1 q16 (by rw [tn17]; decide)).trans tn17)
  have z29 : τ24 h0 = 0 := (th_zx hw24.1 z21 ne_h0_q23 lt24_h0)
  have hE := hE.tr hw24.1 (Or.inr le23) hle24 (by decide)
  have tn24 := hw24.2.1
  refine W.widen (k := 23) (n := 550) (Nat.le_of_ble_eq_true rfl) (Nat.le_of_ble_eq_true rfl) ?_
  refine th_rputF (ci := 10) (v := .ref q23) (T := TX11) (C := RX11) (N := 10) (ty := (.object "BayMoorings$Flight")) hx hb hts (fun w h => List.mem_cons_of_mem _ (List.mem_append_left _ (List.mem_append_left _ (List.mem_append_left _ (List.mem_append_left _ (List.mem_append_left _ (List.mem_append_right _ h))))))) tyX11 tyX11_ok nmX11 hown hK hH hS z29 (Or.inl rfl) hR_h0 rfl 4 (by decide) (hts (.fieldLink RX11 42 "BayMoorings" "flight" "LBayMoorings$Flight;") (List.mem_cons_of_mem _ (List.mem_append_left _ (List.mem_append_left _ (List.mem_append_left _ (List.mem_append_left _ (List.mem_append_left _ (List.mem_append_left _ (List.mem_append_left _ (List.mem_append_left _ (List.mem_of_getElem? (i := 22) rfl))))))))))) (fun _ h9 => h9) rfl hin rfl (by decide +kernel) rfl rfl (Nat.le_of_ble_eq_true rfl) dX11_init_72 (fun H locs hR_h0 hH hS y30 o30 => ?_)
  have hR_h0 : va_P D vwCl [(h0, .inr (10, [.ref q1, .ref q5, .ref q10, .ref q16, .ref q23, .null, .null, .int 0, .int 0, .int 0]))] H := hR_h0
  refine lv_aload_n hx hb dX11_init_75 rfl (lv_at hl 0 rfl) ?_
  refine lv_bipush (v := 6) hx hb dX11_init_76 bp_6 ?_
  have hle31 := hS.1
  have lt31_h0 := (hR_h0 0 _ rfl).lt
  refine th_newI (atype := .int) (cI := cA 0) (N' := 6) hx hb (hts (.arrayClass .int) (List.mem_cons_of_mem _ (List.mem_append_left _ (List.mem_append_left _ (List.mem_append_left _ (List.mem_append_left _ (List.mem_append_left _ (List.mem_append_left _ (List.mem_append_left _ (List.mem_append_left _ (List.mem_of_getElem? (i := 23) rfl))))))))))) hK 0 rfl (fun h => h) hH hS hA 36 (by decide) (by decide) (by decide) (Nat.le_of_ble_eq_true rfl) (Nat.le_of_ble_eq_true rfl) rfl (fun _ => rfl) (fun _ _ => trivial) dX11_init_78 (fun q31 H s31 y31 n31 o31 hH hS => ?_)
  have le31 : s.heap.size ≤ q31 := th_leE s31 hle31
  have hR_h0 := th_P1 hR_h0 (o31 _ (th_ltE s31 lt31_h0))
  obtain ⟨τ31, et31⟩ : ∃ t, t = va_up τ24 q31 36 := ⟨_, rfl⟩
  have zz31 := hE.z n31
  obtain ⟨gi31, eg31⟩ : ∃ g, g = va_up gi24 q31 (fun _ => 0) := ⟨_, rfl⟩
  have hE := hE.add (k0 := 36) (f := (fun _ => 0)) (r := gr24 q31) n31 (Or.inr le31)
  rw [th_upid gr24 q31, ← et31, ← eg31] at hE
  rw [← et31, ← eg31] at hH
  have og31 : ∀ b, b ≠ q31 → gi31 b = gi24 b := th_upO eg31
  have t32 : τ31 q1 = 1 := (th_tkE et31 t25 rfl n31)
  have t33 : τ31 q5 = 10 := (th_tkE et31 t26 rfl n31)
  have t34 : τ31 q10 = 7 := (th_tkE et31 t27 rfl n31)
  have t35 : τ31 q16 = 6 := (th_tkE et31 t28 rfl n31)
  have t36 : τ31 q23 = 5 := (th_tkE et31 tn24 rfl n31)
  have z37 : τ31 h0 = 0 := (th_tzE et31 z29 (Nat.ne_of_lt (th_ltE s31 lt31_h0)))
  have tn31 : τ31 q31 = 36 := th_upS et31
  refine W.widen (k := 24) (n := 556) (Nat.le_of_ble_eq_true rfl) (Nat.le_of_ble_eq_true rfl) ?_
  refine th_rputF (ci := 10) (v := .ref q31) (T := TX11) (C := RX11) (N := 10) (ty := (.array .int)) hx hb hts (fun w h => List.mem_cons_of_mem _ (List.mem_append_left _ (List.mem_append_left _ (List.mem_append_left _ (List.mem_append_left _ (List.mem_append_left _ (List.mem_append_right _ h))))))) tyX11 tyX11_ok nmX11 hown hK hH hS z37 (Or.inl rfl) hR_h0 rfl 5 (by decide) (hts (.fieldLink RX11 46 "BayMoorings" "findings" "[I") (List.mem_cons_of_mem _ (List.mem_append_left _ (List.mem_append_left _ (List.mem_append_left _ (List.mem_append_left _ (List.mem_append_left _ (List.mem_append_left _ (List.mem_append_left _ (List.mem_append_right _ (List.mem_append_left _ (List.mem_of_getElem? (i := 0) rfl)))))))))))) (fun _ h9 => h9) rfl hin rfl (by decide +kernel) rfl rfl (Nat.le_of_ble_eq_true rfl) dX11_init_80 (fun H locs hR_h0 hH hS y38 o38 => ?_)
  have hR_h0 : va_P D vwCl [(h0, .inr (10, [.ref q1, .ref q5, .ref q10, .ref q16, .ref q23, .ref q31, .null, .int 0, .int 0, .int 0]))] H := hR_h0
  refine lv_aload_n hx hb dX11_init_83 rfl (lv_at hl 0 rfl) ?_
  refine lv_bipush (v := 24) hx hb dX11_init_84 bp_24 ?_
  have hle39 := hS.1
  have lt39_h0 := (hR_h0 0 _ rfl).lt
  refine th_newI (atype := .int) (cI := cA 0) (N' := 24) hx hb (hts (.arrayClass .int) (List.mem_cons_of_mem _ (List.mem_append_left _ (List.mem_append_left _ (List.mem_append_left _ (List.mem_append_left _ (List.mem_append_left _ (List.mem_append_left _ (List.mem_append_left _ (List.mem_append_left _ (List.mem_of_getElem? (i := 23) rfl))))))))))) hK 0 rfl (fun h => h) hH hS hA 37 (by decide) (by decide) (by decide) (Nat.le_of_ble_eq_true rfl) (Nat.le_of_ble_eq_true rfl) rfl (fun _ => rfl) (fun _ _ => trivial) dX11_init_86 (fun q39 H s39 y39 n39 o39 hH hS => ?_)
  have le39 : s.heap.size ≤ q39 := th_leE s39 hle39
  have hR_h0 := th_P1 hR_h0 (o39 _ (th_ltE s39 lt39_h0))
  obtain ⟨τ39, et39⟩ : ∃ t, t = va_up τ31 q39 37 := ⟨_, rfl⟩
  have zz39 := hE.z n39
  obtain ⟨gi39, eg39⟩ : ∃ g, g = va_up gi31 q39 (fun _ => 0) := ⟨_, rfl⟩
  have hE := hE.add (k0 := 37) (f := (fun _ => 0)) (r := gr24 q39) n39 (Or.inr le39)
  rw [th_upid gr24 q39, ← et39, ← eg39] at hE
  rw [← et39, ← eg39] at hH
  have og39 : ∀ b, b ≠ q39 → gi39 b = gi31 b := th_upO eg39
  have t40 : τ39 q1 = 1 := (th_tkE et39 t32 rfl n39)
  have t41 : τ39 q5 = 10 := (th_tkE et39 t33 rfl n39)
  have t42 : τ39 q10 = 7 := (th_tkE et39 t34 rfl n39)
  have t43 : τ39 q16 = 6 := (th_tkE et39 t35 rfl n39)
  have t44 : τ39 q23 = 5 := (th_tkE et39 t36 rfl n39)
  have t45 : τ39 q31 = 36 := (th_tkE et39 tn31 rfl n39)
  have z46 : τ39 h0 = 0 := (th_tzE et39 z37 (Nat.ne_of_lt (th_ltE s39 lt39_h0)))
  have tn39 : τ39 q39 = 37 := th_upS et39
  refine W.widen (k := 25) (n := 580) (Nat.le_of_ble_eq_true rfl) (Nat.le_of_ble_eq_true rfl) ?_
  refine th_rputF (ci := 10) (v := .ref q39) (T := TX11) (C := RX11) (N := 10) (ty := (.array .int)) hx hb hts (fun w h => List.mem_cons_of_mem _ (List.mem_append_left _ (List.mem_append_left _ (List.mem_append_left _ (List.mem_append_left _ (List.mem_append_left _ (List.mem_append_right _ h))))))) tyX11 tyX11_ok nmX11 hown hK hH hS z46 (Or.inl rfl) hR_h0 rfl 6 (by decide) (hts (.fieldLink RX11 50 "BayMoorings" "numbers" "[I") (List.mem_cons_of_mem _ (List.mem_append_left _ (List.mem_append_left _ (List.mem_append_left _ (List.mem_append_left _ (List.mem_append_left _ (List.mem_append_left _ (List.mem_append_left _ (List.mem_append_right _ (List.mem_append_left _ (List.mem_of_getElem? (i := 1) rfl)))))))))))) (fun _ h9 => h9) rfl hin rfl (by decide +kernel) rfl rfl (Nat.le_of_ble_eq_true rfl) dX11_init_88 (fun H locs hR_h0 hH hS y47 o47 => ?_)
  have hR_h0 : va_P D vwCl [(h0, .inr (10, [.ref q1, .ref q5, .ref q10, .ref q16, .ref q23, .ref q31, .ref q39, .int 0, .int 0, .int 0]))] H := hR_h0
  refine lv_aload_n hx hb dX11_init_91 rfl (lv_at hl 0 rfl) ?_
  refine lv_iconst (v := 0) hx hb dX11_init_92 ic_0 ?_
  refine th_rput (ci := 10) (v := .int 0) (T := TX11) (C := RX11) (N := 10) (ty := .int) hx hb hts (fun w h => List.mem_cons_of_mem _ (List.mem_append_left _ (List.mem_append_left _ (List.mem_append_left _ (List.mem_append_left _ (List.mem_append_left _ (List.mem_append_right _ h))))))) tyX11 tyX11_ok nmX11 hown hK hH hS z46 (Or.inl rfl) hR_h0 rfl 7 (by decide) (hts (.fieldLink RX11 53 "BayMoorings" "numberCount" "I") (List.mem_cons_of_mem _ (List.mem_append_left _ (List.mem_append_left _ (List.mem_append_left _ (List.mem_append_left _ (List.mem_append_left _ (List.mem_append_left _ (List.mem_append_left _ (List.mem_append_right _ (List.mem_append_left _ (List.mem_of_getElem? (i := 2) rfl)))))))))))) (fun _ h9 => h9) rfl (by decide +kernel) rfl rfl (Nat.le_of_ble_eq_true rfl) dX11_init_93 (fun H locs hR_h0 hH hS y48 o48 => ?_)
  have hR_h0 : va_P D vwCl [(h0, .inr (10, [.ref q1, .ref q5, .ref q10, .ref q16, .ref q23, .ref q31, .ref q39, .int 0, .int 0, .int 0]))] H := hR_h0
  refine lv_aload_n hx hb dX11_init_96 rfl (lv_at hl 0 rfl) ?_
  refine lv_iconst (v := 3) hx hb dX11_init_97 ic_3 ?_
  refine th_rput (ci := 10) (v := .int 3) (T := TX11) (C := RX11) (N := 10) (ty := .int) hx hb hts (fun w h => List.mem_cons_of_mem _ (List.mem_append_left _ (List.mem_append_left _ (List.mem_append_left _ (List.mem_append_left _ (List.mem_append_left _ (List.mem_append_right _ h))))))) tyX11 tyX11_ok nmX11 hown hK hH hS z46 (Or.inl rfl) hR_h0 rfl 8 (by decide) (hts (.fieldLink RX11 57 "BayMoorings" "rateNow" "I") (List.mem_cons_of_mem _ (List.mem_append_left _ (List.mem_append_left _ (List.mem_append_left _ (List.mem_append_left _ (List.mem_append_left _ (List.mem_append_left _ (List.mem_append_left _ (List.mem_append_right _ (List.mem_append_left _ (List.mem_of_getElem? (i := 3) rfl)))))))))))) (fun _ h9 => h9) rfl (by decide +kernel) rfl rfl (Nat.le_of_ble_eq_true rfl) dX11_init_98 (fun H locs hR_h0 hH hS y49 o49 => ?_)
  have hR_h0 : va_P D vwCl [(h0, .inr (10, [.ref q1, .ref q5, .ref q10, .ref q16, .ref q23, .ref q31, .ref q39, .int 0, .int 3, .int 0]))] H := hR_h0
  refine lv_aload_n hx hb dX11_init_101 rfl (lv_at hl 0 rfl) ?_
  refine lv_iconst (v := 1) hx hb dX11_init_102 ic_1 ?_
  refine th_rput (ci := 10) (v := .int 1) (T := TX11) (C := RX11) (N := 10) (ty := .boolean) hx hb hts (fun w h => List.mem_cons_of_mem _ (List.mem_append_left _ (List.mem_append_left _ (List.mem_append_left _ (List.mem_append_left _ (List.mem_append_left _ (List.mem_append_right _ h))))))) tyX11 tyX11_ok nmX11 hown hK hH hS z46 (Or.inl rfl) hR_h0 rfl 9 (by decide) (hts (.fieldLink RX11 60 "BayMoorings" "refuserStays" "Z") (List.mem_cons_of_mem _ (List.mem_append_left _ (List.mem_append_left _ (List.mem_append_left _ (List.mem_append_left _ (List.mem_append_left _ (List.mem_append_left _ (List.mem_append_left _ (List.mem_append_right _ (List.mem_append_left _ (List.mem_of_getElem? (i := 4) rfl)))))))))))) (fun _ h9 => h9) rfl (by decide +kernel) (rg_nb (rg_w rgc_1 (th_leI rfl) (th_leI rfl))) (rg_fb (rg_w rgc_1 (th_leI rfl) (th_leI rfl))) (Nat.le_of_ble_eq_true rfl) dX11_init_103 (fun H locs hR_h0 hH hS y50 o50 => ?_)
  have hR_h0 : va_P D vwCl [(h0, .inr (10, [.ref q1, .ref q5, .ref q10, .ref q16, .ref q23, .ref q31, .ref q39, .int 0, .int 3, .int 1]))] H := hR_h0
  have hFp := hH.push (k0 := 11) (f := (fun k => match k with | 8 => 3 | 9 => 1 | _ => 0)) (r := (fun k => match k with | 0 => some q1 | 1 => some q5 | 2 => some q10 | 3 => some q16 | 4 => some q23 | 5 => some q31 | 6 => some q39 | _ => none)) (H1 := _) z46 (hR_h0 0 _ rfl) (⟨⟨q1, rfl, th_tk t40 (by decide) z46⟩, ⟨q5, rfl, th_tk t41 (by decide) z46⟩, ⟨q10, rfl, th_tk t42 (by decide) z46⟩, ⟨q16, rfl, th_tk t43 (by decide) z46⟩, ⟨q23, rfl, th_tk t44 (by decide) z46⟩, ⟨q31, rfl, th_tk t45 (by decide) z46⟩, ⟨q39, rfl, th_tk tn39 (by decide) z46⟩, (rg_w rgc_0 (th_leI rfl) (th_leI rfl)), (rg_w rgc_1 (th_leI rfl) (th_leI rfl))⟩) (fun _ _ => rfl)
  exact W.vret hx hb hr (fun t ht hW => ⟨⟨(va_up τ39 h0 11, va_up gi39 h0 (fun k => match k with | 8 => 3 | 9 => 1 | _ => 0), va_up gr24 h0 (fun k => match k with | 0 => some q1 | 1 => some q5 | 2 => some q10 | 3 => some q16 | 4 => some q23 | 5 => some q31 | 6 => some q39 | _ => none)), rfl, ⟨hE.add z46 (Or.inl rfl), va_up_self _ _ _, congrFun (va_up_self _ _ _) 7, congrFun (va_up_self _ _ _) 8, congrFun (va_up_self _ _ _) 9, (hF _ _ _ (by (try simp only [M_X11_init]); refine ⟨q1, n1, ne_h0_q1, ?_⟩; refine ⟨τ2, gi2, gr2, hw2.2.2.2.2.2.2, z3, ?_⟩; refine ⟨q5, n5, ne_h0_q5, ?_⟩; refine ⟨τ6, gi6, gr6, hw6.2.2, z8, ?_⟩; refine ⟨q10, n10, ne_h0_q10, ?_⟩; refine ⟨τ11, gi11, gr11, hw11.2.2, z14, ?_⟩; refine ⟨q16, n16, ne_h0_q16, ?_⟩; refine ⟨τ17, gi17, gr17, hw17.2.2, z21, ?_⟩; refine ⟨q23, n23, ne_h0_q23, ?_⟩; refine ⟨τ24, gi24, gr24, hw24.2.2, z29, ?_⟩; refine ⟨q31, n31, Nat.ne_of_lt (th_ltE s31 lt31_h0), ?_⟩; (try simp only [← et31, ← eg31]); refine ⟨q39, n39, Nat.ne_of_lt (th_ltE s39 lt39_h0), ?_⟩; (try simp only [← et31, ← eg31, ← et39, ← eg39]); first | done | exact ⟨(by first | rfl | trivial), (by first | rfl | trivial), (by first | rfl | trivial)⟩))⟩, th_Ht ht hFp⟩, hS.F ht⟩) hS.2.2 dX11_init_106

set_option maxHeartbeats 20000000 in
set_option maxRecDepth 100000 in
theorem k_X12_init (l : Launch) (D : va_G) (cA : Nat → ClassId) (Z : th_Zt) (τ : th_t) (gi : th_i) (gr : th_r) (sz : Nat) (h0 : Nat) : Met l yX12_init wsX12_init ({ frames := 1, cells := 29, slots := 709, locals := 30 }) (va_Pc [.ref h0] (th_PreC D cA Z τ gi gr sz h0 (.inr (11, [.int 0, .null, .null, .null, .null, .null, .null, .null, .int 0, .null, .null, .null, .null, .null, .int 0, .null, .null, .int 0, .null, .null, .int 0, .null, .null, .int 0, .int 0, .null, .null, .int 0, .null, .null, .null, .null, .null, .int 0, .null, .null, .null, .null])))) (va_Qv (fun (u : th_t × th_i × th_r) => th_Ext [5200, 5300] τ gi gr sz h0 u.1 u.2.1 u.2.2 ∧ u.1 h0 = 12 ∧ (u.2.1 h0 0 = 0) ∧ (u.2.1 h0 8 = 0) ∧ (u.2.1 h0 14 = 255) ∧ (u.2.1 h0 17 = 0) ∧ (u.2.1 h0 20 = 1) ∧ (u.2.1 h0 23 = 3) ∧ (u.2.1 h0 24 = 0) ∧ (∀ a, u.2.2 h0 5 = some a → u.2.1 a = fun _ => 0) ∧ (∀ a, u.2.2 h0 6 = some a → u.2.1 a = fun _ => 0) ∧ (∀ a, u.2.2 h0 13 = some a → u.2.1 a = fun _ => 0) ∧ (∀ a, u.2.2 h0 19 = some a → u.2.1 a = fun _ => 0) ∧ (∀ a, u.2.2 h0 21 = some a → u.2.1 a = fun _ => 0) ∧ (∀ a, u.2.2 h0 26 = some a → u.2.1 a = fun _ => 0) ∧ (∀ a, u.2.2 h0 15 = some a → ∀ j, j < 8 → u.2.1 a j = th_wX j) ∧ (∀ a, u.2.2 h0 16 = some a → ∀ j, j < 8 → u.2.1 a j = th_wY j)) (fun (u : th_t × th_i × th_r) t => th_H D cA u.1 u.2.1 u.2.2 t.heap) (th_AC τ sz h0)) 29 709 (th_AC τ sz h0) := by
  refine Met.ofW (cc := cX12_init) (maxL := 1) (ret := none) (by decide) rfl ?_
  intro p e s m args below meth c s₁ B hml hv
  obtain ⟨rfl, hsz, hH, hK, hN, hZ, z_h0, hR_h0⟩ := hv
  have hx := B.exec
  have hb := B.bytes
  have hr := B.returns
  have hts := atoms_spec (ws := wsX12_init) B.pre
  have hown : s.vm.findClass RX12 = some m.cls := findClass_of_methodNamed B.named
  have hlocks := B.notSynchronized
  have hin : meth.name = "<init>" := (name_of_methodNamed B.named B.method).1
  subst hsz
  have hA : ∀ q : Nat, s.heap.size ≤ q → (th_AC τ s.heap.size h0) q := fun q h => Or.inr (Or.inr h)
  have hE : th_Ext [5200, 5300] τ gi gr s.heap.size h0 τ gi gr := th_Ext.rf
  have hS : va_S (th_AC τ s.heap.size h0) s.heap s.heap [] := va_S.rf
  have hl := lv_entry ([.ref h0]) (n := 1) (Nat.le_of_ble_eq_true rfl)
  rw [lg_entry_eq]
  generalize (lg_sl ([.ref h0]) ++ List.replicate (1 - (lg_sl ([.ref h0])).length) Slot.unset).toArray = ls at hl ⊢
  have hl : lv_has ls 1 [(0, .ref h0)] := hl
  refine lv_aload_n hx hb dX12_init_0 rfl (lv_at hl 0 rfl) ?_
  refine W.objInit hx hb hown (hts (.methodLink RX12 3 objectInit) (List.mem_cons_of_mem _ (List.mem_append_left _ (List.mem_append_left _ (List.mem_of_getElem? (i := 0) rfl))))) (hts (.instanceMethod objectInit) (List.mem_cons_of_mem _ (List.mem_append_left _ (List.mem_append_left _ (List.mem_of_getElem? (i := 1) rfl))))) (hts (.code objectInit ⟨#[0xb1]⟩ 1 none) (List.mem_cons_of_mem _ (List.mem_append_left _ (List.mem_append_left _ (List.mem_of_getElem? (i := 2) rfl))))) rfl (by rw [hml]; exact hl.1) rfl dX12_init_1 (Nat.le_of_ble_eq_true rfl) (Nat.le_of_ble_eq_true rfl) ?_
  refine W.eq (g2 := F0 m 4 ls []) rfl ?_
  refine lv_aload_n hx hb dX12_init_4 rfl (lv_at hl 0 rfl) ?_
  refine lv_bipush (v := 12) hx hb dX12_init_5 bp_12 ?_
  have hle1 := hS.1
  have lt1_h0 := (hR_h0 0 _ rfl).lt
  refine th_newI (atype := .int) (cI := cA 0) (N' := 12) hx hb (hts (.arrayClass .int) (List.mem_cons_of_mem _ (List.mem_append_left _ (List.mem_append_left _ (List.mem_of_getElem? (i := 3) rfl))))) hK 0 rfl (fun h => h) hH hS hA 40 (by decide) (by decide) (by decide) (Nat.le_of_ble_eq_true rfl) (Nat.le_of_ble_eq_true rfl) rfl (fun _ => rfl) (fun _ _ => trivial) dX12_init_7 (fun q1 H s1 y1 n1 o1 hH hS => ?_)
  have le1 : s.heap.size ≤ q1 := th_leE s1 hle1
  have hR_h0 := th_P1 hR_h0 (o1 _ (th_ltE s1 lt1_h0))
  obtain ⟨τ1, et1⟩ : ∃ t, t = va_up τ q1 40 := ⟨_, rfl⟩
  have zz1 := hE.z n1
  obtain ⟨gi1, eg1⟩ : ∃ g, g = va_up gi q1 (fun _ => 0) := ⟨_, rfl⟩
  have hE := hE.add (k0 := 40) (f := (fun _ => 0)) (r := gr q1) n1 (Or.inr le1)
  rw [th_upid gr q1, ← et1, ← eg1] at hE
  rw [← et1, ← eg1] at hH
  have og1 : ∀ b, b ≠ q1 → gi1 b = gi b := th_upO eg1
  have z2 : τ1 h0 = 0 := (th_tzE et1 z_h0 (Nat.ne_of_lt (th_ltE s1 lt1_h0)))
  have tn1 : τ1 q1 = 40 := th_upS et1
  refine W.widen (k := 1) (n := 12) (Nat.le_of_ble_eq_true rfl) (Nat.le_of_ble_eq_true rfl) ?_
  refine th_rputF (ci := 11) (v := .ref q1) (T := TX12) (C := RX12) (N := 38) (ty := (.array .int)) hx hb hts (fun w h => List.mem_cons_of_mem _ (List.mem_append_right _ h)) tyX12 tyX12_ok nmX12 hown hK hH hS z2 (Or.inl rfl) hR_h0 rfl 1 (by decide) (hts (.fieldLink RX12 9 "BayMooringsModel" "atX" "[I") (List.mem_cons_of_mem _ (List.mem_append_left _ (List.mem_append_left _ (List.mem_of_getElem? (i := 4) rfl))))) (fun _ h9 => h9) rfl hin rfl (by decide +kernel) rfl rfl (Nat.le_of_ble_eq_true rfl) dX12_init_9 (fun H locs hR_h0 hH hS y3 o3 => ?_)
  have hR_h0 : va_P D vwCl [(h0, .inr (11, [.int 0, .ref q1, .null, .null, .null, .null, .null, .null, .int 0, .null, .null, .null, .null, .null, .int 0, .null, .null, .int 0, .null, .null, .int 0, .null, .null, .int 0, .int 0, .null, .null, .int 0, .null, .null, .null, .null, .null, .int 0, .null, .null, .null, .null]))] H := hR_h0
  refine lv_aload_n hx hb dX12_init_12 rfl (lv_at hl 0 rfl) ?_
  refine lv_bipush (v := 12) hx hb dX12_init_13 bp_12 ?_
  have hle4 := hS.1
  have lt4_h0 := (hR_h0 0 _ rfl).lt
  refine th_newI (atype := .int) (cI := cA 0) (N' := 12) hx hb (hts (.arrayClass .int) (List.mem_cons_of_mem _ (List.mem_append_left _ (List.mem_append_left _ (List.mem_of_getElem? (i := 3) rfl))))) hK 0 rfl (fun h => h) hH hS hA 41 (by decide) (by decide) (by decide) (Nat.le_of_ble_eq_true rfl) (Nat.le_of_ble_eq_true rfl) rfl (fun _ => rfl) (fun _ _ => trivial) dX12_init_15 (fun q4 H s4 y4 n4 o4 hH hS => ?_)
  have le4 : s.heap.size ≤ q4 := th_leE s4 hle4
  have hR_h0 := th_P1 hR_h0 (o4 _ (th_ltE s4 lt4_h0))
  obtain ⟨τ4, et4⟩ : ∃ t, t = va_up τ1 q4 41 := ⟨_, rfl⟩
  have zz4 := hE.z n4
  obtain ⟨gi4, eg4⟩ : ∃ g, g = va_up gi1 q4 (fun _ => 0) := ⟨_, rfl⟩
  have hE := hE.add (k0 := 41) (f := (fun _ => 0)) (r := gr q4) n4 (Or.inr le4)
  rw [th_upid gr q4, ← et4, ← eg4] at hE
  rw [← et4, ← eg4] at hH
  have og4 : ∀ b, b ≠ q4 → gi4 b = gi1 b := th_upO eg4
  have t5 : τ4 q1 = 40 := (th_tkE et4 tn1 rfl n4)
  have z6 : τ4 h0 = 0 := (th_tzE et4 z2 (Nat.ne_of_lt (th_ltE s4 lt4_h0)))
  have tn4 : τ4 q4 = 41 := th_upS et4
  refine W.widen (k := 2) (n := 24) (Nat.le_of_ble_eq_true rfl) (Nat.le_of_ble_eq_true rfl) ?_
  refine th_rputF (ci := 11) (v := .ref q4) (T := TX12) (C := RX12) (N := 38) (ty := (.array .int)) hx hb hts (fun w h => List.mem_cons_of_mem _ (List.mem_append_right _ h)) tyX12 tyX12_ok nmX12 hown hK hH hS z6 (Or.inl rfl) hR_h0 rfl 2 (by decide) (hts (.fieldLink RX12 13 "BayMooringsModel" "atY" "[I") (List.mem_cons_of_mem _ (List.mem_append_left _ (List.mem_append_left _ (List.mem_of_getElem? (i := 5) rfl))))) (fun _ h9 => h9) rfl hin rfl (by decide +kernel) rfl rfl (Nat.le_of_ble_eq_true rfl) dX12_init_17 (fun H locs hR_h0 hH hS y7 o7 => ?_)
  have hR_h0 : va_P D vwCl [(h0, .inr (11, [.int 0, .ref q1, .ref q4, .null, .null, .null, .null, .null, .int 0, .null, .null, .null, .null, .null, .int 0, .null, .null, .int 0, .null, .null, .int 0, .null, .null, .int 0, .int 0, .null, .null, .int 0, .null, .null, .null, .null, .null, .int 0, .null, .null, .null, .null]))] H := hR_h0
  refine lv_aload_n hx hb dX12_init_20 rfl (lv_at hl 0 rfl) ?_
  refine lv_bipush (v := 12) hx hb dX12_init_21 bp_12 ?_
  have hle8 := hS.1
  have lt8_h0 := (hR_h0 0 _ rfl).lt
  refine th_newI (atype := .int) (cI := cA 0) (N' := 12) hx hb (hts (.arrayClass .int) (List.mem_cons_of_mem _ (List.mem_append_left _ (List.mem_append_left _ (List.mem_of_getElem? (i := 3) rfl))))) hK 0 rfl (fun h => h) hH hS hA 42 (by decide) (by decide) (by decide) (Nat.le_of_ble_eq_true rfl) (Nat.le_of_ble_eq_true rfl) rfl (fun _ => rfl) (fun _ _ => (fun _ _ => (show rg 0 300 (0 : Int32) from ⟨by decide, by decide⟩))) dX12_init_23 (fun q8 H s8 y8 n8 o8 hH hS => ?_)
  have le8 : s.heap.size ≤ q8 := th_leE s8 hle8
  have hR_h0 := th_P1 hR_h0 (o8 _ (th_ltE s8 lt8_h0))
  obtain ⟨τ8, et8⟩ : ∃ t, t = va_up τ4 q8 42 := ⟨_, rfl⟩
  have zz8 := hE.z n8
  obtain ⟨gi8, eg8⟩ : ∃ g, g = va_up gi4 q8 (fun _ => 0) := ⟨_, rfl⟩
  have hE := hE.add (k0 := 42) (f := (fun _ => 0)) (r := gr q8) n8 (Or.inr le8)
  rw [th_upid gr q8, ← et8, ← eg8] at hE
  rw [← et8, ← eg8] at hH
  have og8 : ∀ b, b ≠ q8 → gi8 b = gi4 b := th_upO eg8
  have t9 : τ8 q1 = 40 := (th_tkE et8 t5 rfl n8)
  have t10 : τ8 q4 = 41 := (th_tkE et8 tn4 rfl n8)
  have z11 : τ8 h0 = 0 := (th_tzE et8 z6 (Nat.ne_of_lt (th_ltE s8 lt8_h0)))
  have tn8 : τ8 q8 = 42 := th_upS et8
  refine W.widen (k := 3) (n := 36) (Nat.le_of_ble_eq_true rfl) (Nat.le_of_ble_eq_true rfl) ?_
  refine th_rputF (ci := 11) (v := .ref q8) (T := TX12) (C := RX12) (N := 38) (ty := (.array .int)) hx hb hts (fun w h => List.mem_cons_of_mem _ (List.mem_append_right _ h)) tyX12 tyX12_ok nmX12 hown hK hH hS z11 (Or.inl rfl) hR_h0 rfl 3 (by decide) (hts (.fieldLink RX12 16 "BayMooringsModel" "depth" "[I") (List.mem_cons_of_mem _ (List.mem_append_left _ (List.mem_append_left _ (List.mem_of_getElem? (i := 6) rfl))))) (fun _ h9 => h9) rfl hin rfl (by decide +kernel) rfl rfl (Nat.le_of_ble_eq_true rfl) dX12_init_25 (fun H locs hR_h0 hH hS y12 o12 => ?_)
  have hR_h0 : va_P D vwCl [(h0, .inr (11, [.int 0, .ref q1, .ref q4, .ref q8, .null, .null, .null, .null, .int 0, .null, .null, .null, .null, .null, .int 0, .null, .null, .int 0, .null, .null, .int 0, .null, .null, .int 0, .int 0, .null, .null, .int 0, .null, .null, .null, .null, .null, .int 0, .null, .null, .null, .null]))] H := hR_h0
  refine lv_aload_n hx hb dX12_init_28 rfl (lv_at hl 0 rfl) ?_
  refine lv_bipush (v := 12) hx hb dX12_init_29 bp_12 ?_
  have hle13 := hS.1
  have lt13_h0 := (hR_h0 0 _ rfl).lt
  refine th_newI (atype := .int) (cI := cA 0) (N' := 12) hx hb (hts (.arrayClass .int) (List.mem_cons_of_mem _ (List.mem_append_left _ (List.mem_append_left _ (List.mem_of_getElem? (i := 3) rfl))))) hK 0 rfl (fun h => h) hH hS hA 43 (by decide) (by decide) (by decide) (Nat.le_of_ble_eq_true rfl) (Nat.le_of_ble_eq_true rfl) rfl (fun _ => rfl) (fun _ _ => (fun _ _ => (show rg 0 400 (0 : Int32) from ⟨by decide, by decide⟩))) dX12_init_31 (fun q13 H s13 y13 n13 o13 hH hS => ?_)
  have le13 : s.heap.size ≤ q13 := th_leE s13 hle13
  have hR_h0 := th_P1 hR_h0 (o13 _ (th_ltE s13 lt13_h0))
  obtain ⟨τ13, et13⟩ : ∃ t, t = va_up τ8 q13 43 := ⟨_, rfl⟩
  have zz13 := hE.z n13
  obtain ⟨gi13, eg13⟩ : ∃ g, g = va_up gi8 q13 (fun _ => 0) := ⟨_, rfl⟩
  have hE := hE.add (k0 := 43) (f := (fun _ => 0)) (r := gr q13) n13 (Or.inr le13)
  rw [th_upid gr q13, ← et13, ← eg13] at hE
  rw [← et13, ← eg13] at hH
  have og13 : ∀ b, b ≠ q13 → gi13 b = gi8 b := th_upO eg13
  have t14 : τ13 q1 = 40 := (th_tkE et13 t9 rfl n13)
  have t15 : τ13 q4 = 41 := (th_tkE et13 t10 rfl n13)
  have t16 : τ13 q8 = 42 := (th_tkE et13 tn8 rfl n13)
  have z17 : τ13 h0 = 0 := (th_tzE et13 z11 (Nat.ne_of_lt (th_ltE s13 lt13_h0)))
  have tn13 : τ13 q13 = 43 := th_upS et13
  refine W.widen (k := 4) (n := 48) (Nat.le_of_ble_eq_true rfl) (Nat.le_of_ble_eq_true rfl) ?_
  refine th_rputF (ci := 11) (v := .ref q13) (T := TX12) (C := RX12) (N := 38) (ty := (.array .int)) hx hb hts (fun w h => List.mem_cons_of_mem _ (List.mem_append_right _ h)) tyX12 tyX12_ok nmX12 hown hK hH hS z17 (Or.inl rfl) hR_h0 rfl 4 (by decide) (hts (.fieldLink RX12 19 "BayMooringsModel" "chain" "[I") (List.mem_cons_of_mem _ (List.mem_append_left _ (List.mem_append_left _ (List.mem_of_getElem? (i := 7) rfl))))) (fun _ h9 => h9) rfl hin rfl (by decide +kernel) rfl rfl (Nat.le_of_ble_eq_true rfl) dX12_init_33 (fun H locs hR_h0 hH hS y18 o18 => ?_)
  have hR_h0 : va_P D vwCl [(h0, .inr (11, [.int 0, .ref q1, .ref q4, .ref q8, .ref q13, .null, .null, .null, .int 0, .null, .null, .null, .null, .null, .int 0, .null, .null, .int 0, .null, .null, .int 0, .null, .null, .int 0, .int 0, .null, .null, .int 0, .null, .null, .null, .null, .null, .int 0, .null, .null, .null, .null]))] H := hR_h0
  refine lv_aload_n hx hb dX12_init_36 rfl (lv_at hl 0 rfl) ?_
  refine lv_bipush (v := 12) hx hb dX12_init_37 bp_12 ?_
  have hle19 := hS.1
  have lt19_h0 := (hR_h0 0 _ rfl).lt
  refine th_newI (atype := .int) (cI := cA 0) (N' := 12) hx hb (hts (.arrayClass .int) (List.mem_cons_of_mem _ (List.mem_append_left _ (List.mem_append_left _ (List.mem_of_getElem? (i := 3) rfl))))) hK 0 rfl (fun h => h) hH hS hA 44 (by decide) (by decide) (by decide) (Nat.le_of_ble_eq_true rfl) (Nat.le_of_ble_eq_true rfl) rfl (fun _ => rfl) (fun _ _ => trivial) dX12_init_39 (fun q19 H s19 y19 n19 o19 hH hS => ?_)
  have le19 : s.heap.size ≤ q19 := th_leE s19 hle19
  have hR_h0 := th_P1 hR_h0 (o19 _ (th_ltE s19 lt19_h0))
  obtain ⟨τ19, et19⟩ : ∃ t, t = va_up τ13 q19 44 := ⟨_, rfl⟩
  have zz19 := hE.z n19
  obtain ⟨gi19, eg19⟩ : ∃ g, g = va_up gi13 q19 (fun _ => 0) := ⟨_, rfl⟩
  have hE := hE.add (k0 := 44) (f := (fun _ => 0)) (r := gr q19) n19 (Or.inr le19)
  rw [th_upid gr q19, ← et19, ← eg19] at hE
  rw [← et19, ← eg19] at hH
  have og19 : ∀ b, b ≠ q19 → gi19 b = gi13 b := th_upO eg19
  have t20 : τ19 q1 = 40 := (th_tkE et19 t14 rfl n19)
  have t21 : τ19 q4 = 41 := (th_tkE et19 t15 rfl n19)
  have t22 : τ19 q8 = 42 := (th_tkE et19 t16 rfl n19)
  have t23 : τ19 q13 = 43 := (th_tkE et19 tn13 rfl n19)
  have z24 : τ19 h0 = 0 := (th_tzE et19 z17 (Nat.ne_of_lt (th_ltE s19 lt19_h0)))
  have tn19 : τ19 q19 = 44 := th_upS et19
  have zr25 : gi19 q19 = (fun _ => 0) := th_upS eg19
  refine W.widen (k := 5) (n := 60) (Nat.le_of_ble_eq_true rfl) (Nat.le_of_ble_eq_true rfl) ?_
  refine th_rputF (ci := 11) (v := .ref q19) (T := TX12) (C := RX12) (N := 38) (ty := (.array .int)) hx hb hts (fun w h => List.mem_cons_of_mem _ (List.mem_append_right _ h)) tyX12 tyX12_ok nmX12 hown hK hH hS z24 (Or.inl rfl) hR_h0 rfl 5 (by decide) (hts (.fieldLink RX12 22 "BayMooringsModel" "low" "[I") (List.mem_cons_of_mem _ (List.mem_append_left _ (List.mem_append_left _ (List.mem_of_getElem? (i := 8) rfl))))) (fun _ h9 => h9) rfl hin rfl (by decide +kernel) rfl rfl (Nat.le_of_ble_eq_true rfl) dX12_init_41 (fun H locs hR_h0 hH hS y26 o26 => ?_)
  have hR_h0 : va_P D vwCl [(h0, .inr (11, [.int 0, .ref q1, .ref q4, .ref q8, .ref q13, .ref q19, .null, .null, .int 0, .null, .null, .null, .null, .null, .int 0, .null, .null, .int 0, .null, .null, .int 0, .null, .null, .int 0, .int 0, .null, .null, .int 0, .null, .null, .null, .null, .null, .int 0, .null, .null, .null, .null]))] H := hR_h0
  refine lv_aload_n hx hb dX12_init_44 rfl (lv_at hl 0 rfl) ?_
  refine lv_bipush (v := 12) hx hb dX12_init_45 bp_12 ?_
  have hle27 := hS.1
  have lt27_h0 := (hR_h0 0 _ rfl).lt
  refine th_newI (atype := .int) (cI := cA 0) (N' := 12) hx hb (hts (.arrayClass .int) (List.mem_cons_of_mem _ (List.mem_append_left _ (List.mem_append_left _ (List.mem_of_getElem? (i := 3) rfl))))) hK 0 rfl (fun h => h) hH hS hA 45 (by decide) (by decide) (by decide) (Nat.le_of_ble_eq_true rfl) (Nat.le_of_ble_eq_true rfl) rfl (fun _ => rfl) (fun _ _ => trivial) dX12_init_47 (fun q27 H s27 y27 n27 o27 hH hS => ?_)
  have le27 : s.heap.size ≤ q27 := th_leE s27 hle27
  have hR_h0 := th_P1 hR_h0 (o27 _ (th_ltE s27 lt27_h0))
  obtain ⟨τ27, et27⟩ : ∃ t, t = va_up τ19 q27 45 := ⟨_, rfl⟩
  have zz27 := hE.z n27
  obtain ⟨gi27, eg27⟩ : ∃ g, g = va_up gi19 q27 (fun _ => 0) := ⟨_, rfl⟩
  have hE := hE.add (k0 := 45) (f := (fun _ => 0)) (r := gr q27) n27 (Or.inr le27)
  rw [th_upid gr q27, ← et27, ← eg27] at hE
  rw [← et27, ← eg27] at hH
  have og27 : ∀ b, b ≠ q27 → gi27 b = gi19 b := th_upO eg27
  have t28 : τ27 q1 = 40 := (th_tkE et27 t20 rfl n27)
  have t29 : τ27 q4 = 41 := (th_tkE et27 t21 rfl n27)
  have t30 : τ27 q8 = 42 := (th_tkE et27 t22 rfl n27)
  have t31 : τ27 q13 = 43 := (th_tkE et27 t23 rfl n27)
  have t32 : τ27 q19 = 44 := (th_tkE et27 tn19 rfl n27)
  have z33 : τ27 h0 = 0 := (th_tzE et27 z24 (Nat.ne_of_lt (th_ltE s27 lt27_h0)))
  have tn27 : τ27 q27 = 45 := th_upS et27
  have zr34 : gi27 q19 = (fun _ => 0) := (og27 q19 (th_neE t32 tn27 rfl)).trans zr25
  have zr35 : gi27 q27 = (fun _ => 0) := th_upS eg27
  refine W.widen (k := 6) (n := 72) (Nat.le_of_ble_eq_true rfl) (Nat.le_of_ble_eq_true rfl) ?_
  refine th_rputF (ci := 11) (v := .ref q27) (T := TX12) (C := RX12) (N := 38) (ty := (.array .int)) hx hb hts (fun w h => List.mem_cons_of_mem _ (List.mem_append_right _ h)) tyX12 tyX12_ok nmX12 hown hK hH hS z33 (Or.inl rfl) hR_h0 rfl 6 (by decide) (hts (.fieldLink RX12 25 "BayMooringsModel" "high" "[I") (List.mem_cons_of_mem _ (List.mem_append_left _ (List.mem_append_left _ (List.mem_of_getElem? (i := 9) rfl))))) (fun _ h9 => h9) rfl hin rfl (by decide +kernel) rfl rfl (Nat.le_of_ble_eq_true rfl) dX12_init_49 (fun H locs hR_h0 hH hS y36 o36 => ?_)
  have hR_h0 : va_P D vwCl [(h0, .inr (11, [.int 0, .ref q1, .ref q4, .ref q8, .ref q13, .ref q19, .ref q27, .null, .int 0, .null, .null, .null, .null, .null, .int 0, .null, .null, .int 0, .null, .null, .int 0, .null, .null, .int 0, .int 0, .null, .null, .int 0, .null, .null, .null, .null, .null, .int 0, .null, .null, .null, .null]))] H := hR_h0
  refine lv_aload_n hx hb dX12_init_52 rfl (lv_at hl 0 rfl) ?_
  refine lv_bipush (v := 12) hx hb dX12_init_53 bp_12 ?_
  have hle37 := hS.1
  have lt37_h0 := (hR_h0 0 _ rfl).lt
  refine th_newI (atype := .int) (cI := cA 0) (N' := 12) hx hb (hts (.arrayClass .int) (List.mem_cons_of_mem _ (List.mem_append_left _ (List.mem_append_left _ (List.mem_of_getElem? (i := 3) rfl))))) hK 0 rfl (fun h => h) hH hS hA 46 (by decide) (by decide) (by decide) (Nat.le_of_ble_eq_true rfl) (Nat.le_of_ble_eq_true rfl) rfl (fun _ => rfl) (fun _ _ => (fun _ _ => (show rg (-1) 15 (0 : Int32) from ⟨by decide, by decide⟩))) dX12_init_55 (fun q37 H s37 y37 n37 o37 hH hS => ?_)
  have le37 : s.heap.size ≤ q37 := th_leE s37 hle37
  have hR_h0 := th_P1 hR_h0 (o37 _ (th_ltE s37 lt37_h0))
  obtain ⟨τ37, et37⟩ : ∃ t, t = va_up τ27 q37 46 := ⟨_, rfl⟩
  have zz37 := hE.z n37
  obtain ⟨gi37, eg37⟩ : ∃ g, g = va_up gi27 q37 (fun _ => 0) := ⟨_, rfl⟩
  have hE := hE.add (k0 := 46) (f := (fun _ => 0)) (r := gr q37) n37 (Or.inr le37)
  rw [th_upid gr q37, ← et37, ← eg37] at hE
  rw [← et37, ← eg37] at hH
  have og37 : ∀ b, b ≠ q37 → gi37 b = gi27 b := th_upO eg37
  have t38 : τ37 q1 = 40 := (th_tkE et37 t28 rfl n37)
  have t39 : τ37 q4 = 41 := (th_tkE et37 t29 rfl n37)
  have t40 : τ37 q8 = 42 := (th_tkE et37 t30 rfl n37)
  have t41 : τ37 q13 = 43 := (th_tkE et37 t31 rfl n37)
  have t42 : τ37 q19 = 44 := (th_tkE et37 t32 rfl n37)
  have t43 : τ37 q27 = 45 := (th_tkE et37 tn27 rfl n37)
  have z44 : τ37 h0 = 0 := (th_tzE et37 z33 (Nat.ne_of_lt (th_ltE s37 lt37_h0)))
  have tn37 : τ37 q37 = 46 := th_upS et37
  have zr45 : gi37 q19 = (fun _ => 0) := (og37 q19 (th_neE t42 tn37 rfl)).trans zr34
  have zr46 : gi37 q27 = (fun _ => 0) := (og37 q27 (th_neE t43 tn37 rfl)).trans zr35
  refine W.widen (k := 7) (n := 84) (Nat.le_of_ble_eq_true rfl) (Nat.le_of_ble_eq_true rfl) ?_
  refine th_rputF (ci := 11) (v := .ref q37) (T := TX12) (C := RX12) (N := 38) (ty := (.array .int)) hx hb hts (fun w h => List.mem_cons_of_mem _ (List.mem_append_right _ h)) tyX12 tyX12_ok nmX12 hown hK hH hS z44 (Or.inl rfl) hR_h0 rfl 7 (by decide) (hts (.fieldLink RX12 28 "BayMooringsModel" "boatAt" "[I") (List.mem_cons_of_mem _ (List.mem_append_left _ (List.mem_append_left _ (List.mem_of_getElem? (i := 10) rfl))))) (fun _ h9 => h9) rfl hin rfl (by decide +kernel) rfl rfl (Nat.le_of_ble_eq_true rfl) dX12_init_57 (fun H locs hR_h0 hH hS y47 o47 => ?_)
  have hR_h0 : va_P D vwCl [(h0, .inr (11, [.int 0, .ref q1, .ref q4, .ref q8, .ref q13, .ref q19, .ref q27, .ref q37, .int 0, .null, .null, .null, .null, .null, .int 0, .null, .null, .int 0, .null, .null, .int 0, .null, .null, .int 0, .int 0, .null, .null, .int 0, .null, .null, .null, .null, .null, .int 0, .null, .null, .null, .null]))] H := hR_h0
  refine lv_aload_n hx hb dX12_init_60 rfl (lv_at hl 0 rfl) ?_
  refine lv_bipush (v := 16) hx hb dX12_init_61 bp_16 ?_
  have hle48 := hS.1
  have lt48_h0 := (hR_h0 0 _ rfl).lt
  refine th_newI (atype := .int) (cI := cA 0) (N' := 16) hx hb (hts (.arrayClass .int) (List.mem_cons_of_mem _ (List.mem_append_left _ (List.mem_append_left _ (List.mem_of_getElem? (i := 3) rfl))))) hK 0 rfl (fun h => h) hH hS hA 47 (by decide) (by decide) (by decide) (Nat.le_of_ble_eq_true rfl) (Nat.le_of_ble_eq_true rfl) rfl (fun _ => rfl) (fun _ _ => trivial) dX12_init_63 (fun q48 H s48 y48 n48 o48 hH hS => ?_)
  have le48 : s.heap.size ≤ q48 := th_leE s48 hle48
  have hR_h0 := th_P1 hR_h0 (o48 _ (th_ltE s48 lt48_h0))
  obtain ⟨τ48, et48⟩ : ∃ t, t = va_up τ37 q48 47 := ⟨_, rfl⟩
  have zz48 := hE.z n48
  obtain ⟨gi48, eg48⟩ : ∃ g, g = va_up gi37 q48 (fun _ => 0) := ⟨_, rfl⟩
  have hE := hE.add (k0 := 47) (f := (fun _ => 0)) (r := gr q48) n48 (Or.inr le48)
  rw [th_upid gr q48, ← et48, ← eg48] at hE
  rw [← et48, ← eg48] at hH
  have og48 : ∀ b, b ≠ q48 → gi48 b = gi37 b := th_upO eg48
  have t49 : τ48 q1 = 40 := (th_tkE et48 t38 rfl n48)
  have t50 : τ48 q4 = 41 := (th_tkE et48 t39 rfl n48)
  have t51 : τ48 q8 = 42 := (th_tkE et48 t40 rfl n48)
  have t52 : τ48 q13 = 43 := (th_tkE et48 t41 rfl n48)
  have t53 : τ48 q19 = 44 := (th_tkE et48 t42 rfl n48)
  have t54 : τ48 q27 = 45 := (th_tkE et48 t43 rfl n48)
  have t55 : τ48 q37 = 46 := (th_tkE et48 tn37 rfl n48)
  have z56 : τ48 h0 = 0 := (th_tzE et48 z44 (Nat.ne_of_lt (th_ltE s48 lt48_h0)))
  have tn48 : τ48 q48 = 47 := th_upS et48
  have zr57 : gi48 q19 = (fun _ => 0) := (og48 q19 (th_neE t53 tn48 rfl)).trans zr45
  have zr58 : gi48 q27 = (fun _ => 0) := (og48 q27 (th_neE t54 tn48 rfl)).trans zr46
  refine W.widen (k := 8) (n := 100) (Nat.le_of_ble_eq_true rfl) (Nat.le_of_ble_eq_true rfl) ?_
  refine th_rputF (ci := 11) (v := .ref q48) (T := TX12) (C := RX12) (N := 38) (ty := (.array .int)) hx hb hts (fun w h => List.mem_cons_of_mem _ (List.mem_append_right _ h)) tyX12 tyX12_ok nmX12 hown hK hH hS z56 (Or.inl rfl) hR_h0 rfl 9 (by decide) (hts (.fieldLink RX12 31 "BayMooringsModel" "kindOf" "[I") (List.mem_cons_of_mem _ (List.mem_append_left _ (List.mem_append_left _ (List.mem_of_getElem? (i := 11) rfl))))) (fun _ h9 => h9) rfl hin rfl (by decide +kernel) rfl rfl (Nat.le_of_ble_eq_true rfl) dX12_init_65 (fun H locs hR_h0 hH hS y59 o59 => ?_)
  have hR_h0 : va_P D vwCl [(h0, .inr (11, [.int 0, .ref q1, .ref q4, .ref q8, .ref q13, .ref q19, .ref q27, .ref q37, .int 0, .ref q48, .null, .null, .null, .null, .int 0, .null, .null, .int 0, .null, .null, .int 0, .null, .null, .int 0, .int 0, .null, .null, .int 0, .null, .null, .null, .null, .null, .int 0, .null, .null, .null, .null]))] H := hR_h0
  refine lv_aload_n hx hb dX12_init_68 rfl (lv_at hl 0 rfl) ?_
  refine lv_bipush (v := 16) hx hb dX12_init_69 bp_16 ?_
  have hle60 := hS.1
  have lt60_h0 := (hR_h0 0 _ rfl).lt
  refine th_newI (atype := .int) (cI := cA 0) (N' := 16) hx hb (hts (.arrayClass .int) (List.mem_cons_of_mem _ (List.mem_append_left _ (List.mem_append_left _ (List.mem_of_getElem? (i := 3) rfl))))) hK 0 rfl (fun h => h) hH hS hA 48 (by decide) (by decide) (by decide) (Nat.le_of_ble_eq_true rfl) (Nat.le_of_ble_eq_true rfl) rfl (fun _ => rfl) (fun _ _ => trivial) dX12_init_71 (fun q60 H s60 y60 n60 o60 hH hS => ?_)
  have le60 : s.heap.size ≤ q60 := th_leE s60 hle60
  have hR_h0 := th_P1 hR_h0 (o60 _ (th_ltE s60 lt60_h0))
  obtain ⟨τ60, et60⟩ : ∃ t, t = va_up τ48 q60 48 := ⟨_, rfl⟩
  have zz60 := hE.z n60
  obtain ⟨gi60, eg60⟩ : ∃ g, g = va_up gi48 q60 (fun _ => 0) := ⟨_, rfl⟩
  have hE := hE.add (k0 := 48) (f := (fun _ => 0)) (r := gr q60) n60 (Or.inr le60)
  rw [th_upid gr q60, ← et60, ← eg60] at hE
  rw [← et60, ← eg60] at hH
  have og60 : ∀ b, b ≠ q60 → gi60 b = gi48 b := th_upO eg60
  have t61 : τ60 q1 = 40 := (th_tkE et60 t49 rfl n60)
  have t62 : τ60 q4 = 41 := (th_tkE et60 t50 rfl n60)
  have t63 : τ60 q8 = 42 := (th_tkE et60 t51 rfl n60)
  have t64 : τ60 q13 = 43 := (th_tkE et60 t52 rfl n60)
  have t65 : τ60 q19 = 44 := (th_tkE et60 t53 rfl n60)
  have t66 : τ60 q27 = 45 := (th_tkE et60 t54 rfl n60)
  have t67 : τ60 q37 = 46 := (th_tkE et60 t55 rfl n60)
  have t68 : τ60 q48 = 47 := (th_tkE et60 tn48 rfl n60)
  have z69 : τ60 h0 = 0 := (th_tzE et60 z56 (Nat.ne_of_lt (th_ltE s60 lt60_h0)))
  have tn60 : τ60 q60 = 48 := th_upS et60
  have zr70 : gi60 q19 = (fun _ => 0) := (og60 q19 (th_neE t65 tn60 rfl)).trans zr57
  have zr71 : gi60 q27 = (fun _ => 0) := (og60 q27 (th_neE t66 tn60 rfl)).trans zr58
  refine W.widen (k := 9) (n := 116) (Nat.le_of_ble_eq_true rfl) (Nat.le_of_ble_eq_true rfl) ?_
  refine th_rputF (ci := 11) (v := .ref q60) (T := TX12) (C := RX12) (N := 38) (ty := (.array .int)) hx hb hts (fun w h => List.mem_cons_of_mem _ (List.mem_append_right _ h)) tyX12 tyX12_ok nmX12 hown hK hH hS z69 (Or.inl rfl) hR_h0 rfl 10 (by decide) (hts (.fieldLink RX12 34 "BayMooringsModel" "lengthOf" "[I") (List.mem_cons_of_mem _ (List.mem_append_left _ (List.mem_append_left _ (List.mem_of_getElem? (i := 12) rfl))))) (fun _ h9 => h9) rfl hin rfl (by decide +kernel) rfl rfl (Nat.le_of_ble_eq_true rfl) dX12_init_73 (fun H locs hR_h0 hH hS y72 o72 => ?_)
  have hR_h0 : va_P D vwCl [(h0, .inr (11, [.int 0, .ref q1, .ref q4, .ref q8, .ref q13, .ref q19, .ref q27, .ref q37, .int 0, .ref q48, .ref q60, .null, .null, .null, .int 0, .null, .null, .int 0, .null, .null, .int 0, .null, .null, .int 0, .int 0, .null, .null, .int 0, .null, .null, .null, .null, .null, .int 0, .null, .null, .null, .null]))] H := hR_h0
  refine lv_aload_n hx hb dX12_init_76 rfl (lv_at hl 0 rfl) ?_
  refine lv_bipush (v := 16) hx hb dX12_init_77 bp_16 ?_
  have hle73 := hS.1
  have lt73_h0 := (hR_h0 0 _ rfl).lt
  refine th_newI (atype := .int) (cI := cA 0) (N' := 16) hx hb (hts (.arrayClass .int) (List.mem_cons_of_mem _ (List.mem_append_left _ (List.mem_append_left _ (List.mem_of_getElem? (i := 3) rfl))))) hK 0 rfl (fun h => h) hH hS hA 49 (by decide) (by decide) (by decide) (Nat.le_of_ble_eq_true rfl) (Nat.le_of_ble_eq_true rfl) rfl (fun _ => rfl) (fun _ _ => trivial) dX12_init_79 (fun q73 H s73 y73 n73 o73 hH hS => ?_)
  have le73 : s.heap.size ≤ q73 := th_leE s73 hle73
  have hR_h0 := th_P1 hR_h0 (o73 _ (th_ltE s73 lt73_h0))
  obtain ⟨τ73, et73⟩ : ∃ t, t = va_up τ60 q73 49 := ⟨_, rfl⟩
  have zz73 := hE.z n73
  obtain ⟨gi73, eg73⟩ : ∃ g, g = va_up gi60 q73 (fun _ => 0) := ⟨_, rfl⟩
  have hE := hE.add (k0 := 49) (f := (fun _ => 0)) (r := gr q73) n73 (Or.inr le73)
  rw [th_upid gr q73, ← et73, ← eg73] at hE
  rw [← et73, ← eg73] at hH
  have og73 : ∀ b, b ≠ q73 → gi73 b = gi60 b := th_upO eg73
  have t74 : τ73 q1 = 40 := (th_tkE et73 t61 rfl n73)
  have t75 : τ73 q4 = 41 := (th_tkE et73 t62 rfl n73)
  have t76 : τ73 q8 = 42 := (th_tkE et73 t63 rfl n73)
  have t77 : τ73 q13 = 43 := (th_tkE et73 t64 rfl n73)
  have t78 : τ73 q19 = 44 := (th_tkE et73 t65 rfl n73)
  have t79 : τ73 q27 = 45 := (th_tkE et73 t66 rfl n73)
  have t80 : τ73 q37 = 46 := (th_tkE et73 t67 rfl n73)
  have t81 : τ73 q48 = 47 := (th_tkE et73 t68 rfl n73)
  have t82 : τ73 q60 = 48 := (th_tkE et73 tn60 rfl n73)
  have z83 : τ73 h0 = 0 := (th_tzE et73 z69 (Nat.ne_of_lt (th_ltE s73 lt73_h0)))
  have tn73 : τ73 q73 = 49 := th_upS et73
  have zr84 : gi73 q19 = (fun _ => 0) := (og73 q19 (th_neE t78 tn73 rfl)).trans zr70
  have zr85 : gi73 q27 = (fun _ => 0) := (og73 q27 (th_neE t79 tn73 rfl)).trans zr71
  refine W.widen (k := 10) (n := 132) (Nat.le_of_ble_eq_true rfl) (Nat.le_of_ble_eq_true rfl) ?_
  refine th_rputF (ci := 11) (v := .ref q73) (T := TX12) (C := RX12) (N := 38) (ty := (.array .int)) hx hb hts (fun w h => List.mem_cons_of_mem _ (List.mem_append_right _ h)) tyX12 tyX12_ok nmX12 hown hK hH hS z83 (Or.inl rfl) hR_h0 rfl 11 (by decide) (hts (.fieldLink RX12 37 "BayMooringsModel" "draughtOf" "[I") (List.mem_cons_of_mem _ (List.mem_append_left _ (List.mem_append_left _ (List.mem_of_getElem? (i := 13) rfl))))) (fun _ h9 => h9) rfl hin rfl (by decide +kernel) rfl rfl (Nat.le_of_ble_eq_true rfl) dX12_init_81 (fun H locs hR_h0 hH hS y86 o86 => ?_)
  have hR_h0 : va_P D vwCl [(h0, .inr (11, [.int 0, .ref q1, .ref q4, .ref q8, .ref q13, .ref q19, .ref q27, .ref q37, .int 0, .ref q48, .ref q60, .ref q73, .null, .null, .int 0, .null, .null, .int 0, .null, .null, .int 0, .null, .null, .int 0, .int 0, .null, .null, .int 0, .null, .null, .null, .null, .null, .int 0, .null, .null, .null, .null]))] H := hR_h0
  refine lv_aload_n hx hb dX12_init_84 rfl (lv_at hl 0 rfl) ?_
  refine lv_bipush (v := 16) hx hb dX12_init_85 bp_16 ?_
  have hle87 := hS.1
  have lt87_h0 := (hR_h0 0 _ rfl).lt
  refine th_newI (atype := .int) (cI := cA 0) (N' := 16) hx hb (hts (.arrayClass .int) (List.mem_cons_of_mem _ (List.mem_append_left _ (List.mem_append_left _ (List.mem_of_getElem? (i := 3) rfl))))) hK 0 rfl (fun h => h) hH hS hA 50 (by decide) (by decide) (by decide) (Nat.le_of_ble_eq_true rfl) (Nat.le_of_ble_eq_true rfl) rfl (fun _ => rfl) (fun _ _ => (fun _ _ => (show rg (-1) 11 (0 : Int32) from ⟨by decide, by decide⟩))) dX12_init_87 (fun q87 H s87 y87 n87 o87 hH hS => ?_)
  have le87 : s.heap.size ≤ q87 := th_leE s87 hle87
  have hR_h0 := th_P1 hR_h0 (o87 _ (th_ltE s87 lt87_h0))
  obtain ⟨τ87, et87⟩ : ∃ t, t = va_up τ73 q87 50 := ⟨_, rfl⟩
  have zz87 := hE.z n87
  obtain ⟨gi87, eg87⟩ : ∃ g, g = va_up gi73 q87 (fun _ => 0) := ⟨_, rfl⟩
  have hE := hE.add (k0 := 50) (f := (fun _ => 0)) (r := gr q87) n87 (Or.inr le87)
  rw [th_upid gr q87, ← et87, ← eg87] at hE
  rw [← et87, ← eg87] at hH
  have og87 : ∀ b, b ≠ q87 → gi87 b = gi73 b := th_upO eg87
  have t88 : τ87 q1 = 40 := (th_tkE et87 t74 rfl n87)
  have t89 : τ87 q4 = 41 := (th_tkE et87 t75 rfl n87)
  have t90 : τ87 q8 = 42 := (th_tkE et87 t76 rfl n87)
  have t91 : τ87 q13 = 43 := (th_tkE et87 t77 rfl n87)
  have t92 : τ87 q19 = 44 := (th_tkE et87 t78 rfl n87)
  have t93 : τ87 q27 = 45 := (th_tkE et87 t79 rfl n87)
  have t94 : τ87 q37 = 46 := (th_tkE et87 t80 rfl n87)
  have t95 : τ87 q48 = 47 := (th_tkE et87 t81 rfl n87)
  have t96 : τ87 q60 = 48 := (th_tkE et87 t82 rfl n87)
  have t97 : τ87 q73 = 49 := (th_tkE et87 tn73 rfl n87)
  have z98 : τ87 h0 = 0 := (th_tzE et87 z83 (Nat.ne_of_lt (th_ltE s87 lt87_h0)))
  have tn87 : τ87 q87 = 50 := th_upS et87
  have zr99 : gi87 q19 = (fun _ => 0) := (og87 q19 (th_neE t92 tn87 rfl)).trans zr84
  have zr100 : gi87 q27 = (fun _ => 0) := (og87 q27 (th_neE t93 tn87 rfl)).trans zr85
  refine W.widen (k := 11) (n := 148) (Nat.le_of_ble_eq_true rfl) (Nat.le_of_ble_eq_true rfl) ?_
  refine th_rputF (ci := 11) (v := .ref q87) (T := TX12) (C := RX12) (N := 38) (ty := (.array .int)) hx hb hts (fun w h => List.mem_cons_of_mem _ (List.mem_append_right _ h)) tyX12 tyX12_ok nmX12 hown hK hH hS z98 (Or.inl rfl) hR_h0 rfl 12 (by decide) (hts (.fieldLink RX12 40 "BayMooringsModel" "buoyOf" "[I") (List.mem_cons_of_mem _ (List.mem_append_left _ (List.mem_append_left _ (List.mem_of_getElem? (i := 14) rfl))))) (fun _ h9 => h9) rfl hin rfl (by decide +kernel) rfl rfl (Nat.le_of_ble_eq_true rfl) dX12_init_89 (fun H locs hR_h0 hH hS y101 o101 => ?_)
  have hR_h0 : va_P D vwCl [(h0, .inr (11, [.int 0, .ref q1, .ref q4, .ref q8, .ref q13, .ref q19, .ref q27, .ref q37, .int 0, .ref q48, .ref q60, .ref q73, .ref q87, .null, .int 0, .null, .null, .int 0, .null, .null, .int 0, .null, .null, .int 0, .int 0, .null, .null, .int 0, .null, .null, .null, .null, .null, .int 0, .null, .null, .null, .null]))] H := hR_h0
  refine lv_aload_n hx hb dX12_init_92 rfl (lv_at hl 0 rfl) ?_
  refine lv_bipush (v := 24) hx hb dX12_init_93 bp_24 ?_
  have hle102 := hS.1
  have lt102_h0 := (hR_h0 0 _ rfl).lt
  refine th_newI (atype := .int) (cI := cA 0) (N' := 24) hx hb (hts (.arrayClass .int) (List.mem_cons_of_mem _ (List.mem_append_left _ (List.mem_append_left _ (List.mem_of_getElem? (i := 3) rfl))))) hK 0 rfl (fun h => h) hH hS hA 51 (by decide) (by decide) (by decide) (Nat.le_of_ble_eq_true rfl) (Nat.le_of_ble_eq_true rfl) rfl (fun _ => rfl) (fun _ _ => (fun _ _ => (show rg 0 200 (0 : Int32) from ⟨by decide, by decide⟩))) dX12_init_95 (fun q102 H s102 y102 n102 o102 hH hS => ?_)
  have le102 : s.heap.size ≤ q102 := th_leE s102 hle102
  have hR_h0 := th_P1 hR_h0 (o102 _ (th_ltE s102 lt102_h0))
  obtain ⟨τ102, et102⟩ : ∃ t, t = va_up τ87 q102 51 := ⟨_, rfl⟩
  have zz102 := hE.z n102
  obtain ⟨gi102, eg102⟩ : ∃ g, g = va_up gi87 q102 (fun _ => 0) := ⟨_, rfl⟩
  have hE := hE.add (k0 := 51) (f := (fun _ => 0)) (r := gr q102) n102 (Or.inr le102)
  rw [th_upid gr q102, ← et102, ← eg102] at hE
  rw [← et102, ← eg102] at hH
  have og102 : ∀ b, b ≠ q102 → gi102 b = gi87 b := th_upO eg102
  have t103 : τ102 q1 = 40 := (th_tkE et102 t88 rfl n102)
  have t104 : τ102 q4 = 41 := (th_tkE et102 t89 rfl n102)
  have t105 : τ102 q8 = 42 := (th_tkE et102 t90 rfl n102)
  have t106 : τ102 q13 = 43 := (th_tkE et102 t91 rfl n102)
  have t107 : τ102 q19 = 44 := (th_tkE et102 t92 rfl n102)
  have t108 : τ102 q27 = 45 := (th_tkE et102 t93 rfl n102)
  have t109 : τ102 q37 = 46 := (th_tkE et102 t94 rfl n102)
  have t110 : τ102 q48 = 47 := (th_tkE et102 t95 rfl n102)
  have t111 : τ102 q60 = 48 := (th_tkE et102 t96 rfl n102)
  have t112 : τ102 q73 = 49 := (th_tkE et102 t97 rfl n102)
  have t113 : τ102 q87 = 50 := (th_tkE et102 tn87 rfl n102)
  have z114 : τ102 h0 = 0 := (th_tzE et102 z98 (Nat.ne_of_lt (th_ltE s102 lt102_h0)))
  have tn102 : τ102 q102 = 51 := th_upS et102
  have zr115 : gi102 q19 = (fun _ => 0) := (og102 q19 (th_neE t107 tn102 rfl)).trans zr99
  have zr116 : gi102 q27 = (fun _ => 0) := (og102 q27 (th_neE t108 tn102 rfl)).trans zr100
  have zr117 : gi102 q102 = (fun _ => 0) := th_upS eg102
  refine W.widen (k := 12) (n := 172) (Nat.le_of_ble_eq_true rfl) (Nat.le_of_ble_eq_true rfl) ?_
  refine th_rputF (ci := 11) (v := .ref q102) (T := TX12) (C := RX12) (N := 38) (ty := (.array .int)) hx hb hts (fun w h => List.mem_cons_of_mem _ (List.mem_append_right _ h)) tyX12 tyX12_ok nmX12 hown hK hH hS z114 (Or.inl rfl) hR_h0 rfl 13 (by decide) (hts (.fieldLink RX12 43 "BayMooringsModel" "tides" "[I") (List.mem_cons_of_mem _ (List.mem_append_left _ (List.mem_append_left _ (List.mem_of_getElem? (i := 15) rfl))))) (fun _ h9 => h9) rfl hin rfl (by decide +kernel) rfl rfl (Nat.le_of_ble_eq_true rfl) dX12_init_97 (fun H locs hR_h0 hH hS y118 o118 => ?_)
  have hR_h0 : va_P D vwCl [(h0, .inr (11, [.int 0, .ref q1, .ref q4, .ref q8, .ref q13, .ref q19, .ref q27, .ref q37, .int 0, .ref q48, .ref q60, .ref q73, .ref q87, .ref q102, .int 0, .null, .null, .int 0, .null, .null, .int 0, .null, .null, .int 0, .int 0, .null, .null, .int 0, .null, .null, .null, .null, .null, .int 0, .null, .null, .null, .null]))] H := hR_h0
  refine lv_aload_n hx hb dX12_init_100 rfl (lv_at hl 0 rfl) ?_
  refine lv_sipush (v := 255) hx hb dX12_init_101 sp_255 ?_
  refine th_rput (ci := 11) (v := .int 255) (T := TX12) (C := RX12) (N := 38) (ty := .int) hx hb hts (fun w h => List.mem_cons_of_mem _ (List.mem_append_right _ h)) tyX12 tyX12_ok nmX12 hown hK hH hS z114 (Or.inl rfl) hR_h0 rfl 14 (by decide) (hts (.fieldLink RX12 46 "BayMooringsModel" "winds" "I") (List.mem_cons_of_mem _ (List.mem_append_left _ (List.mem_append_left _ (List.mem_of_getElem? (i := 16) rfl))))) (fun _ h9 => h9) rfl (by decide +kernel) rfl rfl (Nat.le_of_ble_eq_true rfl) dX12_init_104 (fun H locs hR_h0 hH hS y119 o119 => ?_)
  have hR_h0 : va_P D vwCl [(h0, .inr (11, [.int 0, .ref q1, .ref q4, .ref q8, .ref q13, .ref q19, .ref q27, .ref q37, .int 0, .ref q48, .ref q60, .ref q73, .ref q87, .ref q102, .int 255, .null, .null, .int 0, .null, .null, .int 0, .null, .null, .int 0, .int 0, .null, .null, .int 0, .null, .null, .null, .null, .null, .int 0, .null, .null, .null, .null]))] H := hR_h0
  refine lv_aload_n hx hb dX12_init_107 rfl (lv_at hl 0 rfl) ?_
  refine lv_bipush (v := 8) hx hb dX12_init_108 bp_8 ?_
  have hle120 := hS.1
  have lt120_h0 := (hR_h0 0 _ rfl).lt
  refine th_newI (atype := .int) (cI := cA 0) (N' := 8) hx hb (hts (.arrayClass .int) (List.mem_cons_of_mem _ (List.mem_append_left _ (List.mem_append_left _ (List.mem_of_getElem? (i := 3) rfl))))) hK 0 rfl (fun h => h) hH hS hA 52 (by decide) (by decide) (by decide) (Nat.le_of_ble_eq_true rfl) (Nat.le_of_ble_eq_true rfl) rfl (fun _ => rfl) (fun _ _ => trivial) dX12_init_110 (fun q120 H s120 y120 n120 o120 hH hS => ?_)
  have le120 : s.heap.size ≤ q120 := th_leE s120 hle120
  have hR_h0 := th_P1 hR_h0 (o120 _ (th_ltE s120 lt120_h0))
  obtain ⟨τ120, et120⟩ : ∃ t, t = va_up τ102 q120 52 := ⟨_, rfl⟩
  have zz120 := hE.z n120
  obtain ⟨gi120, eg120⟩ : ∃ g, g = va_up gi102 q120 (fun _ => 0) := ⟨_, rfl⟩
  have hE := hE.add (k0 := 52) (f := (fun _ => 0)) (r := gr q120) n120 (Or.inr le120)
  rw [th_upid gr q120, ← et120, ← eg120] at hE
  rw [← et120, ← eg120] at hH
  have og120 : ∀ b, b ≠ q120 → gi120 b = gi102 b := th_upO eg120
  have t121 : τ120 q1 = 40 := (th_tkE et120 t103 rfl n120)
  have t122 : τ120 q4 = 41 := (th_tkE et120 t104 rfl n120)
  have t123 : τ120 q8 = 42 := (th_tkE et120 t105 rfl n120)
  have t124 : τ120 q13 = 43 := (th_tkE et120 t106 rfl n120)
  have t125 : τ120 q19 = 44 := (th_tkE et120 t107 rfl n120)
  have t126 : τ120 q27 = 45 := (th_tkE et120 t108 rfl n120)
  have t127 : τ120 q37 = 46 := (th_tkE et120 t109 rfl n120)
  have t128 : τ120 q48 = 47 := (th_tkE et120 t110 rfl n120)
  have t129 : τ120 q60 = 48 := (th_tkE et120 t111 rfl n120)
  have t130 : τ120 q73 = 49 := (th_tkE et120 t112 rfl n120)
  have t131 : τ120 q87 = 50 := (th_tkE et120 t113 rfl n120)
  have t132 : τ120 q102 = 51 := (th_tkE et120 tn102 rfl n120)
  have z133 : τ120 h0 = 0 := (th_tzE et120 z114 (Nat.ne_of_lt (th_ltE s120 lt120_h0)))
  have tn120 : τ120 q120 = 52 := th_upS et120
  have zr134 : gi120 q19 = (fun _ => 0) := (og120 q19 (th_neE t125 tn120 rfl)).trans zr115
  have zr135 : gi120 q27 = (fun _ => 0) := (og120 q27 (th_neE t126 tn120 rfl)).trans zr116
  have zr136 : gi120 q102 = (fun _ => 0) := (og120 q102 (th_neE t132 tn120 rfl)).trans zr117
  have zr137 : gi120 q120 = (fun _ => 0) := th_upS eg120
  refine W.widen (k := 13) (n := 180) (Nat.le_of_ble_eq_true rfl) (Nat.le_of_ble_eq_true rfl) ?_
  refine lv_dup hx hb dX12_init_112 rfl ?_
  refine lv_iconst (v := 0) hx hb dX12_init_113 ic_0 ?_
  refine lv_iconst (v := 0) hx hb dX12_init_114 ic_0 ?_
  refine th_iastR hx hb hK hH hS tn120 (th_nz rfl) (th_AE hE hS _ (Or.inl (by rw [tn120]; decide))) 0 (fun _ => thE_52 _ _ _) rfl (rg_in (n := 8) rgc_0 (th_leI rfl) (th_ltI rfl)) (trivial) dX12_init_115 (fun gi138 H locs hu138 ho138 hH hS oq => ?_)
  have hR_h0 := th_P1 hR_h0 (oq _ (th_ne0 z133 tn120 (by decide)))
  have hE := hE.new zz120 (fun b hb => funext fun j => ho138 b j (Or.inl hb)) (fun _ _ => rfl)
  have zr139 : gi138 q19 = (fun _ => 0) := funext fun j9 => (ho138 q19 j9 (Or.inl (th_neE t125 tn120 rfl))).trans (congrFun zr134 j9)
  have zr140 : gi138 q27 = (fun _ => 0) := funext fun j9 => (ho138 q27 j9 (Or.inl (th_neE t126 tn120 rfl))).trans (congrFun zr135 j9)
  have zr141 : gi138 q102 = (fun _ => 0) := funext fun j9 => (ho138 q102 j9 (Or.inl (th_neE t132 tn120 rfl))).trans (congrFun zr136 j9)
  have zr142 : gi138 q120 = (upd (fun _ => 0) (0 : Int32).toNatClampNeg 0) := (by rw [th_upE hu138 ho138, va_up_self, zr137])
  refine lv_dup hx hb dX12_init_116 rfl ?_
  refine lv_iconst (v := 1) hx hb dX12_init_117 ic_1 ?_
  refine lv_iconst (v := 1) hx hb dX12_init_118 ic_1 ?_
  refine th_iastR hx hb hK hH hS tn120 (th_nz rfl) (th_AE hE hS _ (Or.inl (by rw [tn120]; decide))) 0 (fun _ => thE_52 _ _ _) rfl (rg_in (n := 8) rgc_1 (th_leI rfl) (th_ltI rfl)) (trivial) dX12_init_119 (fun gi143 H locs hu143 ho143 hH hS oq => ?_)
  have hR_h0 := th_P1 hR_h0 (oq _ (th_ne0 z133 tn120 (by decide)))
  have hE := hE.new zz120 (fun b hb => funext fun j => ho143 b j (Or.inl hb)) (fun _ _ => rfl)
  have zr145 : gi143 q19 = (fun _ => 0) := funext fun j9 => (ho143 q19 j9 (Or.inl (th_neE t125 tn120 rfl))).trans (congrFun zr139 j9)
  have zr146 : gi143 q27 = (fun _ => 0) := funext fun j9 => (ho143 q27 j9 (Or.inl (th_neE t126 tn120 rfl))).trans (congrFun zr140 j9)
  have zr147 : gi143 q102 = (fun _ => 0) := funext fun j9 => (ho143 q102 j9 (Or.inl (th_neE t132 tn120 rfl))).trans (congrFun zr141 j9)
  have zr148 : gi143 q120 = (upd (upd (fun _ => 0) (0 : Int32).toNatClampNeg 0) (1 : Int32).toNatClampNeg 1) := (by rw [th_upE hu143 ho143, va_up_self, zr142])
  refine lv_dup hx hb dX12_init_120 rfl ?_
  refine lv_iconst (v := 2) hx hb dX12_init_121 ic_2 ?_
  refine lv_iconst (v := 1) hx hb dX12_init_122 ic_1 ?_
  refine th_iastR hx hb hK hH hS tn120 (th_nz rfl) (th_AE hE hS _ (Or.inl (by rw [tn120]; decide))) 0 (fun _ => thE_52 _ _ _) rfl (rg_in (n := 8) rgc_2 (th_leI rfl) (th_ltI rfl)) (trivial) dX12_init_123 (fun gi149 H locs hu149 ho149 hH hS oq => ?_)
  have hR_h0 := th_P1 hR_h0 (oq _ (th_ne0 z133 tn120 (by decide)))
  have hE := hE.new zz120 (fun b hb => funext fun j => ho149 b j (Or.inl hb)) (fun _ _ => rfl)
  have zr151 : gi149 q19 = (fun _ => 0) := funext fun j9 => (ho149 q19 j9 (Or.inl (th_neE t125 tn120 rfl))).trans (congrFun zr145 j9)
  have zr152 : gi149 q27 = (fun _ => 0) := funext fun j9 => (ho149 q27 j9 (Or.inl (th_neE t126 tn120 rfl))).trans (congrFun zr146 j9)
  have zr153 : gi149 q102 = (fun _ => 0) := funext fun j9 => (ho149 q102 j9 (Or.inl (th_neE t132 tn120 rfl))).trans (congrFun zr147 j9)
  have zr154 : gi149 q120 = (upd (upd (upd (fun _ => 0) (0 : Int32).toNatClampNeg 0) (1 : Int32).toNatClampNeg 1) (2 : Int32).toNatClampNeg 1) := (by rw [th_upE hu149 ho149, va_up_self, zr148])
  refine lv_dup hx hb dX12_init_124 rfl ?_
  refine lv_iconst (v := 3) hx hb dX12_init_125 ic_3 ?_
  refine lv_iconst (v := 1) hx hb dX12_init_126 ic_1 ?_
  refine th_iastR hx hb hK hH hS tn120 (th_nz rfl) (th_AE hE hS _ (Or.inl (by rw [tn120]; decide))) 0 (fun _ => thE_52 _ _ _) rfl (rg_in (n := 8) rgc_3 (th_leI rfl) (th_ltI rfl)) (trivial) dX12_init_127 (fun gi155 H locs hu155 ho155 hH hS oq => ?_)
  have hR_h0 := th_P1 hR_h0 (oq _ (th_ne0 z133 tn120 (by decide)))
  have hE := hE.new zz120 (fun b hb => funext fun j => ho155 b j (Or.inl hb)) (fun _ _ => rfl)
  have zr157 : gi155 q19 = (fun _ => 0) := funext fun j9 => (ho155 q19 j9 (Or.inl (th_neE t125 tn120 rfl))).trans (congrFun zr151 j9)
  have zr158 : gi155 q27 = (fun _ => 0) := funext fun j9 => (ho155 q27 j9 (Or.inl (th_neE t126 tn120 rfl))).trans (congrFun zr152 j9)
  have zr159 : gi155 q102 = (fun _ => 0) := funext fun j9 => (ho155 q102 j9 (Or.inl (th_neE t132 tn120 rfl))).trans (congrFun zr153 j9)
  have zr160 : gi155 q120 = (upd (upd (upd (upd (fun _ => 0) (0 : Int32).toNatClampNeg 0) (1 : Int32).toNatClampNeg 1) (2 : Int32).toNatClampNeg 1) (3 : Int32).toNatClampNeg 1) := (by rw [th_upE hu155 ho155, va_up_self, zr154])
  refine lv_dup hx hb dX12_init_128 rfl ?_
  refine lv_iconst (v := 4) hx hb dX12_init_129 ic_4 ?_
  refine lv_iconst (v := 0) hx hb dX12_init_130 ic_0 ?_
  refine th_iastR hx hb hK hH hS tn120 (th_nz rfl) (th_AE hE hS _ (Or.inl (by rw [tn120]; decide))) 0 (fun _ => thE_52 _ _ _) rfl (rg_in (n := 8) rgc_4 (th_leI rfl) (th_ltI rfl)) (trivial) dX12_init_131 (fun gi161 H locs hu161 ho161 hH hS oq => ?_)
  have hR_h0 := th_P1 hR_h0 (oq _ (th_ne0 z133 tn120 (by decide)))
  have hE := hE.new zz120 (fun b hb => funext fun j => ho161 b j (Or.inl hb)) (fun _ _ => rfl)
  have zr163 : gi161 q19 = (fun _ => 0) := funext fun j9 => (ho161 q19 j9 (Or.inl (th_neE t125 tn120 rfl))).trans (congrFun zr157 j9)
  have zr164 : gi161 q27 = (fun _ => 0) := funext fun j9 => (ho161 q27 j9 (Or.inl (th_neE t126 tn120 rfl))).trans (congrFun zr158 j9)
  have zr165 : gi161 q102 = (fun _ => 0) := funext fun j9 => (ho161 q102 j9 (Or.inl (th_neE t132 tn120 rfl))).trans (congrFun zr159 j9)
  have zr166 : gi161 q120 = (upd (upd (upd (upd (upd (fun _ => 0) (0 : Int32).toNatClampNeg 0) (1 : Int32).toNatClampNeg 1) (2 : Int32).toNatClampNeg 1) (3 : Int32).toNatClampNeg 1) (4 : Int32).toNatClampNeg 0) := (by rw [th_upE hu161 ho161, va_up_self, zr160])
  refine lv_dup hx hb dX12_init_132 rfl ?_
  refine lv_iconst (v := 5) hx hb dX12_init_133 ic_5 ?_
  refine lv_iconst (v := (-1)) hx hb dX12_init_134 ic_m1 ?_
  refine th_iastR hx hb hK hH hS tn120 (th_nz rfl) (th_AE hE hS _ (Or.inl (by rw [tn120]; decide))) 0 (fun _ => thE_52 _ _ _) rfl (rg_in (n := 8) rgc_5 (th_leI rfl) (th_ltI rfl)) (trivial) dX12_init_135 (fun gi167 H locs hu167 ho167 hH hS oq => ?_)
  have hR_h0 := th_P1 hR_h0 (oq _ (th_ne0 z133 tn120 (by decide)))
  have hE := hE.new zz120 (fun b hb => funext fun j => ho167 b j (Or.inl hb)) (fun _ _ => rfl)
  have zr169 : gi167 q19 = (fun _ => 0) := funext fun j9 => (ho167 q19 j9 (Or.inl (th_neE t125 tn120 rfl))).trans (congrFun zr163 j9)
  have zr170 : gi167 q27 = (fun _ => 0) := funext fun j9 => (ho167 q27 j9 (Or.inl (th_neE t126 tn120 rfl))).trans (congrFun zr164 j9)
  have zr171 : gi167 q102 = (fun _ => 0) := funext fun j9 => (ho167 q102 j9 (Or.inl (th_neE t132 tn120 rfl))).trans (congrFun zr165 j9)
  have zr172 : gi167 q120 = (upd (upd (upd (upd (upd (upd (fun _ => 0) (0 : Int32).toNatClampNeg 0) (1 : Int32).toNatClampNeg 1) (2 : Int32).toNatClampNeg 1) (3 : Int32).toNatClampNeg 1) (4 : Int32).toNatClampNeg 0) (5 : Int32).toNatClampNeg (-1)) := (by rw [th_upE hu167 ho167, va_up_self, zr166])
  refine lv_dup hx hb dX12_init_136 rfl ?_
  refine lv_bipush (v := 6) hx hb dX12_init_137 bp_6 ?_
  refine lv_iconst (v := (-1)) hx hb dX12_init_139 ic_m1 ?_
  refine th_iastR hx hb hK hH hS tn120 (th_nz rfl) (th_AE hE hS _ (Or.inl (by rw [tn120]; decide))) 0 (fun _ => thE_52 _ _ _) rfl (rg_in (n := 8) rgc_6 (th_leI rfl) (th_ltI rfl)) (trivial) dX12_init_140 (fun gi173 H locs hu173 ho173 hH hS oq => ?_)
  have hR_h0 := th_P1 hR_h0 (oq _ (th_ne0 z133 tn120 (by decide)))
  have hE := hE.new zz120 (fun b hb => funext fun j => ho173 b j (Or.inl hb)) (fun _ _ => rfl)
  have zr175 : gi173 q19 = (fun _ => 0) := funext fun j9 => (ho173 q19 j9 (Or.inl (th_neE t125 tn120 rfl))).trans (congrFun zr169 j9)
  have zr176 : gi173 q27 = (fun _ => 0) := funext fun j9 => (ho173 q27 j9 (Or.inl (th_neE t126 tn120 rfl))).trans (congrFun zr170 j9)
  have zr177 : gi173 q102 = (fun _ => 0) := funext fun j9 => (ho173 q102 j9 (Or.inl (th_neE t132 tn120 rfl))).trans (congrFun zr171 j9)
  have zr178 : gi173 q120 = (upd (upd (upd (upd (upd (upd (upd (fun _ => 0) (0 : Int32).toNatClampNeg 0) (1 : Int32).toNatClampNeg 1) (2 : Int32).toNatClampNeg 1) (3 : Int32).toNatClampNeg 1) (4 : Int32).toNatClampNeg 0) (5 : Int32).toNatClampNeg (-1)) (6 : Int32).toNatClampNeg (-1)) := (by rw [th_upE hu173 ho173, va_up_self, zr172])
  refine lv_dup hx hb dX12_init_141 rfl ?_
  refine lv_bipush (v := 7) hx hb dX12_init_142 bp_7 ?_
  refine lv_iconst (v := (-1)) hx hb dX12_init_144 ic_m1 ?_
  refine th_iastR hx hb hK hH hS tn120 (th_nz rfl) (th_AE hE hS _ (Or.inl (by rw [tn120]; decide))) 0 (fun _ => thE_52 _ _ _) rfl (rg_in (n := 8) rgc_7 (th_leI rfl) (th_ltI rfl)) (trivial) dX12_init_145 (fun gi179 H locs hu179 ho179 hH hS oq => ?_)
  have hR_h0 := th_P1 hR_h0 (oq _ (th_ne0 z133 tn120 (by decide)))
  have hE := hE.new zz120 (fun b hb => funext fun j => ho179 b j (Or.inl hb)) (fun _ _ => rfl)
  have zr181 : gi179 q19 = (fun _ => 0) := funext fun j9 => (ho179 q19 j9 (Or.inl (th_neE t125 tn120 rfl))).trans (congrFun zr175 j9)
  have zr182 : gi179 q27 = (fun _ => 0) := funext fun j9 => (ho179 q27 j9 (Or.inl (th_neE t126 tn120 rfl))).trans (congrFun zr176 j9)
  have zr183 : gi179 q102 = (fun _ => 0) := funext fun j9 => (ho179 q102 j9 (Or.inl (th_neE t132 tn120 rfl))).trans (congrFun zr177 j9)
  have zr184 : gi179 q120 = (upd (upd (upd (upd (upd (upd (upd (upd (fun _ => 0) (0 : Int32).toNatClampNeg 0) (1 : Int32).toNatClampNeg 1) (2 : Int32).toNatClampNeg 1) (3 : Int32).toNatClampNeg 1) (4 : Int32).toNatClampNeg 0) (5 : Int32).toNatClampNeg (-1)) (6 : Int32).toNatClampNeg (-1)) (7 : Int32).toNatClampNeg (-1)) := (by rw [th_upE hu179 ho179, va_up_self, zr178])
  refine th_rputF (ci := 11) (v := .ref q120) (T := TX12) (C := RX12) (N := 38) (ty := (.array .int)) hx hb hts (fun w h => List.mem_cons_of_mem _ (List.mem_append_right _ h)) tyX12 tyX12_ok nmX12 hown hK hH hS z133 (Or.inl rfl) hR_h0 rfl 15 (by decide) (hts (.fieldLink RX12 50 "BayMooringsModel" "wayX" "[I") (List.mem_cons_of_mem _ (List.mem_append_left _ (List.mem_append_left _ (List.mem_of_getElem? (i := 17) rfl))))) (fun _ h9 => h9) rfl hin rfl (by decide +kernel) rfl rfl (Nat.le_of_ble_eq_true rfl) dX12_init_146 (fun H locs hR_h0 hH hS y185 o185 => ?_)
  have hR_h0 : va_P D vwCl [(h0, .inr (11, [.int 0, .ref q1, .ref q4, .ref q8, .ref q13, .ref q19, .ref q27, .ref q37, .int 0, .ref q48, .ref q60, .ref q73, .ref q87, .ref q102, .int 255, .ref q120, .null, .int 0, .null, .null, .int 0, .null, .null, .int 0, .int 0, .null, .null, .int 0, .null, .null, .null, .null, .null, .int 0, .null, .null, .null, .null]))] H := hR_h0
  refine lv_aload_n hx hb dX12_init_149 rfl (lv_at hl 0 rfl) ?_
  refine lv_bipush (v := 8) hx hb dX12_init_150 bp_8 ?_
  have hle186 := hS.1
  have lt186_h0 := (hR_h0 0 _ rfl).lt
  refine th_newI (atype := .int) (cI := cA 0) (N' := 8) hx hb (hts (.arrayClass .int) (List.mem_cons_of_mem _ (List.mem_append_left _ (List.mem_append_left _ (List.mem_of_getElem? (i := 3) rfl))))) hK 0 rfl (fun h => h) hH hS hA 53 (by decide) (by decide) (by decide) (Nat.le_of_ble_eq_true rfl) (Nat.le_of_ble_eq_true rfl) rfl (fun _ => rfl) (fun _ _ => trivial) dX12_init_152 (fun q186 H s186 y186 n186 o186 hH hS => ?_)
  have le186 : s.heap.size ≤ q186 := th_leE s186 hle186
  have hR_h0 := th_P1 hR_h0 (o186 _ (th_ltE s186 lt186_h0))
  obtain ⟨τ186, et186⟩ : ∃ t, t = va_up τ120 q186 53 := ⟨_, rfl⟩
  have zz186 := hE.z n186
  obtain ⟨gi186, eg186⟩ : ∃ g, g = va_up gi179 q186 (fun _ => 0) := ⟨_, rfl⟩
  have hE := hE.add (k0 := 53) (f := (fun _ => 0)) (r := gr q186) n186 (Or.inr le186)
  rw [th_upid gr q186, ← et186, ← eg186] at hE
  rw [← et186, ← eg186] at hH
  have og186 : ∀ b, b ≠ q186 → gi186 b = gi179 b := th_upO eg186
  have t187 : τ186 q1 = 40 := (th_tkE et186 t121 rfl n186)
  have t188 : τ186 q4 = 41 := (th_tkE et186 t122 rfl n186)
  have t189 : τ186 q8 = 42 := (th_tkE et186 t123 rfl n186)
  have t190 : τ186 q13 = 43 := (th_tkE et186 t124 rfl n186)
  have t191 : τ186 q19 = 44 := (th_tkE et186 t125 rfl n186)
  have t192 : τ186 q27 = 45 := (th_tkE et186 t126 rfl n186)
  have t193 : τ186 q37 = 46 := (th_tkE et186 t127 rfl n186)
  have t194 : τ186 q48 = 47 := (th_tkE et186 t128 rfl n186)
  have t195 : τ186 q60 = 48 := (th_tkE et186 t129 rfl n186)
  have t196 : τ186 q73 = 49 := (th_tkE et186 t130 rfl n186)
  have t197 : τ186 q87 = 50 := (th_tkE et186 t131 rfl n186)
  have t198 : τ186 q102 = 51 := (th_tkE et186 t132 rfl n186)
  have t199 : τ186 q120 = 52 := (th_tkE et186 tn120 rfl n186)
  have z200 : τ186 h0 = 0 := (th_tzE et186 z133 (Nat.ne_of_lt (th_ltE s186 lt186_h0)))
  have tn186 : τ186 q186 = 53 := th_upS et186
  have e201 : (-1) = gi186 q120 ((7 : Int32).toNatClampNeg) := by rw [og186 q120 (th_neE t199 tn186 rfl)]; exact hu179.symm
  have zr202 : gi186 q19 = (fun _ => 0) := (og186 q19 (th_neE t191 tn186 rfl)).trans zr181
  have zr203 : gi186 q27 = (fun _ => 0) := (og186 q27 (th_neE t192 tn186 rfl)).trans zr182
  have zr204 : gi186 q102 = (fun _ => 0) := (og186 q102 (th_neE t198 tn186 rfl)).trans zr183
  have zr205 : gi186 q120 = (upd (upd (upd (upd (upd (upd (upd (upd (fun _ => 0) (0 : Int32).toNatClampNeg 0) (1 : Int32).toNatClampNeg 1) (2 : Int32).toNatClampNeg 1) (3 : Int32).toNatClampNeg 1) (4 : Int32).toNatClampNeg 0) (5 : Int32).toNatClampNeg (-1)) (6 : Int32).toNatClampNeg (-1)) (7 : Int32).toNatClampNeg (-1)) := (og186 q120 (th_neE t199 tn186 rfl)).trans zr184
  have zr206 : gi186 q186 = (fun _ => 0) := th_upS eg186
  refine W.widen (k := 14) (n := 188) (Nat.le_of_ble_eq_true rfl) (Nat.le_of_ble_eq_true rfl) ?_
  refine lv_dup hx hb dX12_init_154 rfl ?_
  refine lv_iconst (v := 0) hx hb dX12_init_155 ic_0 ?_
  refine lv_iconst (v := (-1)) hx hb dX12_init_156 ic_m1 ?_
  refine th_iastR hx hb hK hH hS tn186 (th_nz rfl) (th_AE hE hS _ (Or.inl (by rw [tn186]; decide))) 0 (fun _ => thE_53 _ _ _) rfl (rg_in (n := 8) rgc_0 (th_leI rfl) (th_ltI rfl)) (trivial) dX12_init_157 (fun gi207 H locs hu207 ho207 hH hS oq => ?_)
  have hR_h0 := th_P1 hR_h0 (oq _ (th_ne0 z200 tn186 (by decide)))
  have e208 : (-1) = gi207 q120 ((7 : Int32).toNatClampNeg) := Eq.trans e201 (Eq.symm (ho207 _ _ (Or.inl (th_ne t199 tn186 (th_nz rfl)))))
  have hE := hE.new zz186 (fun b hb => funext fun j => ho207 b j (Or.inl hb)) (fun _ _ => rfl)
  have zr209 : gi207 q19 = (fun _ => 0) := funext fun j9 => (ho207 q19 j9 (Or.inl (th_neE t191 tn186 rfl))).trans (congrFun zr202 j9)
  have zr210 : gi207 q27 = (fun _ => 0) := funext fun j9 => (ho207 q27 j9 (Or.inl (th_neE t192 tn186 rfl))).trans (congrFun zr203 j9)
  have zr211 : gi207 q102 = (fun _ => 0) := funext fun j9 => (ho207 q102 j9 (Or.inl (th_neE t198 tn186 rfl))).trans (congrFun zr204 j9)
  have zr212 : gi207 q120 = (upd (upd (upd (upd (upd (upd (upd (upd (fun _ => 0) (0 : Int32).toNatClampNeg 0) (1 : Int32).toNatClampNeg 1) (2 : Int32).toNatClampNeg 1) (3 : Int32).toNatClampNeg 1) (4 : Int32).toNatClampNeg 0) (5 : Int32).toNatClampNeg (-1)) (6 : Int32).toNatClampNeg (-1)) (7 : Int32).toNatClampNeg (-1)) := funext fun j9 => (ho207 q120 j9 (Or.inl (th_neE t199 tn186 rfl))).trans (congrFun zr205 j9)
  have zr213 : gi207 q186 = (upd (fun _ => 0) (0 : Int32).toNatClampNeg (-1)) := (by rw [th_upE hu207 ho207, va_up_self, zr206])
  refine lv_dup hx hb dX12_init_158 rfl ?_
  refine lv_iconst (v := 1) hx hb dX12_init_159 ic_1 ?_
  refine lv_iconst (v := (-1)) hx hb dX12_init_160 ic_m1 ?_
  refine th_iastR hx hb hK hH hS tn186 (th_nz rfl) (th_AE hE hS _ (Or.inl (by rw [tn186]; decide))) 0 (fun _ => thE_53 _ _ _) rfl (rg_in (n := 8) rgc_1 (th_leI rfl) (th_ltI rfl)) (trivial) dX12_init_161 (fun gi214 H locs hu214 ho214 hH hS oq => ?_)
  have hR_h0 := th_P1 hR_h0 (oq _ (th_ne0 z200 tn186 (by decide)))
  have e215 : (-1) = gi214 q120 ((7 : Int32).toNatClampNeg) := Eq.trans e208 (Eq.symm (ho214 _ _ (Or.inl (th_ne t199 tn186 (th_nz rfl)))))
  have hE := hE.new zz186 (fun b hb => funext fun j => ho214 b j (Or.inl hb)) (fun _ _ => rfl)
  have zr217 : gi214 q19 = (fun _ => 0) := funext fun j9 => (ho214 q19 j9 (Or.inl (th_neE t191 tn186 rfl))).trans (congrFun zr209 j9)
  have zr218 : gi214 q27 = (fun _ => 0) := funext fun j9 => (ho214 q27 j9 (Or.inl (th_neE t192 tn186 rfl))).trans (congrFun zr210 j9)
  have zr219 : gi214 q102 = (fun _ => 0) := funext fun j9 => (ho214 q102 j9 (Or.inl (th_neE t198 tn186 rfl))).trans (congrFun zr211 j9)
  have zr220 : gi214 q120 = (upd (upd (upd (upd (upd (upd (upd (upd (fun _ => 0) (0 : Int32).toNatClampNeg 0) (1 : Int32).toNatClampNeg 1) (2 : Int32).toNatClampNeg 1) (3 : Int32).toNatClampNeg 1) (4 : Int32).toNatClampNeg 0) (5 : Int32).toNatClampNeg (-1)) (6 : Int32).toNatClampNeg (-1)) (7 : Int32).toNatClampNeg (-1)) := funext fun j9 => (ho214 q120 j9 (Or.inl (th_neE t199 tn186 rfl))).trans (congrFun zr212 j9)
  have zr221 : gi214 q186 = (upd (upd (fun _ => 0) (0 : Int32).toNatClampNeg (-1)) (1 : Int32).toNatClampNeg (-1)) := (by rw [th_upE hu214 ho214, va_up_self, zr213])
  refine lv_dup hx hb dX12_init_162 rfl ?_
  refine lv_iconst (v := 2) hx hb dX12_init_163 ic_2 ?_
  refine lv_iconst (v := 0) hx hb dX12_init_164 ic_0 ?_
  refine th_iastR hx hb hK hH hS tn186 (th_nz rfl) (th_AE hE hS _ (Or.inl (by rw [tn186]; decide))) 0 (fun _ => thE_53 _ _ _) rfl (rg_in (n := 8) rgc_2 (th_leI rfl) (th_ltI rfl)) (trivial) dX12_init_165 (fun gi222 H locs hu222 ho222 hH hS oq => ?_)
  have hR_h0 := th_P1 hR_h0 (oq _ (th_ne0 z200 tn186 (by decide)))
  have e223 : (-1) = gi222 q120 ((7 : Int32).toNatClampNeg) := Eq.trans e215 (Eq.symm (ho222 _ _ (Or.inl (th_ne t199 tn186 (th_nz rfl)))))
  have hE := hE.new zz186 (fun b hb => funext fun j => ho222 b j (Or.inl hb)) (fun _ _ => rfl)
  have zr225 : gi222 q19 = (fun _ => 0) := funext fun j9 => (ho222 q19 j9 (Or.inl (th_neE t191 tn186 rfl))).trans (congrFun zr217 j9)
  have zr226 : gi222 q27 = (fun _ => 0) := funext fun j9 => (ho222 q27 j9 (Or.inl (th_neE t192 tn186 rfl))).trans (congrFun zr218 j9)
  have zr227 : gi222 q102 = (fun _ => 0) := funext fun j9 => (ho222 q102 j9 (Or.inl (th_neE t198 tn186 rfl))).trans (congrFun zr219 j9)
  have zr228 : gi222 q120 = (upd (upd (upd (upd (upd (upd (upd (upd (fun _ => 0) (0 : Int32).toNatClampNeg 0) (1 : Int32).toNatClampNeg 1) (2 : Int32).toNatClampNeg 1) (3 : Int32).toNatClampNeg 1) (4 : Int32).toNatClampNeg 0) (5 : Int32).toNatClampNeg (-1)) (6 : Int32).toNatClampNeg (-1)) (7 : Int32).toNatClampNeg (-1)) := funext fun j9 => (ho222 q120 j9 (Or.inl (th_neE t199 tn186 rfl))).trans (congrFun zr220 j9)
  have zr229 : gi222 q186 = (upd (upd (upd (fun _ => 0) (0 : Int32).toNatClampNeg (-1)) (1 : Int32).toNatClampNeg (-1)) (2 : Int32).toNatClampNeg 0) := (by rw [th_upE hu222 ho222, va_up_self, zr221])
  refine lv_dup hx hb dX12_init_166 rfl ?_
  refine lv_iconst (v := 3) hx hb dX12_init_167 ic_3 ?_
  refine lv_iconst (v := 1) hx hb dX12_init_168 ic_1 ?_
  refine th_iastR hx hb hK hH hS tn186 (th_nz rfl) (th_AE hE hS _ (Or.inl (by rw [tn186]; decide))) 0 (fun _ => thE_53 _ _ _) rfl (rg_in (n := 8) rgc_3 (th_leI rfl) (th_ltI rfl)) (trivial) dX12_init_169 (fun gi230 H locs hu230 ho230 hH hS oq => ?_)
  have hR_h0 := th_P1 hR_h0 (oq _ (th_ne0 z200 tn186 (by decide)))
  have e231 : (-1) = gi230 q120 ((7 : Int32).toNatClampNeg) := Eq.trans e223 (Eq.symm (ho230 _ _ (Or.inl (th_ne t199 tn186 (th_nz rfl)))))
  have hE := hE.new zz186 (fun b hb => funext fun j => ho230 b j (Or.inl hb)) (fun _ _ => rfl)
  have zr233 : gi230 q19 = (fun _ => 0) := funext fun j9 => (ho230 q19 j9 (Or.inl (th_neE t191 tn186 rfl))).trans (congrFun zr225 j9)
  have zr234 : gi230 q27 = (fun _ => 0) := funext fun j9 => (ho230 q27 j9 (Or.inl (th_neE t192 tn186 rfl))).trans (congrFun zr226 j9)
  have zr235 : gi230 q102 = (fun _ => 0) := funext fun j9 => (ho230 q102 j9 (Or.inl (th_neE t198 tn186 rfl))).trans (congrFun zr227 j9)
  have zr236 : gi230 q120 = (upd (upd (upd (upd (upd (upd (upd (upd (fun _ => 0) (0 : Int32).toNatClampNeg 0) (1 : Int32).toNatClampNeg 1) (2 : Int32).toNatClampNeg 1) (3 : Int32).toNatClampNeg 1) (4 : Int32).toNatClampNeg 0) (5 : Int32).toNatClampNeg (-1)) (6 : Int32).toNatClampNeg (-1)) (7 : Int32).toNatClampNeg (-1)) := funext fun j9 => (ho230 q120 j9 (Or.inl (th_neE t199 tn186 rfl))).trans (congrFun zr228 j9)
  have zr237 : gi230 q186 = (upd (upd (upd (upd (fun _ => 0) (0 : Int32).toNatClampNeg (-1)) (1 : Int32).toNatClampNeg (-1)) (2 : Int32).toNatClampNeg 0) (3 : Int32).toNatClampNeg 1) := (by rw [th_upE hu230 ho230, va_up_self, zr229])
  refine lv_dup hx hb dX12_init_170 rfl ?_
  refine lv_iconst (v := 4) hx hb dX12_init_171 ic_4 ?_
  refine lv_iconst (v := 1) hx hb dX12_init_172 ic_1 ?_
  refine th_iastR hx hb hK hH hS tn186 (th_nz rfl) (th_AE hE hS _ (Or.inl (by rw [tn186]; decide))) 0 (fun _ => thE_53 _ _ _) rfl (rg_in (n := 8) rgc_4 (th_leI rfl) (th_ltI rfl)) (trivial) dX12_init_173 (fun gi238 H locs hu238 ho238 hH hS oq => ?_)
  have hR_h0 := th_P1 hR_h0 (oq _ (th_ne0 z200 tn186 (by decide)))
  have e239 : (-1) = gi238 q120 ((7 : Int32).toNatClampNeg) := Eq.trans e231 (Eq.symm (ho238 _ _ (Or.inl (th_ne t199 tn186 (th_nz rfl)))))
  have hE := hE.new zz186 (fun b hb => funext fun j => ho238 b j (Or.inl hb)) (fun _ _ => rfl)
  have zr241 : gi238 q19 = (fun _ => 0) := funext fun j9 => (ho238 q19 j9 (Or.inl (th_neE t191 tn186 rfl))).trans (congrFun zr233 j9)
  have zr242 : gi238 q27 = (fun _ => 0) := funext fun j9 => (ho238 q27 j9 (Or.inl (th_neE t192 tn186 rfl))).trans (congrFun zr234 j9)
  have zr243 : gi238 q102 = (fun _ => 0) := funext fun j9 => (ho238 q102 j9 (Or.inl (th_neE t198 tn186 rfl))).trans (congrFun zr235 j9)
  have zr244 : gi238 q120 = (upd (upd (upd (upd (upd (upd (upd (upd (fun _ => 0) (0 : Int32).toNatClampNeg 0) (1 : Int32).toNatClampNeg 1) (2 : Int32).toNatClampNeg 1) (3 : Int32).toNatClampNeg 1) (4 : Int32).toNatClampNeg 0) (5 : Int32).toNatClampNeg (-1)) (6 : Int32).toNatClampNeg (-1)) (7 : Int32).toNatClampNeg (-1)) := funext fun j9 => (ho238 q120 j9 (Or.inl (th_neE t199 tn186 rfl))).trans (congrFun zr236 j9)
  have zr245 : gi238 q186 = (upd (upd (upd (upd (upd (fun _ => 0) (0 : Int32).toNatClampNeg (-1)) (1 : Int32).toNatClampNeg (-1)) (2 : Int32).toNatClampNeg 0) (3 : Int32).toNatClampNeg 1) (4 : Int32).toNatClampNeg 1) := (by rw [th_upE hu238 ho238, va_up_self, zr237])
  refine lv_dup hx hb dX12_init_174 rfl ?_
  refine lv_iconst (v := 5) hx hb dX12_init_175 ic_5 ?_
  refine lv_iconst (v := 1) hx hb dX12_init_176 ic_1 ?_
  refine th_iastR hx hb hK hH hS tn186 (th_nz rfl) (th_AE hE hS _ (Or.inl (by rw [tn186]; decide))) 0 (fun _ => thE_53 _ _ _) rfl (rg_in (n := 8) rgc_5 (th_leI rfl) (th_ltI rfl)) (trivial) dX12_init_177 (fun gi246 H locs hu246 ho246 hH hS oq => ?_)
  have hR_h0 := th_P1 hR_h0 (oq _ (th_ne0 z200 tn186 (by decide)))
  have e247 : (-1) = gi246 q120 ((7 : Int32).toNatClampNeg) := Eq.trans e239 (Eq.symm (ho246 _ _ (Or.inl (th_ne t199 tn186 (th_nz rfl)))))
  have hE := hE.new zz186 (fun b hb => funext fun j => ho246 b j (Or.inl hb)) (fun _ _ => rfl)
  have zr249 : gi246 q19 = (fun _ => 0) := funext fun j9 => (ho246 q19 j9 (Or.inl (th_neE t191 tn186 rfl))).trans (congrFun zr241 j9)
  have zr250 : gi246 q27 = (fun _ => 0) := funext fun j9 => (ho246 q27 j9 (Or.inl (th_neE t192 tn186 rfl))).trans (congrFun zr242 j9)
  have zr251 : gi246 q102 = (fun _ => 0) := funext fun j9 => (ho246 q102 j9 (Or.inl (th_neE t198 tn186 rfl))).trans (congrFun zr243 j9)
  have zr252 : gi246 q120 = (upd (upd (upd (upd (upd (upd (upd (upd (fun _ => 0) (0 : Int32).toNatClampNeg 0) (1 : Int32).toNatClampNeg 1) (2 : Int32).toNatClampNeg 1) (3 : Int32).toNatClampNeg 1) (4 : Int32).toNatClampNeg 0) (5 : Int32).toNatClampNeg (-1)) (6 : Int32).toNatClampNeg (-1)) (7 : Int32).toNatClampNeg (-1)) := funext fun j9 => (ho246 q120 j9 (Or.inl (th_neE t199 tn186 rfl))).trans (congrFun zr244 j9)
  have zr253 : gi246 q186 = (upd (upd (upd (upd (upd (upd (fun _ => 0) (0 : Int32).toNatClampNeg (-1)) (1 : Int32).toNatClampNeg (-1)) (2 : Int32).toNatClampNeg 0) (3 : Int32).toNatClampNeg 1) (4 : Int32).toNatClampNeg 1) (5 : Int32).toNatClampNeg 1) := (by rw [th_upE hu246 ho246, va_up_self, zr245])
  refine lv_dup hx hb dX12_init_178 rfl ?_
  refine lv_bipush (v := 6) hx hb dX12_init_179 bp_6 ?_
  refine lv_iconst (v := 0) hx hb dX12_init_181 ic_0 ?_
  refine th_iastR hx hb hK hH hS tn186 (th_nz rfl) (th_AE hE hS _ (Or.inl (by rw [tn186]; decide))) 0 (fun _ => thE_53 _ _ _) rfl (rg_in (n := 8) rgc_6 (th_leI rfl) (th_ltI rfl)) (trivial) dX12_init_182 (fun gi254 H locs hu254 ho254 hH hS oq => ?_)
  have hR_h0 := th_P1 hR_h0 (oq _ (th_ne0 z200 tn186 (by decide)))
  have e255 : (-1) = gi254 q120 ((7 : Int32).toNatClampNeg) := Eq.trans e247 (Eq.symm (ho254 _ _ (Or.inl (th_ne t199 tn186 (th_nz rfl)))))
  have hE := hE.new zz186 (fun b hb => funext fun j => ho254 b j (Or.inl hb)) (fun _ _ => rfl)
  have zr257 : gi254 q19 = (fun _ => 0) := funext fun j9 => (ho254 q19 j9 (Or.inl (th_neE t191 tn186 rfl))).trans (congrFun zr249 j9)
  have zr258 : gi254 q27 = (fun _ => 0) := funext fun j9 => (ho254 q27 j9 (Or.inl (th_neE t192 tn186 rfl))).trans (congrFun zr250 j9)
  have zr259 : gi254 q102 = (fun _ => 0) := funext fun j9 => (ho254 q102 j9 (Or.inl (th_neE t198 tn186 rfl))).trans (congrFun zr251 j9)
  have zr260 : gi254 q120 = (upd (upd (upd (upd (upd (upd (upd (upd (fun _ => 0) (0 : Int32).toNatClampNeg 0) (1 : Int32).toNatClampNeg 1) (2 : Int32).toNatClampNeg 1) (3 : Int32).toNatClampNeg 1) (4 : Int32).toNatClampNeg 0) (5 : Int32).toNatClampNeg (-1)) (6 : Int32).toNatClampNeg (-1)) (7 : Int32).toNatClampNeg (-1)) := funext fun j9 => (ho254 q120 j9 (Or.inl (th_neE t199 tn186 rfl))).trans (congrFun zr252 j9)
  have zr261 : gi254 q186 = (upd (upd (upd (upd (upd (upd (upd (fun _ => 0) (0 : Int32).toNatClampNeg (-1)) (1 : Int32).toNatClampNeg (-1)) (2 : Int32).toNatClampNeg 0) (3 : Int32).toNatClampNeg 1) (4 : Int32).toNatClampNeg 1) (5 : Int32).toNatClampNeg 1) (6 : Int32).toNatClampNeg 0) := (by rw [th_upE hu254 ho254, va_up_self, zr253])
  refine lv_dup hx hb dX12_init_183 rfl ?_
  refine lv_bipush (v := 7) hx hb dX12_init_184 bp_7 ?_
  refine lv_iconst (v := (-1)) hx hb dX12_init_186 ic_m1 ?_
  refine th_iastR hx hb hK hH hS tn186 (th_nz rfl) (th_AE hE hS _ (Or.inl (by rw [tn186]; decide))) 0 (fun _ => thE_53 _ _ _) rfl (rg_in (n := 8) rgc_7 (th_leI rfl) (th_ltI rfl)) (trivial) dX12_init_187 (fun gi262 H locs hu262 ho262 hH hS oq => ?_)
  have hR_h0 := th_P1 hR_h0 (oq _ (th_ne0 z200 tn186 (by decide)))
  have e263 : (-1) = gi262 q120 ((7 : Int32).toNatClampNeg) := Eq.trans e255 (Eq.symm (ho262 _ _ (Or.inl (th_ne t199 tn186 (th_nz rfl)))))
  have hE := hE.new zz186 (fun b hb => funext fun j => ho262 b j (Or.inl hb)) (fun _ _ => rfl)
  have zr265 : gi262 q19 = (fun _ => 0) := funext fun j9 => (ho262 q19 j9 (Or.inl (th_neE t191 tn186 rfl))).trans (congrFun zr257 j9)
  have zr266 : gi262 q27 = (fun _ => 0) := funext fun j9 => (ho262 q27 j9 (Or.inl (th_neE t192 tn186 rfl))).trans (congrFun zr258 j9)
  have zr267 : gi262 q102 = (fun _ => 0) := funext fun j9 => (ho262 q102 j9 (Or.inl (th_neE t198 tn186 rfl))).trans (congrFun zr259 j9)
  have zr268 : gi262 q120 = (upd (upd (upd (upd (upd (upd (upd (upd (fun _ => 0) (0 : Int32).toNatClampNeg 0) (1 : Int32).toNatClampNeg 1) (2 : Int32).toNatClampNeg 1) (3 : Int32).toNatClampNeg 1) (4 : Int32).toNatClampNeg 0) (5 : Int32).toNatClampNeg (-1)) (6 : Int32).toNatClampNeg (-1)) (7 : Int32).toNatClampNeg (-1)) := funext fun j9 => (ho262 q120 j9 (Or.inl (th_neE t199 tn186 rfl))).trans (congrFun zr260 j9)
  have zr269 : gi262 q186 = (upd (upd (upd (upd (upd (upd (upd (upd (fun _ => 0) (0 : Int32).toNatClampNeg (-1)) (1 : Int32).toNatClampNeg (-1)) (2 : Int32).toNatClampNeg 0) (3 : Int32).toNatClampNeg 1) (4 : Int32).toNatClampNeg 1) (5 : Int32).toNatClampNeg 1) (6 : Int32).toNatClampNeg 0) (7 : Int32).toNatClampNeg (-1)) := (by rw [th_upE hu262 ho262, va_up_self, zr261])
  refine th_rputF (ci := 11) (v := .ref q186) (T := TX12) (C := RX12) (N := 38) (ty := (.array .int)) hx hb hts (fun w h => List.mem_cons_of_mem _ (List.mem_append_right _ h)) tyX12 tyX12_ok nmX12 hown hK hH hS z200 (Or.inl rfl) hR_h0 rfl 16 (by decide) (hts (.fieldLink RX12 53 "BayMooringsModel" "wayY" "[I") (List.mem_cons_of_mem _ (List.mem_append_left _ (List.mem_append_left _ (List.mem_of_getElem? (i := 18) rfl))))) (fun _ h9 => h9) rfl hin rfl (by decide +kernel) rfl rfl (Nat.le_of_ble_eq_true rfl) dX12_init_188 (fun H locs hR_h0 hH hS y270 o270 => ?_)
  have hR_h0 : va_P D vwCl [(h0, .inr (11, [.int 0, .ref q1, .ref q4, .ref q8, .ref q13, .ref q19, .ref q27, .ref q37, .int 0, .ref q48, .ref q60, .ref q73, .ref q87, .ref q102, .int 255, .ref q120, .ref q186, .int 0, .null, .null, .int 0, .null, .null, .int 0, .int 0, .null, .null, .int 0, .null, .null, .null, .null, .null, .int 0, .null, .null, .null, .null]))] H := hR_h0
  refine lv_aload_n hx hb dX12_init_191 rfl (lv_at hl 0 rfl) ?_
  refine lv_bipush (v := 10) hx hb dX12_init_192 bp_10 ?_
  have hle271 := hS.1
  have lt271_h0 := (hR_h0 0 _ rfl).lt
  refine th_newI (atype := .int) (cI := cA 0) (N' := 10) hx hb (hts (.arrayClass .int) (List.mem_cons_of_mem _ (List.mem_append_left _ (List.mem_append_left _ (List.mem_of_getElem? (i := 3) rfl))))) hK 0 rfl (fun h => h) hH hS hA 54 (by decide) (by decide) (by decide) (Nat.le_of_ble_eq_true rfl) (Nat.le_of_ble_eq_true rfl) rfl (fun _ => rfl) (fun _ _ => (fun _ _ => (show rg 0 15 (0 : Int32) from ⟨by decide, by decide⟩))) dX12_init_194 (fun q271 H s271 y271 n271 o271 hH hS => ?_)
  have le271 : s.heap.size ≤ q271 := th_leE s271 hle271
  have hR_h0 := th_P1 hR_h0 (o271 _ (th_ltE s271 lt271_h0))
  obtain ⟨τ271, et271⟩ : ∃ t, t = va_up τ186 q271 54 := ⟨_, rfl⟩
  have zz271 := hE.z n271
  obtain ⟨gi271, eg271⟩ : ∃ g, g = va_up gi262 q271 (fun _ => 0) := ⟨_, rfl⟩
  have hE := hE.add (k0 := 54) (f := (fun _ => 0)) (r := gr q271) n271 (Or.inr le271)
  rw [th_upid gr q271, ← et271, ← eg271] at hE
  rw [← et271, ← eg271] at hH
  have og271 : ∀ b, b ≠ q271 → gi271 b = gi262 b := th_upO eg271
  have t272 : τ271 q1 = 40 := (th_tkE et271 t187 rfl n271)
  have t273 : τ271 q4 = 41 := (th_tkE et271 t188 rfl n271)
  have t274 : τ271 q8 = 42 := (th_tkE et271 t189 rfl n271)
  have t275 : τ271 q13 = 43 := (th_tkE et271 t190 rfl n271)
  have t276 : τ271 q19 = 44 := (th_tkE et271 t191 rfl n271)
  have t277 : τ271 q27 = 45 := (th_tkE et271 t192 rfl n271)
  have t278 : τ271 q37 = 46 := (th_tkE et271 t193 rfl n271)
  have t279 : τ271 q48 = 47 := (th_tkE et271 t194 rfl n271)
  have t280 : τ271 q60 = 48 := (th_tkE et271 t195 rfl n271)
  have t281 : τ271 q73 = 49 := (th_tkE et271 t196 rfl n271)
  have t282 : τ271 q87 = 50 := (th_tkE et271 t197 rfl n271)
  have t283 : τ271 q102 = 51 := (th_tkE et271 t198 rfl n271)
  have t284 : τ271 q120 = 52 := (th_tkE et271 t199 rfl n271)
  have t285 : τ271 q186 = 53 := (th_tkE et271 tn186 rfl n271)
  have z286 : τ271 h0 = 0 := (th_tzE et271 z200 (Nat.ne_of_lt (th_ltE s271 lt271_h0)))
  have tn271 : τ271 q271 = 54 := th_upS et271
  have e287 : (-1) = gi271 q120 ((7 : Int32).toNatClampNeg) := by rw [og271 q120 (th_neE t284 tn271 rfl)]; exact e263
  have e288 : (-1) = gi271 q186 ((7 : Int32).toNatClampNeg) := by rw [og271 q186 (th_neE t285 tn271 rfl)]; exact hu262.symm
  have zr289 : gi271 q19 = (fun _ => 0) := (og271 q19 (th_neE t276 tn271 rfl)).trans zr265
  have zr290 : gi271 q27 = (fun _ => 0) := (og271 q27 (th_neE t277 tn271 rfl)).trans zr266
  have zr291 : gi271 q102 = (fun _ => 0) := (og271 q102 (th_neE t283 tn271 rfl)).trans zr267
  have zr292 : gi271 q120 = (upd (upd (upd (upd (upd (upd (upd (upd (fun _ => 0) (0 : Int32).toNatClampNeg 0) (1 : Int32).toNatClampNeg 1) (2 : Int32).toNatClampNeg 1) (3 : Int32).toNatClampNeg 1) (4 : Int32).toNatClampNeg 0) (5 : Int32).toNatClampNeg (-1)) (6 : Int32).toNatClampNeg (-1)) (7 : Int32).toNatClampNeg (-1)) := (og271 q120 (th_neE t284 tn271 rfl)).trans zr268
  have zr293 : gi271 q186 = (upd (upd (upd (upd (upd (upd (upd (upd (fun _ => 0) (0 : Int32).toNatClampNeg (-1)) (1 : Int32).toNatClampNeg (-1)) (2 : Int32).toNatClampNeg 0) (3 : Int32).toNatClampNeg 1) (4 : Int32).toNatClampNeg 1) (5 : Int32).toNatClampNeg 1) (6 : Int32).toNatClampNeg 0) (7 : Int32).toNatClampNeg (-1)) := (og271 q186 (th_neE t285 tn271 rfl)).trans zr269
  refine W.widen (k := 15) (n := 198) (Nat.le_of_ble_eq_true rfl) (Nat.le_of_ble_eq_true rfl) ?_
  refine th_rputF (ci := 11) (v := .ref q271) (T := TX12) (C := RX12) (N := 38) (ty := (.array .int)) hx hb hts (fun w h => List.mem_cons_of_mem _ (List.mem_append_right _ h)) tyX12 tyX12_ok nmX12 hown hK hH hS z286 (Or.inl rfl) hR_h0 rfl 18 (by decide) (hts (.fieldLink RX12 56 "BayMooringsModel" "list" "[I") (List.mem_cons_of_mem _ (List.mem_append_left _ (List.mem_append_left _ (List.mem_of_getElem? (i := 19) rfl))))) (fun _ h9 => h9) rfl hin rfl (by decide +kernel) rfl rfl (Nat.le_of_ble_eq_true rfl) dX12_init_196 (fun H locs hR_h0 hH hS y294 o294 => ?_)
  have hR_h0 : va_P D vwCl [(h0, .inr (11, [.int 0, .ref q1, .ref q4, .ref q8, .ref q13, .ref q19, .ref q27, .ref q37, .int 0, .ref q48, .ref q60, .ref q73, .ref q87, .ref q102, .int 255, .ref q120, .ref q186, .int 0, .ref q271, .null, .int 0, .null, .null, .int 0, .int 0, .null, .null, .int 0, .null, .null, .null, .null, .null, .int 0, .null, .null, .null, .null]))] H := hR_h0
  refine lv_aload_n hx hb dX12_init_199 rfl (lv_at hl 0 rfl) ?_
  refine lv_bipush (v := 16) hx hb dX12_init_200 bp_16 ?_
  have hle295 := hS.1
  have lt295_h0 := (hR_h0 0 _ rfl).lt
  refine th_newI (atype := .int) (cI := cA 0) (N' := 16) hx hb (hts (.arrayClass .int) (List.mem_cons_of_mem _ (List.mem_append_left _ (List.mem_append_left _ (List.mem_of_getElem? (i := 3) rfl))))) hK 0 rfl (fun h => h) hH hS hA 55 (by decide) (by decide) (by decide) (Nat.le_of_ble_eq_true rfl) (Nat.le_of_ble_eq_true rfl) rfl (fun _ => rfl) (fun _ _ => trivial) dX12_init_202 (fun q295 H s295 y295 n295 o295 hH hS => ?_)
  have le295 : s.heap.size ≤ q295 := th_leE s295 hle295
  have hR_h0 := th_P1 hR_h0 (o295 _ (th_ltE s295 lt295_h0))
  obtain ⟨τ295, et295⟩ : ∃ t, t = va_up τ271 q295 55 := ⟨_, rfl⟩
  have zz295 := hE.z n295
  obtain ⟨gi295, eg295⟩ : ∃ g, g = va_up gi271 q295 (fun _ => 0) := ⟨_, rfl⟩
  have hE := hE.add (k0 := 55) (f := (fun _ => 0)) (r := gr q295) n295 (Or.inr le295)
  rw [th_upid gr q295, ← et295, ← eg295] at hE
  rw [← et295, ← eg295] at hH
  have og295 : ∀ b, b ≠ q295 → gi295 b = gi271 b := th_upO eg295
  have t296 : τ295 q1 = 40 := (th_tkE et295 t272 rfl n295)
  have t297 : τ295 q4 = 41 := (th_tkE et295 t273 rfl n295)
  have t298 : τ295 q8 = 42 := (th_tkE et295 t274 rfl n295)
  have t299 : τ295 q13 = 43 := (th_tkE et295 t275 rfl n295)
  have t300 : τ295 q19 = 44 := (th_tkE et295 t276 rfl n295)
  have t301 : τ295 q27 = 45 := (th_tkE et295 t277 rfl n295)
  have t302 : τ295 q37 = 46 := (th_tkE et295 t278 rfl n295)
  have t303 : τ295 q48 = 47 := (th_tkE et295 t279 rfl n295)
  have t304 : τ295 q60 = 48 := (th_tkE et295 t280 rfl n295)
  have t305 : τ295 q73 = 49 := (th_tkE et295 t281 rfl n295)
  have t306 : τ295 q87 = 50 := (th_tkE et295 t282 rfl n295)
  have t307 : τ295 q102 = 51 := (th_tkE et295 t283 rfl n295)
  have t308 : τ295 q120 = 52 := (th_tkE et295 t284 rfl n295)
  have t309 : τ295 q186 = 53 := (th_tkE et295 t285 rfl n295)
  have t310 : τ295 q271 = 54 := (th_tkE et295 tn271 rfl n295)
  have z311 : τ295 h0 = 0 := (th_tzE et295 z286 (Nat.ne_of_lt (th_ltE s295 lt295_h0)))
  have tn295 : τ295 q295 = 55 := th_upS et295
  have e312 : (-1) = gi295 q120 ((7 : Int32).toNatClampNeg) := by rw [og295 q120 (th_neE t308 tn295 rfl)]; exact e287
  have e313 : (-1) = gi295 q186 ((7 : Int32).toNatClampNeg) := by rw [og295 q186 (th_neE t309 tn295 rfl)]; exact e288
  have zr314 : gi295 q19 = (fun _ => 0) := (og295 q19 (th_neE t300 tn295 rfl)).trans zr289
  have zr315 : gi295 q27 = (fun _ => 0) := (og295 q27 (th_neE t301 tn295 rfl)).trans zr290
  have zr316 : gi295 q102 = (fun _ => 0) := (og295 q102 (th_neE t307 tn295 rfl)).trans zr291
  have zr317 : gi295 q120 = (upd (upd (upd (upd (upd (upd (upd (upd (fun _ => 0) (0 : Int32).toNatClampNeg 0) (1 : Int32).toNatClampNeg 1) (2 : Int32).toNatClampNeg 1) (3 : Int32).toNatClampNeg 1) (4 : Int32).toNatClampNeg 0) (5 : Int32).toNatClampNeg (-1)) (6 : Int32).toNatClampNeg (-1)) (7 : Int32).toNatClampNeg (-1)) := (og295 q120 (th_neE t308 tn295 rfl)).trans zr292
  have zr318 : gi295 q186 = (upd (upd (upd (upd (upd (upd (upd (upd (fun _ => 0) (0 : Int32).toNatClampNeg (-1)) (1 : Int32).toNatClampNeg (-1)) (2 : Int32).toNatClampNeg 0) (3 : Int32).toNatClampNeg 1) (4 : Int32).toNatClampNeg 1) (5 : Int32).toNatClampNeg 1) (6 : Int32).toNatClampNeg 0) (7 : Int32).toNatClampNeg (-1)) := (og295 q186 (th_neE t309 tn295 rfl)).trans zr293
  have zr319 : gi295 q295 = (fun _ => 0) := th_upS eg295
  refine W.widen (k := 16) (n := 214) (Nat.le_of_ble_eq_true rfl) (Nat.le_of_ble_eq_true rfl) ?_
  refine th_rputF (ci := 11) (v := .ref q295) (T := TX12) (C := RX12) (N := 38) (ty := (.array .int)) hx hb hts (fun w h => List.mem_cons_of_mem _ (List.mem_append_right _ h)) tyX12 tyX12_ok nmX12 hown hK hH hS z311 (Or.inl rfl) hR_h0 rfl 19 (by decide) (hts (.fieldLink RX12 59 "BayMooringsModel" "refused" "[I") (List.mem_cons_of_mem _ (List.mem_append_left _ (List.mem_append_left _ (List.mem_of_getElem? (i := 20) rfl))))) (fun _ h9 => h9) rfl hin rfl (by decide +kernel) rfl rfl (Nat.le_of_ble_eq_true rfl) dX12_init_204 (fun H locs hR_h0 hH hS y320 o320 => ?_)
  have hR_h0 : va_P D vwCl [(h0, .inr (11, [.int 0, .ref q1, .ref q4, .ref q8, .ref q13, .ref q19, .ref q27, .ref q37, .int 0, .ref q48, .ref q60, .ref q73, .ref q87, .ref q102, .int 255, .ref q120, .ref q186, .int 0, .ref q271, .ref q295, .int 0, .null, .null, .int 0, .int 0, .null, .null, .int 0, .null, .null, .null, .null, .null, .int 0, .null, .null, .null, .null]))] H := hR_h0
  refine lv_aload_n hx hb dX12_init_207 rfl (lv_at hl 0 rfl) ?_
  refine lv_iconst (v := 1) hx hb dX12_init_208 ic_1 ?_
  refine th_rput (ci := 11) (v := .int 1) (T := TX12) (C := RX12) (N := 38) (ty := .int) hx hb hts (fun w h => List.mem_cons_of_mem _ (List.mem_append_right _ h)) tyX12 tyX12_ok nmX12 hown hK hH hS z311 (Or.inl rfl) hR_h0 rfl 20 (by decide) (hts (.fieldLink RX12 62 "BayMooringsModel" "stays" "I") (List.mem_cons_of_mem _ (List.mem_append_left _ (List.mem_append_left _ (List.mem_of_getElem? (i := 21) rfl))))) (fun _ h9 => h9) rfl (by decide +kernel) rfl rfl (Nat.le_of_ble_eq_true rfl) dX12_init_209 (fun H locs hR_h0 hH hS y321 o321 => ?_)
  have hR_h0 : va_P D vwCl [(h0, .inr (11, [.int 0, .ref q1, .ref q4, .ref q8, .ref q13, .ref q19, .ref q27, .ref q37, .int 0, .ref q48, .ref q60, .ref q73, .ref q87, .ref q102, .int 255, .ref q120, .ref q186, .int 0, .ref q271, .ref q295, .int 1, .null, .null, .int 0, .int 0, .null, .null, .int 0, .null, .null, .null, .null, .null, .int 0, .null, .null, .null, .null]))] H := hR_h0
  refine lv_aload_n hx hb dX12_init_212 rfl (lv_at hl 0 rfl) ?_
  refine lv_bipush (v := 16) hx hb dX12_init_213 bp_16 ?_
  have hle322 := hS.1
  have lt322_h0 := (hR_h0 0 _ rfl).lt
  refine th_newI (atype := .int) (cI := cA 0) (N' := 16) hx hb (hts (.arrayClass .int) (List.mem_cons_of_mem _ (List.mem_append_left _ (List.mem_append_left _ (List.mem_of_getElem? (i := 3) rfl))))) hK 0 rfl (fun h => h) hH hS hA 56 (by decide) (by decide) (by decide) (Nat.le_of_ble_eq_true rfl) (Nat.le_of_ble_eq_true rfl) rfl (fun _ => rfl) (fun _ _ => (fun _ _ => (show rg 0 4 (0 : Int32) from ⟨by decide, by decide⟩))) dX12_init_215 (fun q322 H s322 y322 n322 o322 hH hS => ?_)
  have le322 : s.heap.size ≤ q322 := th_leE s322 hle322
  have hR_h0 := th_P1 hR_h0 (o322 _ (th_ltE s322 lt322_h0))
  obtain ⟨τ322, et322⟩ : ∃ t, t = va_up τ295 q322 56 := ⟨_, rfl⟩
  have zz322 := hE.z n322
  obtain ⟨gi322, eg322⟩ : ∃ g, g = va_up gi295 q322 (fun _ => 0) := ⟨_, rfl⟩
  have hE := hE.add (k0 := 56) (f := (fun _ => 0)) (r := gr q322) n322 (Or.inr le322)
  rw [th_upid gr q322, ← et322, ← eg322] at hE
  rw [← et322, ← eg322] at hH
  have og322 : ∀ b, b ≠ q322 → gi322 b = gi295 b := th_upO eg322
  have t323 : τ322 q1 = 40 := (th_tkE et322 t296 rfl n322)
  have t324 : τ322 q4 = 41 := (th_tkE et322 t297 rfl n322)
  have t325 : τ322 q8 = 42 := (th_tkE et322 t298 rfl n322)
  have t326 : τ322 q13 = 43 := (th_tkE et322 t299 rfl n322)
  have t327 : τ322 q19 = 44 := (th_tkE et322 t300 rfl n322)
  have t328 : τ322 q27 = 45 := (th_tkE et322 t301 rfl n322)
  have t329 : τ322 q37 = 46 := (th_tkE et322 t302 rfl n322)
  have t330 : τ322 q48 = 47 := (th_tkE et322 t303 rfl n322)
  have t331 : τ322 q60 = 48 := (th_tkE et322 t304 rfl n322)
  have t332 : τ322 q73 = 49 := (th_tkE et322 t305 rfl n322)
  have t333 : τ322 q87 = 50 := (th_tkE et322 t306 rfl n322)
  have t334 : τ322 q102 = 51 := (th_tkE et322 t307 rfl n322)
  have t335 : τ322 q120 = 52 := (th_tkE et322 t308 rfl n322)
  have t336 : τ322 q186 = 53 := (th_tkE et322 t309 rfl n322)
  have t337 : τ322 q271 = 54 := (th_tkE et322 t310 rfl n322)
  have t338 : τ322 q295 = 55 := (th_tkE et322 tn295 rfl n322)
  have z339 : τ322 h0 = 0 := (th_tzE et322 z311 (Nat.ne_of_lt (th_ltE s322 lt322_h0)))
  have tn322 : τ322 q322 = 56 := th_upS et322
  have e340 : (-1) = gi322 q120 ((7 : Int32).toNatClampNeg) := by rw [og322 q120 (th_neE t335 tn322 rfl)]; exact e312
  have e341 : (-1) = gi322 q186 ((7 : Int32).toNatClampNeg) := by rw [og322 q186 (th_neE t336 tn322 rfl)]; exact e313
  have zr342 : gi322 q19 = (fun _ => 0) := (og322 q19 (th_neE t327 tn322 rfl)).trans zr314
  have zr343 : gi322 q27 = (fun _ => 0) := (og322 q27 (th_neE t328 tn322 rfl)).trans zr315
  have zr344 : gi322 q102 = (fun _ => 0) := (og322 q102 (th_neE t334 tn322 rfl)).trans zr316
  have zr345 : gi322 q120 = (upd (upd (upd (upd (upd (upd (upd (upd (fun _ => 0) (0 : Int32).toNatClampNeg 0) (1 : Int32).toNatClampNeg 1) (2 : Int32).toNatClampNeg 1) (3 : Int32).toNatClampNeg 1) (4 : Int32).toNatClampNeg 0) (5 : Int32).toNatClampNeg (-1)) (6 : Int32).toNatClampNeg (-1)) (7 : Int32).toNatClampNeg (-1)) := (og322 q120 (th_neE t335 tn322 rfl)).trans zr317
  have zr346 : gi322 q186 = (upd (upd (upd (upd (upd (upd (upd (upd (fun _ => 0) (0 : Int32).toNatClampNeg (-1)) (1 : Int32).toNatClampNeg (-1)) (2 : Int32).toNatClampNeg 0) (3 : Int32).toNatClampNeg 1) (4 : Int32).toNatClampNeg 1) (5 : Int32).toNatClampNeg 1) (6 : Int32).toNatClampNeg 0) (7 : Int32).toNatClampNeg (-1)) := (og322 q186 (th_neE t336 tn322 rfl)).trans zr318
  have zr347 : gi322 q295 = (fun _ => 0) := (og322 q295 (th_neE t338 tn322 rfl)).trans zr319
  have zr348 : gi322 q322 = (fun _ => 0) := th_upS eg322
  refine W.widen (k := 17) (n := 230) (Nat.le_of_ble_eq_true rfl) (Nat.le_of_ble_eq_true rfl) ?_
  refine th_rputF (ci := 11) (v := .ref q322) (T := TX12) (C := RX12) (N := 38) (ty := (.array .int)) hx hb hts (fun w h => List.mem_cons_of_mem _ (List.mem_append_right _ h)) tyX12 tyX12_ok nmX12 hown hK hH hS z339 (Or.inl rfl) hR_h0 rfl 21 (by decide) (hts (.fieldLink RX12 65 "BayMooringsModel" "rathers" "[I") (List.mem_cons_of_mem _ (List.mem_append_left _ (List.mem_append_left _ (List.mem_of_getElem? (i := 22) rfl))))) (fun _ h9 => h9) rfl hin rfl (by decide +kernel) rfl rfl (Nat.le_of_ble_eq_true rfl) dX12_init_217 (fun H locs hR_h0 hH hS y349 o349 => ?_)
  have hR_h0 : va_P D vwCl [(h0, .inr (11, [.int 0, .ref q1, .ref q4, .ref q8, .ref q13, .ref q19, .ref q27, .ref q37, .int 0, .ref q48, .ref q60, .ref q73, .ref q87, .ref q102, .int 255, .ref q120, .ref q186, .int 0, .ref q271, .ref q295, .int 1, .ref q322, .null, .int 0, .int 0, .null, .null, .int 0, .null, .null, .null, .null, .null, .int 0, .null, .null, .null, .null]))] H := hR_h0
  refine lv_aload_n hx hb dX12_init_220 rfl (lv_at hl 0 rfl) ?_
  refine lv_bipush (v := 64) hx hb dX12_init_221 bp_64 ?_
  have hle350 := hS.1
  have lt350_h0 := (hR_h0 0 _ rfl).lt
  refine th_newI (atype := .int) (cI := cA 0) (N' := 64) hx hb (hts (.arrayClass .int) (List.mem_cons_of_mem _ (List.mem_append_left _ (List.mem_append_left _ (List.mem_of_getElem? (i := 3) rfl))))) hK 0 rfl (fun h => h) hH hS hA 57 (by decide) (by decide) (by decide) (Nat.le_of_ble_eq_true rfl) (Nat.le_of_ble_eq_true rfl) rfl (fun _ => rfl) (fun _ _ => (fun _ _ => (show rg 0 11 (0 : Int32) from ⟨by decide, by decide⟩))) dX12_init_223 (fun q350 H s350 y350 n350 o350 hH hS => ?_)
  have le350 : s.heap.size ≤ q350 := th_leE s350 hle350
  have hR_h0 := th_P1 hR_h0 (o350 _ (th_ltE s350 lt350_h0))
  obtain ⟨τ350, et350⟩ : ∃ t, t = va_up τ322 q350 57 := ⟨_, rfl⟩
  have zz350 := hE.z n350
  obtain ⟨gi350, eg350⟩ : ∃ g, g = va_up gi322 q350 (fun _ => 0) := ⟨_, rfl⟩
  have hE := hE.add (k0 := 57) (f := (fun _ => 0)) (r := gr q350) n350 (Or.inr le350)
  rw [th_upid gr q350, ← et350, ← eg350] at hE
  rw [← et350, ← eg350] at hH
  have og350 : ∀ b, b ≠ q350 → gi350 b = gi322 b := th_upO eg350
  have t351 : τ350 q1 = 40 := (th_tkE et350 t323 rfl n350)
  have t352 : τ350 q4 = 41 := (th_tkE et350 t324 rfl n350)
  have t353 : τ350 q8 = 42 := (th_tkE et350 t325 rfl n350)
  have t354 : τ350 q13 = 43 := (th_tkE et350 t326 rfl n350)
  have t355 : τ350 q19 = 44 := (th_tkE et350 t327 rfl n350)
  have t356 : τ350 q27 = 45 := (th_tkE et350 t328 rfl n350)
  have t357 : τ350 q37 = 46 := (th_tkE et350 t329 rfl n350)
  have t358 : τ350 q48 = 47 := (th_tkE et350 t330 rfl n350)
  have t359 : τ350 q60 = 48 := (th_tkE et350 t331 rfl n350)
  have t360 : τ350 q73 = 49 := (th_tkE et350 t332 rfl n350)
  have t361 : τ350 q87 = 50 := (th_tkE et350 t333 rfl n350)
  have t362 : τ350 q102 = 51 := (th_tkE et350 t334 rfl n350)
  have t363 : τ350 q120 = 52 := (th_tkE et350 t335 rfl n350)
  have t364 : τ350 q186 = 53 := (th_tkE et350 t336 rfl n350)
  have t365 : τ350 q271 = 54 := (th_tkE et350 t337 rfl n350)
  have t366 : τ350 q295 = 55 := (th_tkE et350 t338 rfl n350)
  have t367 : τ350 q322 = 56 := (th_tkE et350 tn322 rfl n350)
  have z368 : τ350 h0 = 0 := (th_tzE et350 z339 (Nat.ne_of_lt (th_ltE s350 lt350_h0)))
  have tn350 : τ350 q350 = 57 := th_upS et350
  have e369 : (-1) = gi350 q120 ((7 : Int32).toNatClampNeg) := by rw [og350 q120 (th_neE t363 tn350 rfl)]; exact e340
  have e370 : (-1) = gi350 q186 ((7 : Int32).toNatClampNeg) := by rw [og350 q186 (th_neE t364 tn350 rfl)]; exact e341
  have zr371 : gi350 q19 = (fun _ => 0) := (og350 q19 (th_neE t355 tn350 rfl)).trans zr342
  have zr372 : gi350 q27 = (fun _ => 0) := (og350 q27 (th_neE t356 tn350 rfl)).trans zr343
  have zr373 : gi350 q102 = (fun _ => 0) := (og350 q102 (th_neE t362 tn350 rfl)).trans zr344
  have zr374 : gi350 q120 = (upd (upd (upd (upd (upd (upd (upd (upd (fun _ => 0) (0 : Int32).toNatClampNeg 0) (1 : Int32).toNatClampNeg 1) (2 : Int32).toNatClampNeg 1) (3 : Int32).toNatClampNeg 1) (4 : Int32).toNatClampNeg 0) (5 : Int32).toNatClampNeg (-1)) (6 : Int32).toNatClampNeg (-1)) (7 : Int32).toNatClampNeg (-1)) := (og350 q120 (th_neE t363 tn350 rfl)).trans zr345
  have zr375 : gi350 q186 = (upd (upd (upd (upd (upd (upd (upd (upd (fun _ => 0) (0 : Int32).toNatClampNeg (-1)) (1 : Int32).toNatClampNeg (-1)) (2 : Int32).toNatClampNeg 0) (3 : Int32).toNatClampNeg 1) (4 : Int32).toNatClampNeg 1) (5 : Int32).toNatClampNeg 1) (6 : Int32).toNatClampNeg 0) (7 : Int32).toNatClampNeg (-1)) := (og350 q186 (th_neE t364 tn350 rfl)).trans zr346
  have zr376 : gi350 q295 = (fun _ => 0) := (og350 q295 (th_neE t366 tn350 rfl)).trans zr347
  have zr377 : gi350 q322 = (fun _ => 0) := (og350 q322 (th_neE t367 tn350 rfl)).trans zr348
  refine W.widen (k := 18) (n := 294) (Nat.le_of_ble_eq_true rfl) (Nat.le_of_ble_eq_true rfl) ?_
  refine th_rputF (ci := 11) (v := .ref q350) (T := TX12) (C := RX12) (N := 38) (ty := (.array .int)) hx hb hts (fun w h => List.mem_cons_of_mem _ (List.mem_append_right _ h)) tyX12 tyX12_ok nmX12 hown hK hH hS z368 (Or.inl rfl) hR_h0 rfl 22 (by decide) (hts (.fieldLink RX12 68 "BayMooringsModel" "rather" "[I") (List.mem_cons_of_mem _ (List.mem_append_left _ (List.mem_append_left _ (List.mem_of_getElem? (i := 23) rfl))))) (fun _ h9 => h9) rfl hin rfl (by decide +kernel) rfl rfl (Nat.le_of_ble_eq_true rfl) dX12_init_225 (fun H locs hR_h0 hH hS y378 o378 => ?_)
  have hR_h0 : va_P D vwCl [(h0, .inr (11, [.int 0, .ref q1, .ref q4, .ref q8, .ref q13, .ref q19, .ref q27, .ref q37, .int 0, .ref q48, .ref q60, .ref q73, .ref q87, .ref q102, .int 255, .ref q120, .ref q186, .int 0, .ref q271, .ref q295, .int 1, .ref q322, .ref q350, .int 0, .int 0, .null, .null, .int 0, .null, .null, .null, .null, .null, .int 0, .null, .null, .null, .null]))] H := hR_h0
  refine lv_aload_n hx hb dX12_init_228 rfl (lv_at hl 0 rfl) ?_
  refine lv_iconst (v := 3) hx hb dX12_init_229 ic_3 ?_
  refine th_rput (ci := 11) (v := .int 3) (T := TX12) (C := RX12) (N := 38) (ty := .int) hx hb hts (fun w h => List.mem_cons_of_mem _ (List.mem_append_right _ h)) tyX12 tyX12_ok nmX12 hown hK hH hS z368 (Or.inl rfl) hR_h0 rfl 23 (by decide) (hts (.fieldLink RX12 71 "BayMooringsModel" "rate" "I") (List.mem_cons_of_mem _ (List.mem_append_left _ (List.mem_append_right _ (List.mem_of_getElem? (i := 0) rfl))))) (fun _ h9 => h9) rfl (by decide +kernel) rfl rfl (Nat.le_of_ble_eq_true rfl) dX12_init_230 (fun H locs hR_h0 hH hS y379 o379 => ?_)
  have hR_h0 : va_P D vwCl [(h0, .inr (11, [.int 0, .ref q1, .ref q4, .ref q8, .ref q13, .ref q19, .ref q27, .ref q37, .int 0, .ref q48, .ref q60, .ref q73, .ref q87, .ref q102, .int 255, .ref q120, .ref q186, .int 0, .ref q271, .ref q295, .int 1, .ref q322, .ref q350, .int 3, .int 0, .null, .null, .int 0, .null, .null, .null, .null, .null, .int 0, .null, .null, .null, .null]))] H := hR_h0
  refine lv_aload_n hx hb dX12_init_233 rfl (lv_at hl 0 rfl) ?_
  refine lv_bipush (v := 24) hx hb dX12_init_234 bp_24 ?_
  have hle380 := hS.1
  have lt380_h0 := (hR_h0 0 _ rfl).lt
  refine th_newI (atype := .int) (cI := cA 0) (N' := 24) hx hb (hts (.arrayClass .int) (List.mem_cons_of_mem _ (List.mem_append_left _ (List.mem_append_left _ (List.mem_of_getElem? (i := 3) rfl))))) hK 0 rfl (fun h => h) hH hS hA 58 (by decide) (by decide) (by decide) (Nat.le_of_ble_eq_true rfl) (Nat.le_of_ble_eq_true rfl) rfl (fun _ => rfl) (fun _ _ => trivial) dX12_init_236 (fun q380 H s380 y380 n380 o380 hH hS => ?_)
  have le380 : s.heap.size ≤ q380 := th_leE s380 hle380
  have hR_h0 := th_P1 hR_h0 (o380 _ (th_ltE s380 lt380_h0))
  obtain ⟨τ380, et380⟩ : ∃ t, t = va_up τ350 q380 58 := ⟨_, rfl⟩
  have zz380 := hE.z n380
  obtain ⟨gi380, eg380⟩ : ∃ g, g = va_up gi350 q380 (fun _ => 0) := ⟨_, rfl⟩
  have hE := hE.add (k0 := 58) (f := (fun _ => 0)) (r := gr q380) n380 (Or.inr le380)
  rw [th_upid gr q380, ← et380, ← eg380] at hE
  rw [← et380, ← eg380] at hH
  have og380 : ∀ b, b ≠ q380 → gi380 b = gi350 b := th_upO eg380
  have t381 : τ380 q1 = 40 := (th_tkE et380 t351 rfl n380)
  have t382 : τ380 q4 = 41 := (th_tkE et380 t352 rfl n380)
  have t383 : τ380 q8 = 42 := (th_tkE et380 t353 rfl n380)
  have t384 : τ380 q13 = 43 := (th_tkE et380 t354 rfl n380)
  have t385 : τ380 q19 = 44 := (th_tkE et380 t355 rfl n380)
  have t386 : τ380 q27 = 45 := (th_tkE et380 t356 rfl n380)
  have t387 : τ380 q37 = 46 := (th_tkE et380 t357 rfl n380)
  have t388 : τ380 q48 = 47 := (th_tkE et380 t358 rfl n380)
  have t389 : τ380 q60 = 48 := (th_tkE et380 t359 rfl n380)
  have t390 : τ380 q73 = 49 := (th_tkE et380 t360 rfl n380)
  have t391 : τ380 q87 = 50 := (th_tkE et380 t361 rfl n380)
  have t392 : τ380 q102 = 51 := (th_tkE et380 t362 rfl n380)
  have t393 : τ380 q120 = 52 := (th_tkE et380 t363 rfl n380)
  have t394 : τ380 q186 = 53 := (th_tkE et380 t364 rfl n380)
  have t395 : τ380 q271 = 54 := (th_tkE et380 t365 rfl n380)
  have t396 : τ380 q295 = 55 := (th_tkE et380 t366 rfl n380)
  have t397 : τ380 q322 = 56 := (th_tkE et380 t367 rfl n380)
  have t398 : τ380 q350 = 57 := (th_tkE et380 tn350 rfl n380)
  have z399 : τ380 h0 = 0 := (th_tzE et380 z368 (Nat.ne_of_lt (th_ltE s380 lt380_h0)))
  have tn380 : τ380 q380 = 58 := th_upS et380
  have e400 : (-1) = gi380 q120 ((7 : Int32).toNatClampNeg) := by rw [og380 q120 (th_neE t393 tn380 rfl)]; exact e369
  have e401 : (-1) = gi380 q186 ((7 : Int32).toNatClampNeg) := by rw [og380 q186 (th_neE t394 tn380 rfl)]; exact e370
  have zr402 : gi380 q19 = (fun _ => 0) := (og380 q19 (th_neE t385 tn380 rfl)).trans zr371
  have zr403 : gi380 q27 = (fun _ => 0) := (og380 q27 (th_neE t386 tn380 rfl)).trans zr372
  have zr404 : gi380 q102 = (fun _ => 0) := (og380 q102 (th_neE t392 tn380 rfl)).trans zr373
  have zr405 : gi380 q120 = (upd (upd (upd (upd (upd (upd (upd (upd (fun _ => 0) (0 : Int32).toNatClampNeg 0) (1 : Int32).toNatClampNeg 1) (2 : Int32).toNatClampNeg 1) (3 : Int32).toNatClampNeg 1) (4 : Int32).toNatClampNeg 0) (5 : Int32).toNatClampNeg (-1)) (6 : Int32).toNatClampNeg (-1)) (7 : Int32).toNatClampNeg (-1)) := (og380 q120 (th_neE t393 tn380 rfl)).trans zr374
  have zr406 : gi380 q186 = (upd (upd (upd (upd (upd (upd (upd (upd (fun _ => 0) (0 : Int32).toNatClampNeg (-1)) (1 : Int32).toNatClampNeg (-1)) (2 : Int32).toNatClampNeg 0) (3 : Int32).toNatClampNeg 1) (4 : Int32).toNatClampNeg 1) (5 : Int32).toNatClampNeg 1) (6 : Int32).toNatClampNeg 0) (7 : Int32).toNatClampNeg (-1)) := (og380 q186 (th_neE t394 tn380 rfl)).trans zr375
  have zr407 : gi380 q295 = (fun _ => 0) := (og380 q295 (th_neE t396 tn380 rfl)).trans zr376
  have zr408 : gi380 q322 = (fun _ => 0) := (og380 q322 (th_neE t397 tn380 rfl)).trans zr377
  refine W.widen (k := 19) (n := 318) (Nat.le_of_ble_eq_true rfl) (Nat.le_of_ble_eq_true rfl) ?_
  refine th_rputF (ci := 11) (v := .ref q380) (T := TX12) (C := RX12) (N := 38) (ty := (.array .int)) hx hb hts (fun w h => List.mem_cons_of_mem _ (List.mem_append_right _ h)) tyX12 tyX12_ok nmX12 hown hK hH hS z399 (Or.inl rfl) hR_h0 rfl 25 (by decide) (hts (.fieldLink RX12 74 "BayMooringsModel" "told" "[I") (List.mem_cons_of_mem _ (List.mem_append_left _ (List.mem_append_right _ (List.mem_of_getElem? (i := 1) rfl))))) (fun _ h9 => h9) rfl hin rfl (by decide +kernel) rfl rfl (Nat.le_of_ble_eq_true rfl) dX12_init_238 (fun H locs hR_h0 hH hS y409 o409 => ?_)
  have hR_h0 : va_P D vwCl [(h0, .inr (11, [.int 0, .ref q1, .ref q4, .ref q8, .ref q13, .ref q19, .ref q27, .ref q37, .int 0, .ref q48, .ref q60, .ref q73, .ref q87, .ref q102, .int 255, .ref q120, .ref q186, .int 0, .ref q271, .ref q295, .int 1, .ref q322, .ref q350, .int 3, .int 0, .ref q380, .null, .int 0, .null, .null, .null, .null, .null, .int 0, .null, .null, .null, .null]))] H := hR_h0
  refine lv_aload_n hx hb dX12_init_241 rfl (lv_at hl 0 rfl) ?_
  refine lv_bipush (v := 6) hx hb dX12_init_242 bp_6 ?_
  have hle410 := hS.1
  have lt410_h0 := (hR_h0 0 _ rfl).lt
  refine th_newI (atype := .int) (cI := cA 0) (N' := 6) hx hb (hts (.arrayClass .int) (List.mem_cons_of_mem _ (List.mem_append_left _ (List.mem_append_left _ (List.mem_of_getElem? (i := 3) rfl))))) hK 0 rfl (fun h => h) hH hS hA 59 (by decide) (by decide) (by decide) (Nat.le_of_ble_eq_true rfl) (Nat.le_of_ble_eq_true rfl) rfl (fun _ => rfl) (fun _ _ => trivial) dX12_init_244 (fun q410 H s410 y410 n410 o410 hH hS => ?_)
  have le410 : s.heap.size ≤ q410 := th_leE s410 hle410
  have hR_h0 := th_P1 hR_h0 (o410 _ (th_ltE s410 lt410_h0))
  obtain ⟨τ410, et410⟩ : ∃ t, t = va_up τ380 q410 59 := ⟨_, rfl⟩
  have zz410 := hE.z n410
  obtain ⟨gi410, eg410⟩ : ∃ g, g = va_up gi380 q410 (fun _ => 0) := ⟨_, rfl⟩
  have hE := hE.add (k0 := 59) (f := (fun _ => 0)) (r := gr q410) n410 (Or.inr le410)
  rw [th_upid gr q410, ← et410, ← eg410] at hE
  rw [← et410, ← eg410] at hH
  have og410 : ∀ b, b ≠ q410 → gi410 b = gi380 b := th_upO eg410
  have t411 : τ410 q1 = 40 := (th_tkE et410 t381 rfl n410)
  have t412 : τ410 q4 = 41 := (th_tkE et410 t382 rfl n410)
  have t413 : τ410 q8 = 42 := (th_tkE et410 t383 rfl n410)
  have t414 : τ410 q13 = 43 := (th_tkE et410 t384 rfl n410)
  have t415 : τ410 q19 = 44 := (th_tkE et410 t385 rfl n410)
  have t416 : τ410 q27 = 45 := (th_tkE et410 t386 rfl n410)
  have t417 : τ410 q37 = 46 := (th_tkE et410 t387 rfl n410)
  have t418 : τ410 q48 = 47 := (th_tkE et410 t388 rfl n410)
  have t419 : τ410 q60 = 48 := (th_tkE et410 t389 rfl n410)
  have t420 : τ410 q73 = 49 := (th_tkE et410 t390 rfl n410)
  have t421 : τ410 q87 = 50 := (th_tkE et410 t391 rfl n410)
  have t422 : τ410 q102 = 51 := (th_tkE et410 t392 rfl n410)
  have t423 : τ410 q120 = 52 := (th_tkE et410 t393 rfl n410)
  have t424 : τ410 q186 = 53 := (th_tkE et410 t394 rfl n410)
  have t425 : τ410 q271 = 54 := (th_tkE et410 t395 rfl n410)
  have t426 : τ410 q295 = 55 := (th_tkE et410 t396 rfl n410)
  have t427 : τ410 q322 = 56 := (th_tkE et410 t397 rfl n410)
  have t428 : τ410 q350 = 57 := (th_tkE et410 t398 rfl n410)
  have t429 : τ410 q380 = 58 := (th_tkE et410 tn380 rfl n410)
  have z430 : τ410 h0 = 0 := (th_tzE et410 z399 (Nat.ne_of_lt (th_ltE s410 lt410_h0)))
  have tn410 : τ410 q410 = 59 := th_upS et410
  have e431 : (-1) = gi410 q120 ((7 : Int32).toNatClampNeg) := by rw [og410 q120 (th_neE t423 tn410 rfl)]; exact e400
  have e432 : (-1) = gi410 q186 ((7 : Int32).toNatClampNeg) := by rw [og410 q186 (th_neE t424 tn410 rfl)]; exact e401
  have zr433 : gi410 q19 = (fun _ => 0) := (og410 q19 (th_neE t415 tn410 rfl)).trans zr402
  have zr434 : gi410 q27 = (fun _ => 0) := (og410 q27 (th_neE t416 tn410 rfl)).trans zr403
  have zr435 : gi410 q102 = (fun _ => 0) := (og410 q102 (th_neE t422 tn410 rfl)).trans zr404
  have zr436 : gi410 q120 = (upd (upd (upd (upd (upd (upd (upd (upd (fun _ => 0) (0 : Int32).toNatClampNeg 0) (1 : Int32).toNatClampNeg 1) (2 : Int32).toNatClampNeg 1) (3 : Int32).toNatClampNeg 1) (4 : Int32).toNatClampNeg 0) (5 : Int32).toNatClampNeg (-1)) (6 : Int32).toNatClampNeg (-1)) (7 : Int32).toNatClampNeg (-1)) := (og410 q120 (th_neE t423 tn410 rfl)).trans zr405
  have zr437 : gi410 q186 = (upd (upd (upd (upd (upd (upd (upd (upd (fun _ => 0) (0 : Int32).toNatClampNeg (-1)) (1 : Int32).toNatClampNeg (-1)) (2 : Int32).toNatClampNeg 0) (3 : Int32).toNatClampNeg 1) (4 : Int32).toNatClampNeg 1) (5 : Int32).toNatClampNeg 1) (6 : Int32).toNatClampNeg 0) (7 : Int32).toNatClampNeg (-1)) := (og410 q186 (th_neE t424 tn410 rfl)).trans zr406
  have zr438 : gi410 q295 = (fun _ => 0) := (og410 q295 (th_neE t426 tn410 rfl)).trans zr407
  have zr439 : gi410 q322 = (fun _ => 0) := (og410 q322 (th_neE t427 tn410 rfl)).trans zr408
  have zr440 : gi410 q410 = (fun _ => 0) := th_upS eg410
  refine W.widen (k := 20) (n := 324) (Nat.le_of_ble_eq_true rfl) (Nat.le_of_ble_eq_true rfl) ?_
  refine th_rputF (ci := 11) (v := .ref q410) (T := TX12) (C := RX12) (N := 38) (ty := (.array .int)) hx hb hts (fun w h => List.mem_cons_of_mem _ (List.mem_append_right _ h)) tyX12 tyX12_ok nmX12 hown hK hH hS z430 (Or.inl rfl) hR_h0 rfl 26 (by decide) (hts (.fieldLink RX12 77 "BayMooringsModel" "findings" "[I") (List.mem_cons_of_mem _ (List.mem_append_left _ (List.mem_append_right _ (List.mem_of_getElem? (i := 2) rfl))))) (fun _ h9 => h9) rfl hin rfl (by decide +kernel) rfl rfl (Nat.le_of_ble_eq_true rfl) dX12_init_246 (fun H locs hR_h0 hH hS y441 o441 => ?_)
  have hR_h0 : va_P D vwCl [(h0, .inr (11, [.int 0, .ref q1, .ref q4, .ref q8, .ref q13, .ref q19, .ref q27, .ref q37, .int 0, .ref q48, .ref q60, .ref q73, .ref q87, .ref q102, .int 255, .ref q120, .ref q186, .int 0, .ref q271, .ref q295, .int 1, .ref q322, .ref q350, .int 3, .int 0, .ref q380, .ref q410, .int 0, .null, .null, .null, .null, .null, .int 0, .null, .null, .null, .null]))] H := hR_h0
  refine lv_aload_n hx hb dX12_init_249 rfl (lv_at hl 0 rfl) ?_
  refine lv_iconst (v := 5) hx hb dX12_init_250 ic_5 ?_
  have hle442 := hS.1
  have lt442_h0 := (hR_h0 0 _ rfl).lt
  refine th_newI (atype := .int) (cI := cA 0) (N' := 5) hx hb (hts (.arrayClass .int) (List.mem_cons_of_mem _ (List.mem_append_left _ (List.mem_append_left _ (List.mem_of_getElem? (i := 3) rfl))))) hK 0 rfl (fun h => h) hH hS hA 60 (by decide) (by decide) (by decide) (Nat.le_of_ble_eq_true rfl) (Nat.le_of_ble_eq_true rfl) rfl (fun _ => rfl) (fun _ _ => (fun _ _ => (show rg 0 15 (0 : Int32) from ⟨by decide, by decide⟩))) dX12_init_251 (fun q442 H s442 y442 n442 o442 hH hS => ?_)
  have le442 : s.heap.size ≤ q442 := th_leE s442 hle442
  have hR_h0 := th_P1 hR_h0 (o442 _ (th_ltE s442 lt442_h0))
  obtain ⟨τ442, et442⟩ : ∃ t, t = va_up τ410 q442 60 := ⟨_, rfl⟩
  have zz442 := hE.z n442
  obtain ⟨gi442, eg442⟩ : ∃ g, g = va_up gi410 q442 (fun _ => 0) := ⟨_, rfl⟩
  have hE := hE.add (k0 := 60) (f := (fun _ => 0)) (r := gr q442) n442 (Or.inr le442)
  rw [th_upid gr q442, ← et442, ← eg442] at hE
  rw [← et442, ← eg442] at hH
  have og442 : ∀ b, b ≠ q442 → gi442 b = gi410 b := th_upO eg442
  have t443 : τ442 q1 = 40 := (th_tkE et442 t411 rfl n442)
  have t444 : τ442 q4 = 41 := (th_tkE et442 t412 rfl n442)
  have t445 : τ442 q8 = 42 := (th_tkE et442 t413 rfl n442)
  have t446 : τ442 q13 = 43 := (th_tkE et442 t414 rfl n442)
  have t447 : τ442 q19 = 44 := (th_tkE et442 t415 rfl n442)
  have t448 : τ442 q27 = 45 := (th_tkE et442 t416 rfl n442)
  have t449 : τ442 q37 = 46 := (th_tkE et442 t417 rfl n442)
  have t450 : τ442 q48 = 47 := (th_tkE et442 t418 rfl n442)
  have t451 : τ442 q60 = 48 := (th_tkE et442 t419 rfl n442)
  have t452 : τ442 q73 = 49 := (th_tkE et442 t420 rfl n442)
  have t453 : τ442 q87 = 50 := (th_tkE et442 t421 rfl n442)
  have t454 : τ442 q102 = 51 := (th_tkE et442 t422 rfl n442)
  have t455 : τ442 q120 = 52 := (th_tkE et442 t423 rfl n442)
  have t456 : τ442 q186 = 53 := (th_tkE et442 t424 rfl n442)
  have t457 : τ442 q271 = 54 := (th_tkE et442 t425 rfl n442)
  have t458 : τ442 q295 = 55 := (th_tkE et442 t426 rfl n442)
  have t459 : τ442 q322 = 56 := (th_tkE et442 t427 rfl n442)
  have t460 : τ442 q350 = 57 := (th_tkE et442 t428 rfl n442)
  have t461 : τ442 q380 = 58 := (th_tkE et442 t429 rfl n442)
  have t462 : τ442 q410 = 59 := (th_tkE et442 tn410 rfl n442)
  have z463 : τ442 h0 = 0 := (th_tzE et442 z430 (Nat.ne_of_lt (th_ltE s442 lt442_h0)))
  have tn442 : τ442 q442 = 60 := th_upS et442
  have e464 : (-1) = gi442 q120 ((7 : Int32).toNatClampNeg) := by rw [og442 q120 (th_neE t455 tn442 rfl)]; exact e431
  have e465 : (-1) = gi442 q186 ((7 : Int32).toNatClampNeg) := by rw [og442 q186 (th_neE t456 tn442 rfl)]; exact e432
  have zr466 : gi442 q19 = (fun _ => 0) := (og442 q19 (th_neE t447 tn442 rfl)).trans zr433
  have zr467 : gi442 q27 = (fun _ => 0) := (og442 q27 (th_neE t448 tn442 rfl)).trans zr434
  have zr468 : gi442 q102 = (fun _ => 0) := (og442 q102 (th_neE t454 tn442 rfl)).trans zr435
  have zr469 : gi442 q120 = (upd (upd (upd (upd (upd (upd (upd (upd (fun _ => 0) (0 : Int32).toNatClampNeg 0) (1 : Int32).toNatClampNeg 1) (2 : Int32).toNatClampNeg 1) (3 : Int32).toNatClampNeg 1) (4 : Int32).toNatClampNeg 0) (5 : Int32).toNatClampNeg (-1)) (6 : Int32).toNatClampNeg (-1)) (7 : Int32).toNatClampNeg (-1)) := (og442 q120 (th_neE t455 tn442 rfl)).trans zr436
  have zr470 : gi442 q186 = (upd (upd (upd (upd (upd (upd (upd (upd (fun _ => 0) (0 : Int32).toNatClampNeg (-1)) (1 : Int32).toNatClampNeg (-1)) (2 : Int32).toNatClampNeg 0) (3 : Int32).toNatClampNeg 1) (4 : Int32).toNatClampNeg 1) (5 : Int32).toNatClampNeg 1) (6 : Int32).toNatClampNeg 0) (7 : Int32).toNatClampNeg (-1)) := (og442 q186 (th_neE t456 tn442 rfl)).trans zr437
  have zr471 : gi442 q295 = (fun _ => 0) := (og442 q295 (th_neE t458 tn442 rfl)).trans zr438
  have zr472 : gi442 q322 = (fun _ => 0) := (og442 q322 (th_neE t459 tn442 rfl)).trans zr439
  have zr473 : gi442 q410 = (fun _ => 0) := (og442 q410 (th_neE t462 tn442 rfl)).trans zr440
  refine W.widen (k := 21) (n := 329) (Nat.le_of_ble_eq_true rfl) (Nat.le_of_ble_eq_true rfl) ?_
  refine th_rputF (ci := 11) (v := .ref q442) (T := TX12) (C := RX12) (N := 38) (ty := (.array .int)) hx hb hts (fun w h => List.mem_cons_of_mem _ (List.mem_append_right _ h)) tyX12 tyX12_ok nmX12 hown hK hH hS z463 (Or.inl rfl) hR_h0 rfl 28 (by decide) (hts (.fieldLink RX12 80 "BayMooringsModel" "someOf" "[I") (List.mem_cons_of_mem _ (List.mem_append_left _ (List.mem_append_right _ (List.mem_of_getElem? (i := 3) rfl))))) (fun _ h9 => h9) rfl hin rfl (by decide +kernel) rfl rfl (Nat.le_of_ble_eq_true rfl) dX12_init_253 (fun H locs hR_h0 hH hS y474 o474 => ?_)
  have hR_h0 : va_P D vwCl [(h0, .inr (11, [.int 0, .ref q1, .ref q4, .ref q8, .ref q13, .ref q19, .ref q27, .ref q37, .int 0, .ref q48, .ref q60, .ref q73, .ref q87, .ref q102, .int 255, .ref q120, .ref q186, .int 0, .ref q271, .ref q295, .int 1, .ref q322, .ref q350, .int 3, .int 0, .ref q380, .ref q410, .int 0, .ref q442, .null, .null, .null, .null, .int 0, .null, .null, .null, .null]))] H := hR_h0
  refine lv_aload_n hx hb dX12_init_256 rfl (lv_at hl 0 rfl) ?_
  refine lv_iconst (v := 5) hx hb dX12_init_257 ic_5 ?_
  have hle475 := hS.1
  have lt475_h0 := (hR_h0 0 _ rfl).lt
  refine th_newI (atype := .int) (cI := cA 0) (N' := 5) hx hb (hts (.arrayClass .int) (List.mem_cons_of_mem _ (List.mem_append_left _ (List.mem_append_left _ (List.mem_of_getElem? (i := 3) rfl))))) hK 0 rfl (fun h => h) hH hS hA 61 (by decide) (by decide) (by decide) (Nat.le_of_ble_eq_true rfl) (Nat.le_of_ble_eq_true rfl) rfl (fun _ => rfl) (fun _ _ => trivial) dX12_init_258 (fun q475 H s475 y475 n475 o475 hH hS => ?_)
  have le475 : s.heap.size ≤ q475 := th_leE s475 hle475
  have hR_h0 := th_P1 hR_h0 (o475 _ (th_ltE s475 lt475_h0))
  obtain ⟨τ475, et475⟩ : ∃ t, t = va_up τ442 q475 61 := ⟨_, rfl⟩
  have zz475 := hE.z n475
  obtain ⟨gi475, eg475⟩ : ∃ g, g = va_up gi442 q475 (fun _ => 0) := ⟨_, rfl⟩
  have hE := hE.add (k0 := 61) (f := (fun _ => 0)) (r := gr q475) n475 (Or.inr le475)
  rw [th_upid gr q475, ← et475, ← eg475] at hE
  rw [← et475, ← eg475] at hH
  have og475 : ∀ b, b ≠ q475 → gi475 b = gi442 b := th_upO eg475
  have t476 : τ475 q1 = 40 := (th_tkE et475 t443 rfl n475)
  have t477 : τ475 q4 = 41 := (th_tkE et475 t444 rfl n475)
  have t478 : τ475 q8 = 42 := (th_tkE et475 t445 rfl n475)
  have t479 : τ475 q13 = 43 := (th_tkE et475 t446 rfl n475)
  have t480 : τ475 q19 = 44 := (th_tkE et475 t447 rfl n475)
  have t481 : τ475 q27 = 45 := (th_tkE et475 t448 rfl n475)
  have t482 : τ475 q37 = 46 := (th_tkE et475 t449 rfl n475)
  have t483 : τ475 q48 = 47 := (th_tkE et475 t450 rfl n475)
  have t484 : τ475 q60 = 48 := (th_tkE et475 t451 rfl n475)
  have t485 : τ475 q73 = 49 := (th_tkE et475 t452 rfl n475)
  have t486 : τ475 q87 = 50 := (th_tkE et475 t453 rfl n475)
  have t487 : τ475 q102 = 51 := (th_tkE et475 t454 rfl n475)
  have t488 : τ475 q120 = 52 := (th_tkE et475 t455 rfl n475)
  have t489 : τ475 q186 = 53 := (th_tkE et475 t456 rfl n475)
  have t490 : τ475 q271 = 54 := (th_tkE et475 t457 rfl n475)
  have t491 : τ475 q295 = 55 := (th_tkE et475 t458 rfl n475)
  have t492 : τ475 q322 = 56 := (th_tkE et475 t459 rfl n475)
  have t493 : τ475 q350 = 57 := (th_tkE et475 t460 rfl n475)
  have t494 : τ475 q380 = 58 := (th_tkE et475 t461 rfl n475)
  have t495 : τ475 q410 = 59 := (th_tkE et475 t462 rfl n475)
  have t496 : τ475 q442 = 60 := (th_tkE et475 tn442 rfl n475)
  have z497 : τ475 h0 = 0 := (th_tzE et475 z463 (Nat.ne_of_lt (th_ltE s475 lt475_h0)))
  have tn475 : τ475 q475 = 61 := th_upS et475
  have e498 : (-1) = gi475 q120 ((7 : Int32).toNatClampNeg) := by rw [og475 q120 (th_neE t488 tn475 rfl)]; exact e464
  have e499 : (-1) = gi475 q186 ((7 : Int32).toNatClampNeg) := by rw [og475 q186 (th_neE t489 tn475 rfl)]; exact e465
  have zr500 : gi475 q19 = (fun _ => 0) := (og475 q19 (th_neE t480 tn475 rfl)).trans zr466
  have zr501 : gi475 q27 = (fun _ => 0) := (og475 q27 (th_neE t481 tn475 rfl)).trans zr467
  have zr502 : gi475 q102 = (fun _ => 0) := (og475 q102 (th_neE t487 tn475 rfl)).trans zr468
  have zr503 : gi475 q120 = (upd (upd (upd (upd (upd (upd (upd (upd (fun _ => 0) (0 : Int32).toNatClampNeg 0) (1 : Int32).toNatClampNeg 1) (2 : Int32).toNatClampNeg 1) (3 : Int32).toNatClampNeg 1) (4 : Int32).toNatClampNeg 0) (5 : Int32).toNatClampNeg (-1)) (6 : Int32).toNatClampNeg (-1)) (7 : Int32).toNatClampNeg (-1)) := (og475 q120 (th_neE t488 tn475 rfl)).trans zr469
  have zr504 : gi475 q186 = (upd (upd (upd (upd (upd (upd (upd (upd (fun _ => 0) (0 : Int32).toNatClampNeg (-1)) (1 : Int32).toNatClampNeg (-1)) (2 : Int32).toNatClampNeg 0) (3 : Int32).toNatClampNeg 1) (4 : Int32).toNatClampNeg 1) (5 : Int32).toNatClampNeg 1) (6 : Int32).toNatClampNeg 0) (7 : Int32).toNatClampNeg (-1)) := (og475 q186 (th_neE t489 tn475 rfl)).trans zr470
  have zr505 : gi475 q295 = (fun _ => 0) := (og475 q295 (th_neE t491 tn475 rfl)).trans zr471
  have zr506 : gi475 q322 = (fun _ => 0) := (og475 q322 (th_neE t492 tn475 rfl)).trans zr472
  have zr507 : gi475 q410 = (fun _ => 0) := (og475 q410 (th_neE t495 tn475 rfl)).trans zr473
  refine W.widen (k := 22) (n := 334) (Nat.le_of_ble_eq_true rfl) (Nat.le_of_ble_eq_true rfl) ?_
  refine th_rputF (ci := 11) (v := .ref q475) (T := TX12) (C := RX12) (N := 38) (ty := (.array .int)) hx hb hts (fun w h => List.mem_cons_of_mem _ (List.mem_append_right _ h)) tyX12 tyX12_ok nmX12 hown hK hH hS z497 (Or.inl rfl) hR_h0 rfl 29 (by decide) (hts (.fieldLink RX12 83 "BayMooringsModel" "may" "[I") (List.mem_cons_of_mem _ (List.mem_append_left _ (List.mem_append_right _ (List.mem_of_getElem? (i := 4) rfl))))) (fun _ h9 => h9) rfl hin rfl (by decide +kernel) rfl rfl (Nat.le_of_ble_eq_true rfl) dX12_init_260 (fun H locs hR_h0 hH hS y508 o508 => ?_)
  have hR_h0 : va_P D vwCl [(h0, .inr (11, [.int 0, .ref q1, .ref q4, .ref q8, .ref q13, .ref q19, .ref q27, .ref q37, .int 0, .ref q48, .ref q60, .ref q73, .ref q87, .ref q102, .int 255, .ref q120, .ref q186, .int 0, .ref q271, .ref q295, .int 1, .ref q322, .ref q350, .int 3, .int 0, .ref q380, .ref q410, .int 0, .ref q442, .ref q475, .null, .null, .null, .int 0, .null, .null, .null, .null]))] H := hR_h0
  refine lv_aload_n hx hb dX12_init_263 rfl (lv_at hl 0 rfl) ?_
  refine lv_bipush (v := 6) hx hb dX12_init_264 bp_6 ?_
  have hle509 := hS.1
  have lt509_h0 := (hR_h0 0 _ rfl).lt
  refine th_newI (atype := .int) (cI := cA 0) (N' := 6) hx hb (hts (.arrayClass .int) (List.mem_cons_of_mem _ (List.mem_append_left _ (List.mem_append_left _ (List.mem_of_getElem? (i := 3) rfl))))) hK 0 rfl (fun h => h) hH hS hA 62 (by decide) (by decide) (by decide) (Nat.le_of_ble_eq_true rfl) (Nat.le_of_ble_eq_true rfl) rfl (fun _ => rfl) (fun _ _ => (fun _ _ => (show rg (-1) 13 (0 : Int32) from ⟨by decide, by decide⟩))) dX12_init_266 (fun q509 H s509 y509 n509 o509 hH hS => ?_)
  have le509 : s.heap.size ≤ q509 := th_leE s509 hle509
  have hR_h0 := th_P1 hR_h0 (o509 _ (th_ltE s509 lt509_h0))
  obtain ⟨τ509, et509⟩ : ∃ t, t = va_up τ475 q509 62 := ⟨_, rfl⟩
  have zz509 := hE.z n509
  obtain ⟨gi509, eg509⟩ : ∃ g, g = va_up gi475 q509 (fun _ => 0) := ⟨_, rfl⟩
  have hE := hE.add (k0 := 62) (f := (fun _ => 0)) (r := gr q509) n509 (Or.inr le509)
  rw [th_upid gr q509, ← et509, ← eg509] at hE
  rw [← et509, ← eg509] at hH
  have og509 : ∀ b, b ≠ q509 → gi509 b = gi475 b := th_upO eg509
  have t510 : τ509 q1 = 40 := (th_tkE et509 t476 rfl n509)
  have t511 : τ509 q4 = 41 := (th_tkE et509 t477 rfl n509)
  have t512 : τ509 q8 = 42 := (th_tkE et509 t478 rfl n509)
  have t513 : τ509 q13 = 43 := (th_tkE et509 t479 rfl n509)
  have t514 : τ509 q19 = 44 := (th_tkE et509 t480 rfl n509)
  have t515 : τ509 q27 = 45 := (th_tkE et509 t481 rfl n509)
  have t516 : τ509 q37 = 46 := (th_tkE et509 t482 rfl n509)
  have t517 : τ509 q48 = 47 := (th_tkE et509 t483 rfl n509)
  have t518 : τ509 q60 = 48 := (th_tkE et509 t484 rfl n509)
  have t519 : τ509 q73 = 49 := (th_tkE et509 t485 rfl n509)
  have t520 : τ509 q87 = 50 := (th_tkE et509 t486 rfl n509)
  have t521 : τ509 q102 = 51 := (th_tkE et509 t487 rfl n509)
  have t522 : τ509 q120 = 52 := (th_tkE et509 t488 rfl n509)
  have t523 : τ509 q186 = 53 := (th_tkE et509 t489 rfl n509)
  have t524 : τ509 q271 = 54 := (th_tkE et509 t490 rfl n509)
  have t525 : τ509 q295 = 55 := (th_tkE et509 t491 rfl n509)
  have t526 : τ509 q322 = 56 := (th_tkE et509 t492 rfl n509)
  have t527 : τ509 q350 = 57 := (th_tkE et509 t493 rfl n509)
  have t528 : τ509 q380 = 58 := (th_tkE et509 t494 rfl n509)
  have t529 : τ509 q410 = 59 := (th_tkE et509 t495 rfl n509)
  have t530 : τ509 q442 = 60 := (th_tkE et509 t496 rfl n509)
  have t531 : τ509 q475 = 61 := (th_tkE et509 tn475 rfl n509)
  have z532 : τ509 h0 = 0 := (th_tzE et509 z497 (Nat.ne_of_lt (th_ltE s509 lt509_h0)))
  have tn509 : τ509 q509 = 62 := th_upS et509
  have e533 : (-1) = gi509 q120 ((7 : Int32).toNatClampNeg) := by rw [og509 q120 (th_neE t522 tn509 rfl)]; exact e498
  have e534 : (-1) = gi509 q186 ((7 : Int32).toNatClampNeg) := by rw [og509 q186 (th_neE t523 tn509 rfl)]; exact e499
  have zr535 : gi509 q19 = (fun _ => 0) := (og509 q19 (th_neE t514 tn509 rfl)).trans zr500
  have zr536 : gi509 q27 = (fun _ => 0) := (og509 q27 (th_neE t515 tn509 rfl)).trans zr501
  have zr537 : gi509 q102 = (fun _ => 0) := (og509 q102 (th_neE t521 tn509 rfl)).trans zr502
  have zr538 : gi509 q120 = (upd (upd (upd (upd (upd (upd (upd (upd (fun _ => 0) (0 : Int32).toNatClampNeg 0) (1 : Int32).toNatClampNeg 1) (2 : Int32).toNatClampNeg 1) (3 : Int32).toNatClampNeg 1) (4 : Int32).toNatClampNeg 0) (5 : Int32).toNatClampNeg (-1)) (6 : Int32).toNatClampNeg (-1)) (7 : Int32).toNatClampNeg (-1)) := (og509 q120 (th_neE t522 tn509 rfl)).trans zr503
  have zr539 : gi509 q186 = (upd (upd (upd (upd (upd (upd (upd (upd (fun _ => 0) (0 : Int32).toNatClampNeg (-1)) (1 : Int32).toNatClampNeg (-1)) (2 : Int32).toNatClampNeg 0) (3 : Int32).toNatClampNeg 1) (4 : Int32).toNatClampNeg 1) (5 : Int32).toNatClampNeg 1) (6 : Int32).toNatClampNeg 0) (7 : Int32).toNatClampNeg (-1)) := (og509 q186 (th_neE t523 tn509 rfl)).trans zr504
  have zr540 : gi509 q295 = (fun _ => 0) := (og509 q295 (th_neE t525 tn509 rfl)).trans zr505
  have zr541 : gi509 q322 = (fun _ => 0) := (og509 q322 (th_neE t526 tn509 rfl)).trans zr506
  have zr542 : gi509 q410 = (fun _ => 0) := (og509 q410 (th_neE t529 tn509 rfl)).trans zr507
  refine W.widen (k := 23) (n := 340) (Nat.le_of_ble_eq_true rfl) (Nat.le_of_ble_eq_true rfl) ?_
  refine th_rputF (ci := 11) (v := .ref q509) (T := TX12) (C := RX12) (N := 38) (ty := (.array .int)) hx hb hts (fun w h => List.mem_cons_of_mem _ (List.mem_append_right _ h)) tyX12 tyX12_ok nmX12 hown hK hH hS z532 (Or.inl rfl) hR_h0 rfl 30 (by decide) (hts (.fieldLink RX12 86 "BayMooringsModel" "tried" "[I") (List.mem_cons_of_mem _ (List.mem_append_left _ (List.mem_append_right _ (List.mem_of_getElem? (i := 5) rfl))))) (fun _ h9 => h9) rfl hin rfl (by decide +kernel) rfl rfl (Nat.le_of_ble_eq_true rfl) dX12_init_268 (fun H locs hR_h0 hH hS y543 o543 => ?_)
  have hR_h0 : va_P D vwCl [(h0, .inr (11, [.int 0, .ref q1, .ref q4, .ref q8, .ref q13, .ref q19, .ref q27, .ref q37, .int 0, .ref q48, .ref q60, .ref q73, .ref q87, .ref q102, .int 255, .ref q120, .ref q186, .int 0, .ref q271, .ref q295, .int 1, .ref q322, .ref q350, .int 3, .int 0, .ref q380, .ref q410, .int 0, .ref q442, .ref q475, .ref q509, .null, .null, .int 0, .null, .null, .null, .null]))] H := hR_h0
  refine lv_aload_n hx hb dX12_init_271 rfl (lv_at hl 0 rfl) ?_
  refine lv_iconst (v := 5) hx hb dX12_init_272 ic_5 ?_
  have hle544 := hS.1
  have lt544_h0 := (hR_h0 0 _ rfl).lt
  refine th_newI (atype := .int) (cI := cA 0) (N' := 5) hx hb (hts (.arrayClass .int) (List.mem_cons_of_mem _ (List.mem_append_left _ (List.mem_append_left _ (List.mem_of_getElem? (i := 3) rfl))))) hK 0 rfl (fun h => h) hH hS hA 63 (by decide) (by decide) (by decide) (Nat.le_of_ble_eq_true rfl) (Nat.le_of_ble_eq_true rfl) rfl (fun _ => rfl) (fun _ _ => trivial) dX12_init_273 (fun q544 H s544 y544 n544 o544 hH hS => ?_)
  have le544 : s.heap.size ≤ q544 := th_leE s544 hle544
  have hR_h0 := th_P1 hR_h0 (o544 _ (th_ltE s544 lt544_h0))
  obtain ⟨τ544, et544⟩ : ∃ t, t = va_up τ509 q544 63 := ⟨_, rfl⟩
  have zz544 := hE.z n544
  obtain ⟨gi544, eg544⟩ : ∃ g, g = va_up gi509 q544 (fun _ => 0) := ⟨_, rfl⟩
  have hE := hE.add (k0 := 63) (f := (fun _ => 0)) (r := gr q544) n544 (Or.inr le544)
  rw [th_upid gr q544, ← et544, ← eg544] at hE
  rw [← et544, ← eg544] at hH
  have og544 : ∀ b, b ≠ q544 → gi544 b = gi509 b := th_upO eg544
  have t545 : τ544 q1 = 40 := (th_tkE et544 t510 rfl n544)
  have t546 : τ544 q4 = 41 := (th_tkE et544 t511 rfl n544)
  have t547 : τ544 q8 = 42 := (th_tkE et544 t512 rfl n544)
  have t548 : τ544 q13 = 43 := (th_tkE et544 t513 rfl n544)
  have t549 : τ544 q19 = 44 := (th_tkE et544 t514 rfl n544)
  have t550 : τ544 q27 = 45 := (th_tkE et544 t515 rfl n544)
  have t551 : τ544 q37 = 46 := (th_tkE et544 t516 rfl n544)
  have t552 : τ544 q48 = 47 := (th_tkE et544 t517 rfl n544)
  have t553 : τ544 q60 = 48 := (th_tkE et544 t518 rfl n544)
  have t554 : τ544 q73 = 49 := (th_tkE et544 t519 rfl n544)
  have t555 : τ544 q87 = 50 := (th_tkE et544 t520 rfl n544)
  have t556 : τ544 q102 = 51 := (th_tkE et544 t521 rfl n544)
  have t557 : τ544 q120 = 52 := (th_tkE et544 t522 rfl n544)
  have t558 : τ544 q186 = 53 := (th_tkE et544 t523 rfl n544)
  have t559 : τ544 q271 = 54 := (th_tkE et544 t524 rfl n544)
  have t560 : τ544 q295 = 55 := (th_tkE et544 t525 rfl n544)
  have t561 : τ544 q322 = 56 := (th_tkE et544 t526 rfl n544)
  have t562 : τ544 q350 = 57 := (th_tkE et544 t527 rfl n544)
  have t563 : τ544 q380 = 58 := (th_tkE et544 t528 rfl n544)
  have t564 : τ544 q410 = 59 := (th_tkE et544 t529 rfl n544)
  have t565 : τ544 q442 = 60 := (th_tkE et544 t530 rfl n544)
  have t566 : τ544 q475 = 61 := (th_tkE et544 t531 rfl n544)
  have t567 : τ544 q509 = 62 := (th_tkE et544 tn509 rfl n544)
  have z568 : τ544 h0 = 0 := (th_tzE et544 z532 (Nat.ne_of_lt (th_ltE s544 lt544_h0)))
  have tn544 : τ544 q544 = 63 := th_upS et544
  have e569 : (-1) = gi544 q120 ((7 : Int32).toNatClampNeg) := by rw [og544 q120 (th_neE t557 tn544 rfl)]; exact e533
  have e570 : (-1) = gi544 q186 ((7 : Int32).toNatClampNeg) := by rw [og544 q186 (th_neE t558 tn544 rfl)]; exact e534
  have zr571 : gi544 q19 = (fun _ => 0) := (og544 q19 (th_neE t549 tn544 rfl)).trans zr535
  have zr572 : gi544 q27 = (fun _ => 0) := (og544 q27 (th_neE t550 tn544 rfl)).trans zr536
  have zr573 : gi544 q102 = (fun _ => 0) := (og544 q102 (th_neE t556 tn544 rfl)).trans zr537
  have zr574 : gi544 q120 = (upd (upd (upd (upd (upd (upd (upd (upd (fun _ => 0) (0 : Int32).toNatClampNeg 0) (1 : Int32).toNatClampNeg 1) (2 : Int32).toNatClampNeg 1) (3 : Int32).toNatClampNeg 1) (4 : Int32).toNatClampNeg 0) (5 : Int32).toNatClampNeg (-1)) (6 : Int32).toNatClampNeg (-1)) (7 : Int32).toNatClampNeg (-1)) := (og544 q120 (th_neE t557 tn544 rfl)).trans zr538
  have zr575 : gi544 q186 = (upd (upd (upd (upd (upd (upd (upd (upd (fun _ => 0) (0 : Int32).toNatClampNeg (-1)) (1 : Int32).toNatClampNeg (-1)) (2 : Int32).toNatClampNeg 0) (3 : Int32).toNatClampNeg 1) (4 : Int32).toNatClampNeg 1) (5 : Int32).toNatClampNeg 1) (6 : Int32).toNatClampNeg 0) (7 : Int32).toNatClampNeg (-1)) := (og544 q186 (th_neE t558 tn544 rfl)).trans zr539
  have zr576 : gi544 q295 = (fun _ => 0) := (og544 q295 (th_neE t560 tn544 rfl)).trans zr540
  have zr577 : gi544 q322 = (fun _ => 0) := (og544 q322 (th_neE t561 tn544 rfl)).trans zr541
  have zr578 : gi544 q410 = (fun _ => 0) := (og544 q410 (th_neE t564 tn544 rfl)).trans zr542
  refine W.widen (k := 24) (n := 345) (Nat.le_of_ble_eq_true rfl) (Nat.le_of_ble_eq_true rfl) ?_
  refine th_rputF (ci := 11) (v := .ref q544) (T := TX12) (C := RX12) (N := 38) (ty := (.array .int)) hx hb hts (fun w h => List.mem_cons_of_mem _ (List.mem_append_right _ h)) tyX12 tyX12_ok nmX12 hown hK hH hS z568 (Or.inl rfl) hR_h0 rfl 31 (by decide) (hts (.fieldLink RX12 89 "BayMooringsModel" "best" "[I") (List.mem_cons_of_mem _ (List.mem_append_left _ (List.mem_append_right _ (List.mem_of_getElem? (i := 6) rfl))))) (fun _ h9 => h9) rfl hin rfl (by decide +kernel) rfl rfl (Nat.le_of_ble_eq_true rfl) dX12_init_275 (fun H locs hR_h0 hH hS y579 o579 => ?_)
  have hR_h0 : va_P D vwCl [(h0, .inr (11, [.int 0, .ref q1, .ref q4, .ref q8, .ref q13, .ref q19, .ref q27, .ref q37, .int 0, .ref q48, .ref q60, .ref q73, .ref q87, .ref q102, .int 255, .ref q120, .ref q186, .int 0, .ref q271, .ref q295, .int 1, .ref q322, .ref q350, .int 3, .int 0, .ref q380, .ref q410, .int 0, .ref q442, .ref q475, .ref q509, .ref q544, .null, .int 0, .null, .null, .null, .null]))] H := hR_h0
  refine lv_aload_n hx hb dX12_init_278 rfl (lv_at hl 0 rfl) ?_
  refine lv_sipush (v := 300) hx hb dX12_init_279 sp_300 ?_
  have hle580 := hS.1
  have lt580_h0 := (hR_h0 0 _ rfl).lt
  refine th_newI (atype := .int) (cI := cA 0) (N' := 300) hx hb (hts (.arrayClass .int) (List.mem_cons_of_mem _ (List.mem_append_left _ (List.mem_append_left _ (List.mem_of_getElem? (i := 3) rfl))))) hK 0 rfl (fun h => h) hH hS hA 64 (by decide) (by decide) (by decide) (Nat.le_of_ble_eq_true rfl) (Nat.le_of_ble_eq_true rfl) rfl (fun _ => rfl) (fun _ _ => trivial) dX12_init_282 (fun q580 H s580 y580 n580 o580 hH hS => ?_)
  have le580 : s.heap.size ≤ q580 := th_leE s580 hle580
  have hR_h0 := th_P1 hR_h0 (o580 _ (th_ltE s580 lt580_h0))
  obtain ⟨τ580, et580⟩ : ∃ t, t = va_up τ544 q580 64 := ⟨_, rfl⟩
  have zz580 := hE.z n580
  obtain ⟨gi580, eg580⟩ : ∃ g, g = va_up gi544 q580 (fun _ => 0) := ⟨_, rfl⟩
  have hE := hE.add (k0 := 64) (f := (fun _ => 0)) (r := gr q580) n580 (Or.inr le580)
  rw [th_upid gr q580, ← et580, ← eg580] at hE
  rw [← et580, ← eg580] at hH
  have og580 : ∀ b, b ≠ q580 → gi580 b = gi544 b := th_upO eg580
  have t581 : τ580 q1 = 40 := (th_tkE et580 t545 rfl n580)
  have t582 : τ580 q4 = 41 := (th_tkE et580 t546 rfl n580)
  have t583 : τ580 q8 = 42 := (th_tkE et580 t547 rfl n580)
  have t584 : τ580 q13 = 43 := (th_tkE et580 t548 rfl n580)
  have t585 : τ580 q19 = 44 := (th_tkE et580 t549 rfl n580)
  have t586 : τ580 q27 = 45 := (th_tkE et580 t550 rfl n580)
  have t587 : τ580 q37 = 46 := (th_tkE et580 t551 rfl n580)
  have t588 : τ580 q48 = 47 := (th_tkE et580 t552 rfl n580)
  have t589 : τ580 q60 = 48 := (th_tkE et580 t553 rfl n580)
  have t590 : τ580 q73 = 49 := (th_tkE et580 t554 rfl n580)
  have t591 : τ580 q87 = 50 := (th_tkE et580 t555 rfl n580)
  have t592 : τ580 q102 = 51 := (th_tkE et580 t556 rfl n580)
  have t593 : τ580 q120 = 52 := (th_tkE et580 t557 rfl n580)
  have t594 : τ580 q186 = 53 := (th_tkE et580 t558 rfl n580)
  have t595 : τ580 q271 = 54 := (th_tkE et580 t559 rfl n580)
  have t596 : τ580 q295 = 55 := (th_tkE et580 t560 rfl n580)
  have t597 : τ580 q322 = 56 := (th_tkE et580 t561 rfl n580)
  have t598 : τ580 q350 = 57 := (th_tkE et580 t562 rfl n580)
  have t599 : τ580 q380 = 58 := (th_tkE et580 t563 rfl n580)
  have t600 : τ580 q410 = 59 := (th_tkE et580 t564 rfl n580)
  have t601 : τ580 q442 = 60 := (th_tkE et580 t565 rfl n580)
  have t602 : τ580 q475 = 61 := (th_tkE et580 t566 rfl n580)
  have t603 : τ580 q509 = 62 := (th_tkE et580 t567 rfl n580)
  have t604 : τ580 q544 = 63 := (th_tkE et580 tn544 rfl n580)
  have z605 : τ580 h0 = 0 := (th_tzE et580 z568 (Nat.ne_of_lt (th_ltE s580 lt580_h0)))
  have tn580 : τ580 q580 = 64 := th_upS et580
  have e606 : (-1) = gi580 q120 ((7 : Int32).toNatClampNeg) := by rw [og580 q120 (th_neE t593 tn580 rfl)]; exact e569
  have e607 : (-1) = gi580 q186 ((7 : Int32).toNatClampNeg) := by rw [og580 q186 (th_neE t594 tn580 rfl)]; exact e570
  have zr608 : gi580 q19 = (fun _ => 0) := (og580 q19 (th_neE t585 tn580 rfl)).trans zr571
  have zr609 : gi580 q27 = (fun _ => 0) := (og580 q27 (th_neE t586 tn580 rfl)).trans zr572
  have zr610 : gi580 q102 = (fun _ => 0) := (og580 q102 (th_neE t592 tn580 rfl)).trans zr573
  have zr611 : gi580 q120 = (upd (upd (upd (upd (upd (upd (upd (upd (fun _ => 0) (0 : Int32).toNatClampNeg 0) (1 : Int32).toNatClampNeg 1) (2 : Int32).toNatClampNeg 1) (3 : Int32).toNatClampNeg 1) (4 : Int32).toNatClampNeg 0) (5 : Int32).toNatClampNeg (-1)) (6 : Int32).toNatClampNeg (-1)) (7 : Int32).toNatClampNeg (-1)) := (og580 q120 (th_neE t593 tn580 rfl)).trans zr574
  have zr612 : gi580 q186 = (upd (upd (upd (upd (upd (upd (upd (upd (fun _ => 0) (0 : Int32).toNatClampNeg (-1)) (1 : Int32).toNatClampNeg (-1)) (2 : Int32).toNatClampNeg 0) (3 : Int32).toNatClampNeg 1) (4 : Int32).toNatClampNeg 1) (5 : Int32).toNatClampNeg 1) (6 : Int32).toNatClampNeg 0) (7 : Int32).toNatClampNeg (-1)) := (og580 q186 (th_neE t594 tn580 rfl)).trans zr575
  have zr613 : gi580 q295 = (fun _ => 0) := (og580 q295 (th_neE t596 tn580 rfl)).trans zr576
  have zr614 : gi580 q322 = (fun _ => 0) := (og580 q322 (th_neE t597 tn580 rfl)).trans zr577
  have zr615 : gi580 q410 = (fun _ => 0) := (og580 q410 (th_neE t600 tn580 rfl)).trans zr578
  refine W.widen (k := 25) (n := 645) (Nat.le_of_ble_eq_true rfl) (Nat.le_of_ble_eq_true rfl) ?_
  refine th_rputF (ci := 11) (v := .ref q580) (T := TX12) (C := RX12) (N := 38) (ty := (.array .int)) hx hb hts (fun w h => List.mem_cons_of_mem _ (List.mem_append_right _ h)) tyX12 tyX12_ok nmX12 hown hK hH hS z605 (Or.inl rfl) hR_h0 rfl 32 (by decide) (hts (.fieldLink RX12 92 "BayMooringsModel" "touching" "[I") (List.mem_cons_of_mem _ (List.mem_append_left _ (List.mem_append_right _ (List.mem_of_getElem? (i := 7) rfl))))) (fun _ h9 => h9) rfl hin rfl (by decide +kernel) rfl rfl (Nat.le_of_ble_eq_true rfl) dX12_init_284 (fun H locs hR_h0 hH hS y616 o616 => ?_)
  have hR_h0 : va_P D vwCl [(h0, .inr (11, [.int 0, .ref q1, .ref q4, .ref q8, .ref q13, .ref q19, .ref q27, .ref q37, .int 0, .ref q48, .ref q60, .ref q73, .ref q87, .ref q102, .int 255, .ref q120, .ref q186, .int 0, .ref q271, .ref q295, .int 1, .ref q322, .ref q350, .int 3, .int 0, .ref q380, .ref q410, .int 0, .ref q442, .ref q475, .ref q509, .ref q544, .ref q580, .int 0, .null, .null, .null, .null]))] H := hR_h0
  refine lv_aload_n hx hb dX12_init_287 rfl (lv_at hl 0 rfl) ?_
  refine lv_bipush (v := 16) hx hb dX12_init_288 bp_16 ?_
  have hle617 := hS.1
  have lt617_h0 := (hR_h0 0 _ rfl).lt
  refine th_newI (atype := .int) (cI := cA 0) (N' := 16) hx hb (hts (.arrayClass .int) (List.mem_cons_of_mem _ (List.mem_append_left _ (List.mem_append_left _ (List.mem_of_getElem? (i := 3) rfl))))) hK 0 rfl (fun h => h) hH hS hA 65 (by decide) (by decide) (by decide) (Nat.le_of_ble_eq_true rfl) (Nat.le_of_ble_eq_true rfl) rfl (fun _ => rfl) (fun _ _ => (fun _ _ => (show rg (-1) 11 (0 : Int32) from ⟨by decide, by decide⟩))) dX12_init_290 (fun q617 H s617 y617 n617 o617 hH hS => ?_)
  have le617 : s.heap.size ≤ q617 := th_leE s617 hle617
  have hR_h0 := th_P1 hR_h0 (o617 _ (th_ltE s617 lt617_h0))
  obtain ⟨τ617, et617⟩ : ∃ t, t = va_up τ580 q617 65 := ⟨_, rfl⟩
  have zz617 := hE.z n617
  obtain ⟨gi617, eg617⟩ : ∃ g, g = va_up gi580 q617 (fun _ => 0) := ⟨_, rfl⟩
  have hE := hE.add (k0 := 65) (f := (fun _ => 0)) (r := gr q617) n617 (Or.inr le617)
  rw [th_upid gr q617, ← et617, ← eg617] at hE
  rw [← et617, ← eg617] at hH
  have og617 : ∀ b, b ≠ q617 → gi617 b = gi580 b := th_upO eg617
  have t618 : τ617 q1 = 40 := (th_tkE et617 t581 rfl n617)
  have t619 : τ617 q4 = 41 := (th_tkE et617 t582 rfl n617)
  have t620 : τ617 q8 = 42 := (th_tkE et617 t583 rfl n617)
  have t621 : τ617 q13 = 43 := (th_tkE et617 t584 rfl n617)
  have t622 : τ617 q19 = 44 := (th_tkE et617 t585 rfl n617)
  have t623 : τ617 q27 = 45 := (th_tkE et617 t586 rfl n617)
  have t624 : τ617 q37 = 46 := (th_tkE et617 t587 rfl n617)
  have t625 : τ617 q48 = 47 := (th_tkE et617 t588 rfl n617)
  have t626 : τ617 q60 = 48 := (th_tkE et617 t589 rfl n617)
  have t627 : τ617 q73 = 49 := (th_tkE et617 t590 rfl n617)
  have t628 : τ617 q87 = 50 := (th_tkE et617 t591 rfl n617)
  have t629 : τ617 q102 = 51 := (th_tkE et617 t592 rfl n617)
  have t630 : τ617 q120 = 52 := (th_tkE et617 t593 rfl n617)
  have t631 : τ617 q186 = 53 := (th_tkE et617 t594 rfl n617)
  have t632 : τ617 q271 = 54 := (th_tkE et617 t595 rfl n617)
  have t633 : τ617 q295 = 55 := (th_tkE et617 t596 rfl n617)
  have t634 : τ617 q322 = 56 := (th_tkE et617 t597 rfl n617)
  have t635 : τ617 q350 = 57 := (th_tkE et617 t598 rfl n617)
  have t636 : τ617 q380 = 58 := (th_tkE et617 t599 rfl n617)
  have t637 : τ617 q410 = 59 := (th_tkE et617 t600 rfl n617)
  have t638 : τ617 q442 = 60 := (th_tkE et617 t601 rfl n617)
  have t639 : τ617 q475 = 61 := (th_tkE et617 t602 rfl n617)
  have t640 : τ617 q509 = 62 := (th_tkE et617 t603 rfl n617)
  have t641 : τ617 q544 = 63 := (th_tkE et617 t604 rfl n617)
  have t642 : τ617 q580 = 64 := (th_tkE et617 tn580 rfl n617)
  have z643 : τ617 h0 = 0 := (th_tzE et617 z605 (Nat.ne_of_lt (th_ltE s617 lt617_h0)))
  have tn617 : τ617 q617 = 65 := th_upS et617
  have e644 : (-1) = gi617 q120 ((7 : Int32).toNatClampNeg) := by rw [og617 q120 (th_neE t630 tn617 rfl)]; exact e606
  have e645 : (-1) = gi617 q186 ((7 : Int32).toNatClampNeg) := by rw [og617 q186 (th_neE t631 tn617 rfl)]; exact e607
  have zr646 : gi617 q19 = (fun _ => 0) := (og617 q19 (th_neE t622 tn617 rfl)).trans zr608
  have zr647 : gi617 q27 = (fun _ => 0) := (og617 q27 (th_neE t623 tn617 rfl)).trans zr609
  have zr648 : gi617 q102 = (fun _ => 0) := (og617 q102 (th_neE t629 tn617 rfl)).trans zr610
  have zr649 : gi617 q120 = (upd (upd (upd (upd (upd (upd (upd (upd (fun _ => 0) (0 : Int32).toNatClampNeg 0) (1 : Int32).toNatClampNeg 1) (2 : Int32).toNatClampNeg 1) (3 : Int32).toNatClampNeg 1) (4 : Int32).toNatClampNeg 0) (5 : Int32).toNatClampNeg (-1)) (6 : Int32).toNatClampNeg (-1)) (7 : Int32).toNatClampNeg (-1)) := (og617 q120 (th_neE t630 tn617 rfl)).trans zr611
  have zr650 : gi617 q186 = (upd (upd (upd (upd (upd (upd (upd (upd (fun _ => 0) (0 : Int32).toNatClampNeg (-1)) (1 : Int32).toNatClampNeg (-1)) (2 : Int32).toNatClampNeg 0) (3 : Int32).toNatClampNeg 1) (4 : Int32).toNatClampNeg 1) (5 : Int32).toNatClampNeg 1) (6 : Int32).toNatClampNeg 0) (7 : Int32).toNatClampNeg (-1)) := (og617 q186 (th_neE t631 tn617 rfl)).trans zr612
  have zr651 : gi617 q295 = (fun _ => 0) := (og617 q295 (th_neE t633 tn617 rfl)).trans zr613
  have zr652 : gi617 q322 = (fun _ => 0) := (og617 q322 (th_neE t634 tn617 rfl)).trans zr614
  have zr653 : gi617 q410 = (fun _ => 0) := (og617 q410 (th_neE t637 tn617 rfl)).trans zr615
  refine W.widen (k := 26) (n := 661) (Nat.le_of_ble_eq_true rfl) (Nat.le_of_ble_eq_true rfl) ?_
  refine th_rputF (ci := 11) (v := .ref q617) (T := TX12) (C := RX12) (N := 38) (ty := (.array .int)) hx hb hts (fun w h => List.mem_cons_of_mem _ (List.mem_append_right _ h)) tyX12 tyX12_ok nmX12 hown hK hH hS z643 (Or.inl rfl) hR_h0 rfl 34 (by decide) (hts (.fieldLink RX12 95 "BayMooringsModel" "gets" "[I") (List.mem_cons_of_mem _ (List.mem_append_left _ (List.mem_append_right _ (List.mem_of_getElem? (i := 8) rfl))))) (fun _ h9 => h9) rfl hin rfl (by decide +kernel) rfl rfl (Nat.le_of_ble_eq_true rfl) dX12_init_292 (fun H locs hR_h0 hH hS y654 o654 => ?_)
  have hR_h0 : va_P D vwCl [(h0, .inr (11, [.int 0, .ref q1, .ref q4, .ref q8, .ref q13, .ref q19, .ref q27, .ref q37, .int 0, .ref q48, .ref q60, .ref q73, .ref q87, .ref q102, .int 255, .ref q120, .ref q186, .int 0, .ref q271, .ref q295, .int 1, .ref q322, .ref q350, .int 3, .int 0, .ref q380, .ref q410, .int 0, .ref q442, .ref q475, .ref q509, .ref q544, .ref q580, .int 0, .ref q617, .null, .null, .null]))] H := hR_h0
  refine lv_aload_n hx hb dX12_init_295 rfl (lv_at hl 0 rfl) ?_
  refine lv_bipush (v := 16) hx hb dX12_init_296 bp_16 ?_
  have hle655 := hS.1
  have lt655_h0 := (hR_h0 0 _ rfl).lt
  refine th_newI (atype := .boolean) (cI := cA 1) (N' := 16) hx hb (hts (.arrayClass .boolean) (List.mem_cons_of_mem _ (List.mem_append_left _ (List.mem_append_right _ (List.mem_of_getElem? (i := 9) rfl))))) hK 1 rfl (fun h => h) hH hS hA 66 (by decide) (by decide) (by decide) (Nat.le_of_ble_eq_true rfl) (Nat.le_of_ble_eq_true rfl) rfl (fun _ => rfl) (fun _ _ => (fun _ _ => (show rg 0 1 (0 : Int32) from ⟨by decide, by decide⟩))) dX12_init_298 (fun q655 H s655 y655 n655 o655 hH hS => ?_)
  have le655 : s.heap.size ≤ q655 := th_leE s655 hle655
  have hR_h0 := th_P1 hR_h0 (o655 _ (th_ltE s655 lt655_h0))
  obtain ⟨τ655, et655⟩ : ∃ t, t = va_up τ617 q655 66 := ⟨_, rfl⟩
  have zz655 := hE.z n655
  obtain ⟨gi655, eg655⟩ : ∃ g, g = va_up gi617 q655 (fun _ => 0) := ⟨_, rfl⟩
  have hE := hE.add (k0 := 66) (f := (fun _ => 0)) (r := gr q655) n655 (Or.inr le655)
  rw [th_upid gr q655, ← et655, ← eg655] at hE
  rw [← et655, ← eg655] at hH
  have og655 : ∀ b, b ≠ q655 → gi655 b = gi617 b := th_upO eg655
  have t656 : τ655 q1 = 40 := (th_tkE et655 t618 rfl n655)
  have t657 : τ655 q4 = 41 := (th_tkE et655 t619 rfl n655)
  have t658 : τ655 q8 = 42 := (th_tkE et655 t620 rfl n655)
  have t659 : τ655 q13 = 43 := (th_tkE et655 t621 rfl n655)
  have t660 : τ655 q19 = 44 := (th_tkE et655 t622 rfl n655)
  have t661 : τ655 q27 = 45 := (th_tkE et655 t623 rfl n655)
  have t662 : τ655 q37 = 46 := (th_tkE et655 t624 rfl n655)
  have t663 : τ655 q48 = 47 := (th_tkE et655 t625 rfl n655)
  have t664 : τ655 q60 = 48 := (th_tkE et655 t626 rfl n655)
  have t665 : τ655 q73 = 49 := (th_tkE et655 t627 rfl n655)
  have t666 : τ655 q87 = 50 := (th_tkE et655 t628 rfl n655)
  have t667 : τ655 q102 = 51 := (th_tkE et655 t629 rfl n655)
  have t668 : τ655 q120 = 52 := (th_tkE et655 t630 rfl n655)
  have t669 : τ655 q186 = 53 := (th_tkE et655 t631 rfl n655)
  have t670 : τ655 q271 = 54 := (th_tkE et655 t632 rfl n655)
  have t671 : τ655 q295 = 55 := (th_tkE et655 t633 rfl n655)
  have t672 : τ655 q322 = 56 := (th_tkE et655 t634 rfl n655)
  have t673 : τ655 q350 = 57 := (th_tkE et655 t635 rfl n655)
  have t674 : τ655 q380 = 58 := (th_tkE et655 t636 rfl n655)
  have t675 : τ655 q410 = 59 := (th_tkE et655 t637 rfl n655)
  have t676 : τ655 q442 = 60 := (th_tkE et655 t638 rfl n655)
  have t677 : τ655 q475 = 61 := (th_tkE et655 t639 rfl n655)
  have t678 : τ655 q509 = 62 := (th_tkE et655 t640 rfl n655)
  have t679 : τ655 q544 = 63 := (th_tkE et655 t641 rfl n655)
  have t680 : τ655 q580 = 64 := (th_tkE et655 t642 rfl n655)
  have t681 : τ655 q617 = 65 := (th_tkE et655 tn617 rfl n655)
  have z682 : τ655 h0 = 0 := (th_tzE et655 z643 (Nat.ne_of_lt (th_ltE s655 lt655_h0)))
  have tn655 : τ655 q655 = 66 := th_upS et655
  have e683 : (-1) = gi655 q120 ((7 : Int32).toNatClampNeg) := by rw [og655 q120 (th_neE t668 tn655 rfl)]; exact e644
  have e684 : (-1) = gi655 q186 ((7 : Int32).toNatClampNeg) := by rw [og655 q186 (th_neE t669 tn655 rfl)]; exact e645
  have zr685 : gi655 q19 = (fun _ => 0) := (og655 q19 (th_neE t660 tn655 rfl)).trans zr646
  have zr686 : gi655 q27 = (fun _ => 0) := (og655 q27 (th_neE t661 tn655 rfl)).trans zr647
  have zr687 : gi655 q102 = (fun _ => 0) := (og655 q102 (th_neE t667 tn655 rfl)).trans zr648
  have zr688 : gi655 q120 = (upd (upd (upd (upd (upd (upd (upd (upd (fun _ => 0) (0 : Int32).toNatClampNeg 0) (1 : Int32).toNatClampNeg 1) (2 : Int32).toNatClampNeg 1) (3 : Int32).toNatClampNeg 1) (4 : Int32).toNatClampNeg 0) (5 : Int32).toNatClampNeg (-1)) (6 : Int32).toNatClampNeg (-1)) (7 : Int32).toNatClampNeg (-1)) := (og655 q120 (th_neE t668 tn655 rfl)).trans zr649
  have zr689 : gi655 q186 = (upd (upd (upd (upd (upd (upd (upd (upd (fun _ => 0) (0 : Int32).toNatClampNeg (-1)) (1 : Int32).toNatClampNeg (-1)) (2 : Int32).toNatClampNeg 0) (3 : Int32).toNatClampNeg 1) (4 : Int32).toNatClampNeg 1) (5 : Int32).toNatClampNeg 1) (6 : Int32).toNatClampNeg 0) (7 : Int32).toNatClampNeg (-1)) := (og655 q186 (th_neE t669 tn655 rfl)).trans zr650
  have zr690 : gi655 q295 = (fun _ => 0) := (og655 q295 (th_neE t671 tn655 rfl)).trans zr651
  have zr691 : gi655 q322 = (fun _ => 0) := (og655 q322 (th_neE t672 tn655 rfl)).trans zr652
  have zr692 : gi655 q410 = (fun _ => 0) := (og655 q410 (th_neE t675 tn655 rfl)).trans zr653
  refine W.widen (k := 27) (n := 677) (Nat.le_of_ble_eq_true rfl) (Nat.le_of_ble_eq_true rfl) ?_
  refine th_rputF (ci := 11) (v := .ref q655) (T := TX12) (C := RX12) (N := 38) (ty := (.array .boolean)) hx hb hts (fun w h => List.mem_cons_of_mem _ (List.mem_append_right _ h)) tyX12 tyX12_ok nmX12 hown hK hH hS z682 (Or.inl rfl) hR_h0 rfl 35 (by decide) (hts (.fieldLink RX12 98 "BayMooringsModel" "inRing" "[Z") (List.mem_cons_of_mem _ (List.mem_append_left _ (List.mem_append_right _ (List.mem_of_getElem? (i := 10) rfl))))) (fun _ h9 => h9) rfl hin rfl (by decide +kernel) rfl rfl (Nat.le_of_ble_eq_true rfl) dX12_init_300 (fun H locs hR_h0 hH hS y693 o693 => ?_)
  have hR_h0 : va_P D vwCl [(h0, .inr (11, [.int 0, .ref q1, .ref q4, .ref q8, .ref q13, .ref q19, .ref q27, .ref q37, .int 0, .ref q48, .ref q60, .ref q73, .ref q87, .ref q102, .int 255, .ref q120, .ref q186, .int 0, .ref q271, .ref q295, .int 1, .ref q322, .ref q350, .int 3, .int 0, .ref q380, .ref q410, .int 0, .ref q442, .ref q475, .ref q509, .ref q544, .ref q580, .int 0, .ref q617, .ref q655, .null, .null]))] H := hR_h0
  refine lv_aload_n hx hb dX12_init_303 rfl (lv_at hl 0 rfl) ?_
  refine lv_bipush (v := 16) hx hb dX12_init_304 bp_16 ?_
  have hle694 := hS.1
  have lt694_h0 := (hR_h0 0 _ rfl).lt
  refine th_newI (atype := .int) (cI := cA 0) (N' := 16) hx hb (hts (.arrayClass .int) (List.mem_cons_of_mem _ (List.mem_append_left _ (List.mem_append_left _ (List.mem_of_getElem? (i := 3) rfl))))) hK 0 rfl (fun h => h) hH hS hA 67 (by decide) (by decide) (by decide) (Nat.le_of_ble_eq_true rfl) (Nat.le_of_ble_eq_true rfl) rfl (fun _ => rfl) (fun _ _ => (fun _ _ => (show rg 0 15 (0 : Int32) from ⟨by decide, by decide⟩))) dX12_init_306 (fun q694 H s694 y694 n694 o694 hH hS => ?_)
  have le694 : s.heap.size ≤ q694 := th_leE s694 hle694
  have hR_h0 := th_P1 hR_h0 (o694 _ (th_ltE s694 lt694_h0))
  obtain ⟨τ694, et694⟩ : ∃ t, t = va_up τ655 q694 67 := ⟨_, rfl⟩
  have zz694 := hE.z n694
  obtain ⟨gi694, eg694⟩ : ∃ g, g = va_up gi655 q694 (fun _ => 0) := ⟨_, rfl⟩
  have hE := hE.add (k0 := 67) (f := (fun _ => 0)) (r := gr q694) n694 (Or.inr le694)
  rw [th_upid gr q694, ← et694, ← eg694] at hE
  rw [← et694, ← eg694] at hH
  have og694 : ∀ b, b ≠ q694 → gi694 b = gi655 b := th_upO eg694
  have t695 : τ694 q1 = 40 := (th_tkE et694 t656 rfl n694)
  have t696 : τ694 q4 = 41 := (th_tkE et694 t657 rfl n694)
  have t697 : τ694 q8 = 42 := (th_tkE et694 t658 rfl n694)
  have t698 : τ694 q13 = 43 := (th_tkE et694 t659 rfl n694)
  have t699 : τ694 q19 = 44 := (th_tkE et694 t660 rfl n694)
  have t700 : τ694 q27 = 45 := (th_tkE et694 t661 rfl n694)
  have t701 : τ694 q37 = 46 := (th_tkE et694 t662 rfl n694)
  have t702 : τ694 q48 = 47 := (th_tkE et694 t663 rfl n694)
  have t703 : τ694 q60 = 48 := (th_tkE et694 t664 rfl n694)
  have t704 : τ694 q73 = 49 := (th_tkE et694 t665 rfl n694)
  have t705 : τ694 q87 = 50 := (th_tkE et694 t666 rfl n694)
  have t706 : τ694 q102 = 51 := (th_tkE et694 t667 rfl n694)
  have t707 : τ694 q120 = 52 := (th_tkE et694 t668 rfl n694)
  have t708 : τ694 q186 = 53 := (th_tkE et694 t669 rfl n694)
  have t709 : τ694 q271 = 54 := (th_tkE et694 t670 rfl n694)
  have t710 : τ694 q295 = 55 := (th_tkE et694 t671 rfl n694)
  have t711 : τ694 q322 = 56 := (th_tkE et694 t672 rfl n694)
  have t712 : τ694 q350 = 57 := (th_tkE et694 t673 rfl n694)
  have t713 : τ694 q380 = 58 := (th_tkE et694 t674 rfl n694)
  have t714 : τ694 q410 = 59 := (th_tkE et694 t675 rfl n694)
  have t715 : τ694 q442 = 60 := (th_tkE et694 t676 rfl n694)
  have t716 : τ694 q475 = 61 := (th_tkE et694 t677 rfl n694)
  have t717 : τ694 q509 = 62 := (th_tkE et694 t678 rfl n694)
  have t718 : τ694 q544 = 63 := (th_tkE et694 t679 rfl n694)
  have t719 : τ694 q580 = 64 := (th_tkE et694 t680 rfl n694)
  have t720 : τ694 q617 = 65 := (th_tkE et694 t681 rfl n694)
  have t721 : τ694 q655 = 66 := (th_tkE et694 tn655 rfl n694)
  have z722 : τ694 h0 = 0 := (th_tzE et694 z682 (Nat.ne_of_lt (th_ltE s694 lt694_h0)))
  have tn694 : τ694 q694 = 67 := th_upS et694
  have e723 : (-1) = gi694 q120 ((7 : Int32).toNatClampNeg) := by rw [og694 q120 (th_neE t707 tn694 rfl)]; exact e683
  have e724 : (-1) = gi694 q186 ((7 : Int32).toNatClampNeg) := by rw [og694 q186 (th_neE t708 tn694 rfl)]; exact e684
  have zr725 : gi694 q19 = (fun _ => 0) := (og694 q19 (th_neE t699 tn694 rfl)).trans zr685
  have zr726 : gi694 q27 = (fun _ => 0) := (og694 q27 (th_neE t700 tn694 rfl)).trans zr686
  have zr727 : gi694 q102 = (fun _ => 0) := (og694 q102 (th_neE t706 tn694 rfl)).trans zr687
  have zr728 : gi694 q120 = (upd (upd (upd (upd (upd (upd (upd (upd (fun _ => 0) (0 : Int32).toNatClampNeg 0) (1 : Int32).toNatClampNeg 1) (2 : Int32).toNatClampNeg 1) (3 : Int32).toNatClampNeg 1) (4 : Int32).toNatClampNeg 0) (5 : Int32).toNatClampNeg (-1)) (6 : Int32).toNatClampNeg (-1)) (7 : Int32).toNatClampNeg (-1)) := (og694 q120 (th_neE t707 tn694 rfl)).trans zr688
  have zr729 : gi694 q186 = (upd (upd (upd (upd (upd (upd (upd (upd (fun _ => 0) (0 : Int32).toNatClampNeg (-1)) (1 : Int32).toNatClampNeg (-1)) (2 : Int32).toNatClampNeg 0) (3 : Int32).toNatClampNeg 1) (4 : Int32).toNatClampNeg 1) (5 : Int32).toNatClampNeg 1) (6 : Int32).toNatClampNeg 0) (7 : Int32).toNatClampNeg (-1)) := (og694 q186 (th_neE t708 tn694 rfl)).trans zr689
  have zr730 : gi694 q295 = (fun _ => 0) := (og694 q295 (th_neE t710 tn694 rfl)).trans zr690
  have zr731 : gi694 q322 = (fun _ => 0) := (og694 q322 (th_neE t711 tn694 rfl)).trans zr691
  have zr732 : gi694 q410 = (fun _ => 0) := (og694 q410 (th_neE t714 tn694 rfl)).trans zr692
  refine W.widen (k := 28) (n := 693) (Nat.le_of_ble_eq_true rfl) (Nat.le_of_ble_eq_true rfl) ?_
  refine th_rputF (ci := 11) (v := .ref q694) (T := TX12) (C := RX12) (N := 38) (ty := (.array .int)) hx hb hts (fun w h => List.mem_cons_of_mem _ (List.mem_append_right _ h)) tyX12 tyX12_ok nmX12 hown hK hH hS z722 (Or.inl rfl) hR_h0 rfl 36 (by decide) (hts (.fieldLink RX12 102 "BayMooringsModel" "ring" "[I") (List.mem_cons_of_mem _ (List.mem_append_left _ (List.mem_append_right _ (List.mem_of_getElem? (i := 11) rfl))))) (fun _ h9 => h9) rfl hin rfl (by decide +kernel) rfl rfl (Nat.le_of_ble_eq_true rfl) dX12_init_308 (fun H locs hR_h0 hH hS y733 o733 => ?_)
  have hR_h0 : va_P D vwCl [(h0, .inr (11, [.int 0, .ref q1, .ref q4, .ref q8, .ref q13, .ref q19, .ref q27, .ref q37, .int 0, .ref q48, .ref q60, .ref q73, .ref q87, .ref q102, .int 255, .ref q120, .ref q186, .int 0, .ref q271, .ref q295, .int 1, .ref q322, .ref q350, .int 3, .int 0, .ref q380, .ref q410, .int 0, .ref q442, .ref q475, .ref q509, .ref q544, .ref q580, .int 0, .ref q617, .ref q655, .ref q694, .null]))] H := hR_h0
  refine lv_aload_n hx hb dX12_init_311 rfl (lv_at hl 0 rfl) ?_
  refine lv_bipush (v := 16) hx hb dX12_init_312 bp_16 ?_
  have hle734 := hS.1
  have lt734_h0 := (hR_h0 0 _ rfl).lt
  refine th_newI (atype := .int) (cI := cA 0) (N' := 16) hx hb (hts (.arrayClass .int) (List.mem_cons_of_mem _ (List.mem_append_left _ (List.mem_append_left _ (List.mem_of_getElem? (i := 3) rfl))))) hK 0 rfl (fun h => h) hH hS hA 68 (by decide) (by decide) (by decide) (Nat.le_of_ble_eq_true rfl) (Nat.le_of_ble_eq_true rfl) rfl (fun _ => rfl) (fun _ _ => (fun _ _ => (show rg (-1) 11 (0 : Int32) from ⟨by decide, by decide⟩))) dX12_init_314 (fun q734 H s734 y734 n734 o734 hH hS => ?_)
  have le734 : s.heap.size ≤ q734 := th_leE s734 hle734
  have hR_h0 := th_P1 hR_h0 (o734 _ (th_ltE s734 lt734_h0))
  obtain ⟨τ734, et734⟩ : ∃ t, t = va_up τ694 q734 68 := ⟨_, rfl⟩
  have zz734 := hE.z n734
  obtain ⟨gi734, eg734⟩ : ∃ g, g = va_up gi694 q734 (fun _ => 0) := ⟨_, rfl⟩
  have hE := hE.add (k0 := 68) (f := (fun _ => 0)) (r := gr q734) n734 (Or.inr le734)
  rw [th_upid gr q734, ← et734, ← eg734] at hE
  rw [← et734, ← eg734] at hH
  have og734 : ∀ b, b ≠ q734 → gi734 b = gi694 b := th_upO eg734
  have t735 : τ734 q1 = 40 := (th_tkE et734 t695 rfl n734)
  have t736 : τ734 q4 = 41 := (th_tkE et734 t696 rfl n734)
  have t737 : τ734 q8 = 42 := (th_tkE et734 t697 rfl n734)
  have t738 : τ734 q13 = 43 := (th_tkE et734 t698 rfl n734)
  have t739 : τ734 q19 = 44 := (th_tkE et734 t699 rfl n734)
  have t740 : τ734 q27 = 45 := (th_tkE et734 t700 rfl n734)
  have t741 : τ734 q37 = 46 := (th_tkE et734 t701 rfl n734)
  have t742 : τ734 q48 = 47 := (th_tkE et734 t702 rfl n734)
  have t743 : τ734 q60 = 48 := (th_tkE et734 t703 rfl n734)
  have t744 : τ734 q73 = 49 := (th_tkE et734 t704 rfl n734)
  have t745 : τ734 q87 = 50 := (th_tkE et734 t705 rfl n734)
  have t746 : τ734 q102 = 51 := (th_tkE et734 t706 rfl n734)
  have t747 : τ734 q120 = 52 := (th_tkE et734 t707 rfl n734)
  have t748 : τ734 q186 = 53 := (th_tkE et734 t708 rfl n734)
  have t749 : τ734 q271 = 54 := (th_tkE et734 t709 rfl n734)
  have t750 : τ734 q295 = 55 := (th_tkE et734 t710 rfl n734)
  have t751 : τ734 q322 = 56 := (th_tkE et734 t711 rfl n734)
  have t752 : τ734 q350 = 57 := (th_tkE et734 t712 rfl n734)
  have t753 : τ734 q380 = 58 := (th_tkE et734 t713 rfl n734)
  have t754 : τ734 q410 = 59 := (th_tkE et734 t714 rfl n734)
  have t755 : τ734 q442 = 60 := (th_tkE et734 t715 rfl n734)
  have t756 : τ734 q475 = 61 := (th_tkE et734 t716 rfl n734)
  have t757 : τ734 q509 = 62 := (th_tkE et734 t717 rfl n734)
  have t758 : τ734 q544 = 63 := (th_tkE et734 t718 rfl n734)
  have t759 : τ734 q580 = 64 := (th_tkE et734 t719 rfl n734)
  have t760 : τ734 q617 = 65 := (th_tkE et734 t720 rfl n734)
  have t761 : τ734 q655 = 66 := (th_tkE et734 t721 rfl n734)
  have t762 : τ734 q694 = 67 := (th_tkE et734 tn694 rfl n734)
  have z763 : τ734 h0 = 0 := (th_tzE et734 z722 (Nat.ne_of_lt (th_ltE s734 lt734_h0)))
  have tn734 : τ734 q734 = 68 := th_upS et734
  have e764 : (-1) = gi734 q120 ((7 : Int32).toNatClampNeg) := by rw [og734 q120 (th_neE t747 tn734 rfl)]; exact e723
  have e765 : (-1) = gi734 q186 ((7 : Int32).toNatClampNeg) := by rw [og734 q186 (th_neE t748 tn734 rfl)]; exact e724
  have zr766 : gi734 q19 = (fun _ => 0) := (og734 q19 (th_neE t739 tn734 rfl)).trans zr725
  have zr767 : gi734 q27 = (fun _ => 0) := (og734 q27 (th_neE t740 tn734 rfl)).trans zr726
  have zr768 : gi734 q102 = (fun _ => 0) := (og734 q102 (th_neE t746 tn734 rfl)).trans zr727
  have zr769 : gi734 q120 = (upd (upd (upd (upd (upd (upd (upd (upd (fun _ => 0) (0 : Int32).toNatClampNeg 0) (1 : Int32).toNatClampNeg 1) (2 : Int32).toNatClampNeg 1) (3 : Int32).toNatClampNeg 1) (4 : Int32).toNatClampNeg 0) (5 : Int32).toNatClampNeg (-1)) (6 : Int32).toNatClampNeg (-1)) (7 : Int32).toNatClampNeg (-1)) := (og734 q120 (th_neE t747 tn734 rfl)).trans zr728
  have zr770 : gi734 q186 = (upd (upd (upd (upd (upd (upd (upd (upd (fun _ => 0) (0 : Int32).toNatClampNeg (-1)) (1 : Int32).toNatClampNeg (-1)) (2 : Int32).toNatClampNeg 0) (3 : Int32).toNatClampNeg 1) (4 : Int32).toNatClampNeg 1) (5 : Int32).toNatClampNeg 1) (6 : Int32).toNatClampNeg 0) (7 : Int32).toNatClampNeg (-1)) := (og734 q186 (th_neE t748 tn734 rfl)).trans zr729
  have zr771 : gi734 q295 = (fun _ => 0) := (og734 q295 (th_neE t750 tn734 rfl)).trans zr730
  have zr772 : gi734 q322 = (fun _ => 0) := (og734 q322 (th_neE t751 tn734 rfl)).trans zr731
  have zr773 : gi734 q410 = (fun _ => 0) := (og734 q410 (th_neE t754 tn734 rfl)).trans zr732
  refine W.widen (k := 29) (n := 709) (Nat.le_of_ble_eq_true rfl) (Nat.le_of_ble_eq_true rfl) ?_
  refine th_rputF (ci := 11) (v := .ref q734) (T := TX12) (C := RX12) (N := 38) (ty := (.array .int)) hx hb hts (fun w h => List.mem_cons_of_mem _ (List.mem_append_right _ h)) tyX12 tyX12_ok nmX12 hown hK hH hS z763 (Or.inl rfl) hR_h0 rfl 37 (by decide) (hts (.fieldLink RX12 105 "BayMooringsModel" "then" "[I") (List.mem_cons_of_mem _ (List.mem_append_left _ (List.mem_append_right _ (List.mem_of_getElem? (i := 12) rfl))))) (fun _ h9 => h9) rfl hin rfl (by decide +kernel) rfl rfl (Nat.le_of_ble_eq_true rfl) dX12_init_316 (fun H locs hR_h0 hH hS y774 o774 => ?_)
  have hR_h0 : va_P D vwCl [(h0, .inr (11, [.int 0, .ref q1, .ref q4, .ref q8, .ref q13, .ref q19, .ref q27, .ref q37, .int 0, .ref q48, .ref q60, .ref q73, .ref q87, .ref q102, .int 255, .ref q120, .ref q186, .int 0, .ref q271, .ref q295, .int 1, .ref q322, .ref q350, .int 3, .int 0, .ref q380, .ref q410, .int 0, .ref q442, .ref q475, .ref q509, .ref q544, .ref q580, .int 0, .ref q617, .ref q655, .ref q694, .ref q734]))] H := hR_h0
  have hFp := hH.push (k0 := 12) (f := (fun k => match k with | 14 => 255 | 20 => 1 | 23 => 3 | _ => 0)) (r := (fun k => match k with | 1 => some q1 | 2 => some q4 | 3 => some q8 | 4 => some q13 | 5 => some q19 | 6 => some q27 | 7 => some q37 | 9 => some q48 | 10 => some q60 | 11 => some q73 | 12 => some q87 | 13 => some q102 | 15 => some q120 | 16 => some q186 | 18 => some q271 | 19 => some q295 | 21 => some q322 | 22 => some q350 | 25 => some q380 | 26 => some q410 | 28 => some q442 | 29 => some q475 | 30 => some q509 | 31 => some q544 | 32 => some q580 | 34 => some q617 | 35 => some q655 | 36 => some q694 | 37 => some q734 | _ => none)) (H1 := _) z763 (hR_h0 0 _ rfl) (⟨(rg_w rgc_0 (th_leI rfl) (th_leI rfl)), ⟨q1, rfl, th_tk t735 (by decide) z763⟩, ⟨q4, rfl, th_tk t736 (by decide) z763⟩, ⟨q8, rfl, th_tk t737 (by decide) z763⟩, ⟨q13, rfl, th_tk t738 (by decide) z763⟩, ⟨q19, rfl, th_tk t739 (by decide) z763⟩, ⟨q27, rfl, th_tk t740 (by decide) z763⟩, ⟨q37, rfl, th_tk t741 (by decide) z763⟩, (rg_w rgc_0 (th_leI rfl) (th_leI rfl)), ⟨q48, rfl, th_tk t742 (by decide) z763⟩, ⟨q60, rfl, th_tk t743 (by decide) z763⟩, ⟨q73, rfl, th_tk t744 (by decide) z763⟩, ⟨q87, rfl, th_tk t745 (by decide) z763⟩, ⟨q102, rfl, th_tk t746 (by decide) z763⟩, ⟨q120, rfl, th_tk t747 (by decide) z763⟩, ⟨q186, rfl, th_tk t748 (by decide) z763⟩, (rg_w rgc_0 (th_leI rfl) (th_leI rfl)), ⟨q271, rfl, th_tk t749 (by decide) z763⟩, ⟨q295, rfl, th_tk t750 (by decide) z763⟩, ⟨q322, rfl, th_tk t751 (by decide) z763⟩, ⟨q350, rfl, th_tk t752 (by decide) z763⟩, (rg_w rgc_0 (th_leI rfl) (th_leI rfl)), ⟨q380, rfl, th_tk t753 (by decide) z763⟩, ⟨q410, rfl, th_tk t754 (by decide) z763⟩, (rg_w rgc_0 (th_leI rfl) (th_leI rfl)), ⟨q442, rfl, th_tk t755 (by decide) z763⟩, ⟨q475, rfl, th_tk t756 (by decide) z763⟩, ⟨q509, rfl, th_tk t757 (by decide) z763⟩, ⟨q544, rfl, th_tk t758 (by decide) z763⟩, ⟨q580, rfl, th_tk t759 (by decide) z763⟩, ⟨q617, rfl, th_tk t760 (by decide) z763⟩, ⟨q655, rfl, th_tk t761 (by decide) z763⟩, ⟨q694, rfl, th_tk t762 (by decide) z763⟩, ⟨q734, rfl, th_tk tn734 (by decide) z763⟩⟩) (fun _ _ => rfl)
  exact W.vret hx hb hr (fun t ht hW => ⟨⟨(va_up τ734 h0 12, va_up gi734 h0 (fun k => match k with | 14 => 255 | 20 => 1 | 23 => 3 | _ => 0), va_up gr h0 (fun k => match k with | 1 => some q1 | 2 => some q4 | 3 => some q8 | 4 => some q13 | 5 => some q19 | 6 => some q27 | 7 => some q37 | 9 => some q48 | 10 => some q60 | 11 => some q73 | 12 => some q87 | 13 => some q102 | 15 => some q120 | 16 => some q186 | 18 => some q271 | 19 => some q295 | 21 => some q322 | 22 => some q350 | 25 => some q380 | 26 => some q410 | 28 => some q442 | 29 => some q475 | 30 => some q509 | 31 => some q544 | 32 => some q580 | 34 => some q617 | 35 => some q655 | 36 => some q694 | 37 => some q734 | _ => none)), rfl, ⟨hE.add z763 (Or.inl rfl), va_up_self _ _ _, congrFun (va_up_self _ _ _) 0, congrFun (va_up_self _ _ _) 8, congrFun (va_up_self _ _ _) 14, congrFun (va_up_self _ _ _) 17, congrFun (va_up_self _ _ _) 20, congrFun (va_up_self _ _ _) 23, congrFun (va_up_self _ _ _) 24, (fun a h9 => by have h8 : some q19 = some a := (congrFun (va_up_self _ _ _) 5).symm.trans h9; cases h8; exact ((va_up_ne _ _ (Ne.symm (th_ne0 z763 t739 (by decide)))).trans zr766)), (fun a h9 => by have h8 : some q27 = some a := (congrFun (va_up_self _ _ _) 6).symm.trans h9; cases h8; exact ((va_up_ne _ _ (Ne.symm (th_ne0 z763 t740 (by decide)))).trans zr767)), (fun a h9 => by have h8 : some q102 = some a := (congrFun (va_up_self _ _ _) 13).symm.trans h9; cases h8; exact ((va_up_ne _ _ (Ne.symm (th_ne0 z763 t746 (by decide)))).trans zr768)), (fun a h9 => by have h8 : some q295 = some a := (congrFun (va_up_self _ _ _) 19).symm.trans h9; cases h8; exact ((va_up_ne _ _ (Ne.symm (th_ne0 z763 t750 (by decide)))).trans zr771)), (fun a h9 => by have h8 : some q322 = some a := (congrFun (va_up_self _ _ _) 21).symm.trans h9; cases h8; exact ((va_up_ne _ _ (Ne.symm (th_ne0 z763 t751 (by decide)))).trans zr772)), (fun a h9 => by have h8 : some q410 = some a := (congrFun (va_up_self _ _ _) 26).symm.trans h9; cases h8; exact ((va_up_ne _ _ (Ne.symm (th_ne0 z763 t754 (by decide)))).trans zr773)), (fun a h9 => by have h8 : some q120 = some a := (congrFun (va_up_self _ _ _) 15).symm.trans h9; cases h8; exact (fun j hj => (congrFun ((va_up_ne _ _ (Ne.symm (th_ne0 z763 t747 (by decide)))).trans zr769) j).trans (by rcases (show j = 0 ∨ j = 1 ∨ j = 2 ∨ j = 3 ∨ j = 4 ∨ j = 5 ∨ j = 6 ∨ j = 7 by omega) with rfl | rfl | rfl | rfl | rfl | rfl | rfl | rfl <;> decide))), (fun a h9 => by have h8 : some q186 = some a := (congrFun (va_up_self _ _ _) 16).symm.trans h9; cases h8; exact (fun j hj => (congrFun ((va_up_ne _ _ (Ne.symm (th_ne0 z763 t748 (by decide)))).trans zr770) j).trans (by rcases (show j = 0 ∨ j = 1 ∨ j = 2 ∨ j = 3 ∨ j = 4 ∨ j = 5 ∨ j = 6 ∨ j = 7 by omega) with rfl | rfl | rfl | rfl | rfl | rfl | rfl | rfl <;> decide)))⟩, th_Ht ht hFp⟩, hS.F ht⟩) hS.2.2 dX12_init_319
