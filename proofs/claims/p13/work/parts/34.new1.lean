noncomputable def M_X1_init (τ : th_t) (Z : th_Zt) (gi : th_i) (gr : th_r) (h0 : Nat) (tO : th_t) (gO : th_i) (qO : th_r) : Prop :=
  ∃ (q1 : Nat), τ q1 = 0 ∧ h0 ≠ q1 ∧ (
  let τ1 : th_t := va_up τ q1 24
  let gi1 : th_i := va_up gi q1 (fun _ => 0)
  ∃ (q4 : Nat), τ1 q4 = 0 ∧ h0 ≠ q4 ∧ (
  let τ4 : th_t := va_up τ1 q4 25
  let gi4 : th_i := va_up gi1 q4 (fun _ => 0)
  let gi9 : th_i := F_J7_fill_53178_24 τ4 Z gi4 gr q1 (-1)
  let gi11 : th_i := F_J7_fill_53178_25 τ4 Z gi9 gr q4 (-1)
  tO = va_up τ4 h0 2 ∧ gO = va_up gi11 h0 (fun _ => 0) ∧ qO = va_up gr h0 (fun k => match k with | 0 => some q1 | 1 => some q4 | _ => none)))
set_option maxHeartbeats 20000000 in
set_option maxRecDepth 100000 in
theorem k_X1_init (l : Launch) (D : va_G) (cA : Nat → ClassId) (Z : th_Zt) (τ : th_t) (gi : th_i) (gr : th_r) (sz : Nat) (h0 : Nat) : Met l yX1_init wsX1_init ({ frames := 1, cells := 2, slots := 28, locals := 30 }) (va_Pc [.ref h0] (th_PreC D cA Z τ gi gr sz h0 (.inr (1, [.null, .null])))) (va_Qv (fun (u : th_t × th_i × th_r) => th_Ext [2400, 2500] τ gi gr sz h0 u.1 u.2.1 u.2.2 ∧ u.1 h0 = 2 ∧ (M_X1_init τ Z gi gr h0 u.1 u.2.1 u.2.2)) (fun (u : th_t × th_i × th_r) t => th_H D cA u.1 u.2.1 u.2.2 t.heap) (th_AC τ sz h0)) 2 28 (th_AC τ sz h0) := by
  refine Met.ofW (cc := cX1_init) (maxL := 1) (ret := none) (by decide) rfl ?_
  intro p e s m args below meth c s₁ B hml hv
  obtain ⟨rfl, hsz, hH, hK, hN, hZ, z_h0, hR_h0⟩ := hv
  have hx := B.exec
  have hb := B.bytes
  have hr := B.returns
  have hts := atoms_spec (ws := wsX1_init) B.pre
  have hown : s.vm.findClass RX1 = some m.cls := findClass_of_methodNamed B.named
  have hlocks := B.notSynchronized
  have hin : meth.name = "<init>" := (name_of_methodNamed B.named B.method).1
  subst hsz
  have hA : ∀ q : Nat, s.heap.size ≤ q → (th_AC τ s.heap.size h0) q := fun q h => Or.inr (Or.inr h)
  have hE : th_Ext [2400, 2500] τ gi gr s.heap.size h0 τ gi gr := th_Ext.rf
  have hS : va_S (th_AC τ s.heap.size h0) s.heap s.heap [] := va_S.rf
  have hl := lv_entry ([.ref h0]) (n := 1) (Nat.le_of_ble_eq_true rfl)
  rw [lg_entry_eq]
  generalize (lg_sl ([.ref h0]) ++ List.replicate (1 - (lg_sl ([.ref h0])).length) Slot.unset).toArray = ls at hl ⊢
  have hl : lv_has ls 1 [(0, .ref h0)] := hl
  have hF : (∀ (tO : th_t) (gO : th_i) (qO : th_r), M_X1_init τ Z gi gr h0 tO gO qO → M_X1_init τ Z gi gr h0 tO gO qO) := fun tO gO qO h9 => h9
  refine lv_aload_n hx hb dX1_init_0 rfl (lv_at hl 0 rfl) ?_
  refine W.objInit hx hb hown (hts (.methodLink RX1 3 objectInit) (List.mem_cons_of_mem _ (List.mem_append_left _ (List.mem_of_getElem? (i := 0) rfl)))) (hts (.instanceMethod objectInit) (List.mem_cons_of_mem _ (List.mem_append_left _ (List.mem_of_getElem? (i := 1) rfl)))) (hts (.code objectInit ⟨#[0xb1]⟩ 1 none) (List.mem_cons_of_mem _ (List.mem_append_left _ (List.mem_of_getElem? (i := 2) rfl)))) rfl (by rw [hml]; exact hl.1) rfl dX1_init_1 (Nat.le_of_ble_eq_true rfl) (Nat.le_of_ble_eq_true rfl) ?_
  refine W.eq (g2 := F0 m 4 ls []) rfl ?_
  refine lv_aload_n hx hb dX1_init_4 rfl (lv_at hl 0 rfl) ?_
  refine lv_bipush (v := 16) hx hb dX1_init_5 bp_16 ?_
  have hle1 := hS.1
  have lt1_h0 := (hR_h0 0 _ rfl).lt
  refine th_newI (atype := .int) (cI := cA 0) (N' := 16) hx hb (hts (.arrayClass .int) (List.mem_cons_of_mem _ (List.mem_append_left _ (List.mem_of_getElem? (i := 3) rfl)))) hK 0 rfl (fun h => h) hH hS hA 24 (by decide) (by decide) (by decide) (Nat.le_of_ble_eq_true rfl) (Nat.le_of_ble_eq_true rfl) rfl (fun _ => rfl) (fun _ _ => trivial) dX1_init_7 (fun q1 H s1 y1 n1 o1 hH hS => ?_)
  have le1 : s.heap.size ≤ q1 := th_leE s1 hle1
  have hR_h0 := th_P1 hR_h0 (o1 _ (th_ltE s1 lt1_h0))
  obtain ⟨τ1, et1⟩ : ∃ t, t = va_up τ q1 24 := ⟨_, rfl⟩
  have zz1 := hE.z n1
  obtain ⟨gi1, eg1⟩ : ∃ g, g = va_up gi q1 (fun _ => 0) := ⟨_, rfl⟩
  have hE := hE.add (k0 := 24) (f := (fun _ => 0)) (r := gr q1) n1 (Or.inr le1)
  rw [th_upid gr q1, ← et1, ← eg1] at hE
  rw [← et1, ← eg1] at hH
  have og1 : ∀ b, b ≠ q1 → gi1 b = gi b := th_upO eg1
  have z2 : τ1 h0 = 0 := (th_tzE et1 z_h0 (Nat.ne_of_lt (th_ltE s1 lt1_h0)))
  have tn1 : τ1 q1 = 24 := th_upS et1
  refine W.widen (k := 1) (n := 16) (Nat.le_of_ble_eq_true rfl) (Nat.le_of_ble_eq_true rfl) ?_
  refine th_rputF (ci := 1) (v := .ref q1) (T := TX1) (C := RX1) (N := 2) (ty := (.array .int)) hx hb hts (fun w h => List.mem_cons_of_mem _ (List.mem_append_right _ h)) tyX1 tyX1_ok nmX1 hown hK hH hS z2 (Or.inl rfl) hR_h0 rfl 0 (by decide) (hts (.fieldLink RX1 9 "BayMoorings$Berths" "buoyOfBoat" "[I") (List.mem_cons_of_mem _ (List.mem_append_left _ (List.mem_of_getElem? (i := 4) rfl)))) (fun _ h9 => h9) rfl hin rfl (by decide +kernel) rfl rfl (Nat.le_of_ble_eq_true rfl) dX1_init_9 (fun H locs hR_h0 hH hS y3 o3 => ?_)
  have hR_h0 : va_P D vwCl [(h0, .inr (1, [.ref q1, .null]))] H := hR_h0
  refine lv_aload_n hx hb dX1_init_12 rfl (lv_at hl 0 rfl) ?_
  refine lv_bipush (v := 12) hx hb dX1_init_13 bp_12 ?_
  have hle4 := hS.1
  have lt4_h0 := (hR_h0 0 _ rfl).lt
  refine th_newI (atype := .int) (cI := cA 0) (N' := 12) hx hb (hts (.arrayClass .int) (List.mem_cons_of_mem _ (List.mem_append_left _ (List.mem_of_getElem? (i := 3) rfl)))) hK 0 rfl (fun h => h) hH hS hA 25 (by decide) (by decide) (by decide) (Nat.le_of_ble_eq_true rfl) (Nat.le_of_ble_eq_true rfl) rfl (fun _ => rfl) (fun _ _ => trivial) dX1_init_15 (fun q4 H s4 y4 n4 o4 hH hS => ?_)
  have le4 : s.heap.size ≤ q4 := th_leE s4 hle4
  have hR_h0 := th_P1 hR_h0 (o4 _ (th_ltE s4 lt4_h0))
  obtain ⟨τ4, et4⟩ : ∃ t, t = va_up τ1 q4 25 := ⟨_, rfl⟩
  have zz4 := hE.z n4
  obtain ⟨gi4, eg4⟩ : ∃ g, g = va_up gi1 q4 (fun _ => 0) := ⟨_, rfl⟩
  have hE := hE.add (k0 := 25) (f := (fun _ => 0)) (r := gr q4) n4 (Or.inr le4)
  rw [th_upid gr q4, ← et4, ← eg4] at hE
  rw [← et4, ← eg4] at hH
  have og4 : ∀ b, b ≠ q4 → gi4 b = gi1 b := th_upO eg4
  have t5 : τ4 q1 = 24 := (th_tkE et4 tn1 rfl n4)
  have z6 : τ4 h0 = 0 := (th_tzE et4 z2 (Nat.ne_of_lt (th_ltE s4 lt4_h0)))
  have tn4 : τ4 q4 = 25 := th_upS et4
  refine W.widen (k := 2) (n := 28) (Nat.le_of_ble_eq_true rfl) (Nat.le_of_ble_eq_true rfl) ?_
  refine th_rputF (ci := 1) (v := .ref q4) (T := TX1) (C := RX1) (N := 2) (ty := (.array .int)) hx hb hts (fun w h => List.mem_cons_of_mem _ (List.mem_append_right _ h)) tyX1 tyX1_ok nmX1 hown hK hH hS z6 (Or.inl rfl) hR_h0 rfl 1 (by decide) (hts (.fieldLink RX1 15 "BayMoorings$Berths" "boatOfBuoy" "[I") (List.mem_cons_of_mem _ (List.mem_append_left _ (List.mem_of_getElem? (i := 5) rfl)))) (fun _ h9 => h9) rfl hin rfl (by decide +kernel) rfl rfl (Nat.le_of_ble_eq_true rfl) dX1_init_17 (fun H locs hR_h0 hH hS y7 o7 => ?_)
  have hR_h0 : va_P D vwCl [(h0, .inr (1, [.ref q1, .ref q4]))] H := hR_h0
  refine lv_aload_n hx hb dX1_init_20 rfl (lv_at hl 0 rfl) ?_
  refine va_get (D := D) (ci := 1) (v := .ref q1) (C := RX1) (T := TX1) (N := 2) hx hb hts (fun w h => List.mem_cons_of_mem _ (List.mem_append_right _ h)) hown hK hR_h0 0 rfl rfl 0 (by decide) (hts (.fieldLink RX1 9 "BayMoorings$Berths" "buoyOfBoat" "[I") (List.mem_cons_of_mem _ (List.mem_append_left _ (List.mem_of_getElem? (i := 4) rfl)))) (fun _ h9 => h9) rfl dX1_init_21 ?_
  refine lv_iconst (v := (-1)) hx hb dX1_init_24 ic_m1 ?_
  have ltc_h0 := (hR_h0 0 _ rfl).lt
  have hA8 : ∀ q, th_A τ4 _ q → (th_AC τ s.heap.size h0) q := th_AE hE hS
  refine va_callv (va_runS (As := [.ref q1, .int (-1)]) (rest := []) ⟨hx, hb, hml, hown, hts⟩ (k_J7_fill_53178_24 l D cA Z τ4 gi4 gr _ q1 t5 (-1)) (va_cwS 2 hts gX1_init_J7_fill_53178 rfl rfl rfl (by decide +kernel) ⟨Nat.le_of_ble_eq_true rfl, Nat.le_of_ble_eq_true rfl⟩) ⟨th_blind, (th_pre hH hK hN hZ hS hA8)⟩ rfl rfl hl.1 rfl (lv_room (Nat.le_of_ble_eq_true rfl)) dX1_init_25 ⟨Nat.le_of_ble_eq_true rfl, Nat.le_of_ble_eq_true rfl⟩) hS (fun q _ h => hA8 q h) hA8 (fun  u t H locs ht hvm hw9 hB hz1 hk1 hS => ?_)
  try dsimp only at hw9 hB
  rw [ht] at hB
  have hH := hB
  have hR_h0 := th_P1 hR_h0 (hk1 _ ltc_h0 (th_nA z6 ltc_h0))
  obtain ⟨gi9, gr9⟩ := u
  try dsimp only at hw9 hH
  obtain rfl : gr = gr9 := (hw9.2.1).symm
  have hE := hE.mod hw9.1 (by decide)
  refine lv_aload_n hx hb dX1_init_28 rfl (lv_at hl 0 rfl) ?_
  refine va_get (D := D) (ci := 1) (v := .ref q4) (C := RX1) (T := TX1) (N := 2) hx hb hts (fun w h => List.mem_cons_of_mem _ (List.mem_append_right _ h)) hown hK hR_h0 0 rfl rfl 1 (by decide) (hts (.fieldLink RX1 15 "BayMoorings$Berths" "boatOfBuoy" "[I") (List.mem_cons_of_mem _ (List.mem_append_left _ (List.mem_of_getElem? (i := 5) rfl)))) (fun _ h9 => h9) rfl dX1_init_29 ?_
  refine lv_iconst (v := (-1)) hx hb dX1_init_32 ic_m1 ?_
  have ltc_h0 := (hR_h0 0 _ rfl).lt
  have hA10 : ∀ q, th_A τ4 _ q → (th_AC τ s.heap.size h0) q := th_AE hE hS
  refine va_callv (va_runS (As := [.ref q4, .int (-1)]) (rest := []) ⟨hx, hb, hml, hown, hts⟩ (k_J7_fill_53178_25 l D cA Z τ4 gi9 gr _ q4 tn4 (-1)) (va_cwS 2 hts gX1_init_J7_fill_53178 rfl rfl rfl (by decide +kernel) ⟨Nat.le_of_ble_eq_true rfl, Nat.le_of_ble_eq_true rfl⟩) ⟨th_blind, (th_pre hH hK hN hZ hS hA10)⟩ rfl rfl hl.1 rfl (lv_room (Nat.le_of_ble_eq_true rfl)) dX1_init_33 ⟨Nat.le_of_ble_eq_true rfl, Nat.le_of_ble_eq_true rfl⟩) hS (fun q _ h => hA10 q h) hA10 (fun  u t H locs ht hvm hw11 hB hz1 hk1 hS => ?_)
  try dsimp only at hw11 hB
  rw [ht] at hB
  have hH := hB
  have hR_h0 := th_P1 hR_h0 (hk1 _ ltc_h0 (th_nA z6 ltc_h0))
  obtain ⟨gi11, gr11⟩ := u
  try dsimp only at hw11 hH
  obtain rfl : gr = gr11 := (hw11.2.1).symm
  have hE := hE.mod hw11.1 (by decide)
  have hFp := hH.push (k0 := 2) (f := (fun _ => 0)) (r := (fun k => match k with | 0 => some q1 | 1 => some q4 | _ => none)) (H1 := _) z6 (hR_h0 0 _ rfl) (⟨⟨q1, rfl, th_tk t5 (by decide) z6⟩, ⟨q4, rfl, th_tk tn4 (by decide) z6⟩⟩) (fun _ _ => rfl)
  exact W.vret hx hb hr (fun t ht hW => ⟨⟨(va_up τ4 h0 2, va_up gi11 h0 (fun _ => 0), va_up gr h0 (fun k => match k with | 0 => some q1 | 1 => some q4 | _ => none)), rfl, ⟨hE.add z6 (Or.inl rfl), va_up_self _ _ _, (hF _ _ _ (by (try simp only [M_X1_init]); refine ⟨q1, n1, Nat.ne_of_lt (th_ltE s1 lt1_h0), ?_⟩; (try simp only [← et1, ← eg1]); refine ⟨q4, n4, Nat.ne_of_lt (th_ltE s4 lt4_h0), ?_⟩; (try simp only [← et1, ← eg1, ← et4, ← eg4, hw9.2.2, hw11.2.2]); first | done | exact ⟨(by first | rfl | trivial), (by first | rfl | trivial), (by first | rfl | trivial)⟩))⟩, th_Ht ht hFp⟩, hS.F ht⟩) hS.2.2 dX1_init_36

noncomputable def f_X0_init_73 (τ : th_t) (Z : th_Zt) (gi : th_i) (gr : th_r) (h0 : Nat) (tO : th_t) (gO : th_i) (qO : th_r) (τ20 : th_t) (q1 : Nat) (q4 : Nat) (q8 : Nat) (q13 : Nat) (q19 : Nat) : Nat → th_i → th_r → Int32 → Prop
  | 0, gi_73, gr_73, y73_1 => False
  | n + 1, gi_73, gr_73, y73_1 =>
    if (24 : Int32) ≤ y73_1 then (
      tO = va_up τ20 h0 1 ∧ gO = va_up gi_73 h0 (fun k => match k with | 7 => 255 | _ => 0) ∧ qO = va_up gr_73 h0 (fun k => match k with | 0 => some q1 | 1 => some q4 | 2 => some q8 | 3 => some q13 | 4 => some q19 | _ => none)) else (
      ∃ (gi34 : th_i), gi34 = va_up gi_73 q13 (upd (gi_73 q13) y73_1.toNatClampNeg 1) ∧ (
      let x35 : Int32 := y73_1 + 1
      f_X0_init_73 τ Z gi gr h0 tO gO qO τ20 q1 q4 q8 q13 q19 n gi34 gr_73 x35))
noncomputable def M_X0_init (τ : th_t) (Z : th_Zt) (gi : th_i) (gr : th_r) (h0 : Nat) (tO : th_t) (gO : th_i) (qO : th_r) : Prop :=
  ∃ (q1 : Nat), τ q1 = 0 ∧ h0 ≠ q1 ∧ (
  let τ1 : th_t := va_up τ q1 20
  let gr1 : th_r := va_up gr q1 (fun _ => none)
  ∃ (q4 : Nat), τ1 q4 = 0 ∧ h0 ≠ q4 ∧ (
  let τ4 : th_t := va_up τ1 q4 21
  let gr4 : th_r := va_up gr1 q4 (fun _ => none)
  ∃ (q8 : Nat), τ4 q8 = 0 ∧ h0 ≠ q8 ∧ (
  let τ8 : th_t := va_up τ4 q8 22
  let gi8 : th_i := va_up gi q8 (fun _ => 0)
  ∃ (q13 : Nat), τ8 q13 = 0 ∧ h0 ≠ q13 ∧ (
  let τ13 : th_t := va_up τ8 q13 23
  let gi13 : th_i := va_up gi8 q13 (fun _ => 0)
  ∃ (q19 : Nat), τ13 q19 = 0 ∧ h0 ≠ q19 ∧ (
  ∃ (τ20 : th_t) (gi20 : th_i) (gr20 : th_r), M_X1_init τ13 Z gi13 gr4 q19 τ20 gi20 gr20 ∧ τ20 h0 = 0 ∧ (
  f_X0_init_73 τ Z gi gr h0 tO gO qO τ20 q1 q4 q8 q13 q19 ((24 - (1 : Int32).toInt).toNat + 1) gi20 gr20 1))))))
set_option maxHeartbeats 20000000 in
set_option maxRecDepth 100000 in
theorem k_X0_init (l : Launch) (D : va_G) (cA : Nat → ClassId) (Z : th_Zt) (τ : th_t) (gi : th_i) (gr : th_r) (sz : Nat) (h0 : Nat) : Met l yX0_init wsX0_init ({ frames := 2, cells := 7, slots := 106, locals := 50 }) (va_Pc [.ref h0] (th_PreC D cA Z τ gi gr sz h0 (.inr (0, [.null, .null, .null, .null, .null, .int 0, .int 0, .int 0, .int 0])))) (va_Qv (fun (u : th_t × th_i × th_r) => th_Ext [2300, 2400, 2500] τ gi gr sz h0 u.1 u.2.1 u.2.2 ∧ u.1 h0 = 1 ∧ (u.2.1 h0 5 = 0) ∧ (u.2.1 h0 6 = 0) ∧ (u.2.1 h0 7 = 255) ∧ (u.2.1 h0 8 = 0) ∧ (M_X0_init τ Z gi gr h0 u.1 u.2.1 u.2.2)) (fun (u : th_t × th_i × th_r) t => th_H D cA u.1 u.2.1 u.2.2 t.heap) (th_AC τ sz h0)) 7 106 (th_AC τ sz h0) := by
  refine Met.ofW (cc := cX0_init) (maxL := 2) (ret := none) (by decide) rfl ?_
  intro p e s m args below meth c s₁ B hml hv
  obtain ⟨rfl, hsz, hH, hK, hN, hZ, z_h0, hR_h0⟩ := hv
  have hx := B.exec
  have hb := B.bytes
  have hr := B.returns
  have hts := atoms_spec (ws := wsX0_init) B.pre
  have hown : s.vm.findClass RX0 = some m.cls := findClass_of_methodNamed B.named
  have hlocks := B.notSynchronized
  have hin : meth.name = "<init>" := (name_of_methodNamed B.named B.method).1
  subst hsz
  have hA : ∀ q : Nat, s.heap.size ≤ q → (th_AC τ s.heap.size h0) q := fun q h => Or.inr (Or.inr h)
  have hE : th_Ext [2300, 2400, 2500] τ gi gr s.heap.size h0 τ gi gr := th_Ext.rf
  have hS : va_S (th_AC τ s.heap.size h0) s.heap s.heap [] := va_S.rf
  have hl := lv_entry ([.ref h0]) (n := 2) (Nat.le_of_ble_eq_true rfl)
  rw [lg_entry_eq]
  generalize (lg_sl ([.ref h0]) ++ List.replicate (2 - (lg_sl ([.ref h0])).length) Slot.unset).toArray = ls at hl ⊢
  have hl : lv_has ls 2 [(0, .ref h0)] := hl
  have hF : (∀ (tO : th_t) (gO : th_i) (qO : th_r), M_X0_init τ Z gi gr h0 tO gO qO → M_X0_init τ Z gi gr h0 tO gO qO) := fun tO gO qO h9 => h9
  refine lv_aload_n hx hb dX0_init_0 rfl (lv_at hl 0 rfl) ?_
  refine W.objInit hx hb hown (hts (.methodLink RX0 3 objectInit) (List.mem_cons_of_mem _ (List.mem_append_left _ (List.mem_append_left _ (List.mem_append_left _ (List.mem_of_getElem? (i := 0) rfl)))))) (hts (.instanceMethod objectInit) (List.mem_cons_of_mem _ (List.mem_append_left _ (List.mem_append_left _ (List.mem_append_left _ (List.mem_of_getElem? (i := 1) rfl)))))) (hts (.code objectInit ⟨#[0xb1]⟩ 1 none) (List.mem_cons_of_mem _ (List.mem_append_left _ (List.mem_append_left _ (List.mem_append_left _ (List.mem_of_getElem? (i := 2) rfl)))))) rfl (by rw [hml]; exact hl.1) rfl dX0_init_1 (Nat.le_of_ble_eq_true rfl) (Nat.le_of_ble_eq_true rfl) ?_
  refine W.eq (g2 := F0 m 4 ls []) rfl ?_
  refine lv_aload_n hx hb dX0_init_4 rfl (lv_at hl 0 rfl) ?_
  refine lv_bipush (v := 12) hx hb dX0_init_5 bp_12 ?_
  have hle1 := hS.1
  have lt1_h0 := (hR_h0 0 _ rfl).lt
  refine th_newR (C := "BayMoorings$Buoy") (cI := cA 2) (N' := 12) hx hb hown (hts (.classLink RX0 9 RX3) (List.mem_cons_of_mem _ (List.mem_append_left _ (List.mem_append_left _ (List.mem_append_left _ (List.mem_of_getElem? (i := 3) rfl)))))) hN.2.2.2.2.2.2.2.2.2.2.2.2.2.1 hK 2 rfl hH hS hA 20 (by decide) (by decide) (by decide) (Nat.le_of_ble_eq_true rfl) (Nat.le_of_ble_eq_true rfl) (fun _ => rfl) (fun _ _ => (fun _ _ _ h9 => by cases h9)) dX0_init_7 (fun q1 H s1 y1 n1 o1 hH hS => ?_)
  have le1 : s.heap.size ≤ q1 := th_leE s1 hle1
  have hR_h0 := th_P1 hR_h0 (o1 _ (th_ltE s1 lt1_h0))
  obtain ⟨τ1, et1⟩ : ∃ t, t = va_up τ q1 20 := ⟨_, rfl⟩
  have zz1 := hE.z n1
  obtain ⟨gr1, eg1⟩ : ∃ g, g = va_up gr q1 (fun _ => none) := ⟨_, rfl⟩
  have hE := hE.add (k0 := 20) (f := gi q1) (r := (fun _ => none)) n1 (Or.inr le1)
  rw [th_upid gi q1, ← et1, ← eg1] at hE
  rw [← et1, ← eg1] at hH
  have z2 : τ1 h0 = 0 := (th_tzE et1 z_h0 (Nat.ne_of_lt (th_ltE s1 lt1_h0)))
  have tn1 : τ1 q1 = 20 := th_upS et1
  refine W.widen (k := 1) (n := 12) (Nat.le_of_ble_eq_true rfl) (Nat.le_of_ble_eq_true rfl) ?_
  refine th_rputF (ci := 0) (v := .ref q1) (T := TX0) (C := RX0) (N := 9) (ty := (.array (.object "BayMoorings$Buoy"))) hx hb hts (fun w h => List.mem_cons_of_mem _ (List.mem_append_left _ (List.mem_append_right _ h))) tyX0 tyX0_ok nmX0 hown hK hH hS z2 (Or.inl rfl) hR_h0 rfl 0 (by decide) (hts (.fieldLink RX0 11 "BayMoorings$Bay" "buoys" "[LBayMoorings$Buoy;") (List.mem_cons_of_mem _ (List.mem_append_left _ (List.mem_append_left _ (List.mem_append_left _ (List.mem_of_getElem? (i := 4) rfl)))))) (fun _ h9 => h9) rfl hin rfl (by decide +kernel) rfl rfl (Nat.le_of_ble_eq_true rfl) dX0_init_10 (fun H locs hR_h0 hH hS y3 o3 => ?_)
  have hR_h0 : va_P D vwCl [(h0, .inr (0, [.ref q1, .null, .null, .null, .null, .int 0, .int 0, .int 0, .int 0]))] H := hR_h0
  refine lv_aload_n hx hb dX0_init_13 rfl (lv_at hl 0 rfl) ?_
  refine lv_bipush (v := 16) hx hb dX0_init_14 bp_16 ?_
  have hle4 := hS.1
  have lt4_h0 := (hR_h0 0 _ rfl).lt
  refine th_newR (C := "BayMoorings$Boat") (cI := cA 3) (N' := 16) hx hb hown (hts (.classLink RX0 17 RX2) (List.mem_cons_of_mem _ (List.mem_append_left _ (List.mem_append_left _ (List.mem_append_left _ (List.mem_of_getElem? (i := 5) rfl)))))) hN.2.2.2.2.2.2.2.2.2.2.2.2.1 hK 3 rfl hH hS hA 21 (by decide) (by decide) (by decide) (Nat.le_of_ble_eq_true rfl) (Nat.le_of_ble_eq_true rfl) (fun _ => rfl) (fun _ _ => (fun _ _ _ h9 => by cases h9)) dX0_init_16 (fun q4 H s4 y4 n4 o4 hH hS => ?_)
  have le4 : s.heap.size ≤ q4 := th_leE s4 hle4
  have hR_h0 := th_P1 hR_h0 (o4 _ (th_ltE s4 lt4_h0))
  obtain ⟨τ4, et4⟩ : ∃ t, t = va_up τ1 q4 21 := ⟨_, rfl⟩
  have zz4 := hE.z n4
  obtain ⟨gr4, eg4⟩ : ∃ g, g = va_up gr1 q4 (fun _ => none) := ⟨_, rfl⟩
  have hE := hE.add (k0 := 21) (f := gi q4) (r := (fun _ => none)) n4 (Or.inr le4)
  rw [th_upid gi q4, ← et4, ← eg4] at hE
  rw [← et4, ← eg4] at hH
  have t5 : τ4 q1 = 20 := (th_tkE et4 tn1 rfl n4)
  have z6 : τ4 h0 = 0 := (th_tzE et4 z2 (Nat.ne_of_lt (th_ltE s4 lt4_h0)))
  have tn4 : τ4 q4 = 21 := th_upS et4
  refine W.widen (k := 2) (n := 28) (Nat.le_of_ble_eq_true rfl) (Nat.le_of_ble_eq_true rfl) ?_
  refine th_rputF (ci := 0) (v := .ref q4) (T := TX0) (C := RX0) (N := 9) (ty := (.array (.object "BayMoorings$Boat"))) hx hb hts (fun w h => List.mem_cons_of_mem _ (List.mem_append_left _ (List.mem_append_right _ h))) tyX0 tyX0_ok nmX0 hown hK hH hS z6 (Or.inl rfl) hR_h0 rfl 1 (by decide) (hts (.fieldLink RX0 19 "BayMoorings$Bay" "boats" "[LBayMoorings$Boat;") (List.mem_cons_of_mem _ (List.mem_append_left _ (List.mem_append_left _ (List.mem_append_left _ (List.mem_of_getElem? (i := 6) rfl)))))) (fun _ h9 => h9) rfl hin rfl (by decide +kernel) rfl rfl (Nat.le_of_ble_eq_true rfl) dX0_init_19 (fun H locs hR_h0 hH hS y7 o7 => ?_)
  have hR_h0 : va_P D vwCl [(h0, .inr (0, [.ref q1, .ref q4, .null, .null, .null, .int 0, .int 0, .int 0, .int 0]))] H := hR_h0
  refine lv_aload_n hx hb dX0_init_22 rfl (lv_at hl 0 rfl) ?_
  refine lv_bipush (v := 24) hx hb dX0_init_23 bp_24 ?_
  have hle8 := hS.1
  have lt8_h0 := (hR_h0 0 _ rfl).lt
  refine th_newI (atype := .int) (cI := cA 0) (N' := 24) hx hb (hts (.arrayClass .int) (List.mem_cons_of_mem _ (List.mem_append_left _ (List.mem_append_left _ (List.mem_append_left _ (List.mem_of_getElem? (i := 7) rfl)))))) hK 0 rfl (fun h => h) hH hS hA 22 (by decide) (by decide) (by decide) (Nat.le_of_ble_eq_true rfl) (Nat.le_of_ble_eq_true rfl) rfl (fun _ => rfl) (fun _ _ => trivial) dX0_init_25 (fun q8 H s8 y8 n8 o8 hH hS => ?_)
  have le8 : s.heap.size ≤ q8 := th_leE s8 hle8
  have hR_h0 := th_P1 hR_h0 (o8 _ (th_ltE s8 lt8_h0))
  obtain ⟨τ8, et8⟩ : ∃ t, t = va_up τ4 q8 22 := ⟨_, rfl⟩
  have zz8 := hE.z n8
  obtain ⟨gi8, eg8⟩ : ∃ g, g = va_up gi q8 (fun _ => 0) := ⟨_, rfl⟩
  have hE := hE.add (k0 := 22) (f := (fun _ => 0)) (r := gr4 q8) n8 (Or.inr le8)
  rw [th_upid gr4 q8, ← et8, ← eg8] at hE
  rw [← et8, ← eg8] at hH
  have og8 : ∀ b, b ≠ q8 → gi8 b = gi b := th_upO eg8
  have t9 : τ8 q1 = 20 := (th_tkE et8 t5 rfl n8)
  have t10 : τ8 q4 = 21 := (th_tkE et8 tn4 rfl n8)
  have z11 : τ8 h0 = 0 := (th_tzE et8 z6 (Nat.ne_of_lt (th_ltE s8 lt8_h0)))
  have tn8 : τ8 q8 = 22 := th_upS et8
  refine W.widen (k := 3) (n := 52) (Nat.le_of_ble_eq_true rfl) (Nat.le_of_ble_eq_true rfl) ?_
  refine th_rputF (ci := 0) (v := .ref q8) (T := TX0) (C := RX0) (N := 9) (ty := (.array .int)) hx hb hts (fun w h => List.mem_cons_of_mem _ (List.mem_append_left _ (List.mem_append_right _ h))) tyX0 tyX0_ok nmX0 hown hK hH hS z11 (Or.inl rfl) hR_h0 rfl 2 (by decide) (hts (.fieldLink RX0 23 "BayMoorings$Bay" "tides" "[I") (List.mem_cons_of_mem _ (List.mem_append_left _ (List.mem_append_left _ (List.mem_append_left _ (List.mem_of_getElem? (i := 8) rfl)))))) (fun _ h9 => h9) rfl hin rfl (by decide +kernel) rfl rfl (Nat.le_of_ble_eq_true rfl) dX0_init_27 (fun H locs hR_h0 hH hS y12 o12 => ?_)
  have hR_h0 : va_P D vwCl [(h0, .inr (0, [.ref q1, .ref q4, .ref q8, .null, .null, .int 0, .int 0, .int 0, .int 0]))] H := hR_h0
  refine lv_aload_n hx hb dX0_init_30 rfl (lv_at hl 0 rfl) ?_
  refine lv_bipush (v := 24) hx hb dX0_init_31 bp_24 ?_
  have hle13 := hS.1
  have lt13_h0 := (hR_h0 0 _ rfl).lt
  refine th_newI (atype := .boolean) (cI := cA 1) (N' := 24) hx hb (hts (.arrayClass .boolean) (List.mem_cons_of_mem _ (List.mem_append_left _ (List.mem_append_left _ (List.mem_append_left _ (List.mem_of_getElem? (i := 9) rfl)))))) hK 1 rfl (fun h => h) hH hS hA 23 (by decide) (by decide) (by decide) (Nat.le_of_ble_eq_true rfl) (Nat.le_of_ble_eq_true rfl) rfl (fun _ => rfl) (fun _ _ => (fun _ _ => (show rg 0 1 (0 : Int32) from ⟨by decide, by decide⟩))) dX0_init_33 (fun q13 H s13 y13 n13 o13 hH hS => ?_)
  have le13 : s.heap.size ≤ q13 := th_leE s13 hle13
  have hR_h0 := th_P1 hR_h0 (o13 _ (th_ltE s13 lt13_h0))
  obtain ⟨τ13, et13⟩ : ∃ t, t = va_up τ8 q13 23 := ⟨_, rfl⟩
  have zz13 := hE.z n13
  obtain ⟨gi13, eg13⟩ : ∃ g, g = va_up gi8 q13 (fun _ => 0) := ⟨_, rfl⟩
  have hE := hE.add (k0 := 23) (f := (fun _ => 0)) (r := gr4 q13) n13 (Or.inr le13)
  rw [th_upid gr4 q13, ← et13, ← eg13] at hE
  rw [← et13, ← eg13] at hH
  have og13 : ∀ b, b ≠ q13 → gi13 b = gi8 b := th_upO eg13
  have t14 : τ13 q1 = 20 := (th_tkE et13 t9 rfl n13)
  have t15 : τ13 q4 = 21 := (th_tkE et13 t10 rfl n13)
  have t16 : τ13 q8 = 22 := (th_tkE et13 tn8 rfl n13)
  have z17 : τ13 h0 = 0 := (th_tzE et13 z11 (Nat.ne_of_lt (th_ltE s13 lt13_h0)))
  have tn13 : τ13 q13 = 23 := th_upS et13
  refine W.widen (k := 4) (n := 76) (Nat.le_of_ble_eq_true rfl) (Nat.le_of_ble_eq_true rfl) ?_
  refine th_rputF (ci := 0) (v := .ref q13) (T := TX0) (C := RX0) (N := 9) (ty := (.array .boolean)) hx hb hts (fun w h => List.mem_cons_of_mem _ (List.mem_append_left _ (List.mem_append_right _ h))) tyX0 tyX0_ok nmX0 hown hK hH hS z17 (Or.inl rfl) hR_h0 rfl 3 (by decide) (hts (.fieldLink RX0 27 "BayMoorings$Bay" "repeated" "[Z") (List.mem_cons_of_mem _ (List.mem_append_left _ (List.mem_append_left _ (List.mem_append_left _ (List.mem_of_getElem? (i := 10) rfl)))))) (fun _ h9 => h9) rfl hin rfl (by decide +kernel) rfl rfl (Nat.le_of_ble_eq_true rfl) dX0_init_35 (fun H locs hR_h0 hH hS y18 o18 => ?_)
  have hR_h0 : va_P D vwCl [(h0, .inr (0, [.ref q1, .ref q4, .ref q8, .ref q13, .null, .int 0, .int 0, .int 0, .int 0]))] H := hR_h0
  refine lv_aload_n hx hb dX0_init_38 rfl (lv_at hl 0 rfl) ?_
  have hle19 := hS.1
  have lt19_h0 := (hR_h0 0 _ rfl).lt
  refine th_newO (ci := 1) (fs := [.null, .null]) (C := RX1) (T := TX1) (N := 2) hx hb hts (fun w h => List.mem_cons_of_mem _ (List.mem_append_right _ h)) tyX1 tyX1_ok hown (hts (.classLink RX0 31 RX1) (List.mem_cons_of_mem _ (List.mem_append_left _ (List.mem_append_left _ (List.mem_append_left _ (List.mem_of_getElem? (i := 11) rfl)))))) (hts (.instantiable RX1 2) (List.mem_cons_of_mem _ (List.mem_append_left _ (List.mem_append_left _ (List.mem_append_left _ (List.mem_of_getElem? (i := 12) rfl)))))) (hts (.initialized RX1) (List.mem_cons_of_mem _ (List.mem_append_left _ (List.mem_append_left _ (List.mem_append_left _ (List.mem_of_getElem? (i := 13) rfl)))))) hK hH hS hA rfl (fun j hj => by rcases (show j = 0 ∨ j = 1 by omega) with rfl | rfl <;> rfl) (Nat.le_of_ble_eq_true rfl) (Nat.le_of_ble_eq_true rfl) dX0_init_39 (fun q19 H s19 y19 n19 o19 hR_q19 hH hS => ?_)
  have le19 : s.heap.size ≤ q19 := th_leE s19 hle19
  have hR_h0 := th_P1 hR_h0 (o19 _ (th_ltE s19 lt19_h0))
  have ne_h0_q19 : h0 ≠ q19 := Nat.ne_of_lt (th_ltE s19 lt19_h0)
  refine W.widen (k := 5) (n := 78) (Nat.le_of_ble_eq_true rfl) (Nat.le_of_ble_eq_true rfl) ?_
  refine lv_dup hx hb dX0_init_42 rfl ?_
  have hle20 := hS.1
  have lt20_h0 := (hR_h0 0 _ rfl).lt
  have lt20_q19 := (hR_q19 0 _ rfl).lt
  have hAC20 : ∀ x, th_AC τ13 _ q19 x → (th_AC τ s.heap.size h0) x := th_ACn hE hS le19
  refine va_callv (va_runI (As := []) (rest := [.ref q19, .ref h0]) ⟨hx, hb, hml, hown, hts⟩ (k_X1_init l D cA Z τ13 gi13 gr4 _ q19) (cwI 0 hts gX0_init_X1_init rfl rfl rfl (hts (.initialized RX1) (List.mem_cons_of_mem _ (List.mem_append_left _ (List.mem_append_left _ (List.mem_append_left _ (List.mem_of_getElem? (i := 13) rfl)))))) (hts (.methodLink RX0 33 yX1_init) (List.mem_cons_of_mem _ (List.mem_append_left _ (List.mem_append_left _ (List.mem_append_left _ (List.mem_of_getElem? (i := 19) rfl)))))) (hts (.instanceMethod yX1_init) (List.mem_cons_of_mem _ (List.mem_append_left _ (List.mem_append_left _ (List.mem_append_left _ (List.mem_of_getElem? (i := 20) rfl)))))) rfl (by decide +kernel) ⟨Nat.le_of_ble_eq_true rfl, Nat.le_of_ble_eq_true rfl⟩) ⟨th_blindC, th_preC hH hK hN hZ hS hAC20 n19 hR_q19⟩ rfl rfl hl.1 rfl (lv_room (Nat.le_of_ble_eq_true rfl)) dX0_init_43 ⟨Nat.le_of_ble_eq_true rfl, Nat.le_of_ble_eq_true rfl⟩) hS (fun x _ h => hAC20 x h) hAC20 (fun u t H locs ht hvm hw20 hB hz20 hk20 hS => ?_)
  obtain ⟨τ20, gi20, gr20⟩ := u
  try dsimp only at hw20 hB
  rw [ht] at hB
  have hH := hB
  have hR_h0 := th_P1 hR_h0 (hk20 _ lt20_h0 (th_nAC z17 ne_h0_q19 lt20_h0))
  have t21 : τ20 q1 = 20 := ((hw20.1.1 q1 (by rw [t14]; decide)).trans t14)
  have t22 : τ20 q4 = 21 := ((hw20.1.1 q4 (by rw [t15]; decide)).trans t15)
  have t23 : τ20 q8 = 22 := ((hw20.1.1 q8 (by rw [t16]; decide)).trans t16)
  have t24 : τ20 q13 = 23 := ((hw20.1.1 q13 (by rw [tn13]; decide)).trans tn13)
  have z25 : τ20 h0 = 0 := (th_zx hw20.1 z17 ne_h0_q19 lt20_h0)
  have hE := hE.tr hw20.1 (Or.inr le19) hle20 (by decide)
  have tn20 := hw20.2.1
  refine W.widen (k := 7) (n := 106) (Nat.le_of_ble_eq_true rfl) (Nat.le_of_ble_eq_true rfl) ?_
  refine th_rputF (ci := 0) (v := .ref q19) (T := TX0) (C := RX0) (N := 9) (ty := (.object "BayMoorings$Berths")) hx hb hts (fun w h => List.mem_cons_of_mem _ (List.mem_append_left _ (List.mem_append_right _ h))) tyX0 tyX0_ok nmX0 hown hK hH hS z25 (Or.inl rfl) hR_h0 rfl 4 (by decide) (hts (.fieldLink RX0 34 "BayMoorings$Bay" "berths" "LBayMoorings$Berths;") (List.mem_cons_of_mem _ (List.mem_append_left _ (List.mem_append_left _ (List.mem_append_left _ (List.mem_of_getElem? (i := 14) rfl)))))) (fun _ h9 => h9) rfl hin rfl (by decide +kernel) rfl rfl (Nat.le_of_ble_eq_true rfl) dX0_init_46 (fun H locs hR_h0 hH hS y26 o26 => ?_)
  have hR_h0 : va_P D vwCl [(h0, .inr (0, [.ref q1, .ref q4, .ref q8, .ref q13, .ref q19, .int 0, .int 0, .int 0, .int 0]))] H := hR_h0
  refine lv_aload_n hx hb dX0_init_49 rfl (lv_at hl 0 rfl) ?_
  refine lv_iconst (v := 0) hx hb dX0_init_50 ic_0 ?_
  refine th_rput (ci := 0) (v := .int 0) (T := TX0) (C := RX0) (N := 9) (ty := .int) hx hb hts (fun w h => List.mem_cons_of_mem _ (List.mem_append_left _ (List.mem_append_right _ h))) tyX0 tyX0_ok nmX0 hown hK hH hS z25 (Or.inl rfl) hR_h0 rfl 5 (by decide) (hts (.fieldLink RX0 38 "BayMoorings$Bay" "buoyCount" "I") (List.mem_cons_of_mem _ (List.mem_append_left _ (List.mem_append_left _ (List.mem_append_left _ (List.mem_of_getElem? (i := 15) rfl)))))) (fun _ h9 => h9) rfl (by decide +kernel) rfl rfl (Nat.le_of_ble_eq_true rfl) dX0_init_51 (fun H locs hR_h0 hH hS y27 o27 => ?_)
  have hR_h0 : va_P D vwCl [(h0, .inr (0, [.ref q1, .ref q4, .ref q8, .ref q13, .ref q19, .int 0, .int 0, .int 0, .int 0]))] H := hR_h0
  refine lv_aload_n hx hb dX0_init_54 rfl (lv_at hl 0 rfl) ?_
  refine lv_iconst (v := 0) hx hb dX0_init_55 ic_0 ?_
  refine th_rput (ci := 0) (v := .int 0) (T := TX0) (C := RX0) (N := 9) (ty := .int) hx hb hts (fun w h => List.mem_cons_of_mem _ (List.mem_append_left _ (List.mem_append_right _ h))) tyX0 tyX0_ok nmX0 hown hK hH hS z25 (Or.inl rfl) hR_h0 rfl 6 (by decide) (hts (.fieldLink RX0 42 "BayMoorings$Bay" "boatCount" "I") (List.mem_cons_of_mem _ (List.mem_append_left _ (List.mem_append_left _ (List.mem_append_left _ (List.mem_of_getElem? (i := 16) rfl)))))) (fun _ h9 => h9) rfl (by decide +kernel) rfl rfl (Nat.le_of_ble_eq_true rfl) dX0_init_56 (fun H locs hR_h0 hH hS y28 o28 => ?_)
  have hR_h0 : va_P D vwCl [(h0, .inr (0, [.ref q1, .ref q4, .ref q8, .ref q13, .ref q19, .int 0, .int 0, .int 0, .int 0]))] H := hR_h0
  refine lv_aload_n hx hb dX0_init_59 rfl (lv_at hl 0 rfl) ?_
  refine lv_sipush (v := 255) hx hb dX0_init_60 sp_255 ?_
  refine th_rput (ci := 0) (v := .int 255) (T := TX0) (C := RX0) (N := 9) (ty := .int) hx hb hts (fun w h => List.mem_cons_of_mem _ (List.mem_append_left _ (List.mem_append_right _ h))) tyX0 tyX0_ok nmX0 hown hK hH hS z25 (Or.inl rfl) hR_h0 rfl 7 (by decide) (hts (.fieldLink RX0 45 "BayMoorings$Bay" "windBits" "I") (List.mem_cons_of_mem _ (List.mem_append_left _ (List.mem_append_left _ (List.mem_append_left _ (List.mem_of_getElem? (i := 17) rfl)))))) (fun _ h9 => h9) rfl (by decide +kernel) rfl rfl (Nat.le_of_ble_eq_true rfl) dX0_init_63 (fun H locs hR_h0 hH hS y29 o29 => ?_)
  have hR_h0 : va_P D vwCl [(h0, .inr (0, [.ref q1, .ref q4, .ref q8, .ref q13, .ref q19, .int 0, .int 0, .int 255, .int 0]))] H := hR_h0
  refine lv_aload_n hx hb dX0_init_66 rfl (lv_at hl 0 rfl) ?_
  refine lv_iconst (v := 0) hx hb dX0_init_67 ic_0 ?_
  refine th_rput (ci := 0) (v := .int 0) (T := TX0) (C := RX0) (N := 9) (ty := .int) hx hb hts (fun w h => List.mem_cons_of_mem _ (List.mem_append_left _ (List.mem_append_right _ h))) tyX0 tyX0_ok nmX0 hown hK hH hS z25 (Or.inl rfl) hR_h0 rfl 8 (by decide) (hts (.fieldLink RX0 48 "BayMoorings$Bay" "leastTide" "I") (List.mem_cons_of_mem _ (List.mem_append_left _ (List.mem_append_left _ (List.mem_append_left _ (List.mem_of_getElem? (i := 18) rfl)))))) (fun _ h9 => h9) rfl (by decide +kernel) rfl rfl (Nat.le_of_ble_eq_true rfl) dX0_init_68 (fun H locs hR_h0 hH hS y30 o30 => ?_)
  have hR_h0 : va_P D vwCl [(h0, .inr (0, [.ref q1, .ref q4, .ref q8, .ref q13, .ref q19, .int 0, .int 0, .int 255, .int 0]))] H := hR_h0
  refine lv_iconst (v := 1) hx hb dX0_init_71 ic_1 ?_
  refine lv_istore_n (i := 1) (lv' := [(1, .int 1), (0, .ref h0)]) hx hb dX0_init_72 rfl hl (th_ltN rfl) rfl (fun ls hl => ?_)
  have J73 : ∀ (n : Nat) (gi_73 : th_i) (gr_73 : th_r) (H : Heap) (locs : List Loc) (ls : Array Slot) (y73_1 : Int32), (24 - y73_1.toInt).toNat < n → th_H D cA τ20 gi_73 gr_73 H → va_S (th_AC τ s.heap.size h0) s.heap H locs → th_Ext [2300, 2400, 2500] τ gi gr s.heap.size h0 τ20 gi_73 gr_73 → va_P D vwCl [(h0, .inr (0, [.ref q1, .ref q4, .ref q8, .ref q13, .ref q19, .int 0, .int 0, .int 255, .int 0]))] H → lv_has ls 2 [(0, .ref h0), (1, .int y73_1)] → rg 1 24 y73_1 → (∀ (tO : th_t) (gO : th_i) (qO : th_r), f_X0_init_73 τ Z gi gr h0 tO gO qO τ20 q1 q4 q8 q13 q19 n gi_73 gr_73 y73_1 → M_X0_init τ Z gi gr h0 tO gO qO) → W p l e (headSpec wsX0_init ({ frames := 2, cells := 7, slots := 106, locals := 50 })).room s m [.ref h0].toArray below meth c H locs 7 106 (MQ below (va_Qv (fun (u : th_t × th_i × th_r) => th_Ext [2300, 2400, 2500] τ gi gr s.heap.size h0 u.1 u.2.1 u.2.2 ∧ u.1 h0 = 1 ∧ (u.2.1 h0 5 = 0) ∧ (u.2.1 h0 6 = 0) ∧ (u.2.1 h0 7 = 255) ∧ (u.2.1 h0 8 = 0) ∧ (M_X0_init τ Z gi gr h0 u.1 u.2.1 u.2.2)) (fun (u : th_t × th_i × th_r) t => th_H D cA u.1 u.2.1 u.2.2 t.heap) (th_AC τ s.heap.size h0)) [.ref h0].toArray s 7 106 (th_AC τ s.heap.size h0)) (F0 m 73 ls []) := by
    intro n
    induction n with
    | zero =>
      intro gi_73 gr_73 H locs ls y73_1 hn
      exact absurd hn (Nat.not_lt_zero _)
    | succ n ih73 =>
      intro gi_73 gr_73 H locs ls y73_1 hn73 hH hS hE hR_h0 hl fy73_1 hF
      refine lv_iload_n hx hb dX0_init_73 rfl (lv_at hl 1 rfl) ?_
      refine lv_bipush (v := 24) hx hb dX0_init_74 bp_24 ?_
      refine lv_icmp_ge (tgt := 92) hx hb dX0_init_76 (th_eqI rfl) (fun c31 => ?_) (fun c31 => ?_)
      · skip
        have f32 : rg 24 24 y73_1 := rg_w (rg_le rgc_24 fy73_1 c31).2 (th_leI rfl) (th_leI rfl)
        have hFp := hH.push (k0 := 1) (f := (fun k => match k with | 7 => 255 | _ => 0)) (r := (fun k => match k with | 0 => some q1 | 1 => some q4 | 2 => some q8 | 3 => some q13 | 4 => some q19 | _ => none)) (H1 := _) z25 (hR_h0 0 _ rfl) (⟨⟨q1, rfl, th_tk t21 (by decide) z25⟩, ⟨q4, rfl, th_tk t22 (by decide) z25⟩, ⟨q8, rfl, th_tk t23 (by decide) z25⟩, ⟨q13, rfl, th_tk t24 (by decide) z25⟩, ⟨q19, rfl, th_tk tn20 (by decide) z25⟩, (rg_w rgc_0 (th_leI rfl) (th_leI rfl)), (rg_w rgc_0 (th_leI rfl) (th_leI rfl))⟩) (fun _ _ => rfl)
        exact W.vret hx hb hr (fun t ht hW => ⟨⟨(va_up τ20 h0 1, va_up gi_73 h0 (fun k => match k with | 7 => 255 | _ => 0), va_up gr_73 h0 (fun k => match k with | 0 => some q1 | 1 => some q4 | 2 => some q8 | 3 => some q13 | 4 => some q19 | _ => none)), rfl, ⟨hE.add z25 (Or.inl rfl), va_up_self _ _ _, congrFun (va_up_self _ _ _) 5, congrFun (va_up_self _ _ _) 6, congrFun (va_up_self _ _ _) 7, congrFun (va_up_self _ _ _) 8, (hF _ _ _ (by (try simp only [f_X0_init_73, if_pos c31]); first | done | exact ⟨(by first | rfl | trivial), (by first | rfl | trivial), (by first | rfl | trivial)⟩))⟩, th_Ht ht hFp⟩, hS.F ht⟩) hS.2.2 dX0_init_92
      · skip
        have f33 : rg 1 23 y73_1 := rg_w (rg_nle rgc_24 fy73_1 c31).2 (th_leI rfl) (th_leI rfl)
        refine lv_aload_n hx hb dX0_init_79 rfl (lv_at hl 0 rfl) ?_
        refine va_get (D := D) (ci := 0) (v := .ref q13) (C := RX0) (T := TX0) (N := 9) hx hb hts (fun w h => List.mem_cons_of_mem _ (List.mem_append_left _ (List.mem_append_right _ h))) hown hK hR_h0 0 rfl rfl 3 (by decide) (hts (.fieldLink RX0 27 "BayMoorings$Bay" "repeated" "[Z") (List.mem_cons_of_mem _ (List.mem_append_left _ (List.mem_append_left _ (List.mem_append_left _ (List.mem_of_getElem? (i := 10) rfl)))))) (fun _ h9 => h9) rfl dX0_init_80 ?_
        refine lv_iload_n hx hb dX0_init_83 rfl (lv_at hl 1 rfl) ?_
        refine lv_iconst (v := 1) hx hb dX0_init_84 ic_1 ?_
        refine th_zastR hx hb hK hH hS t24 (th_nz rfl) (th_AE hE hS _ (Or.inl (by rw [t24]; decide))) 1 (fun _ => rfl) rfl (rg_w rgc_1 (th_leI rfl) (th_leI rfl)) (rg_in (n := 24) f33 (th_leI rfl) (th_ltI rfl)) (th_ai (P := rg 0 1) (hH.at t24 (th_nz rfl)).2 (rg_w rgc_1 (th_leI rfl) (th_leI rfl))) dX0_init_85 (fun gi34 H locs hu34 ho34 hH hS oq => ?_)
        have hR_h0 := th_P1 hR_h0 (oq _ (th_ne0 z25 t24 (by decide)))
        have eg34 : gi34 = va_up gi_73 q13 (upd (gi_73 q13) y73_1.toNatClampNeg 1) := th_upE hu34 ho34
        have hE := hE.new zz13 (fun b hb => funext fun j => ho34 b j (Or.inl hb)) (fun _ _ => rfl)
        obtain ⟨x35, e35⟩ : ∃ y : Int32, y = y73_1 + 1 := ⟨_, rfl⟩
        have f35 : rg 2 24 x35 := rg_e e35 (rg_w (rg_add f33 rgc_1 (th_leI rfl) (th_leI rfl)) (th_leI rfl) (th_leI rfl))
        refine lv_iinc (v := x35) (lv' := [(1, .int x35), (0, .ref h0)]) hx hb dX0_init_86 hl (k := 1) rfl (by rw [e35]; rfl) (th_ltN rfl) rfl (fun ls hl => ?_)
        refine lv_goto (tgt := 73) hx hb dX0_init_89 (th_eqI rfl) ?_
        exact ih73 gi34 gr_73 _ _ _ x35 (th_up (rg_dA e35 f33 rgc_1 (th_leI rfl) (th_leI rfl)) f33 hn73 (by decide)) hH hS hE hR_h0 (lv_sub hl [1, 0] rfl) (rg_w f35 (th_leI rfl) (th_leI rfl)) (fun tO gO qO h9 => hF tO gO qO (by (try simp only [f_X0_init_73, if_neg c31]); refine ⟨gi34, eg34, ?_⟩; (try simp only [if_neg c31, ← e35]); exact h9))
  exact J73 _ gi20 gr20 _ _ _ 1 (Nat.lt_succ_self _) hH hS hE hR_h0 (lv_sub hl [1, 0] rfl) (rg_w rgc_1 (th_leI rfl) (th_leI rfl)) (fun tO gO qO h9 => hF tO gO qO (by (try simp only [M_X0_init]); refine ⟨q1, n1, Nat.ne_of_lt (th_ltE s1 lt1_h0), ?_⟩; (try simp only [← et1, ← eg1]); refine ⟨q4, n4, Nat.ne_of_lt (th_ltE s4 lt4_h0), ?_⟩; (try simp only [← et4, ← eg4]); refine ⟨q8, n8, Nat.ne_of_lt (th_ltE s8 lt8_h0), ?_⟩; (try simp only [← et8, ← eg8]); refine ⟨q13, n13, Nat.ne_of_lt (th_ltE s13 lt13_h0), ?_⟩; (try simp only [← et13, ← eg13]); refine ⟨q19, n19, ne_h0_q19, ?_⟩; refine ⟨τ20, gi20, gr20, hw20.2.2, z25, ?_⟩; (try simp only [← et1, ← eg1, ← et4, ← eg4, ← et8, ← eg8, ← et13, ← eg13]); exact h9))

noncomputable def M_X10_init (τ : th_t) (Z : th_Zt) (gi : th_i) (gr : th_r) (h0 : Nat) (h1 : Nat) (tO : th_t) (gO : th_i) (qO : th_r) : Prop :=
  ∃ (q1 : Nat), τ q1 = 0 ∧ h0 ≠ q1 ∧ (
  let τ1 : th_t := va_up τ q1 35
  let gi1 : th_i := va_up gi q1 (fun _ => 0)
  tO = va_up τ1 h0 10 ∧ gO = va_up gi1 h0 (fun _ => 0) ∧ qO = va_up gr h0 (fun k => match k with | 0 => some h1 | 1 => some q1 | _ => none))
set_option maxHeartbeats 20000000 in
set_option maxRecDepth 100000 in
theorem k_X10_init (l : Launch) (D : va_G) (cA : Nat → ClassId) (Z : th_Zt) (τ : th_t) (gi : th_i) (gr : th_r) (sz : Nat) (h0 : Nat) (h1 : Nat) (t_h1 : τ h1 = 1) : Met l yX10_init wsX10_init ({ frames := 1, cells := 1, slots := 10, locals := 30 }) (va_Pc [.ref h0, .ref h1] (th_PreC D cA Z τ gi gr sz h0 (.inr (9, [.null, .null, .int 0])))) (va_Qv (fun (u : th_t × th_i × th_r) => th_Ext [] τ gi gr sz h0 u.1 u.2.1 u.2.2 ∧ u.1 h0 = 10 ∧ (M_X10_init τ Z gi gr h0 h1 u.1 u.2.1 u.2.2)) (fun (u : th_t × th_i × th_r) t => th_H D cA u.1 u.2.1 u.2.2 t.heap) (th_AC τ sz h0)) 1 10 (th_AC τ sz h0) := by
  refine Met.ofW (cc := cX10_init) (maxL := 2) (ret := none) (by decide) rfl ?_
  intro p e s m args below meth c s₁ B hml hv
  obtain ⟨rfl, hsz, hH, hK, hN, hZ, z_h0, hR_h0⟩ := hv
  have hx := B.exec
  have hb := B.bytes
  have hr := B.returns
  have hts := atoms_spec (ws := wsX10_init) B.pre
  have hown : s.vm.findClass RX10 = some m.cls := findClass_of_methodNamed B.named
  have hlocks := B.notSynchronized
  have hin : meth.name = "<init>" := (name_of_methodNamed B.named B.method).1
  subst hsz
  have hA : ∀ q : Nat, s.heap.size ≤ q → (th_AC τ s.heap.size h0) q := fun q h => Or.inr (Or.inr h)
  have hE : th_Ext [] τ gi gr s.heap.size h0 τ gi gr := th_Ext.rf
  have hS : va_S (th_AC τ s.heap.size h0) s.heap s.heap [] := va_S.rf
  have hl := lv_entry ([.ref h0, .ref h1]) (n := 2) (Nat.le_of_ble_eq_true rfl)
  rw [lg_entry_eq]
  generalize (lg_sl ([.ref h0, .ref h1]) ++ List.replicate (2 - (lg_sl ([.ref h0, .ref h1])).length) Slot.unset).toArray = ls at hl ⊢
  have hl : lv_has ls 2 [(0, .ref h0), (1, .ref h1)] := hl
  have hF : (∀ (tO : th_t) (gO : th_i) (qO : th_r), M_X10_init τ Z gi gr h0 h1 tO gO qO → M_X10_init τ Z gi gr h0 h1 tO gO qO) := fun tO gO qO h9 => h9
  refine lv_aload_n hx hb dX10_init_0 rfl (lv_at hl 0 rfl) ?_
  refine W.objInit hx hb hown (hts (.methodLink RX10 3 objectInit) (List.mem_cons_of_mem _ (List.mem_append_left _ (List.mem_of_getElem? (i := 0) rfl)))) (hts (.instanceMethod objectInit) (List.mem_cons_of_mem _ (List.mem_append_left _ (List.mem_of_getElem? (i := 1) rfl)))) (hts (.code objectInit ⟨#[0xb1]⟩ 1 none) (List.mem_cons_of_mem _ (List.mem_append_left _ (List.mem_of_getElem? (i := 2) rfl)))) rfl (by rw [hml]; exact hl.1) rfl dX10_init_1 (Nat.le_of_ble_eq_true rfl) (Nat.le_of_ble_eq_true rfl) ?_
  refine W.eq (g2 := F0 m 4 ls []) rfl ?_
  refine lv_aload_n hx hb dX10_init_4 rfl (lv_at hl 0 rfl) ?_
  refine lv_bipush (v := 10) hx hb dX10_init_5 bp_10 ?_
  have hle1 := hS.1
  have lt1_h0 := (hR_h0 0 _ rfl).lt
  refine th_newI (atype := .int) (cI := cA 0) (N' := 10) hx hb (hts (.arrayClass .int) (List.mem_cons_of_mem _ (List.mem_append_left _ (List.mem_of_getElem? (i := 3) rfl)))) hK 0 rfl (fun h => h) hH hS hA 35 (by decide) (by decide) (by decide) (Nat.le_of_ble_eq_true rfl) (Nat.le_of_ble_eq_true rfl) rfl (fun _ => rfl) (fun _ _ => trivial) dX10_init_7 (fun q1 H s1 y1 n1 o1 hH hS => ?_)
  have le1 : s.heap.size ≤ q1 := th_leE s1 hle1
  have hR_h0 := th_P1 hR_h0 (o1 _ (th_ltE s1 lt1_h0))
  obtain ⟨τ1, et1⟩ : ∃ t, t = va_up τ q1 35 := ⟨_, rfl⟩
  have zz1 := hE.z n1
  obtain ⟨gi1, eg1⟩ : ∃ g, g = va_up gi q1 (fun _ => 0) := ⟨_, rfl⟩
  have hE := hE.add (k0 := 35) (f := (fun _ => 0)) (r := gr q1) n1 (Or.inr le1)
  rw [th_upid gr q1, ← et1, ← eg1] at hE
  rw [← et1, ← eg1] at hH
  have og1 : ∀ b, b ≠ q1 → gi1 b = gi b := th_upO eg1
  have t2 : τ1 h1 = 1 := (th_tkE et1 t_h1 rfl n1)
  have z3 : τ1 h0 = 0 := (th_tzE et1 z_h0 (Nat.ne_of_lt (th_ltE s1 lt1_h0)))
  have tn1 : τ1 q1 = 35 := th_upS et1
  refine W.widen (k := 1) (n := 10) (Nat.le_of_ble_eq_true rfl) (Nat.le_of_ble_eq_true rfl) ?_
  refine th_rputF (ci := 9) (v := .ref q1) (T := TX10) (C := RX10) (N := 3) (ty := (.array .int)) hx hb hts (fun w h => List.mem_cons_of_mem _ (List.mem_append_right _ h)) tyX10 tyX10_ok nmX10 hown hK hH hS z3 (Or.inl rfl) hR_h0 rfl 1 (by decide) (hts (.fieldLink RX10 9 "BayMoorings$WaitingList" "queue" "[I") (List.mem_cons_of_mem _ (List.mem_append_left _ (List.mem_of_getElem? (i := 4) rfl)))) (fun _ h9 => h9) rfl hin rfl (by decide +kernel) rfl rfl (Nat.le_of_ble_eq_true rfl) dX10_init_9 (fun H locs hR_h0 hH hS y4 o4 => ?_)
  have hR_h0 : va_P D vwCl [(h0, .inr (9, [.null, .ref q1, .int 0]))] H := hR_h0
  refine lv_aload_n hx hb dX10_init_12 rfl (lv_at hl 0 rfl) ?_
  refine lv_iconst (v := 0) hx hb dX10_init_13 ic_0 ?_
  refine th_rput (ci := 9) (v := .int 0) (T := TX10) (C := RX10) (N := 3) (ty := .int) hx hb hts (fun w h => List.mem_cons_of_mem _ (List.mem_append_right _ h)) tyX10 tyX10_ok nmX10 hown hK hH hS z3 (Or.inl rfl) hR_h0 rfl 2 (by decide) (hts (.fieldLink RX10 15 "BayMoorings$WaitingList" "size" "I") (List.mem_cons_of_mem _ (List.mem_append_left _ (List.mem_of_getElem? (i := 5) rfl)))) (fun _ h9 => h9) rfl (by decide +kernel) rfl rfl (Nat.le_of_ble_eq_true rfl) dX10_init_14 (fun H locs hR_h0 hH hS y5 o5 => ?_)
  have hR_h0 : va_P D vwCl [(h0, .inr (9, [.null, .ref q1, .int 0]))] H := hR_h0
  refine lv_aload_n hx hb dX10_init_17 rfl (lv_at hl 0 rfl) ?_
  refine lv_aload_n hx hb dX10_init_18 rfl (lv_at hl 1 rfl) ?_
  refine th_rputF (ci := 9) (v := .ref h1) (T := TX10) (C := RX10) (N := 3) (ty := (.object "BayMoorings$Bay")) hx hb hts (fun w h => List.mem_cons_of_mem _ (List.mem_append_right _ h)) tyX10 tyX10_ok nmX10 hown hK hH hS z3 (Or.inl rfl) hR_h0 rfl 0 (by decide) (hts (.fieldLink RX10 19 "BayMoorings$WaitingList" "bay" "LBayMoorings$Bay;") (List.mem_cons_of_mem _ (List.mem_append_left _ (List.mem_of_getElem? (i := 6) rfl)))) (fun _ h9 => h9) rfl hin rfl (by decide +kernel) rfl rfl (Nat.le_of_ble_eq_true rfl) dX10_init_19 (fun H locs hR_h0 hH hS y6 o6 => ?_)
  have hR_h0 : va_P D vwCl [(h0, .inr (9, [.ref h1, .ref q1, .int 0]))] H := hR_h0
  have hFp := hH.push (k0 := 10) (f := (fun _ => 0)) (r := (fun k => match k with | 0 => some h1 | 1 => some q1 | _ => none)) (H1 := _) z3 (hR_h0 0 _ rfl) (⟨⟨h1, rfl, th_tk t2 (by decide) z3⟩, ⟨q1, rfl, th_tk tn1 (by decide) z3⟩, (rg_w rgc_0 (th_leI rfl) (th_leI rfl))⟩) (fun _ _ => rfl)
  exact W.vret hx hb hr (fun t ht hW => ⟨⟨(va_up τ1 h0 10, va_up gi1 h0 (fun _ => 0), va_up gr h0 (fun k => match k with | 0 => some h1 | 1 => some q1 | _ => none)), rfl, ⟨hE.add z3 (Or.inl rfl), va_up_self _ _ _, (hF _ _ _ (by (try simp only [M_X10_init]); refine ⟨q1, n1, Nat.ne_of_lt (th_ltE s1 lt1_h0), ?_⟩; (try simp only [← et1, ← eg1]); first | done | exact ⟨(by first | rfl | trivial), (by first | rfl | trivial), (by first | rfl | trivial)⟩))⟩, th_Ht ht hFp⟩, hS.F ht⟩) hS.2.2 dX10_init_22

noncomputable def M_X7_init (τ : th_t) (Z : th_Zt) (gi : th_i) (gr : th_r) (h0 : Nat) (h1 : Nat) (tO : th_t) (gO : th_i) (qO : th_r) : Prop :=
  ∃ (q1 : Nat), τ q1 = 0 ∧ h0 ≠ q1 ∧ (
  let τ1 : th_t := va_up τ q1 30
  let gr1 : th_r := va_up gr q1 (fun _ => none)
  ∃ (q6 : Nat), τ1 q6 = 0 ∧ h0 ≠ q6 ∧ (
  let τ6 : th_t := va_up τ1 q6 31
  let gi6 : th_i := va_up gi q6 (fun _ => 0)
  ∃ (q11 : Nat), τ6 q11 = 0 ∧ h0 ≠ q11 ∧ (
  let τ11 : th_t := va_up τ6 q11 32
  let gi11 : th_i := va_up gi6 q11 (fun _ => 0)
  ∃ (q17 : Nat), τ11 q17 = 0 ∧ h0 ≠ q17 ∧ (
  let τ17 : th_t := va_up τ11 q17 33
  let gi17 : th_i := va_up gi11 q17 (fun _ => 0)
  ∃ (q24 : Nat), τ17 q24 = 0 ∧ h0 ≠ q24 ∧ (
  let τ24 : th_t := va_up τ17 q24 34
  let gi24 : th_i := va_up gi17 q24 (fun _ => 0)
  tO = va_up τ24 h0 7 ∧ gO = va_up gi24 h0 (fun _ => 0) ∧ qO = va_up gr1 h0 (fun k => match k with | 0 => some h1 | 1 => some q1 | 3 => some q6 | 4 => some q11 | 5 => some q17 | 6 => some q24 | _ => none))))))
set_option maxHeartbeats 20000000 in
set_option maxRecDepth 100000 in
theorem k_X7_init (l : Launch) (D : va_G) (cA : Nat → ClassId) (Z : th_Zt) (τ : th_t) (gi : th_i) (gr : th_r) (sz : Nat) (h0 : Nat) (h1 : Nat) (t_h1 : τ h1 = 1) : Met l yX7_init wsX7_init ({ frames := 1, cells := 5, slots := 345, locals := 30 }) (va_Pc [.ref h0, .ref h1] (th_PreC D cA Z τ gi gr sz h0 (.inr (6, [.null, .null, .int 0, .null, .null, .null, .null, .int 0])))) (va_Qv (fun (u : th_t × th_i × th_r) => th_Ext [] τ gi gr sz h0 u.1 u.2.1 u.2.2 ∧ u.1 h0 = 7 ∧ (M_X7_init τ Z gi gr h0 h1 u.1 u.2.1 u.2.2)) (fun (u : th_t × th_i × th_r) t => th_H D cA u.1 u.2.1 u.2.2 t.heap) (th_AC τ sz h0)) 5 345 (th_AC τ sz h0) := by
  refine Met.ofW (cc := cX7_init) (maxL := 2) (ret := none) (by decide) rfl ?_
  intro p e s m args below meth c s₁ B hml hv
  obtain ⟨rfl, hsz, hH, hK, hN, hZ, z_h0, hR_h0⟩ := hv
  have hx := B.exec
  have hb := B.bytes
  have hr := B.returns
  have hts := atoms_spec (ws := wsX7_init) B.pre
  have hown : s.vm.findClass RX7 = some m.cls := findClass_of_methodNamed B.named
  have hlocks := B.notSynchronized
  have hin : meth.name = "<init>" := (name_of_methodNamed B.named B.method).1
  subst hsz
  have hA : ∀ q : Nat, s.heap.size ≤ q → (th_AC τ s.heap.size h0) q := fun q h => Or.inr (Or.inr h)
  have hE : th_Ext [] τ gi gr s.heap.size h0 τ gi gr := th_Ext.rf
  have hS : va_S (th_AC τ s.heap.size h0) s.heap s.heap [] := va_S.rf
  have hl := lv_entry ([.ref h0, .ref h1]) (n := 2) (Nat.le_of_ble_eq_true rfl)
  rw [lg_entry_eq]
  generalize (lg_sl ([.ref h0, .ref h1]) ++ List.replicate (2 - (lg_sl ([.ref h0, .ref h1])).length) Slot.unset).toArray = ls at hl ⊢
  have hl : lv_has ls 2 [(0, .ref h0), (1, .ref h1)] := hl
  have hF : (∀ (tO : th_t) (gO : th_i) (qO : th_r), M_X7_init τ Z gi gr h0 h1 tO gO qO → M_X7_init τ Z gi gr h0 h1 tO gO qO) := fun tO gO qO h9 => h9
  refine lv_aload_n hx hb dX7_init_0 rfl (lv_at hl 0 rfl) ?_
  refine W.objInit hx hb hown (hts (.methodLink RX7 3 objectInit) (List.mem_cons_of_mem _ (List.mem_append_left _ (List.mem_of_getElem? (i := 0) rfl)))) (hts (.instanceMethod objectInit) (List.mem_cons_of_mem _ (List.mem_append_left _ (List.mem_of_getElem? (i := 1) rfl)))) (hts (.code objectInit ⟨#[0xb1]⟩ 1 none) (List.mem_cons_of_mem _ (List.mem_append_left _ (List.mem_of_getElem? (i := 2) rfl)))) rfl (by rw [hml]; exact hl.1) rfl dX7_init_1 (Nat.le_of_ble_eq_true rfl) (Nat.le_of_ble_eq_true rfl) ?_
  refine W.eq (g2 := F0 m 4 ls []) rfl ?_
  refine lv_aload_n hx hb dX7_init_4 rfl (lv_at hl 0 rfl) ?_
  refine lv_iconst (v := 5) hx hb dX7_init_5 ic_5 ?_
  have hle1 := hS.1
  have lt1_h0 := (hR_h0 0 _ rfl).lt
  refine th_newR (C := "BayMoorings$Boat") (cI := cA 3) (N' := 5) hx hb hown (hts (.classLink RX7 9 RX2) (List.mem_cons_of_mem _ (List.mem_append_left _ (List.mem_of_getElem? (i := 3) rfl)))) hN.2.2.2.2.2.2.2.2.2.2.2.2.1 hK 3 rfl hH hS hA 30 (by decide) (by decide) (by decide) (Nat.le_of_ble_eq_true rfl) (Nat.le_of_ble_eq_true rfl) (fun _ => rfl) (fun _ _ => (fun _ _ _ h9 => by cases h9)) dX7_init_6 (fun q1 H s1 y1 n1 o1 hH hS => ?_)
  have le1 : s.heap.size ≤ q1 := th_leE s1 hle1
  have hR_h0 := th_P1 hR_h0 (o1 _ (th_ltE s1 lt1_h0))
  obtain ⟨τ1, et1⟩ : ∃ t, t = va_up τ q1 30 := ⟨_, rfl⟩
  have zz1 := hE.z n1
  obtain ⟨gr1, eg1⟩ : ∃ g, g = va_up gr q1 (fun _ => none) := ⟨_, rfl⟩
  have hE := hE.add (k0 := 30) (f := gi q1) (r := (fun _ => none)) n1 (Or.inr le1)
  rw [th_upid gi q1, ← et1, ← eg1] at hE
  rw [← et1, ← eg1] at hH
  have t2 : τ1 h1 = 1 := (th_tkE et1 t_h1 rfl n1)
  have z3 : τ1 h0 = 0 := (th_tzE et1 z_h0 (Nat.ne_of_lt (th_ltE s1 lt1_h0)))
  have tn1 : τ1 q1 = 30 := th_upS et1
  refine W.widen (k := 1) (n := 5) (Nat.le_of_ble_eq_true rfl) (Nat.le_of_ble_eq_true rfl) ?_
  refine th_rputF (ci := 6) (v := .ref q1) (T := TX7) (C := RX7) (N := 8) (ty := (.array (.object "BayMoorings$Boat"))) hx hb hts (fun w h => List.mem_cons_of_mem _ (List.mem_append_right _ h)) tyX7 tyX7_ok nmX7 hown hK hH hS z3 (Or.inl rfl) hR_h0 rfl 1 (by decide) (hts (.fieldLink RX7 11 "BayMoorings$Search" "asked" "[LBayMoorings$Boat;") (List.mem_cons_of_mem _ (List.mem_append_left _ (List.mem_of_getElem? (i := 4) rfl)))) (fun _ h9 => h9) rfl hin rfl (by decide +kernel) rfl rfl (Nat.le_of_ble_eq_true rfl) dX7_init_9 (fun H locs hR_h0 hH hS y4 o4 => ?_)
  have hR_h0 : va_P D vwCl [(h0, .inr (6, [.null, .ref q1, .int 0, .null, .null, .null, .null, .int 0]))] H := hR_h0
  refine lv_aload_n hx hb dX7_init_12 rfl (lv_at hl 0 rfl) ?_
  refine lv_iconst (v := 0) hx hb dX7_init_13 ic_0 ?_
  refine th_rput (ci := 6) (v := .int 0) (T := TX7) (C := RX7) (N := 8) (ty := .int) hx hb hts (fun w h => List.mem_cons_of_mem _ (List.mem_append_right _ h)) tyX7 tyX7_ok nmX7 hown hK hH hS z3 (Or.inl rfl) hR_h0 rfl 2 (by decide) (hts (.fieldLink RX7 17 "BayMoorings$Search" "size" "I") (List.mem_cons_of_mem _ (List.mem_append_left _ (List.mem_of_getElem? (i := 5) rfl)))) (fun _ h9 => h9) rfl (by decide +kernel) rfl rfl (Nat.le_of_ble_eq_true rfl) dX7_init_14 (fun H locs hR_h0 hH hS y5 o5 => ?_)
  have hR_h0 : va_P D vwCl [(h0, .inr (6, [.null, .ref q1, .int 0, .null, .null, .null, .null, .int 0]))] H := hR_h0
  refine lv_aload_n hx hb dX7_init_17 rfl (lv_at hl 0 rfl) ?_
  refine lv_bipush (v := 30) hx hb dX7_init_18 bp_30 ?_
  have hle6 := hS.1
  have lt6_h0 := (hR_h0 0 _ rfl).lt
  refine th_newI (atype := .int) (cI := cA 0) (N' := 30) hx hb (hts (.arrayClass .int) (List.mem_cons_of_mem _ (List.mem_append_left _ (List.mem_of_getElem? (i := 6) rfl)))) hK 0 rfl (fun h => h) hH hS hA 31 (by decide) (by decide) (by decide) (Nat.le_of_ble_eq_true rfl) (Nat.le_of_ble_eq_true rfl) rfl (fun _ => rfl) (fun _ _ => trivial) dX7_init_20 (fun q6 H s6 y6 n6 o6 hH hS => ?_)
  have le6 : s.heap.size ≤ q6 := th_leE s6 hle6
  have hR_h0 := th_P1 hR_h0 (o6 _ (th_ltE s6 lt6_h0))
  obtain ⟨τ6, et6⟩ : ∃ t, t = va_up τ1 q6 31 := ⟨_, rfl⟩
  have zz6 := hE.z n6
  obtain ⟨gi6, eg6⟩ : ∃ g, g = va_up gi q6 (fun _ => 0) := ⟨_, rfl⟩
  have hE := hE.add (k0 := 31) (f := (fun _ => 0)) (r := gr1 q6) n6 (Or.inr le6)
  rw [th_upid gr1 q6, ← et6, ← eg6] at hE
  rw [← et6, ← eg6] at hH
  have og6 : ∀ b, b ≠ q6 → gi6 b = gi b := th_upO eg6
  have t7 : τ6 h1 = 1 := (th_tkE et6 t2 rfl n6)
  have t8 : τ6 q1 = 30 := (th_tkE et6 tn1 rfl n6)
  have z9 : τ6 h0 = 0 := (th_tzE et6 z3 (Nat.ne_of_lt (th_ltE s6 lt6_h0)))
  have tn6 : τ6 q6 = 31 := th_upS et6
  refine W.widen (k := 2) (n := 35) (Nat.le_of_ble_eq_true rfl) (Nat.le_of_ble_eq_true rfl) ?_
  refine th_rputF (ci := 6) (v := .ref q6) (T := TX7) (C := RX7) (N := 8) (ty := (.array .int)) hx hb hts (fun w h => List.mem_cons_of_mem _ (List.mem_append_right _ h)) tyX7 tyX7_ok nmX7 hown hK hH hS z9 (Or.inl rfl) hR_h0 rfl 3 (by decide) (hts (.fieldLink RX7 21 "BayMoorings$Search" "open" "[I") (List.mem_cons_of_mem _ (List.mem_append_left _ (List.mem_of_getElem? (i := 7) rfl)))) (fun _ h9 => h9) rfl hin rfl (by decide +kernel) rfl rfl (Nat.le_of_ble_eq_true rfl) dX7_init_22 (fun H locs hR_h0 hH hS y10 o10 => ?_)
  have hR_h0 : va_P D vwCl [(h0, .inr (6, [.null, .ref q1, .int 0, .ref q6, .null, .null, .null, .int 0]))] H := hR_h0
  refine lv_aload_n hx hb dX7_init_25 rfl (lv_at hl 0 rfl) ?_
  refine lv_sipush (v := 300) hx hb dX7_init_26 sp_300 ?_
  have hle11 := hS.1
  have lt11_h0 := (hR_h0 0 _ rfl).lt
  refine th_newI (atype := .int) (cI := cA 0) (N' := 300) hx hb (hts (.arrayClass .int) (List.mem_cons_of_mem _ (List.mem_append_left _ (List.mem_of_getElem? (i := 6) rfl)))) hK 0 rfl (fun h => h) hH hS hA 32 (by decide) (by decide) (by decide) (Nat.le_of_ble_eq_true rfl) (Nat.le_of_ble_eq_true rfl) rfl (fun _ => rfl) (fun _ _ => trivial) dX7_init_29 (fun q11 H s11 y11 n11 o11 hH hS => ?_)
  have le11 : s.heap.size ≤ q11 := th_leE s11 hle11
  have hR_h0 := th_P1 hR_h0 (o11 _ (th_ltE s11 lt11_h0))
  obtain ⟨τ11, et11⟩ : ∃ t, t = va_up τ6 q11 32 := ⟨_, rfl⟩
  have zz11 := hE.z n11
  obtain ⟨gi11, eg11⟩ : ∃ g, g = va_up gi6 q11 (fun _ => 0) := ⟨_, rfl⟩
  have hE := hE.add (k0 := 32) (f := (fun _ => 0)) (r := gr1 q11) n11 (Or.inr le11)
  rw [th_upid gr1 q11, ← et11, ← eg11] at hE
  rw [← et11, ← eg11] at hH
  have og11 : ∀ b, b ≠ q11 → gi11 b = gi6 b := th_upO eg11
  have t12 : τ11 h1 = 1 := (th_tkE et11 t7 rfl n11)
  have t13 : τ11 q1 = 30 := (th_tkE et11 t8 rfl n11)
  have t14 : τ11 q6 = 31 := (th_tkE et11 tn6 rfl n11)
  have z15 : τ11 h0 = 0 := (th_tzE et11 z9 (Nat.ne_of_lt (th_ltE s11 lt11_h0)))
  have tn11 : τ11 q11 = 32 := th_upS et11
  refine W.widen (k := 3) (n := 335) (Nat.le_of_ble_eq_true rfl) (Nat.le_of_ble_eq_true rfl) ?_
  refine th_rputF (ci := 6) (v := .ref q11) (T := TX7) (C := RX7) (N := 8) (ty := (.array .int)) hx hb hts (fun w h => List.mem_cons_of_mem _ (List.mem_append_right _ h)) tyX7 tyX7_ok nmX7 hown hK hH hS z15 (Or.inl rfl) hR_h0 rfl 4 (by decide) (hts (.fieldLink RX7 25 "BayMoorings$Search" "barred" "[I") (List.mem_cons_of_mem _ (List.mem_append_left _ (List.mem_of_getElem? (i := 8) rfl)))) (fun _ h9 => h9) rfl hin rfl (by decide +kernel) rfl rfl (Nat.le_of_ble_eq_true rfl) dX7_init_31 (fun H locs hR_h0 hH hS y16 o16 => ?_)
  have hR_h0 : va_P D vwCl [(h0, .inr (6, [.null, .ref q1, .int 0, .ref q6, .ref q11, .null, .null, .int 0]))] H := hR_h0
  refine lv_aload_n hx hb dX7_init_34 rfl (lv_at hl 0 rfl) ?_
  refine lv_iconst (v := 5) hx hb dX7_init_35 ic_5 ?_
  have hle17 := hS.1
  have lt17_h0 := (hR_h0 0 _ rfl).lt
  refine th_newI (atype := .int) (cI := cA 0) (N' := 5) hx hb (hts (.arrayClass .int) (List.mem_cons_of_mem _ (List.mem_append_left _ (List.mem_of_getElem? (i := 6) rfl)))) hK 0 rfl (fun h => h) hH hS hA 33 (by decide) (by decide) (by decide) (Nat.le_of_ble_eq_true rfl) (Nat.le_of_ble_eq_true rfl) rfl (fun _ => rfl) (fun _ _ => trivial) dX7_init_36 (fun q17 H s17 y17 n17 o17 hH hS => ?_)
  have le17 : s.heap.size ≤ q17 := th_leE s17 hle17
  have hR_h0 := th_P1 hR_h0 (o17 _ (th_ltE s17 lt17_h0))
  obtain ⟨τ17, et17⟩ : ∃ t, t = va_up τ11 q17 33 := ⟨_, rfl⟩
  have zz17 := hE.z n17
  obtain ⟨gi17, eg17⟩ : ∃ g, g = va_up gi11 q17 (fun _ => 0) := ⟨_, rfl⟩
  have hE := hE.add (k0 := 33) (f := (fun _ => 0)) (r := gr1 q17) n17 (Or.inr le17)
  rw [th_upid gr1 q17, ← et17, ← eg17] at hE
  rw [← et17, ← eg17] at hH
  have og17 : ∀ b, b ≠ q17 → gi17 b = gi11 b := th_upO eg17
  have t18 : τ17 h1 = 1 := (th_tkE et17 t12 rfl n17)
  have t19 : τ17 q1 = 30 := (th_tkE et17 t13 rfl n17)
  have t20 : τ17 q6 = 31 := (th_tkE et17 t14 rfl n17)
  have t21 : τ17 q11 = 32 := (th_tkE et17 tn11 rfl n17)
  have z22 : τ17 h0 = 0 := (th_tzE et17 z15 (Nat.ne_of_lt (th_ltE s17 lt17_h0)))
  have tn17 : τ17 q17 = 33 := th_upS et17
  refine W.widen (k := 4) (n := 340) (Nat.le_of_ble_eq_true rfl) (Nat.le_of_ble_eq_true rfl) ?_
  refine th_rputF (ci := 6) (v := .ref q17) (T := TX7) (C := RX7) (N := 8) (ty := (.array .int)) hx hb hts (fun w h => List.mem_cons_of_mem _ (List.mem_append_right _ h)) tyX7 tyX7_ok nmX7 hown hK hH hS z22 (Or.inl rfl) hR_h0 rfl 5 (by decide) (hts (.fieldLink RX7 28 "BayMoorings$Search" "trial" "[I") (List.mem_cons_of_mem _ (List.mem_append_left _ (List.mem_of_getElem? (i := 9) rfl)))) (fun _ h9 => h9) rfl hin rfl (by decide +kernel) rfl rfl (Nat.le_of_ble_eq_true rfl) dX7_init_38 (fun H locs hR_h0 hH hS y23 o23 => ?_)
  have hR_h0 : va_P D vwCl [(h0, .inr (6, [.null, .ref q1, .int 0, .ref q6, .ref q11, .ref q17, .null, .int 0]))] H := hR_h0
  refine lv_aload_n hx hb dX7_init_41 rfl (lv_at hl 0 rfl) ?_
  refine lv_iconst (v := 5) hx hb dX7_init_42 ic_5 ?_
  have hle24 := hS.1
  have lt24_h0 := (hR_h0 0 _ rfl).lt
  refine th_newI (atype := .int) (cI := cA 0) (N' := 5) hx hb (hts (.arrayClass .int) (List.mem_cons_of_mem _ (List.mem_append_left _ (List.mem_of_getElem? (i := 6) rfl)))) hK 0 rfl (fun h => h) hH hS hA 34 (by decide) (by decide) (by decide) (Nat.le_of_ble_eq_true rfl) (Nat.le_of_ble_eq_true rfl) rfl (fun _ => rfl) (fun _ _ => trivial) dX7_init_43 (fun q24 H s24 y24 n24 o24 hH hS => ?_)
  have le24 : s.heap.size ≤ q24 := th_leE s24 hle24
  have hR_h0 := th_P1 hR_h0 (o24 _ (th_ltE s24 lt24_h0))
  obtain ⟨τ24, et24⟩ : ∃ t, t = va_up τ17 q24 34 := ⟨_, rfl⟩
  have zz24 := hE.z n24
  obtain ⟨gi24, eg24⟩ : ∃ g, g = va_up gi17 q24 (fun _ => 0) := ⟨_, rfl⟩
  have hE := hE.add (k0 := 34) (f := (fun _ => 0)) (r := gr1 q24) n24 (Or.inr le24)
  rw [th_upid gr1 q24, ← et24, ← eg24] at hE
  rw [← et24, ← eg24] at hH
  have og24 : ∀ b, b ≠ q24 → gi24 b = gi17 b := th_upO eg24
  have t25 : τ24 h1 = 1 := (th_tkE et24 t18 rfl n24)
  have t26 : τ24 q1 = 30 := (th_tkE et24 t19 rfl n24)
  have t27 : τ24 q6 = 31 := (th_tkE et24 t20 rfl n24)
  have t28 : τ24 q11 = 32 := (th_tkE et24 t21 rfl n24)
  have t29 : τ24 q17 = 33 := (th_tkE et24 tn17 rfl n24)
  have z30 : τ24 h0 = 0 := (th_tzE et24 z22 (Nat.ne_of_lt (th_ltE s24 lt24_h0)))
  have tn24 : τ24 q24 = 34 := th_upS et24
  refine W.widen (k := 5) (n := 345) (Nat.le_of_ble_eq_true rfl) (Nat.le_of_ble_eq_true rfl) ?_
  refine th_rputF (ci := 6) (v := .ref q24) (T := TX7) (C := RX7) (N := 8) (ty := (.array .int)) hx hb hts (fun w h => List.mem_cons_of_mem _ (List.mem_append_right _ h)) tyX7 tyX7_ok nmX7 hown hK hH hS z30 (Or.inl rfl) hR_h0 rfl 6 (by decide) (hts (.fieldLink RX7 31 "BayMoorings$Search" "best" "[I") (List.mem_cons_of_mem _ (List.mem_append_left _ (List.mem_of_getElem? (i := 10) rfl)))) (fun _ h9 => h9) rfl hin rfl (by decide +kernel) rfl rfl (Nat.le_of_ble_eq_true rfl) dX7_init_45 (fun H locs hR_h0 hH hS y31 o31 => ?_)
  have hR_h0 : va_P D vwCl [(h0, .inr (6, [.null, .ref q1, .int 0, .ref q6, .ref q11, .ref q17, .ref q24, .int 0]))] H := hR_h0
  refine lv_aload_n hx hb dX7_init_48 rfl (lv_at hl 0 rfl) ?_
  refine lv_iconst (v := 0) hx hb dX7_init_49 ic_0 ?_
  refine th_rput (ci := 6) (v := .int 0) (T := TX7) (C := RX7) (N := 8) (ty := .int) hx hb hts (fun w h => List.mem_cons_of_mem _ (List.mem_append_right _ h)) tyX7 tyX7_ok nmX7 hown hK hH hS z30 (Or.inl rfl) hR_h0 rfl 7 (by decide) (hts (.fieldLink RX7 34 "BayMoorings$Search" "bestCount" "I") (List.mem_cons_of_mem _ (List.mem_append_left _ (List.mem_of_getElem? (i := 11) rfl)))) (fun _ h9 => h9) rfl (by decide +kernel) rfl rfl (Nat.le_of_ble_eq_true rfl) dX7_init_50 (fun H locs hR_h0 hH hS y32 o32 => ?_)
  have hR_h0 : va_P D vwCl [(h0, .inr (6, [.null, .ref q1, .int 0, .ref q6, .ref q11, .ref q17, .ref q24, .int 0]))] H := hR_h0
  refine lv_aload_n hx hb dX7_init_53 rfl (lv_at hl 0 rfl) ?_
  refine lv_aload_n hx hb dX7_init_54 rfl (lv_at hl 1 rfl) ?_
  refine th_rputF (ci := 6) (v := .ref h1) (T := TX7) (C := RX7) (N := 8) (ty := (.object "BayMoorings$Bay")) hx hb hts (fun w h => List.mem_cons_of_mem _ (List.mem_append_right _ h)) tyX7 tyX7_ok nmX7 hown hK hH hS z30 (Or.inl rfl) hR_h0 rfl 0 (by decide) (hts (.fieldLink RX7 37 "BayMoorings$Search" "bay" "LBayMoorings$Bay;") (List.mem_cons_of_mem _ (List.mem_append_left _ (List.mem_of_getElem? (i := 12) rfl)))) (fun _ h9 => h9) rfl hin rfl (by decide +kernel) rfl rfl (Nat.le_of_ble_eq_true rfl) dX7_init_55 (fun H locs hR_h0 hH hS y33 o33 => ?_)
  have hR_h0 : va_P D vwCl [(h0, .inr (6, [.ref h1, .ref q1, .int 0, .ref q6, .ref q11, .ref q17, .ref q24, .int 0]))] H := hR_h0
  have hFp := hH.push (k0 := 7) (f := (fun _ => 0)) (r := (fun k => match k with | 0 => some h1 | 1 => some q1 | 3 => some q6 | 4 => some q11 | 5 => some q17 | 6 => some q24 | _ => none)) (H1 := _) z30 (hR_h0 0 _ rfl) (⟨⟨h1, rfl, th_tk t25 (by decide) z30⟩, ⟨q1, rfl, th_tk t26 (by decide) z30⟩, (rg_w rgc_0 (th_leI rfl) (th_leI rfl)), ⟨q6, rfl, th_tk t27 (by decide) z30⟩, ⟨q11, rfl, th_tk t28 (by decide) z30⟩, ⟨q17, rfl, th_tk t29 (by decide) z30⟩, ⟨q24, rfl, th_tk tn24 (by decide) z30⟩⟩) (fun _ _ => rfl)
  exact W.vret hx hb hr (fun t ht hW => ⟨⟨(va_up τ24 h0 7, va_up gi24 h0 (fun _ => 0), va_up gr1 h0 (fun k => match k with | 0 => some h1 | 1 => some q1 | 3 => some q6 | 4 => some q11 | 5 => some q17 | 6 => some q24 | _ => none)), rfl, ⟨hE.add z30 (Or.inl rfl), va_up_self _ _ _, (hF _ _ _ (by (try simp only [M_X7_init]); refine ⟨q1, n1, Nat.ne_of_lt (th_ltE s1 lt1_h0), ?_⟩; (try simp only [← et1, ← eg1]); refine ⟨q6, n6, Nat.ne_of_lt (th_ltE s6 lt6_h0), ?_⟩; (try simp only [← et6, ← eg6]); refine ⟨q11, n11, Nat.ne_of_lt (th_ltE s11 lt11_h0), ?_⟩; (try simp only [← et11, ← eg11]); refine ⟨q17, n17, Nat.ne_of_lt (th_ltE s17 lt17_h0), ?_⟩; (try simp only [← et17, ← eg17]); refine ⟨q24, n24, Nat.ne_of_lt (th_ltE s24 lt24_h0), ?_⟩; (try simp only [← et1, ← eg1, ← et6, ← eg6, ← et11, ← eg11, ← et17, ← eg17, ← et24, ← eg24]); first | done | exact ⟨(by first | rfl | trivial), (by first | rfl | trivial), (by first | rfl | trivial)⟩))⟩, th_Ht ht hFp⟩, hS.F ht⟩) hS.2.2 dX7_init_58

noncomputable def M_X6_init (τ : th_t) (Z : th_Zt) (gi : th_i) (gr : th_r) (h0 : Nat) (h1 : Nat) (tO : th_t) (gO : th_i) (qO : th_r) : Prop :=
  ∃ (q1 : Nat), τ q1 = 0 ∧ h0 ≠ q1 ∧ (
  let τ1 : th_t := va_up τ q1 28
  let gi1 : th_i := va_up gi q1 (fun _ => 0)
  ∃ (q5 : Nat), τ1 q5 = 0 ∧ h0 ≠ q5 ∧ (
  let τ5 : th_t := va_up τ1 q5 29
  let gi5 : th_i := va_up gi1 q5 (fun _ => 0)
  tO = va_up τ5 h0 6 ∧ gO = va_up gi5 h0 (fun _ => 0) ∧ qO = va_up gr h0 (fun k => match k with | 0 => some h1 | 1 => some q1 | 2 => some q5 | _ => none)))
set_option maxHeartbeats 20000000 in
set_option maxRecDepth 100000 in
theorem k_X6_init (l : Launch) (D : va_G) (cA : Nat → ClassId) (Z : th_Zt) (τ : th_t) (gi : th_i) (gr : th_r) (sz : Nat) (h0 : Nat) (h1 : Nat) (t_h1 : τ h1 = 1) : Met l yX6_init wsX6_init ({ frames := 1, cells := 2, slots := 32, locals := 30 }) (va_Pc [.ref h0, .ref h1] (th_PreC D cA Z τ gi gr sz h0 (.inr (5, [.null, .null, .null, .int 0])))) (va_Qv (fun (u : th_t × th_i × th_r) => th_Ext [] τ gi gr sz h0 u.1 u.2.1 u.2.2 ∧ u.1 h0 = 6 ∧ (M_X6_init τ Z gi gr h0 h1 u.1 u.2.1 u.2.2)) (fun (u : th_t × th_i × th_r) t => th_H D cA u.1 u.2.1 u.2.2 t.heap) (th_AC τ sz h0)) 2 32 (th_AC τ sz h0) := by
  refine Met.ofW (cc := cX6_init) (maxL := 2) (ret := none) (by decide) rfl ?_
  intro p e s m args below meth c s₁ B hml hv
  obtain ⟨rfl, hsz, hH, hK, hN, hZ, z_h0, hR_h0⟩ := hv
  have hx := B.exec
  have hb := B.bytes
  have hr := B.returns
  have hts := atoms_spec (ws := wsX6_init) B.pre
  have hown : s.vm.findClass RX6 = some m.cls := findClass_of_methodNamed B.named
  have hlocks := B.notSynchronized
  have hin : meth.name = "<init>" := (name_of_methodNamed B.named B.method).1
  subst hsz
  have hA : ∀ q : Nat, s.heap.size ≤ q → (th_AC τ s.heap.size h0) q := fun q h => Or.inr (Or.inr h)
  have hE : th_Ext [] τ gi gr s.heap.size h0 τ gi gr := th_Ext.rf
  have hS : va_S (th_AC τ s.heap.size h0) s.heap s.heap [] := va_S.rf
  have hl := lv_entry ([.ref h0, .ref h1]) (n := 2) (Nat.le_of_ble_eq_true rfl)
  rw [lg_entry_eq]
  generalize (lg_sl ([.ref h0, .ref h1]) ++ List.replicate (2 - (lg_sl ([.ref h0, .ref h1])).length) Slot.unset).toArray = ls at hl ⊢
  have hl : lv_has ls 2 [(0, .ref h0), (1, .ref h1)] := hl
  have hF : (∀ (tO : th_t) (gO : th_i) (qO : th_r), M_X6_init τ Z gi gr h0 h1 tO gO qO → M_X6_init τ Z gi gr h0 h1 tO gO qO) := fun tO gO qO h9 => h9
  refine lv_aload_n hx hb dX6_init_0 rfl (lv_at hl 0 rfl) ?_
  refine W.objInit hx hb hown (hts (.methodLink RX6 3 objectInit) (List.mem_cons_of_mem _ (List.mem_append_left _ (List.mem_of_getElem? (i := 0) rfl)))) (hts (.instanceMethod objectInit) (List.mem_cons_of_mem _ (List.mem_append_left _ (List.mem_of_getElem? (i := 1) rfl)))) (hts (.code objectInit ⟨#[0xb1]⟩ 1 none) (List.mem_cons_of_mem _ (List.mem_append_left _ (List.mem_of_getElem? (i := 2) rfl)))) rfl (by rw [hml]; exact hl.1) rfl dX6_init_1 (Nat.le_of_ble_eq_true rfl) (Nat.le_of_ble_eq_true rfl) ?_
  refine W.eq (g2 := F0 m 4 ls []) rfl ?_
  refine lv_aload_n hx hb dX6_init_4 rfl (lv_at hl 0 rfl) ?_
  refine lv_bipush (v := 16) hx hb dX6_init_5 bp_16 ?_
  have hle1 := hS.1
  have lt1_h0 := (hR_h0 0 _ rfl).lt
  refine th_newI (atype := .int) (cI := cA 0) (N' := 16) hx hb (hts (.arrayClass .int) (List.mem_cons_of_mem _ (List.mem_append_left _ (List.mem_of_getElem? (i := 3) rfl)))) hK 0 rfl (fun h => h) hH hS hA 28 (by decide) (by decide) (by decide) (Nat.le_of_ble_eq_true rfl) (Nat.le_of_ble_eq_true rfl) rfl (fun _ => rfl) (fun _ _ => trivial) dX6_init_7 (fun q1 H s1 y1 n1 o1 hH hS => ?_)
  have le1 : s.heap.size ≤ q1 := th_leE s1 hle1
  have hR_h0 := th_P1 hR_h0 (o1 _ (th_ltE s1 lt1_h0))
  obtain ⟨τ1, et1⟩ : ∃ t, t = va_up τ q1 28 := ⟨_, rfl⟩
  have zz1 := hE.z n1
  obtain ⟨gi1, eg1⟩ : ∃ g, g = va_up gi q1 (fun _ => 0) := ⟨_, rfl⟩
  have hE := hE.add (k0 := 28) (f := (fun _ => 0)) (r := gr q1) n1 (Or.inr le1)
  rw [th_upid gr q1, ← et1, ← eg1] at hE
  rw [← et1, ← eg1] at hH
  have og1 : ∀ b, b ≠ q1 → gi1 b = gi b := th_upO eg1
  have t2 : τ1 h1 = 1 := (th_tkE et1 t_h1 rfl n1)
  have z3 : τ1 h0 = 0 := (th_tzE et1 z_h0 (Nat.ne_of_lt (th_ltE s1 lt1_h0)))
  have tn1 : τ1 q1 = 28 := th_upS et1
  refine W.widen (k := 1) (n := 16) (Nat.le_of_ble_eq_true rfl) (Nat.le_of_ble_eq_true rfl) ?_
  refine th_rputF (ci := 5) (v := .ref q1) (T := TX6) (C := RX6) (N := 4) (ty := (.array .int)) hx hb hts (fun w h => List.mem_cons_of_mem _ (List.mem_append_right _ h)) tyX6 tyX6_ok nmX6 hown hK hH hS z3 (Or.inl rfl) hR_h0 rfl 1 (by decide) (hts (.fieldLink RX6 9 "BayMoorings$Rings" "gets" "[I") (List.mem_cons_of_mem _ (List.mem_append_left _ (List.mem_of_getElem? (i := 4) rfl)))) (fun _ h9 => h9) rfl hin rfl (by decide +kernel) rfl rfl (Nat.le_of_ble_eq_true rfl) dX6_init_9 (fun H locs hR_h0 hH hS y4 o4 => ?_)
  have hR_h0 : va_P D vwCl [(h0, .inr (5, [.null, .ref q1, .null, .int 0]))] H := hR_h0
  refine lv_aload_n hx hb dX6_init_12 rfl (lv_at hl 0 rfl) ?_
  refine lv_bipush (v := 16) hx hb dX6_init_13 bp_16 ?_
  have hle5 := hS.1
  have lt5_h0 := (hR_h0 0 _ rfl).lt
  refine th_newI (atype := .int) (cI := cA 0) (N' := 16) hx hb (hts (.arrayClass .int) (List.mem_cons_of_mem _ (List.mem_append_left _ (List.mem_of_getElem? (i := 3) rfl)))) hK 0 rfl (fun h => h) hH hS hA 29 (by decide) (by decide) (by decide) (Nat.le_of_ble_eq_true rfl) (Nat.le_of_ble_eq_true rfl) rfl (fun _ => rfl) (fun _ _ => trivial) dX6_init_15 (fun q5 H s5 y5 n5 o5 hH hS => ?_)
  have le5 : s.heap.size ≤ q5 := th_leE s5 hle5
  have hR_h0 := th_P1 hR_h0 (o5 _ (th_ltE s5 lt5_h0))
  obtain ⟨τ5, et5⟩ : ∃ t, t = va_up τ1 q5 29 := ⟨_, rfl⟩
  have zz5 := hE.z n5
  obtain ⟨gi5, eg5⟩ : ∃ g, g = va_up gi1 q5 (fun _ => 0) := ⟨_, rfl⟩
  have hE := hE.add (k0 := 29) (f := (fun _ => 0)) (r := gr q5) n5 (Or.inr le5)
  rw [th_upid gr q5, ← et5, ← eg5] at hE
  rw [← et5, ← eg5] at hH
  have og5 : ∀ b, b ≠ q5 → gi5 b = gi1 b := th_upO eg5
  have t6 : τ5 h1 = 1 := (th_tkE et5 t2 rfl n5)
  have t7 : τ5 q1 = 28 := (th_tkE et5 tn1 rfl n5)
  have z8 : τ5 h0 = 0 := (th_tzE et5 z3 (Nat.ne_of_lt (th_ltE s5 lt5_h0)))
  have tn5 : τ5 q5 = 29 := th_upS et5
  refine W.widen (k := 2) (n := 32) (Nat.le_of_ble_eq_true rfl) (Nat.le_of_ble_eq_true rfl) ?_
  refine th_rputF (ci := 5) (v := .ref q5) (T := TX6) (C := RX6) (N := 4) (ty := (.array .int)) hx hb hts (fun w h => List.mem_cons_of_mem _ (List.mem_append_right _ h)) tyX6 tyX6_ok nmX6 hown hK hH hS z8 (Or.inl rfl) hR_h0 rfl 2 (by decide) (hts (.fieldLink RX6 15 "BayMoorings$Rings" "pointsAt" "[I") (List.mem_cons_of_mem _ (List.mem_append_left _ (List.mem_of_getElem? (i := 5) rfl)))) (fun _ h9 => h9) rfl hin rfl (by decide +kernel) rfl rfl (Nat.le_of_ble_eq_true rfl) dX6_init_17 (fun H locs hR_h0 hH hS y9 o9 => ?_)
  have hR_h0 : va_P D vwCl [(h0, .inr (5, [.null, .ref q1, .ref q5, .int 0]))] H := hR_h0
  refine lv_aload_n hx hb dX6_init_20 rfl (lv_at hl 0 rfl) ?_
  refine lv_iconst (v := 0) hx hb dX6_init_21 ic_0 ?_
  refine th_rput (ci := 5) (v := .int 0) (T := TX6) (C := RX6) (N := 4) (ty := .int) hx hb hts (fun w h => List.mem_cons_of_mem _ (List.mem_append_right _ h)) tyX6 tyX6_ok nmX6 hown hK hH hS z8 (Or.inl rfl) hR_h0 rfl 3 (by decide) (hts (.fieldLink RX6 18 "BayMoorings$Rings" "left" "I") (List.mem_cons_of_mem _ (List.mem_append_left _ (List.mem_of_getElem? (i := 6) rfl)))) (fun _ h9 => h9) rfl (by decide +kernel) rfl rfl (Nat.le_of_ble_eq_true rfl) dX6_init_22 (fun H locs hR_h0 hH hS y10 o10 => ?_)
  have hR_h0 : va_P D vwCl [(h0, .inr (5, [.null, .ref q1, .ref q5, .int 0]))] H := hR_h0
  refine lv_aload_n hx hb dX6_init_25 rfl (lv_at hl 0 rfl) ?_
  refine lv_aload_n hx hb dX6_init_26 rfl (lv_at hl 1 rfl) ?_
  refine th_rputF (ci := 5) (v := .ref h1) (T := TX6) (C := RX6) (N := 4) (ty := (.object "BayMoorings$Bay")) hx hb hts (fun w h => List.mem_cons_of_mem _ (List.mem_append_right _ h)) tyX6 tyX6_ok nmX6 hown hK hH hS z8 (Or.inl rfl) hR_h0 rfl 0 (by decide) (hts (.fieldLink RX6 22 "BayMoorings$Rings" "bay" "LBayMoorings$Bay;") (List.mem_cons_of_mem _ (List.mem_append_left _ (List.mem_of_getElem? (i := 7) rfl)))) (fun _ h9 => h9) rfl hin rfl (by decide +kernel) rfl rfl (Nat.le_of_ble_eq_true rfl) dX6_init_27 (fun H locs hR_h0 hH hS y11 o11 => ?_)
  have hR_h0 : va_P D vwCl [(h0, .inr (5, [.ref h1, .ref q1, .ref q5, .int 0]))] H := hR_h0
  have hFp := hH.push (k0 := 6) (f := (fun _ => 0)) (r := (fun k => match k with | 0 => some h1 | 1 => some q1 | 2 => some q5 | _ => none)) (H1 := _) z8 (hR_h0 0 _ rfl) (⟨⟨h1, rfl, th_tk t6 (by decide) z8⟩, ⟨q1, rfl, th_tk t7 (by decide) z8⟩, ⟨q5, rfl, th_tk tn5 (by decide) z8⟩⟩) (fun _ _ => rfl)
  exact W.vret hx hb hr (fun t ht hW => ⟨⟨(va_up τ5 h0 6, va_up gi5 h0 (fun _ => 0), va_up gr h0 (fun k => match k with | 0 => some h1 | 1 => some q1 | 2 => some q5 | _ => none)), rfl, ⟨hE.add z8 (Or.inl rfl), va_up_self _ _ _, (hF _ _ _ (by (try simp only [M_X6_init]); refine ⟨q1, n1, Nat.ne_of_lt (th_ltE s1 lt1_h0), ?_⟩; (try simp only [← et1, ← eg1]); refine ⟨q5, n5, Nat.ne_of_lt (th_ltE s5 lt5_h0), ?_⟩; (try simp only [← et1, ← eg1, ← et5, ← eg5]); first | done | exact ⟨(by first | rfl | trivial), (by first | rfl | trivial), (by first | rfl | trivial)⟩))⟩, th_Ht ht hFp⟩, hS.F ht⟩) hS.2.2 dX6_init_30

noncomputable def M_X5_init (τ : th_t) (Z : th_Zt) (gi : th_i) (gr : th_r) (h0 : Nat) (h1 : Nat) (tO : th_t) (gO : th_i) (qO : th_r) : Prop :=
  ∃ (q1 : Nat), τ q1 = 0 ∧ h0 ≠ q1 ∧ (
  ∃ (τ2 : th_t) (gi2 : th_i) (gr2 : th_r), M_X1_init τ Z gi gr q1 τ2 gi2 gr2 ∧ τ2 h0 = 0 ∧ (
  tO = va_up τ2 h0 5 ∧ gO = va_up gi2 h0 (fun _ => 0) ∧ qO = va_up gr2 h0 (fun k => match k with | 0 => some h1 | 1 => some q1 | _ => none)))
set_option maxHeartbeats 20000000 in
set_option maxRecDepth 100000 in
theorem k_X5_init (l : Launch) (D : va_G) (cA : Nat → ClassId) (Z : th_Zt) (τ : th_t) (gi : th_i) (gr : th_r) (sz : Nat) (h0 : Nat) (h1 : Nat) (t_h1 : τ h1 = 1) : Met l yX5_init wsX5_init ({ frames := 2, cells := 3, slots := 30, locals := 50 }) (va_Pc [.ref h0, .ref h1] (th_PreC D cA Z τ gi gr sz h0 (.inr (4, [.null, .null, .int 0])))) (va_Qv (fun (u : th_t × th_i × th_r) => th_Ext [2400, 2500] τ gi gr sz h0 u.1 u.2.1 u.2.2 ∧ u.1 h0 = 5 ∧ (M_X5_init τ Z gi gr h0 h1 u.1 u.2.1 u.2.2)) (fun (u : th_t × th_i × th_r) t => th_H D cA u.1 u.2.1 u.2.2 t.heap) (th_AC τ sz h0)) 3 30 (th_AC τ sz h0) := by
  refine Met.ofW (cc := cX5_init) (maxL := 2) (ret := none) (by decide) rfl ?_
  intro p e s m args below meth c s₁ B hml hv
  obtain ⟨rfl, hsz, hH, hK, hN, hZ, z_h0, hR_h0⟩ := hv
  have hx := B.exec
  have hb := B.bytes
  have hr := B.returns
  have hts := atoms_spec (ws := wsX5_init) B.pre
  have hown : s.vm.findClass RX5 = some m.cls := findClass_of_methodNamed B.named
  have hlocks := B.notSynchronized
  have hin : meth.name = "<init>" := (name_of_methodNamed B.named B.method).1
  subst hsz
  have hA : ∀ q : Nat, s.heap.size ≤ q → (th_AC τ s.heap.size h0) q := fun q h => Or.inr (Or.inr h)
  have hE : th_Ext [2400, 2500] τ gi gr s.heap.size h0 τ gi gr := th_Ext.rf
  have hS : va_S (th_AC τ s.heap.size h0) s.heap s.heap [] := va_S.rf
  have hl := lv_entry ([.ref h0, .ref h1]) (n := 2) (Nat.le_of_ble_eq_true rfl)
  rw [lg_entry_eq]
  generalize (lg_sl ([.ref h0, .ref h1]) ++ List.replicate (2 - (lg_sl ([.ref h0, .ref h1])).length) Slot.unset).toArray = ls at hl ⊢
  have hl : lv_has ls 2 [(0, .ref h0), (1, .ref h1)] := hl
  have hF : (∀ (tO : th_t) (gO : th_i) (qO : th_r), M_X5_init τ Z gi gr h0 h1 tO gO qO → M_X5_init τ Z gi gr h0 h1 tO gO qO) := fun tO gO qO h9 => h9
  refine lv_aload_n hx hb dX5_init_0 rfl (lv_at hl 0 rfl) ?_
  refine W.objInit hx hb hown (hts (.methodLink RX5 3 objectInit) (List.mem_cons_of_mem _ (List.mem_append_left _ (List.mem_append_left _ (List.mem_of_getElem? (i := 0) rfl))))) (hts (.instanceMethod objectInit) (List.mem_cons_of_mem _ (List.mem_append_left _ (List.mem_append_left _ (List.mem_of_getElem? (i := 1) rfl))))) (hts (.code objectInit ⟨#[0xb1]⟩ 1 none) (List.mem_cons_of_mem _ (List.mem_append_left _ (List.mem_append_left _ (List.mem_of_getElem? (i := 2) rfl))))) rfl (by rw [hml]; exact hl.1) rfl dX5_init_1 (Nat.le_of_ble_eq_true rfl) (Nat.le_of_ble_eq_true rfl) ?_
  refine W.eq (g2 := F0 m 4 ls []) rfl ?_
  refine lv_aload_n hx hb dX5_init_4 rfl (lv_at hl 0 rfl) ?_
  have hle1 := hS.1
  have lt1_h0 := (hR_h0 0 _ rfl).lt
  refine th_newO (ci := 1) (fs := [.null, .null]) (C := RX1) (T := TX1) (N := 2) hx hb hts (fun w h => List.mem_cons_of_mem _ (List.mem_append_left _ (List.mem_append_right _ h))) tyX1 tyX1_ok hown (hts (.classLink RX5 9 RX1) (List.mem_cons_of_mem _ (List.mem_append_left _ (List.mem_append_left _ (List.mem_of_getElem? (i := 3) rfl))))) (hts (.instantiable RX1 2) (List.mem_cons_of_mem _ (List.mem_append_left _ (List.mem_append_left _ (List.mem_of_getElem? (i := 4) rfl))))) (hts (.initialized RX1) (List.mem_cons_of_mem _ (List.mem_append_left _ (List.mem_append_left _ (List.mem_of_getElem? (i := 5) rfl))))) hK hH hS hA rfl (fun j hj => by rcases (show j = 0 ∨ j = 1 by omega) with rfl | rfl <;> rfl) (Nat.le_of_ble_eq_true rfl) (Nat.le_of_ble_eq_true rfl) dX5_init_5 (fun q1 H s1 y1 n1 o1 hR_q1 hH hS => ?_)
  have le1 : s.heap.size ≤ q1 := th_leE s1 hle1
  have hR_h0 := th_P1 hR_h0 (o1 _ (th_ltE s1 lt1_h0))
  have ne_h0_q1 : h0 ≠ q1 := Nat.ne_of_lt (th_ltE s1 lt1_h0)
  refine W.widen (k := 1) (n := 2) (Nat.le_of_ble_eq_true rfl) (Nat.le_of_ble_eq_true rfl) ?_
  refine lv_dup hx hb dX5_init_8 rfl ?_
  have hle2 := hS.1
  have lt2_h0 := (hR_h0 0 _ rfl).lt
  have lt2_q1 := (hR_q1 0 _ rfl).lt
  have hAC2 : ∀ x, th_AC τ _ q1 x → (th_AC τ s.heap.size h0) x := th_ACn hE hS le1
  refine va_callv (va_runI (As := []) (rest := [.ref q1, .ref h0]) ⟨hx, hb, hml, hown, hts⟩ (k_X1_init l D cA Z τ gi gr _ q1) (cwI 0 hts gX5_init_X1_init rfl rfl rfl (hts (.initialized RX1) (List.mem_cons_of_mem _ (List.mem_append_left _ (List.mem_append_left _ (List.mem_of_getElem? (i := 5) rfl))))) (hts (.methodLink RX5 11 yX1_init) (List.mem_cons_of_mem _ (List.mem_append_left _ (List.mem_append_left _ (List.mem_of_getElem? (i := 9) rfl))))) (hts (.instanceMethod yX1_init) (List.mem_cons_of_mem _ (List.mem_append_left _ (List.mem_append_left _ (List.mem_of_getElem? (i := 10) rfl))))) rfl (by decide +kernel) ⟨Nat.le_of_ble_eq_true rfl, Nat.le_of_ble_eq_true rfl⟩) ⟨th_blindC, th_preC hH hK hN hZ hS hAC2 n1 hR_q1⟩ rfl rfl hl.1 rfl (lv_room (Nat.le_of_ble_eq_true rfl)) dX5_init_9 ⟨Nat.le_of_ble_eq_true rfl, Nat.le_of_ble_eq_true rfl⟩) hS (fun x _ h => hAC2 x h) hAC2 (fun u t H locs ht hvm hw2 hB hz2 hk2 hS => ?_)
  obtain ⟨τ2, gi2, gr2⟩ := u
  try dsimp only at hw2 hB
  rw [ht] at hB
  have hH := hB
  have hR_h0 := th_P1 hR_h0 (hk2 _ lt2_h0 (th_nAC z_h0 ne_h0_q1 lt2_h0))
  have t3 : τ2 h1 = 1 := ((hw2.1.1 h1 (by rw [t_h1]; decide)).trans t_h1)
  have z4 : τ2 h0 = 0 := (th_zx hw2.1 z_h0 ne_h0_q1 lt2_h0)
  have hE := hE.tr hw2.1 (Or.inr le1) hle2 (by decide)
  have tn2 := hw2.2.1
  refine W.widen (k := 3) (n := 30) (Nat.le_of_ble_eq_true rfl) (Nat.le_of_ble_eq_true rfl) ?_
  refine th_rputF (ci := 4) (v := .ref q1) (T := TX5) (C := RX5) (N := 3) (ty := (.object "BayMoorings$Berths")) hx hb hts (fun w h => List.mem_cons_of_mem _ (List.mem_append_right _ h)) tyX5 tyX5_ok nmX5 hown hK hH hS z4 (Or.inl rfl) hR_h0 rfl 1 (by decide) (hts (.fieldLink RX5 12 "BayMoorings$Flight" "berths" "LBayMoorings$Berths;") (List.mem_cons_of_mem _ (List.mem_append_left _ (List.mem_append_left _ (List.mem_of_getElem? (i := 6) rfl))))) (fun _ h9 => h9) rfl hin rfl (by decide +kernel) rfl rfl (Nat.le_of_ble_eq_true rfl) dX5_init_12 (fun H locs hR_h0 hH hS y5 o5 => ?_)
  have hR_h0 : va_P D vwCl [(h0, .inr (4, [.null, .ref q1, .int 0]))] H := hR_h0
  refine lv_aload_n hx hb dX5_init_15 rfl (lv_at hl 0 rfl) ?_
  refine lv_iconst (v := 0) hx hb dX5_init_16 ic_0 ?_
  refine th_rput (ci := 4) (v := .int 0) (T := TX5) (C := RX5) (N := 3) (ty := .int) hx hb hts (fun w h => List.mem_cons_of_mem _ (List.mem_append_right _ h)) tyX5 tyX5_ok nmX5 hown hK hH hS z4 (Or.inl rfl) hR_h0 rfl 2 (by decide) (hts (.fieldLink RX5 18 "BayMoorings$Flight" "fleeing" "I") (List.mem_cons_of_mem _ (List.mem_append_left _ (List.mem_append_left _ (List.mem_of_getElem? (i := 7) rfl))))) (fun _ h9 => h9) rfl (by decide +kernel) rfl rfl (Nat.le_of_ble_eq_true rfl) dX5_init_17 (fun H locs hR_h0 hH hS y6 o6 => ?_)
  have hR_h0 : va_P D vwCl [(h0, .inr (4, [.null, .ref q1, .int 0]))] H := hR_h0
  refine lv_aload_n hx hb dX5_init_20 rfl (lv_at hl 0 rfl) ?_
  refine lv_aload_n hx hb dX5_init_21 rfl (lv_at hl 1 rfl) ?_
  refine th_rputF (ci := 4) (v := .ref h1) (T := TX5) (C := RX5) (N := 3) (ty := (.object "BayMoorings$Bay")) hx hb hts (fun w h => List.mem_cons_of_mem _ (List.mem_append_right _ h)) tyX5 tyX5_ok nmX5 hown hK hH hS z4 (Or.inl rfl) hR_h0 rfl 0 (by decide) (hts (.fieldLink RX5 22 "BayMoorings$Flight" "bay" "LBayMoorings$Bay;") (List.mem_cons_of_mem _ (List.mem_append_left _ (List.mem_append_left _ (List.mem_of_getElem? (i := 8) rfl))))) (fun _ h9 => h9) rfl hin rfl (by decide +kernel) rfl rfl (Nat.le_of_ble_eq_true rfl) dX5_init_22 (fun H locs hR_h0 hH hS y7 o7 => ?_)
  have hR_h0 : va_P D vwCl [(h0, .inr (4, [.ref h1, .ref q1, .int 0]))] H := hR_h0
  have hFp := hH.push (k0 := 5) (f := (fun _ => 0)) (r := (fun k => match k with | 0 => some h1 | 1 => some q1 | _ => none)) (H1 := _) z4 (hR_h0 0 _ rfl) (⟨⟨h1, rfl, th_tk t3 (by decide) z4⟩, ⟨q1, rfl, th_tk tn2 (by decide) z4⟩⟩) (fun _ _ => rfl)
  exact W.vret hx hb hr (fun t ht hW => ⟨⟨(va_up τ2 h0 5, va_up gi2 h0 (fun _ => 0), va_up gr2 h0 (fun k => match k with | 0 => some h1 | 1 => some q1 | _ => none)), rfl, ⟨hE.add z4 (Or.inl rfl), va_up_self _ _ _, (hF _ _ _ (by (try simp only [M_X5_init]); refine ⟨q1, n1, ne_h0_q1, ?_⟩; refine ⟨τ2, gi2, gr2, hw2.2.2, z4, ?_⟩; first | done | exact ⟨(by first | rfl | trivial), (by first | rfl | trivial), (by first | rfl | trivial)⟩))⟩, th_Ht ht hFp⟩, hS.F ht⟩) hS.2.2 dX5_init_25
