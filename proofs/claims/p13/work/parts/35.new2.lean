noncomputable def M_X3_init (τ : th_t) (Z : th_Zt) (gi : th_i) (gr : th_r) (h0 : Nat) (p1 : Int32) (p2 : Int32) (p3 : Int32) (p4 : Int32) (p5 : Int32) (tO : th_t) (gO : th_i) (qO : th_r) : Prop :=
  ∃ (q1 : Nat), τ q1 = 0 ∧ h0 ≠ q1 ∧ (
  let τ1 : th_t := va_up τ q1 26
  let gi1 : th_i := va_up gi q1 (fun _ => 0)
  tO = va_up τ1 h0 3 ∧ gO = va_up gi1 h0 (fun k => match k with | 0 => p1 | 1 => p2 | 2 => p3 | 3 => p4 | 4 => p5 | _ => 0) ∧ qO = va_up gr h0 (fun k => match k with | 5 => some q1 | _ => none))
set_option maxHeartbeats 20000000 in
set_option maxRecDepth 100000 in
theorem k_X3_init (l : Launch) (D : va_G) (cA : Nat → ClassId) (Z : th_Zt) (τ : th_t) (gi : th_i) (gr : th_r) (sz : Nat) (h0 : Nat) (p1 : Int32) (p2 : Int32) (p3 : Int32) (p4 : Int32) (p5 : Int32) : Met l yX3_init wsX3_init ({ frames := 1, cells := 1, slots := 24, locals := 30 }) (va_Pc [.ref h0, .int p1, .int p2, .int p3, .int p4, .int p5] (th_PreC D cA Z τ gi gr sz h0 (.inr (2, [.int 0, .int 0, .int 0, .int 0, .int 0, .null, .int 0, .int 0])))) (va_Qv (fun (u : th_t × th_i × th_r) => th_Ext [] τ gi gr sz h0 u.1 u.2.1 u.2.2 ∧ u.1 h0 = 3 ∧ (M_X3_init τ Z gi gr h0 p1 p2 p3 p4 p5 u.1 u.2.1 u.2.2)) (fun (u : th_t × th_i × th_r) t => th_H D cA u.1 u.2.1 u.2.2 t.heap) (th_AC τ sz h0)) 1 24 (th_AC τ sz h0) := by
  refine Met.ofW (cc := cX3_init) (maxL := 6) (ret := none) (by decide) rfl ?_
  intro p e s m args below meth c s₁ B hml hv
  obtain ⟨rfl, hsz, hH, hK, hN, hZ, z_h0, hR_h0⟩ := hv
  have hx := B.exec
  have hb := B.bytes
  have hr := B.returns
  have hts := atoms_spec (ws := wsX3_init) B.pre
  have hown : s.vm.findClass RX3 = some m.cls := findClass_of_methodNamed B.named
  have hlocks := B.notSynchronized
  have hin : meth.name = "<init>" := (name_of_methodNamed B.named B.method).1
  subst hsz
  have hA : ∀ q : Nat, s.heap.size ≤ q → (th_AC τ s.heap.size h0) q := fun q h => Or.inr (Or.inr h)
  have hE : th_Ext [] τ gi gr s.heap.size h0 τ gi gr := th_Ext.rf
  have hS : va_S (th_AC τ s.heap.size h0) s.heap s.heap [] := va_S.rf
  have hl := lv_entry ([.ref h0, .int p1, .int p2, .int p3, .int p4, .int p5]) (n := 6) (Nat.le_of_ble_eq_true rfl)
  rw [lg_entry_eq]
  generalize (lg_sl ([.ref h0, .int p1, .int p2, .int p3, .int p4, .int p5]) ++ List.replicate (6 - (lg_sl ([.ref h0, .int p1, .int p2, .int p3, .int p4, .int p5])).length) Slot.unset).toArray = ls at hl ⊢
  have hl : lv_has ls 6 [(0, .ref h0), (1, .int p1), (2, .int p2), (3, .int p3), (4, .int p4), (5, .int p5)] := hl
  have hF : (∀ (tO : th_t) (gO : th_i) (qO : th_r), M_X3_init τ Z gi gr h0 p1 p2 p3 p4 p5 tO gO qO → M_X3_init τ Z gi gr h0 p1 p2 p3 p4 p5 tO gO qO) := fun tO gO qO h9 => h9
  refine lv_aload_n hx hb dX3_init_0 rfl (lv_at hl 0 rfl) ?_
  refine W.objInit hx hb hown (hts (.methodLink RX3 3 objectInit) (List.mem_cons_of_mem _ (List.mem_append_left _ (List.mem_of_getElem? (i := 0) rfl)))) (hts (.instanceMethod objectInit) (List.mem_cons_of_mem _ (List.mem_append_left _ (List.mem_of_getElem? (i := 1) rfl)))) (hts (.code objectInit ⟨#[0xb1]⟩ 1 none) (List.mem_cons_of_mem _ (List.mem_append_left _ (List.mem_of_getElem? (i := 2) rfl)))) rfl (by rw [hml]; exact hl.1) rfl dX3_init_1 (Nat.le_of_ble_eq_true rfl) (Nat.le_of_ble_eq_true rfl) ?_
  refine W.eq (g2 := F0 m 4 ls []) rfl ?_
  refine lv_aload_n hx hb dX3_init_4 rfl (lv_at hl 0 rfl) ?_
  refine lv_bipush (v := 24) hx hb dX3_init_5 bp_24 ?_
  have hle1 := hS.1
  have lt1_h0 := (hR_h0 0 _ rfl).lt
  refine th_newI (atype := .int) (cI := cA 0) (N' := 24) hx hb (hts (.arrayClass .int) (List.mem_cons_of_mem _ (List.mem_append_left _ (List.mem_of_getElem? (i := 3) rfl)))) hK 0 rfl (fun h => h) hH hS hA 26 (by decide) (by decide) (by decide) (Nat.le_of_ble_eq_true rfl) (Nat.le_of_ble_eq_true rfl) rfl (fun _ => rfl) (fun _ _ => trivial) dX3_init_7 (fun q1 H s1 y1 n1 o1 hH hS => ?_)
  have le1 : s.heap.size ≤ q1 := th_leE s1 hle1
  have hR_h0 := th_P1 hR_h0 (o1 _ (th_ltE s1 lt1_h0))
  obtain ⟨τ1, et1⟩ : ∃ t, t = va_up τ q1 26 := ⟨_, rfl⟩
  have zz1 := hE.z n1
  obtain ⟨gi1, eg1⟩ : ∃ g, g = va_up gi q1 (fun _ => 0) := ⟨_, rfl⟩
  have hE := hE.add (k0 := 26) (f := (fun _ => 0)) (r := gr q1) n1 (Or.inr le1)
  rw [th_upid gr q1, ← et1, ← eg1] at hE
  rw [← et1, ← eg1] at hH
  have og1 : ∀ b, b ≠ q1 → gi1 b = gi b := th_upO eg1
  have z2 : τ1 h0 = 0 := (th_tzE et1 z_h0 (Nat.ne_of_lt (th_ltE s1 lt1_h0)))
  have tn1 : τ1 q1 = 26 := th_upS et1
  refine W.widen (k := 1) (n := 24) (Nat.le_of_ble_eq_true rfl) (Nat.le_of_ble_eq_true rfl) ?_
  refine th_rputF (ci := 2) (v := .ref q1) (T := TX3) (C := RX3) (N := 8) (ty := (.array .int)) hx hb hts (fun w h => List.mem_cons_of_mem _ (List.mem_append_right _ h)) tyX3 tyX3_ok nmX3 hown hK hH hS z2 (Or.inl rfl) hR_h0 rfl 5 (by decide) (hts (.fieldLink RX3 9 "BayMoorings$Buoy" "slack" "[I") (List.mem_cons_of_mem _ (List.mem_append_left _ (List.mem_of_getElem? (i := 4) rfl)))) (fun _ h9 => h9) rfl hin rfl (by decide +kernel) rfl rfl (Nat.le_of_ble_eq_true rfl) dX3_init_9 (fun H locs hR_h0 hH hS y3 o3 => ?_)
  have hR_h0 : va_P D vwCl [(h0, .inr (2, [.int 0, .int 0, .int 0, .int 0, .int 0, .ref q1, .int 0, .int 0]))] H := hR_h0
  refine lv_aload_n hx hb dX3_init_12 rfl (lv_at hl 0 rfl) ?_
  refine lv_iconst (v := 0) hx hb dX3_init_13 ic_0 ?_
  refine th_rput (ci := 2) (v := .int 0) (T := TX3) (C := RX3) (N := 8) (ty := .int) hx hb hts (fun w h => List.mem_cons_of_mem _ (List.mem_append_right _ h)) tyX3 tyX3_ok nmX3 hown hK hH hS z2 (Or.inl rfl) hR_h0 rfl 6 (by decide) (hts (.fieldLink RX3 15 "BayMoorings$Buoy" "low" "I") (List.mem_cons_of_mem _ (List.mem_append_left _ (List.mem_of_getElem? (i := 5) rfl)))) (fun _ h9 => h9) rfl (by decide +kernel) rfl rfl (Nat.le_of_ble_eq_true rfl) dX3_init_14 (fun H locs hR_h0 hH hS y4 o4 => ?_)
  have hR_h0 : va_P D vwCl [(h0, .inr (2, [.int 0, .int 0, .int 0, .int 0, .int 0, .ref q1, .int 0, .int 0]))] H := hR_h0
  refine lv_aload_n hx hb dX3_init_17 rfl (lv_at hl 0 rfl) ?_
  refine lv_iconst (v := 0) hx hb dX3_init_18 ic_0 ?_
  refine th_rput (ci := 2) (v := .int 0) (T := TX3) (C := RX3) (N := 8) (ty := .int) hx hb hts (fun w h => List.mem_cons_of_mem _ (List.mem_append_right _ h)) tyX3 tyX3_ok nmX3 hown hK hH hS z2 (Or.inl rfl) hR_h0 rfl 7 (by decide) (hts (.fieldLink RX3 19 "BayMoorings$Buoy" "high" "I") (List.mem_cons_of_mem _ (List.mem_append_left _ (List.mem_of_getElem? (i := 6) rfl)))) (fun _ h9 => h9) rfl (by decide +kernel) rfl rfl (Nat.le_of_ble_eq_true rfl) dX3_init_19 (fun H locs hR_h0 hH hS y5 o5 => ?_)
  have hR_h0 : va_P D vwCl [(h0, .inr (2, [.int 0, .int 0, .int 0, .int 0, .int 0, .ref q1, .int 0, .int 0]))] H := hR_h0
  refine lv_aload_n hx hb dX3_init_22 rfl (lv_at hl 0 rfl) ?_
  refine lv_iload_n hx hb dX3_init_23 rfl (lv_at hl 1 rfl) ?_
  refine th_rputF (ci := 2) (v := .int p1) (T := TX3) (C := RX3) (N := 8) (ty := .int) hx hb hts (fun w h => List.mem_cons_of_mem _ (List.mem_append_right _ h)) tyX3 tyX3_ok nmX3 hown hK hH hS z2 (Or.inl rfl) hR_h0 rfl 0 (by decide) (hts (.fieldLink RX3 22 "BayMoorings$Buoy" "number" "I") (List.mem_cons_of_mem _ (List.mem_append_left _ (List.mem_of_getElem? (i := 7) rfl)))) (fun _ h9 => h9) rfl hin rfl (by decide +kernel) rfl rfl (Nat.le_of_ble_eq_true rfl) dX3_init_24 (fun H locs hR_h0 hH hS y6 o6 => ?_)
  have hR_h0 : va_P D vwCl [(h0, .inr (2, [.int p1, .int 0, .int 0, .int 0, .int 0, .ref q1, .int 0, .int 0]))] H := hR_h0
  refine lv_aload_n hx hb dX3_init_27 rfl (lv_at hl 0 rfl) ?_
  refine lv_iload_n hx hb dX3_init_28 rfl (lv_at hl 2 rfl) ?_
  refine th_rputF (ci := 2) (v := .int p2) (T := TX3) (C := RX3) (N := 8) (ty := .int) hx hb hts (fun w h => List.mem_cons_of_mem _ (List.mem_append_right _ h)) tyX3 tyX3_ok nmX3 hown hK hH hS z2 (Or.inl rfl) hR_h0 rfl 1 (by decide) (hts (.fieldLink RX3 25 "BayMoorings$Buoy" "x" "I") (List.mem_cons_of_mem _ (List.mem_append_left _ (List.mem_of_getElem? (i := 8) rfl)))) (fun _ h9 => h9) rfl hin rfl (by decide +kernel) rfl rfl (Nat.le_of_ble_eq_true rfl) dX3_init_29 (fun H locs hR_h0 hH hS y7 o7 => ?_)
  have hR_h0 : va_P D vwCl [(h0, .inr (2, [.int p1, .int p2, .int 0, .int 0, .int 0, .ref q1, .int 0, .int 0]))] H := hR_h0
  refine lv_aload_n hx hb dX3_init_32 rfl (lv_at hl 0 rfl) ?_
  refine lv_iload_n hx hb dX3_init_33 rfl (lv_at hl 3 rfl) ?_
  refine th_rputF (ci := 2) (v := .int p3) (T := TX3) (C := RX3) (N := 8) (ty := .int) hx hb hts (fun w h => List.mem_cons_of_mem _ (List.mem_append_right _ h)) tyX3 tyX3_ok nmX3 hown hK hH hS z2 (Or.inl rfl) hR_h0 rfl 2 (by decide) (hts (.fieldLink RX3 28 "BayMoorings$Buoy" "y" "I") (List.mem_cons_of_mem _ (List.mem_append_left _ (List.mem_of_getElem? (i := 9) rfl)))) (fun _ h9 => h9) rfl hin rfl (by decide +kernel) rfl rfl (Nat.le_of_ble_eq_true rfl) dX3_init_34 (fun H locs hR_h0 hH hS y8 o8 => ?_)
  have hR_h0 : va_P D vwCl [(h0, .inr (2, [.int p1, .int p2, .int p3, .int 0, .int 0, .ref q1, .int 0, .int 0]))] H := hR_h0
  refine lv_aload_n hx hb dX3_init_37 rfl (lv_at hl 0 rfl) ?_
  refine lv_iload hx hb dX3_init_38 (lv_at hl 4 rfl) ?_
  refine th_rputF (ci := 2) (v := .int p4) (T := TX3) (C := RX3) (N := 8) (ty := .int) hx hb hts (fun w h => List.mem_cons_of_mem _ (List.mem_append_right _ h)) tyX3 tyX3_ok nmX3 hown hK hH hS z2 (Or.inl rfl) hR_h0 rfl 3 (by decide) (hts (.fieldLink RX3 31 "BayMoorings$Buoy" "depth" "I") (List.mem_cons_of_mem _ (List.mem_append_left _ (List.mem_of_getElem? (i := 10) rfl)))) (fun _ h9 => h9) rfl hin rfl (by decide +kernel) rfl rfl (Nat.le_of_ble_eq_true rfl) dX3_init_40 (fun H locs hR_h0 hH hS y9 o9 => ?_)
  have hR_h0 : va_P D vwCl [(h0, .inr (2, [.int p1, .int p2, .int p3, .int p4, .int 0, .ref q1, .int 0, .int 0]))] H := hR_h0
  refine lv_aload_n hx hb dX3_init_43 rfl (lv_at hl 0 rfl) ?_
  refine lv_iload hx hb dX3_init_44 (lv_at hl 5 rfl) ?_
  refine th_rputF (ci := 2) (v := .int p5) (T := TX3) (C := RX3) (N := 8) (ty := .int) hx hb hts (fun w h => List.mem_cons_of_mem _ (List.mem_append_right _ h)) tyX3 tyX3_ok nmX3 hown hK hH hS z2 (Or.inl rfl) hR_h0 rfl 4 (by decide) (hts (.fieldLink RX3 34 "BayMoorings$Buoy" "chain" "I") (List.mem_cons_of_mem _ (List.mem_append_left _ (List.mem_of_getElem? (i := 11) rfl)))) (fun _ h9 => h9) rfl hin rfl (by decide +kernel) rfl rfl (Nat.le_of_ble_eq_true rfl) dX3_init_46 (fun H locs hR_h0 hH hS y10 o10 => ?_)
  have hR_h0 : va_P D vwCl [(h0, .inr (2, [.int p1, .int p2, .int p3, .int p4, .int p5, .ref q1, .int 0, .int 0]))] H := hR_h0
  have hFp := hH.push (k0 := 3) (f := (fun k => match k with | 0 => p1 | 1 => p2 | 2 => p3 | 3 => p4 | 4 => p5 | _ => 0)) (r := (fun k => match k with | 5 => some q1 | _ => none)) (H1 := _) z2 (hR_h0 0 _ rfl) (⟨q1, rfl, th_tk tn1 (by decide) z2⟩) (fun _ _ => rfl)
  exact W.vret hx hb hr (fun t ht hW => ⟨⟨(va_up τ1 h0 3, va_up gi1 h0 (fun k => match k with | 0 => p1 | 1 => p2 | 2 => p3 | 3 => p4 | 4 => p5 | _ => 0), va_up gr h0 (fun k => match k with | 5 => some q1 | _ => none)), rfl, ⟨hE.add z2 (Or.inl rfl), va_up_self _ _ _, (hF _ _ _ (by (try simp only [M_X3_init]); refine ⟨q1, n1, Nat.ne_of_lt (th_ltE s1 lt1_h0), ?_⟩; (try simp only [← et1, ← eg1]); first | done | exact ⟨(by first | rfl | trivial), (by first | rfl | trivial), (by first | rfl | trivial)⟩))⟩, th_Ht ht hFp⟩, hS.F ht⟩) hS.2.2 dX3_init_49

noncomputable def M_X2_init_8 (τ : th_t) (Z : th_Zt) (gi : th_i) (gr : th_r) (h0 : Nat) (p1 : Int32) (p2 : Int32) (p3 : Int32) (tO : th_t) (gO : th_i) (qO : th_r) : Prop :=
  ∃ (q1 : Nat), τ q1 = 0 ∧ h0 ≠ q1 ∧ (
  let τ1 : th_t := va_up τ q1 27
  let gi1 : th_i := va_up gi q1 (fun _ => 0)
  tO = va_up τ1 h0 8 ∧ gO = va_up gi1 h0 (fun k => match k with | 0 => p1 | 1 => p2 | 2 => p3 | _ => 0) ∧ qO = va_up gr h0 (fun k => match k with | 3 => some q1 | _ => none))
set_option maxHeartbeats 20000000 in
set_option maxRecDepth 100000 in
theorem k_X2_init_8 (l : Launch) (D : va_G) (cA : Nat → ClassId) (Z : th_Zt) (τ : th_t) (gi : th_i) (gr : th_r) (sz : Nat) (h0 : Nat) (p1 : Int32) (p2 : Int32) (p3 : Int32) : Met l yX2_init wsX2_init ({ frames := 1, cells := 1, slots := 4, locals := 30 }) (va_Pc [.ref h0, .int p1, .int p2, .int p3] (th_PreC D cA Z τ gi gr sz h0 (.inr (7, [.int 0, .int 0, .int 0, .null, .int 0, .int 0])))) (va_Qv (fun (u : th_t × th_i × th_r) => th_Ext [] τ gi gr sz h0 u.1 u.2.1 u.2.2 ∧ u.1 h0 = 8 ∧ (M_X2_init_8 τ Z gi gr h0 p1 p2 p3 u.1 u.2.1 u.2.2)) (fun (u : th_t × th_i × th_r) t => th_H D cA u.1 u.2.1 u.2.2 t.heap) (th_AC τ sz h0)) 1 4 (th_AC τ sz h0) := by
  refine Met.ofW (cc := cX2_init) (maxL := 4) (ret := none) (by decide) rfl ?_
  intro p e s m args below meth c s₁ B hml hv
  obtain ⟨rfl, hsz, hH, hK, hN, hZ, z_h0, hR_h0⟩ := hv
  have hx := B.exec
  have hb := B.bytes
  have hr := B.returns
  have hts := atoms_spec (ws := wsX2_init) B.pre
  have hown : s.vm.findClass RX2 = some m.cls := findClass_of_methodNamed B.named
  have hlocks := B.notSynchronized
  have hin : meth.name = "<init>" := (name_of_methodNamed B.named B.method).1
  subst hsz
  have hA : ∀ q : Nat, s.heap.size ≤ q → (th_AC τ s.heap.size h0) q := fun q h => Or.inr (Or.inr h)
  have hE : th_Ext [] τ gi gr s.heap.size h0 τ gi gr := th_Ext.rf
  have hS : va_S (th_AC τ s.heap.size h0) s.heap s.heap [] := va_S.rf
  have hl := lv_entry ([.ref h0, .int p1, .int p2, .int p3]) (n := 4) (Nat.le_of_ble_eq_true rfl)
  rw [lg_entry_eq]
  generalize (lg_sl ([.ref h0, .int p1, .int p2, .int p3]) ++ List.replicate (4 - (lg_sl ([.ref h0, .int p1, .int p2, .int p3])).length) Slot.unset).toArray = ls at hl ⊢
  have hl : lv_has ls 4 [(0, .ref h0), (1, .int p1), (2, .int p2), (3, .int p3)] := hl
  have hF : (∀ (tO : th_t) (gO : th_i) (qO : th_r), M_X2_init_8 τ Z gi gr h0 p1 p2 p3 tO gO qO → M_X2_init_8 τ Z gi gr h0 p1 p2 p3 tO gO qO) := fun tO gO qO h9 => h9
  refine lv_aload_n hx hb dX2_init_0 rfl (lv_at hl 0 rfl) ?_
  refine W.objInit hx hb hown (hts (.methodLink RX2 3 objectInit) (List.mem_cons_of_mem _ (List.mem_append_left _ (List.mem_append_left _ (List.mem_append_left _ (List.mem_of_getElem? (i := 0) rfl)))))) (hts (.instanceMethod objectInit) (List.mem_cons_of_mem _ (List.mem_append_left _ (List.mem_append_left _ (List.mem_append_left _ (List.mem_of_getElem? (i := 1) rfl)))))) (hts (.code objectInit ⟨#[0xb1]⟩ 1 none) (List.mem_cons_of_mem _ (List.mem_append_left _ (List.mem_append_left _ (List.mem_append_left _ (List.mem_of_getElem? (i := 2) rfl)))))) rfl (by rw [hml]; exact hl.1) rfl dX2_init_1 (Nat.le_of_ble_eq_true rfl) (Nat.le_of_ble_eq_true rfl) ?_
  refine W.eq (g2 := F0 m 4 ls []) rfl ?_
  refine lv_aload_n hx hb dX2_init_4 rfl (lv_at hl 0 rfl) ?_
  refine lv_iconst (v := 4) hx hb dX2_init_5 ic_4 ?_
  have hle1 := hS.1
  have lt1_h0 := (hR_h0 0 _ rfl).lt
  refine th_newI (atype := .int) (cI := cA 0) (N' := 4) hx hb (hts (.arrayClass .int) (List.mem_cons_of_mem _ (List.mem_append_left _ (List.mem_append_left _ (List.mem_append_left _ (List.mem_of_getElem? (i := 3) rfl)))))) hK 0 rfl (fun h => h) hH hS hA 27 (by decide) (by decide) (by decide) (Nat.le_of_ble_eq_true rfl) (Nat.le_of_ble_eq_true rfl) rfl (fun _ => rfl) (fun _ _ => trivial) dX2_init_6 (fun q1 H s1 y1 n1 o1 hH hS => ?_)
  have le1 : s.heap.size ≤ q1 := th_leE s1 hle1
  have hR_h0 := th_P1 hR_h0 (o1 _ (th_ltE s1 lt1_h0))
  obtain ⟨τ1, et1⟩ : ∃ t, t = va_up τ q1 27 := ⟨_, rfl⟩
  have zz1 := hE.z n1
  obtain ⟨gi1, eg1⟩ : ∃ g, g = va_up gi q1 (fun _ => 0) := ⟨_, rfl⟩
  have hE := hE.add (k0 := 27) (f := (fun _ => 0)) (r := gr q1) n1 (Or.inr le1)
  rw [th_upid gr q1, ← et1, ← eg1] at hE
  rw [← et1, ← eg1] at hH
  have og1 : ∀ b, b ≠ q1 → gi1 b = gi b := th_upO eg1
  have z2 : τ1 h0 = 0 := (th_tzE et1 z_h0 (Nat.ne_of_lt (th_ltE s1 lt1_h0)))
  have tn1 : τ1 q1 = 27 := th_upS et1
  refine W.widen (k := 1) (n := 4) (Nat.le_of_ble_eq_true rfl) (Nat.le_of_ble_eq_true rfl) ?_
  refine th_rputF (ci := 7) (v := .ref q1) (T := TX8) (C := RX8) (N := 6) (ty := (.array .int)) hx hb hts (fun w h => List.mem_cons_of_mem _ (List.mem_append_left _ (List.mem_append_right _ h))) tyX8 tyX8_ok nmX8 hown hK hH hS z2 (Or.inl rfl) hR_h0 rfl 3 (by decide) (hts (.fieldLink RX2 9 "BayMoorings$Boat" "wishes" "[I") (List.mem_cons_of_mem _ (List.mem_append_left _ (List.mem_append_left _ (List.mem_append_left _ (List.mem_of_getElem? (i := 4) rfl)))))) (fun _ h9 => h9) rfl hin rfl (by decide +kernel) rfl rfl (Nat.le_of_ble_eq_true rfl) dX2_init_8 (fun H locs hR_h0 hH hS y3 o3 => ?_)
  have hR_h0 : va_P D vwCl [(h0, .inr (7, [.int 0, .int 0, .int 0, .ref q1, .int 0, .int 0]))] H := hR_h0
  refine lv_aload_n hx hb dX2_init_11 rfl (lv_at hl 0 rfl) ?_
  refine lv_iconst (v := 0) hx hb dX2_init_12 ic_0 ?_
  refine th_rput (ci := 7) (v := .int 0) (T := TX8) (C := RX8) (N := 6) (ty := .int) hx hb hts (fun w h => List.mem_cons_of_mem _ (List.mem_append_left _ (List.mem_append_right _ h))) tyX8 tyX8_ok nmX8 hown hK hH hS z2 (Or.inl rfl) hR_h0 rfl 4 (by decide) (hts (.fieldLink RX2 15 "BayMoorings$Boat" "wishCount" "I") (List.mem_cons_of_mem _ (List.mem_append_left _ (List.mem_append_left _ (List.mem_append_left _ (List.mem_of_getElem? (i := 5) rfl)))))) (fun _ h9 => h9) rfl (by decide +kernel) rfl rfl (Nat.le_of_ble_eq_true rfl) dX2_init_13 (fun H locs hR_h0 hH hS y4 o4 => ?_)
  have hR_h0 : va_P D vwCl [(h0, .inr (7, [.int 0, .int 0, .int 0, .ref q1, .int 0, .int 0]))] H := hR_h0
  refine lv_aload_n hx hb dX2_init_16 rfl (lv_at hl 0 rfl) ?_
  refine lv_iconst (v := 0) hx hb dX2_init_17 ic_0 ?_
  refine th_rput (ci := 7) (v := .int 0) (T := TX8) (C := RX8) (N := 6) (ty := .int) hx hb hts (fun w h => List.mem_cons_of_mem _ (List.mem_append_left _ (List.mem_append_right _ h))) tyX8 tyX8_ok nmX8 hown hK hH hS z2 (Or.inl rfl) hR_h0 rfl 5 (by decide) (hts (.fieldLink RX2 19 "BayMoorings$Boat" "refused" "I") (List.mem_cons_of_mem _ (List.mem_append_left _ (List.mem_append_left _ (List.mem_append_left _ (List.mem_of_getElem? (i := 6) rfl)))))) (fun _ h9 => h9) rfl (by decide +kernel) rfl rfl (Nat.le_of_ble_eq_true rfl) dX2_init_18 (fun H locs hR_h0 hH hS y5 o5 => ?_)
  have hR_h0 : va_P D vwCl [(h0, .inr (7, [.int 0, .int 0, .int 0, .ref q1, .int 0, .int 0]))] H := hR_h0
  refine lv_aload_n hx hb dX2_init_21 rfl (lv_at hl 0 rfl) ?_
  refine lv_iload_n hx hb dX2_init_22 rfl (lv_at hl 1 rfl) ?_
  refine th_rputF (ci := 7) (v := .int p1) (T := TX8) (C := RX8) (N := 6) (ty := .int) hx hb hts (fun w h => List.mem_cons_of_mem _ (List.mem_append_left _ (List.mem_append_right _ h))) tyX8 tyX8_ok nmX8 hown hK hH hS z2 (Or.inl rfl) hR_h0 rfl 0 (by decide) (hts (.fieldLink RX2 22 "BayMoorings$Boat" "number" "I") (List.mem_cons_of_mem _ (List.mem_append_left _ (List.mem_append_left _ (List.mem_append_left _ (List.mem_of_getElem? (i := 7) rfl)))))) (fun _ h9 => h9) rfl hin rfl (by decide +kernel) rfl rfl (Nat.le_of_ble_eq_true rfl) dX2_init_23 (fun H locs hR_h0 hH hS y6 o6 => ?_)
  have hR_h0 : va_P D vwCl [(h0, .inr (7, [.int p1, .int 0, .int 0, .ref q1, .int 0, .int 0]))] H := hR_h0
  refine lv_aload_n hx hb dX2_init_26 rfl (lv_at hl 0 rfl) ?_
  refine lv_iload_n hx hb dX2_init_27 rfl (lv_at hl 2 rfl) ?_
  refine th_rputF (ci := 7) (v := .int p2) (T := TX8) (C := RX8) (N := 6) (ty := .int) hx hb hts (fun w h => List.mem_cons_of_mem _ (List.mem_append_left _ (List.mem_append_right _ h))) tyX8 tyX8_ok nmX8 hown hK hH hS z2 (Or.inl rfl) hR_h0 rfl 1 (by decide) (hts (.fieldLink RX2 25 "BayMoorings$Boat" "length" "I") (List.mem_cons_of_mem _ (List.mem_append_left _ (List.mem_append_left _ (List.mem_append_left _ (List.mem_of_getElem? (i := 8) rfl)))))) (fun _ h9 => h9) rfl hin rfl (by decide +kernel) rfl rfl (Nat.le_of_ble_eq_true rfl) dX2_init_28 (fun H locs hR_h0 hH hS y7 o7 => ?_)
  have hR_h0 : va_P D vwCl [(h0, .inr (7, [.int p1, .int p2, .int 0, .ref q1, .int 0, .int 0]))] H := hR_h0
  refine lv_aload_n hx hb dX2_init_31 rfl (lv_at hl 0 rfl) ?_
  refine lv_iload_n hx hb dX2_init_32 rfl (lv_at hl 3 rfl) ?_
  refine th_rputF (ci := 7) (v := .int p3) (T := TX8) (C := RX8) (N := 6) (ty := .int) hx hb hts (fun w h => List.mem_cons_of_mem _ (List.mem_append_left _ (List.mem_append_right _ h))) tyX8 tyX8_ok nmX8 hown hK hH hS z2 (Or.inl rfl) hR_h0 rfl 2 (by decide) (hts (.fieldLink RX2 28 "BayMoorings$Boat" "draught" "I") (List.mem_cons_of_mem _ (List.mem_append_left _ (List.mem_append_left _ (List.mem_append_left _ (List.mem_of_getElem? (i := 9) rfl)))))) (fun _ h9 => h9) rfl hin rfl (by decide +kernel) rfl rfl (Nat.le_of_ble_eq_true rfl) dX2_init_33 (fun H locs hR_h0 hH hS y8 o8 => ?_)
  have hR_h0 : va_P D vwCl [(h0, .inr (7, [.int p1, .int p2, .int p3, .ref q1, .int 0, .int 0]))] H := hR_h0
  have hFp := hH.push (k0 := 8) (f := (fun k => match k with | 0 => p1 | 1 => p2 | 2 => p3 | _ => 0)) (r := (fun k => match k with | 3 => some q1 | _ => none)) (H1 := _) z2 (hR_h0 0 _ rfl) (⟨⟨q1, rfl, th_tk tn1 (by decide) z2⟩, (rg_w rgc_0 (th_leI rfl) (th_leI rfl))⟩) (fun _ _ => rfl)
  exact W.vret hx hb hr (fun t ht hW => ⟨⟨(va_up τ1 h0 8, va_up gi1 h0 (fun k => match k with | 0 => p1 | 1 => p2 | 2 => p3 | _ => 0), va_up gr h0 (fun k => match k with | 3 => some q1 | _ => none)), rfl, ⟨hE.add z2 (Or.inl rfl), va_up_self _ _ _, (hF _ _ _ (by (try simp only [M_X2_init_8]); refine ⟨q1, n1, Nat.ne_of_lt (th_ltE s1 lt1_h0), ?_⟩; (try simp only [← et1, ← eg1]); first | done | exact ⟨(by first | rfl | trivial), (by first | rfl | trivial), (by first | rfl | trivial)⟩))⟩, th_Ht ht hFp⟩, hS.F ht⟩) hS.2.2 dX2_init_36

noncomputable def M_X2_init_9 (τ : th_t) (Z : th_Zt) (gi : th_i) (gr : th_r) (h0 : Nat) (p1 : Int32) (p2 : Int32) (p3 : Int32) (tO : th_t) (gO : th_i) (qO : th_r) : Prop :=
  ∃ (q1 : Nat), τ q1 = 0 ∧ h0 ≠ q1 ∧ (
  let τ1 : th_t := va_up τ q1 27
  let gi1 : th_i := va_up gi q1 (fun _ => 0)
  tO = va_up τ1 h0 9 ∧ gO = va_up gi1 h0 (fun k => match k with | 0 => p1 | 1 => p2 | 2 => p3 | _ => 0) ∧ qO = va_up gr h0 (fun k => match k with | 3 => some q1 | _ => none))
set_option maxHeartbeats 20000000 in
set_option maxRecDepth 100000 in
theorem k_X2_init_9 (l : Launch) (D : va_G) (cA : Nat → ClassId) (Z : th_Zt) (τ : th_t) (gi : th_i) (gr : th_r) (sz : Nat) (h0 : Nat) (p1 : Int32) (p2 : Int32) (p3 : Int32) : Met l yX2_init wsX2_init ({ frames := 1, cells := 1, slots := 4, locals := 30 }) (va_Pc [.ref h0, .int p1, .int p2, .int p3] (th_PreC D cA Z τ gi gr sz h0 (.inr (8, [.int 0, .int 0, .int 0, .null, .int 0, .int 0])))) (va_Qv (fun (u : th_t × th_i × th_r) => th_Ext [] τ gi gr sz h0 u.1 u.2.1 u.2.2 ∧ u.1 h0 = 9 ∧ (M_X2_init_9 τ Z gi gr h0 p1 p2 p3 u.1 u.2.1 u.2.2)) (fun (u : th_t × th_i × th_r) t => th_H D cA u.1 u.2.1 u.2.2 t.heap) (th_AC τ sz h0)) 1 4 (th_AC τ sz h0) := by
  refine Met.ofW (cc := cX2_init) (maxL := 4) (ret := none) (by decide) rfl ?_
  intro p e s m args below meth c s₁ B hml hv
  obtain ⟨rfl, hsz, hH, hK, hN, hZ, z_h0, hR_h0⟩ := hv
  have hx := B.exec
  have hb := B.bytes
  have hr := B.returns
  have hts := atoms_spec (ws := wsX2_init) B.pre
  have hown : s.vm.findClass RX2 = some m.cls := findClass_of_methodNamed B.named
  have hlocks := B.notSynchronized
  have hin : meth.name = "<init>" := (name_of_methodNamed B.named B.method).1
  subst hsz
  have hA : ∀ q : Nat, s.heap.size ≤ q → (th_AC τ s.heap.size h0) q := fun q h => Or.inr (Or.inr h)
  have hE : th_Ext [] τ gi gr s.heap.size h0 τ gi gr := th_Ext.rf
  have hS : va_S (th_AC τ s.heap.size h0) s.heap s.heap [] := va_S.rf
  have hl := lv_entry ([.ref h0, .int p1, .int p2, .int p3]) (n := 4) (Nat.le_of_ble_eq_true rfl)
  rw [lg_entry_eq]
  generalize (lg_sl ([.ref h0, .int p1, .int p2, .int p3]) ++ List.replicate (4 - (lg_sl ([.ref h0, .int p1, .int p2, .int p3])).length) Slot.unset).toArray = ls at hl ⊢
  have hl : lv_has ls 4 [(0, .ref h0), (1, .int p1), (2, .int p2), (3, .int p3)] := hl
  have hF : (∀ (tO : th_t) (gO : th_i) (qO : th_r), M_X2_init_9 τ Z gi gr h0 p1 p2 p3 tO gO qO → M_X2_init_9 τ Z gi gr h0 p1 p2 p3 tO gO qO) := fun tO gO qO h9 => h9
  refine lv_aload_n hx hb dX2_init_0 rfl (lv_at hl 0 rfl) ?_
  refine W.objInit hx hb hown (hts (.methodLink RX2 3 objectInit) (List.mem_cons_of_mem _ (List.mem_append_left _ (List.mem_append_left _ (List.mem_append_left _ (List.mem_of_getElem? (i := 0) rfl)))))) (hts (.instanceMethod objectInit) (List.mem_cons_of_mem _ (List.mem_append_left _ (List.mem_append_left _ (List.mem_append_left _ (List.mem_of_getElem? (i := 1) rfl)))))) (hts (.code objectInit ⟨#[0xb1]⟩ 1 none) (List.mem_cons_of_mem _ (List.mem_append_left _ (List.mem_append_left _ (List.mem_append_left _ (List.mem_of_getElem? (i := 2) rfl)))))) rfl (by rw [hml]; exact hl.1) rfl dX2_init_1 (Nat.le_of_ble_eq_true rfl) (Nat.le_of_ble_eq_true rfl) ?_
  refine W.eq (g2 := F0 m 4 ls []) rfl ?_
  refine lv_aload_n hx hb dX2_init_4 rfl (lv_at hl 0 rfl) ?_
  refine lv_iconst (v := 4) hx hb dX2_init_5 ic_4 ?_
  have hle1 := hS.1
  have lt1_h0 := (hR_h0 0 _ rfl).lt
  refine th_newI (atype := .int) (cI := cA 0) (N' := 4) hx hb (hts (.arrayClass .int) (List.mem_cons_of_mem _ (List.mem_append_left _ (List.mem_append_left _ (List.mem_append_left _ (List.mem_of_getElem? (i := 3) rfl)))))) hK 0 rfl (fun h => h) hH hS hA 27 (by decide) (by decide) (by decide) (Nat.le_of_ble_eq_true rfl) (Nat.le_of_ble_eq_true rfl) rfl (fun _ => rfl) (fun _ _ => trivial) dX2_init_6 (fun q1 H s1 y1 n1 o1 hH hS => ?_)
  have le1 : s.heap.size ≤ q1 := th_leE s1 hle1
  have hR_h0 := th_P1 hR_h0 (o1 _ (th_ltE s1 lt1_h0))
  obtain ⟨τ1, et1⟩ : ∃ t, t = va_up τ q1 27 := ⟨_, rfl⟩
  have zz1 := hE.z n1
  obtain ⟨gi1, eg1⟩ : ∃ g, g = va_up gi q1 (fun _ => 0) := ⟨_, rfl⟩
  have hE := hE.add (k0 := 27) (f := (fun _ => 0)) (r := gr q1) n1 (Or.inr le1)
  rw [th_upid gr q1, ← et1, ← eg1] at hE
  rw [← et1, ← eg1] at hH
  have og1 : ∀ b, b ≠ q1 → gi1 b = gi b := th_upO eg1
  have z2 : τ1 h0 = 0 := (th_tzE et1 z_h0 (Nat.ne_of_lt (th_ltE s1 lt1_h0)))
  have tn1 : τ1 q1 = 27 := th_upS et1
  refine W.widen (k := 1) (n := 4) (Nat.le_of_ble_eq_true rfl) (Nat.le_of_ble_eq_true rfl) ?_
  refine th_rputF (ci := 8) (v := .ref q1) (T := TX9) (C := RX9) (N := 6) (ty := (.array .int)) hx hb hts (fun w h => List.mem_cons_of_mem _ (List.mem_append_right _ h)) tyX9 tyX9_ok nmX9 hown hK hH hS z2 (Or.inl rfl) hR_h0 rfl 3 (by decide) (hts (.fieldLink RX2 9 "BayMoorings$Boat" "wishes" "[I") (List.mem_cons_of_mem _ (List.mem_append_left _ (List.mem_append_left _ (List.mem_append_left _ (List.mem_of_getElem? (i := 4) rfl)))))) (fun _ h9 => h9) rfl hin rfl (by decide +kernel) rfl rfl (Nat.le_of_ble_eq_true rfl) dX2_init_8 (fun H locs hR_h0 hH hS y3 o3 => ?_)
  have hR_h0 : va_P D vwCl [(h0, .inr (8, [.int 0, .int 0, .int 0, .ref q1, .int 0, .int 0]))] H := hR_h0
  refine lv_aload_n hx hb dX2_init_11 rfl (lv_at hl 0 rfl) ?_
  refine lv_iconst (v := 0) hx hb dX2_init_12 ic_0 ?_
  refine th_rput (ci := 8) (v := .int 0) (T := TX9) (C := RX9) (N := 6) (ty := .int) hx hb hts (fun w h => List.mem_cons_of_mem _ (List.mem_append_right _ h)) tyX9 tyX9_ok nmX9 hown hK hH hS z2 (Or.inl rfl) hR_h0 rfl 4 (by decide) (hts (.fieldLink RX2 15 "BayMoorings$Boat" "wishCount" "I") (List.mem_cons_of_mem _ (List.mem_append_left _ (List.mem_append_left _ (List.mem_append_left _ (List.mem_of_getElem? (i := 5) rfl)))))) (fun _ h9 => h9) rfl (by decide +kernel) rfl rfl (Nat.le_of_ble_eq_true rfl) dX2_init_13 (fun H locs hR_h0 hH hS y4 o4 => ?_)
  have hR_h0 : va_P D vwCl [(h0, .inr (8, [.int 0, .int 0, .int 0, .ref q1, .int 0, .int 0]))] H := hR_h0
  refine lv_aload_n hx hb dX2_init_16 rfl (lv_at hl 0 rfl) ?_
  refine lv_iconst (v := 0) hx hb dX2_init_17 ic_0 ?_
  refine th_rput (ci := 8) (v := .int 0) (T := TX9) (C := RX9) (N := 6) (ty := .int) hx hb hts (fun w h => List.mem_cons_of_mem _ (List.mem_append_right _ h)) tyX9 tyX9_ok nmX9 hown hK hH hS z2 (Or.inl rfl) hR_h0 rfl 5 (by decide) (hts (.fieldLink RX2 19 "BayMoorings$Boat" "refused" "I") (List.mem_cons_of_mem _ (List.mem_append_left _ (List.mem_append_left _ (List.mem_append_left _ (List.mem_of_getElem? (i := 6) rfl)))))) (fun _ h9 => h9) rfl (by decide +kernel) rfl rfl (Nat.le_of_ble_eq_true rfl) dX2_init_18 (fun H locs hR_h0 hH hS y5 o5 => ?_)
  have hR_h0 : va_P D vwCl [(h0, .inr (8, [.int 0, .int 0, .int 0, .ref q1, .int 0, .int 0]))] H := hR_h0
  refine lv_aload_n hx hb dX2_init_21 rfl (lv_at hl 0 rfl) ?_
  refine lv_iload_n hx hb dX2_init_22 rfl (lv_at hl 1 rfl) ?_
  refine th_rputF (ci := 8) (v := .int p1) (T := TX9) (C := RX9) (N := 6) (ty := .int) hx hb hts (fun w h => List.mem_cons_of_mem _ (List.mem_append_right _ h)) tyX9 tyX9_ok nmX9 hown hK hH hS z2 (Or.inl rfl) hR_h0 rfl 0 (by decide) (hts (.fieldLink RX2 22 "BayMoorings$Boat" "number" "I") (List.mem_cons_of_mem _ (List.mem_append_left _ (List.mem_append_left _ (List.mem_append_left _ (List.mem_of_getElem? (i := 7) rfl)))))) (fun _ h9 => h9) rfl hin rfl (by decide +kernel) rfl rfl (Nat.le_of_ble_eq_true rfl) dX2_init_23 (fun H locs hR_h0 hH hS y6 o6 => ?_)
  have hR_h0 : va_P D vwCl [(h0, .inr (8, [.int p1, .int 0, .int 0, .ref q1, .int 0, .int 0]))] H := hR_h0
  refine lv_aload_n hx hb dX2_init_26 rfl (lv_at hl 0 rfl) ?_
  refine lv_iload_n hx hb dX2_init_27 rfl (lv_at hl 2 rfl) ?_
  refine th_rputF (ci := 8) (v := .int p2) (T := TX9) (C := RX9) (N := 6) (ty := .int) hx hb hts (fun w h => List.mem_cons_of_mem _ (List.mem_append_right _ h)) tyX9 tyX9_ok nmX9 hown hK hH hS z2 (Or.inl rfl) hR_h0 rfl 1 (by decide) (hts (.fieldLink RX2 25 "BayMoorings$Boat" "length" "I") (List.mem_cons_of_mem _ (List.mem_append_left _ (List.mem_append_left _ (List.mem_append_left _ (List.mem_of_getElem? (i := 8) rfl)))))) (fun _ h9 => h9) rfl hin rfl (by decide +kernel) rfl rfl (Nat.le_of_ble_eq_true rfl) dX2_init_28 (fun H locs hR_h0 hH hS y7 o7 => ?_)
  have hR_h0 : va_P D vwCl [(h0, .inr (8, [.int p1, .int p2, .int 0, .ref q1, .int 0, .int 0]))] H := hR_h0
  refine lv_aload_n hx hb dX2_init_31 rfl (lv_at hl 0 rfl) ?_
  refine lv_iload_n hx hb dX2_init_32 rfl (lv_at hl 3 rfl) ?_
  refine th_rputF (ci := 8) (v := .int p3) (T := TX9) (C := RX9) (N := 6) (ty := .int) hx hb hts (fun w h => List.mem_cons_of_mem _ (List.mem_append_right _ h)) tyX9 tyX9_ok nmX9 hown hK hH hS z2 (Or.inl rfl) hR_h0 rfl 2 (by decide) (hts (.fieldLink RX2 28 "BayMoorings$Boat" "draught" "I") (List.mem_cons_of_mem _ (List.mem_append_left _ (List.mem_append_left _ (List.mem_append_left _ (List.mem_of_getElem? (i := 9) rfl)))))) (fun _ h9 => h9) rfl hin rfl (by decide +kernel) rfl rfl (Nat.le_of_ble_eq_true rfl) dX2_init_33 (fun H locs hR_h0 hH hS y8 o8 => ?_)
  have hR_h0 : va_P D vwCl [(h0, .inr (8, [.int p1, .int p2, .int p3, .ref q1, .int 0, .int 0]))] H := hR_h0
  have hFp := hH.push (k0 := 9) (f := (fun k => match k with | 0 => p1 | 1 => p2 | 2 => p3 | _ => 0)) (r := (fun k => match k with | 3 => some q1 | _ => none)) (H1 := _) z2 (hR_h0 0 _ rfl) (⟨⟨q1, rfl, th_tk tn1 (by decide) z2⟩, (rg_w rgc_0 (th_leI rfl) (th_leI rfl))⟩) (fun _ _ => rfl)
  exact W.vret hx hb hr (fun t ht hW => ⟨⟨(va_up τ1 h0 9, va_up gi1 h0 (fun k => match k with | 0 => p1 | 1 => p2 | 2 => p3 | _ => 0), va_up gr h0 (fun k => match k with | 3 => some q1 | _ => none)), rfl, ⟨hE.add z2 (Or.inl rfl), va_up_self _ _ _, (hF _ _ _ (by (try simp only [M_X2_init_9]); refine ⟨q1, n1, Nat.ne_of_lt (th_ltE s1 lt1_h0), ?_⟩; (try simp only [← et1, ← eg1]); first | done | exact ⟨(by first | rfl | trivial), (by first | rfl | trivial), (by first | rfl | trivial)⟩))⟩, th_Ht ht hFp⟩, hS.F ht⟩) hS.2.2 dX2_init_36

noncomputable def M_X2_init_4 (τ : th_t) (Z : th_Zt) (gi : th_i) (gr : th_r) (h0 : Nat) (p1 : Int32) (p2 : Int32) (p3 : Int32) (tO : th_t) (gO : th_i) (qO : th_r) : Prop :=
  ∃ (q1 : Nat), τ q1 = 0 ∧ h0 ≠ q1 ∧ (
  let τ1 : th_t := va_up τ q1 27
  let gi1 : th_i := va_up gi q1 (fun _ => 0)
  tO = va_up τ1 h0 4 ∧ gO = va_up gi1 h0 (fun k => match k with | 0 => p1 | 1 => p2 | 2 => p3 | _ => 0) ∧ qO = va_up gr h0 (fun k => match k with | 3 => some q1 | _ => none))
set_option maxHeartbeats 20000000 in
set_option maxRecDepth 100000 in
theorem k_X2_init_4 (l : Launch) (D : va_G) (cA : Nat → ClassId) (Z : th_Zt) (τ : th_t) (gi : th_i) (gr : th_r) (sz : Nat) (h0 : Nat) (p1 : Int32) (p2 : Int32) (p3 : Int32) : Met l yX2_init wsX2_init ({ frames := 1, cells := 1, slots := 4, locals := 30 }) (va_Pc [.ref h0, .int p1, .int p2, .int p3] (th_PreC D cA Z τ gi gr sz h0 (.inr (3, [.int 0, .int 0, .int 0, .null, .int 0, .int 0])))) (va_Qv (fun (u : th_t × th_i × th_r) => th_Ext [] τ gi gr sz h0 u.1 u.2.1 u.2.2 ∧ u.1 h0 = 4 ∧ (M_X2_init_4 τ Z gi gr h0 p1 p2 p3 u.1 u.2.1 u.2.2)) (fun (u : th_t × th_i × th_r) t => th_H D cA u.1 u.2.1 u.2.2 t.heap) (th_AC τ sz h0)) 1 4 (th_AC τ sz h0) := by
  refine Met.ofW (cc := cX2_init) (maxL := 4) (ret := none) (by decide) rfl ?_
  intro p e s m args below meth c s₁ B hml hv
  obtain ⟨rfl, hsz, hH, hK, hN, hZ, z_h0, hR_h0⟩ := hv
  have hx := B.exec
  have hb := B.bytes
  have hr := B.returns
  have hts := atoms_spec (ws := wsX2_init) B.pre
  have hown : s.vm.findClass RX2 = some m.cls := findClass_of_methodNamed B.named
  have hlocks := B.notSynchronized
  have hin : meth.name = "<init>" := (name_of_methodNamed B.named B.method).1
  subst hsz
  have hA : ∀ q : Nat, s.heap.size ≤ q → (th_AC τ s.heap.size h0) q := fun q h => Or.inr (Or.inr h)
  have hE : th_Ext [] τ gi gr s.heap.size h0 τ gi gr := th_Ext.rf
  have hS : va_S (th_AC τ s.heap.size h0) s.heap s.heap [] := va_S.rf
  have hl := lv_entry ([.ref h0, .int p1, .int p2, .int p3]) (n := 4) (Nat.le_of_ble_eq_true rfl)
  rw [lg_entry_eq]
  generalize (lg_sl ([.ref h0, .int p1, .int p2, .int p3]) ++ List.replicate (4 - (lg_sl ([.ref h0, .int p1, .int p2, .int p3])).length) Slot.unset).toArray = ls at hl ⊢
  have hl : lv_has ls 4 [(0, .ref h0), (1, .int p1), (2, .int p2), (3, .int p3)] := hl
  have hF : (∀ (tO : th_t) (gO : th_i) (qO : th_r), M_X2_init_4 τ Z gi gr h0 p1 p2 p3 tO gO qO → M_X2_init_4 τ Z gi gr h0 p1 p2 p3 tO gO qO) := fun tO gO qO h9 => h9
  refine lv_aload_n hx hb dX2_init_0 rfl (lv_at hl 0 rfl) ?_
  refine W.objInit hx hb hown (hts (.methodLink RX2 3 objectInit) (List.mem_cons_of_mem _ (List.mem_append_left _ (List.mem_append_left _ (List.mem_append_left _ (List.mem_of_getElem? (i := 0) rfl)))))) (hts (.instanceMethod objectInit) (List.mem_cons_of_mem _ (List.mem_append_left _ (List.mem_append_left _ (List.mem_append_left _ (List.mem_of_getElem? (i := 1) rfl)))))) (hts (.code objectInit ⟨#[0xb1]⟩ 1 none) (List.mem_cons_of_mem _ (List.mem_append_left _ (List.mem_append_left _ (List.mem_append_left _ (List.mem_of_getElem? (i := 2) rfl)))))) rfl (by rw [hml]; exact hl.1) rfl dX2_init_1 (Nat.le_of_ble_eq_true rfl) (Nat.le_of_ble_eq_true rfl) ?_
  refine W.eq (g2 := F0 m 4 ls []) rfl ?_
  refine lv_aload_n hx hb dX2_init_4 rfl (lv_at hl 0 rfl) ?_
  refine lv_iconst (v := 4) hx hb dX2_init_5 ic_4 ?_
  have hle1 := hS.1
  have lt1_h0 := (hR_h0 0 _ rfl).lt
  refine th_newI (atype := .int) (cI := cA 0) (N' := 4) hx hb (hts (.arrayClass .int) (List.mem_cons_of_mem _ (List.mem_append_left _ (List.mem_append_left _ (List.mem_append_left _ (List.mem_of_getElem? (i := 3) rfl)))))) hK 0 rfl (fun h => h) hH hS hA 27 (by decide) (by decide) (by decide) (Nat.le_of_ble_eq_true rfl) (Nat.le_of_ble_eq_true rfl) rfl (fun _ => rfl) (fun _ _ => trivial) dX2_init_6 (fun q1 H s1 y1 n1 o1 hH hS => ?_)
  have le1 : s.heap.size ≤ q1 := th_leE s1 hle1
  have hR_h0 := th_P1 hR_h0 (o1 _ (th_ltE s1 lt1_h0))
  obtain ⟨τ1, et1⟩ : ∃ t, t = va_up τ q1 27 := ⟨_, rfl⟩
  have zz1 := hE.z n1
  obtain ⟨gi1, eg1⟩ : ∃ g, g = va_up gi q1 (fun _ => 0) := ⟨_, rfl⟩
  have hE := hE.add (k0 := 27) (f := (fun _ => 0)) (r := gr q1) n1 (Or.inr le1)
  rw [th_upid gr q1, ← et1, ← eg1] at hE
  rw [← et1, ← eg1] at hH
  have og1 : ∀ b, b ≠ q1 → gi1 b = gi b := th_upO eg1
  have z2 : τ1 h0 = 0 := (th_tzE et1 z_h0 (Nat.ne_of_lt (th_ltE s1 lt1_h0)))
  have tn1 : τ1 q1 = 27 := th_upS et1
  refine W.widen (k := 1) (n := 4) (Nat.le_of_ble_eq_true rfl) (Nat.le_of_ble_eq_true rfl) ?_
  refine th_rputF (ci := 3) (v := .ref q1) (T := TX4) (C := RX4) (N := 6) (ty := (.array .int)) hx hb hts (fun w h => List.mem_cons_of_mem _ (List.mem_append_left _ (List.mem_append_left _ (List.mem_append_right _ h)))) tyX4 tyX4_ok nmX4 hown hK hH hS z2 (Or.inl rfl) hR_h0 rfl 3 (by decide) (hts (.fieldLink RX2 9 "BayMoorings$Boat" "wishes" "[I") (List.mem_cons_of_mem _ (List.mem_append_left _ (List.mem_append_left _ (List.mem_append_left _ (List.mem_of_getElem? (i := 4) rfl)))))) (fun _ h9 => h9) rfl hin rfl (by decide +kernel) rfl rfl (Nat.le_of_ble_eq_true rfl) dX2_init_8 (fun H locs hR_h0 hH hS y3 o3 => ?_)
  have hR_h0 : va_P D vwCl [(h0, .inr (3, [.int 0, .int 0, .int 0, .ref q1, .int 0, .int 0]))] H := hR_h0
  refine lv_aload_n hx hb dX2_init_11 rfl (lv_at hl 0 rfl) ?_
  refine lv_iconst (v := 0) hx hb dX2_init_12 ic_0 ?_
  refine th_rput (ci := 3) (v := .int 0) (T := TX4) (C := RX4) (N := 6) (ty := .int) hx hb hts (fun w h => List.mem_cons_of_mem _ (List.mem_append_left _ (List.mem_append_left _ (List.mem_append_right _ h)))) tyX4 tyX4_ok nmX4 hown hK hH hS z2 (Or.inl rfl) hR_h0 rfl 4 (by decide) (hts (.fieldLink RX2 15 "BayMoorings$Boat" "wishCount" "I") (List.mem_cons_of_mem _ (List.mem_append_left _ (List.mem_append_left _ (List.mem_append_left _ (List.mem_of_getElem? (i := 5) rfl)))))) (fun _ h9 => h9) rfl (by decide +kernel) rfl rfl (Nat.le_of_ble_eq_true rfl) dX2_init_13 (fun H locs hR_h0 hH hS y4 o4 => ?_)
  have hR_h0 : va_P D vwCl [(h0, .inr (3, [.int 0, .int 0, .int 0, .ref q1, .int 0, .int 0]))] H := hR_h0
  refine lv_aload_n hx hb dX2_init_16 rfl (lv_at hl 0 rfl) ?_
  refine lv_iconst (v := 0) hx hb dX2_init_17 ic_0 ?_
  refine th_rput (ci := 3) (v := .int 0) (T := TX4) (C := RX4) (N := 6) (ty := .int) hx hb hts (fun w h => List.mem_cons_of_mem _ (List.mem_append_left _ (List.mem_append_left _ (List.mem_append_right _ h)))) tyX4 tyX4_ok nmX4 hown hK hH hS z2 (Or.inl rfl) hR_h0 rfl 5 (by decide) (hts (.fieldLink RX2 19 "BayMoorings$Boat" "refused" "I") (List.mem_cons_of_mem _ (List.mem_append_left _ (List.mem_append_left _ (List.mem_append_left _ (List.mem_of_getElem? (i := 6) rfl)))))) (fun _ h9 => h9) rfl (by decide +kernel) rfl rfl (Nat.le_of_ble_eq_true rfl) dX2_init_18 (fun H locs hR_h0 hH hS y5 o5 => ?_)
  have hR_h0 : va_P D vwCl [(h0, .inr (3, [.int 0, .int 0, .int 0, .ref q1, .int 0, .int 0]))] H := hR_h0
  refine lv_aload_n hx hb dX2_init_21 rfl (lv_at hl 0 rfl) ?_
  refine lv_iload_n hx hb dX2_init_22 rfl (lv_at hl 1 rfl) ?_
  refine th_rputF (ci := 3) (v := .int p1) (T := TX4) (C := RX4) (N := 6) (ty := .int) hx hb hts (fun w h => List.mem_cons_of_mem _ (List.mem_append_left _ (List.mem_append_left _ (List.mem_append_right _ h)))) tyX4 tyX4_ok nmX4 hown hK hH hS z2 (Or.inl rfl) hR_h0 rfl 0 (by decide) (hts (.fieldLink RX2 22 "BayMoorings$Boat" "number" "I") (List.mem_cons_of_mem _ (List.mem_append_left _ (List.mem_append_left _ (List.mem_append_left _ (List.mem_of_getElem? (i := 7) rfl)))))) (fun _ h9 => h9) rfl hin rfl (by decide +kernel) rfl rfl (Nat.le_of_ble_eq_true rfl) dX2_init_23 (fun H locs hR_h0 hH hS y6 o6 => ?_)
  have hR_h0 : va_P D vwCl [(h0, .inr (3, [.int p1, .int 0, .int 0, .ref q1, .int 0, .int 0]))] H := hR_h0
  refine lv_aload_n hx hb dX2_init_26 rfl (lv_at hl 0 rfl) ?_
  refine lv_iload_n hx hb dX2_init_27 rfl (lv_at hl 2 rfl) ?_
  refine th_rputF (ci := 3) (v := .int p2) (T := TX4) (C := RX4) (N := 6) (ty := .int) hx hb hts (fun w h => List.mem_cons_of_mem _ (List.mem_append_left _ (List.mem_append_left _ (List.mem_append_right _ h)))) tyX4 tyX4_ok nmX4 hown hK hH hS z2 (Or.inl rfl) hR_h0 rfl 1 (by decide) (hts (.fieldLink RX2 25 "BayMoorings$Boat" "length" "I") (List.mem_cons_of_mem _ (List.mem_append_left _ (List.mem_append_left _ (List.mem_append_left _ (List.mem_of_getElem? (i := 8) rfl)))))) (fun _ h9 => h9) rfl hin rfl (by decide +kernel) rfl rfl (Nat.le_of_ble_eq_true rfl) dX2_init_28 (fun H locs hR_h0 hH hS y7 o7 => ?_)
  have hR_h0 : va_P D vwCl [(h0, .inr (3, [.int p1, .int p2, .int 0, .ref q1, .int 0, .int 0]))] H := hR_h0
  refine lv_aload_n hx hb dX2_init_31 rfl (lv_at hl 0 rfl) ?_
  refine lv_iload_n hx hb dX2_init_32 rfl (lv_at hl 3 rfl) ?_
  refine th_rputF (ci := 3) (v := .int p3) (T := TX4) (C := RX4) (N := 6) (ty := .int) hx hb hts (fun w h => List.mem_cons_of_mem _ (List.mem_append_left _ (List.mem_append_left _ (List.mem_append_right _ h)))) tyX4 tyX4_ok nmX4 hown hK hH hS z2 (Or.inl rfl) hR_h0 rfl 2 (by decide) (hts (.fieldLink RX2 28 "BayMoorings$Boat" "draught" "I") (List.mem_cons_of_mem _ (List.mem_append_left _ (List.mem_append_left _ (List.mem_append_left _ (List.mem_of_getElem? (i := 9) rfl)))))) (fun _ h9 => h9) rfl hin rfl (by decide +kernel) rfl rfl (Nat.le_of_ble_eq_true rfl) dX2_init_33 (fun H locs hR_h0 hH hS y8 o8 => ?_)
  have hR_h0 : va_P D vwCl [(h0, .inr (3, [.int p1, .int p2, .int p3, .ref q1, .int 0, .int 0]))] H := hR_h0
  have hFp := hH.push (k0 := 4) (f := (fun k => match k with | 0 => p1 | 1 => p2 | 2 => p3 | _ => 0)) (r := (fun k => match k with | 3 => some q1 | _ => none)) (H1 := _) z2 (hR_h0 0 _ rfl) (⟨⟨q1, rfl, th_tk tn1 (by decide) z2⟩, (rg_w rgc_0 (th_leI rfl) (th_leI rfl))⟩) (fun _ _ => rfl)
  exact W.vret hx hb hr (fun t ht hW => ⟨⟨(va_up τ1 h0 4, va_up gi1 h0 (fun k => match k with | 0 => p1 | 1 => p2 | 2 => p3 | _ => 0), va_up gr h0 (fun k => match k with | 3 => some q1 | _ => none)), rfl, ⟨hE.add z2 (Or.inl rfl), va_up_self _ _ _, (hF _ _ _ (by (try simp only [M_X2_init_4]); refine ⟨q1, n1, Nat.ne_of_lt (th_ltE s1 lt1_h0), ?_⟩; (try simp only [← et1, ← eg1]); first | done | exact ⟨(by first | rfl | trivial), (by first | rfl | trivial), (by first | rfl | trivial)⟩))⟩, th_Ht ht hFp⟩, hS.F ht⟩) hS.2.2 dX2_init_36

noncomputable def M_X8_init (τ : th_t) (Z : th_Zt) (gi : th_i) (gr : th_r) (h0 : Nat) (p1 : Int32) (p2 : Int32) (p3 : Int32) (tO : th_t) (gO : th_i) (qO : th_r) : Prop :=
  ∃ (τ1 : th_t) (gi1 : th_i) (gr1 : th_r), M_X2_init_8 τ Z gi gr h0 p1 p2 p3 τ1 gi1 gr1 ∧ (
  tO = τ1 ∧ gO = gi1 ∧ qO = gr1)
set_option maxHeartbeats 20000000 in
set_option maxRecDepth 100000 in
theorem k_X8_init (l : Launch) (D : va_G) (cA : Nat → ClassId) (Z : th_Zt) (τ : th_t) (gi : th_i) (gr : th_r) (sz : Nat) (h0 : Nat) (p1 : Int32) (p2 : Int32) (p3 : Int32) : Met l yX8_init wsX8_init ({ frames := 2, cells := 1, slots := 4, locals := 53 }) (va_Pc [.ref h0, .int p1, .int p2, .int p3] (th_PreC D cA Z τ gi gr sz h0 (.inr (7, [.int 0, .int 0, .int 0, .null, .int 0, .int 0])))) (va_Qv (fun (u : th_t × th_i × th_r) => th_Ext [] τ gi gr sz h0 u.1 u.2.1 u.2.2 ∧ u.1 h0 = 8 ∧ (M_X8_init τ Z gi gr h0 p1 p2 p3 u.1 u.2.1 u.2.2)) (fun (u : th_t × th_i × th_r) t => th_H D cA u.1 u.2.1 u.2.2 t.heap) (th_AC τ sz h0)) 1 4 (th_AC τ sz h0) := by
  refine Met.ofW (cc := cX8_init) (maxL := 4) (ret := none) (by decide) rfl ?_
  intro p e s m args below meth c s₁ B hml hv
  obtain ⟨rfl, hsz, hH, hK, hN, hZ, z_h0, hR_h0⟩ := hv
  have hx := B.exec
  have hb := B.bytes
  have hr := B.returns
  have hts := atoms_spec (ws := wsX8_init) B.pre
  have hown : s.vm.findClass RX8 = some m.cls := findClass_of_methodNamed B.named
  have hlocks := B.notSynchronized
  have hin : meth.name = "<init>" := (name_of_methodNamed B.named B.method).1
  subst hsz
  have hA : ∀ q : Nat, s.heap.size ≤ q → (th_AC τ s.heap.size h0) q := fun q h => Or.inr (Or.inr h)
  have hE : th_Ext [] τ gi gr s.heap.size h0 τ gi gr := th_Ext.rf
  have hS : va_S (th_AC τ s.heap.size h0) s.heap s.heap [] := va_S.rf
  have hl := lv_entry ([.ref h0, .int p1, .int p2, .int p3]) (n := 4) (Nat.le_of_ble_eq_true rfl)
  rw [lg_entry_eq]
  generalize (lg_sl ([.ref h0, .int p1, .int p2, .int p3]) ++ List.replicate (4 - (lg_sl ([.ref h0, .int p1, .int p2, .int p3])).length) Slot.unset).toArray = ls at hl ⊢
  have hl : lv_has ls 4 [(0, .ref h0), (1, .int p1), (2, .int p2), (3, .int p3)] := hl
  have hF : (∀ (tO : th_t) (gO : th_i) (qO : th_r), M_X8_init τ Z gi gr h0 p1 p2 p3 tO gO qO → M_X8_init τ Z gi gr h0 p1 p2 p3 tO gO qO) := fun tO gO qO h9 => h9
  refine lv_aload_n hx hb dX8_init_0 rfl (lv_at hl 0 rfl) ?_
  refine lv_iload_n hx hb dX8_init_1 rfl (lv_at hl 1 rfl) ?_
  refine lv_iload_n hx hb dX8_init_2 rfl (lv_at hl 2 rfl) ?_
  refine lv_iload_n hx hb dX8_init_3 rfl (lv_at hl 3 rfl) ?_
  have hle1 := hS.1
  have lt1_h0 := (hR_h0 0 _ rfl).lt
  have hAC1 : ∀ x, th_AC τ _ h0 x → (th_AC τ s.heap.size h0) x := th_ACo hE hS
  refine va_callv (va_runI (As := [.int p1, .int p2, .int p3]) (rest := []) ⟨hx, hb, hml, hown, hts⟩ (k_X2_init_8 l D cA Z τ gi gr _ h0 p1 p2 p3) (cwI 3 hts gX8_init_X2_init rfl rfl rfl (hts (.initialized RX2) (List.mem_cons_of_mem _ (List.mem_append_left _ (List.mem_append_left _ (List.mem_append_left _ (List.mem_of_getElem? (i := 2) rfl)))))) (hts (.methodLink RX8 3 yX2_init) (List.mem_cons_of_mem _ (List.mem_append_left _ (List.mem_append_left _ (List.mem_append_left _ (List.mem_of_getElem? (i := 0) rfl)))))) (hts (.instanceMethod yX2_init) (List.mem_cons_of_mem _ (List.mem_append_left _ (List.mem_append_left _ (List.mem_append_left _ (List.mem_of_getElem? (i := 1) rfl)))))) rfl (by decide +kernel) ⟨Nat.le_of_ble_eq_true rfl, Nat.le_of_ble_eq_true rfl⟩) ⟨th_blindC, th_preC hH hK hN hZ hS hAC1 z_h0 hR_h0⟩ rfl rfl hl.1 rfl (lv_room (Nat.le_of_ble_eq_true rfl)) dX8_init_4 ⟨Nat.le_of_ble_eq_true rfl, Nat.le_of_ble_eq_true rfl⟩) hS (fun x _ h => hAC1 x h) hAC1 (fun u t H locs ht hvm hw1 hB hz1 hk1 hS => ?_)
  obtain ⟨τ1, gi1, gr1⟩ := u
  try dsimp only at hw1 hB
  rw [ht] at hB
  have hH := hB
  have hE := hE.tr hw1.1 (Or.inl rfl) hle1 (by decide)
  have tn1 := hw1.2.1
  refine W.widen (k := 1) (n := 4) (Nat.le_of_ble_eq_true rfl) (Nat.le_of_ble_eq_true rfl) ?_
  exact W.vret hx hb hr (fun t ht hW => ⟨⟨(τ1, gi1, gr1), rfl, ⟨hE, tn1, (hF _ _ _ (by (try simp only [M_X8_init]); refine ⟨τ1, gi1, gr1, hw1.2.2, ?_⟩; first | done | exact ⟨(by first | rfl | trivial), (by first | rfl | trivial), (by first | rfl | trivial)⟩))⟩, th_Ht ht hH⟩, hS.F ht⟩) hS.2.2 dX8_init_7

noncomputable def M_X9_init (τ : th_t) (Z : th_Zt) (gi : th_i) (gr : th_r) (h0 : Nat) (p1 : Int32) (p2 : Int32) (p3 : Int32) (tO : th_t) (gO : th_i) (qO : th_r) : Prop :=
  ∃ (τ1 : th_t) (gi1 : th_i) (gr1 : th_r), M_X2_init_9 τ Z gi gr h0 p1 p2 p3 τ1 gi1 gr1 ∧ (
  tO = τ1 ∧ gO = gi1 ∧ qO = gr1)
set_option maxHeartbeats 20000000 in
set_option maxRecDepth 100000 in
theorem k_X9_init (l : Launch) (D : va_G) (cA : Nat → ClassId) (Z : th_Zt) (τ : th_t) (gi : th_i) (gr : th_r) (sz : Nat) (h0 : Nat) (p1 : Int32) (p2 : Int32) (p3 : Int32) : Met l yX9_init wsX9_init ({ frames := 2, cells := 1, slots := 4, locals := 53 }) (va_Pc [.ref h0, .int p1, .int p2, .int p3] (th_PreC D cA Z τ gi gr sz h0 (.inr (8, [.int 0, .int 0, .int 0, .null, .int 0, .int 0])))) (va_Qv (fun (u : th_t × th_i × th_r) => th_Ext [] τ gi gr sz h0 u.1 u.2.1 u.2.2 ∧ u.1 h0 = 9 ∧ (M_X9_init τ Z gi gr h0 p1 p2 p3 u.1 u.2.1 u.2.2)) (fun (u : th_t × th_i × th_r) t => th_H D cA u.1 u.2.1 u.2.2 t.heap) (th_AC τ sz h0)) 1 4 (th_AC τ sz h0) := by
  refine Met.ofW (cc := cX9_init) (maxL := 4) (ret := none) (by decide) rfl ?_
  intro p e s m args below meth c s₁ B hml hv
  obtain ⟨rfl, hsz, hH, hK, hN, hZ, z_h0, hR_h0⟩ := hv
  have hx := B.exec
  have hb := B.bytes
  have hr := B.returns
  have hts := atoms_spec (ws := wsX9_init) B.pre
  have hown : s.vm.findClass RX9 = some m.cls := findClass_of_methodNamed B.named
  have hlocks := B.notSynchronized
  have hin : meth.name = "<init>" := (name_of_methodNamed B.named B.method).1
  subst hsz
  have hA : ∀ q : Nat, s.heap.size ≤ q → (th_AC τ s.heap.size h0) q := fun q h => Or.inr (Or.inr h)
  have hE : th_Ext [] τ gi gr s.heap.size h0 τ gi gr := th_Ext.rf
  have hS : va_S (th_AC τ s.heap.size h0) s.heap s.heap [] := va_S.rf
  have hl := lv_entry ([.ref h0, .int p1, .int p2, .int p3]) (n := 4) (Nat.le_of_ble_eq_true rfl)
  rw [lg_entry_eq]
  generalize (lg_sl ([.ref h0, .int p1, .int p2, .int p3]) ++ List.replicate (4 - (lg_sl ([.ref h0, .int p1, .int p2, .int p3])).length) Slot.unset).toArray = ls at hl ⊢
  have hl : lv_has ls 4 [(0, .ref h0), (1, .int p1), (2, .int p2), (3, .int p3)] := hl
  have hF : (∀ (tO : th_t) (gO : th_i) (qO : th_r), M_X9_init τ Z gi gr h0 p1 p2 p3 tO gO qO → M_X9_init τ Z gi gr h0 p1 p2 p3 tO gO qO) := fun tO gO qO h9 => h9
  refine lv_aload_n hx hb dX9_init_0 rfl (lv_at hl 0 rfl) ?_
  refine lv_iload_n hx hb dX9_init_1 rfl (lv_at hl 1 rfl) ?_
  refine lv_iload_n hx hb dX9_init_2 rfl (lv_at hl 2 rfl) ?_
  refine lv_iload_n hx hb dX9_init_3 rfl (lv_at hl 3 rfl) ?_
  have hle1 := hS.1
  have lt1_h0 := (hR_h0 0 _ rfl).lt
  have hAC1 : ∀ x, th_AC τ _ h0 x → (th_AC τ s.heap.size h0) x := th_ACo hE hS
  refine va_callv (va_runI (As := [.int p1, .int p2, .int p3]) (rest := []) ⟨hx, hb, hml, hown, hts⟩ (k_X2_init_9 l D cA Z τ gi gr _ h0 p1 p2 p3) (cwI 3 hts gX9_init_X2_init rfl rfl rfl (hts (.initialized RX2) (List.mem_cons_of_mem _ (List.mem_append_left _ (List.mem_append_left _ (List.mem_append_left _ (List.mem_of_getElem? (i := 2) rfl)))))) (hts (.methodLink RX9 3 yX2_init) (List.mem_cons_of_mem _ (List.mem_append_left _ (List.mem_append_left _ (List.mem_append_left _ (List.mem_of_getElem? (i := 0) rfl)))))) (hts (.instanceMethod yX2_init) (List.mem_cons_of_mem _ (List.mem_append_left _ (List.mem_append_left _ (List.mem_append_left _ (List.mem_of_getElem? (i := 1) rfl)))))) rfl (by decide +kernel) ⟨Nat.le_of_ble_eq_true rfl, Nat.le_of_ble_eq_true rfl⟩) ⟨th_blindC, th_preC hH hK hN hZ hS hAC1 z_h0 hR_h0⟩ rfl rfl hl.1 rfl (lv_room (Nat.le_of_ble_eq_true rfl)) dX9_init_4 ⟨Nat.le_of_ble_eq_true rfl, Nat.le_of_ble_eq_true rfl⟩) hS (fun x _ h => hAC1 x h) hAC1 (fun u t H locs ht hvm hw1 hB hz1 hk1 hS => ?_)
  obtain ⟨τ1, gi1, gr1⟩ := u
  try dsimp only at hw1 hB
  rw [ht] at hB
  have hH := hB
  have hE := hE.tr hw1.1 (Or.inl rfl) hle1 (by decide)
  have tn1 := hw1.2.1
  refine W.widen (k := 1) (n := 4) (Nat.le_of_ble_eq_true rfl) (Nat.le_of_ble_eq_true rfl) ?_
  exact W.vret hx hb hr (fun t ht hW => ⟨⟨(τ1, gi1, gr1), rfl, ⟨hE, tn1, (hF _ _ _ (by (try simp only [M_X9_init]); refine ⟨τ1, gi1, gr1, hw1.2.2, ?_⟩; first | done | exact ⟨(by first | rfl | trivial), (by first | rfl | trivial), (by first | rfl | trivial)⟩))⟩, th_Ht ht hH⟩, hS.F ht⟩) hS.2.2 dX9_init_7

noncomputable def M_X4_init (τ : th_t) (Z : th_Zt) (gi : th_i) (gr : th_r) (h0 : Nat) (p1 : Int32) (p2 : Int32) (p3 : Int32) (tO : th_t) (gO : th_i) (qO : th_r) : Prop :=
  ∃ (τ1 : th_t) (gi1 : th_i) (gr1 : th_r), M_X2_init_4 τ Z gi gr h0 p1 p2 p3 τ1 gi1 gr1 ∧ (
  tO = τ1 ∧ gO = gi1 ∧ qO = gr1)
set_option maxHeartbeats 20000000 in
set_option maxRecDepth 100000 in
theorem k_X4_init (l : Launch) (D : va_G) (cA : Nat → ClassId) (Z : th_Zt) (τ : th_t) (gi : th_i) (gr : th_r) (sz : Nat) (h0 : Nat) (p1 : Int32) (p2 : Int32) (p3 : Int32) : Met l yX4_init wsX4_init ({ frames := 2, cells := 1, slots := 4, locals := 53 }) (va_Pc [.ref h0, .int p1, .int p2, .int p3] (th_PreC D cA Z τ gi gr sz h0 (.inr (3, [.int 0, .int 0, .int 0, .null, .int 0, .int 0])))) (va_Qv (fun (u : th_t × th_i × th_r) => th_Ext [] τ gi gr sz h0 u.1 u.2.1 u.2.2 ∧ u.1 h0 = 4 ∧ (M_X4_init τ Z gi gr h0 p1 p2 p3 u.1 u.2.1 u.2.2)) (fun (u : th_t × th_i × th_r) t => th_H D cA u.1 u.2.1 u.2.2 t.heap) (th_AC τ sz h0)) 1 4 (th_AC τ sz h0) := by
  refine Met.ofW (cc := cX4_init) (maxL := 4) (ret := none) (by decide) rfl ?_
  intro p e s m args below meth c s₁ B hml hv
  obtain ⟨rfl, hsz, hH, hK, hN, hZ, z_h0, hR_h0⟩ := hv
  have hx := B.exec
  have hb := B.bytes
  have hr := B.returns
  have hts := atoms_spec (ws := wsX4_init) B.pre
  have hown : s.vm.findClass RX4 = some m.cls := findClass_of_methodNamed B.named
  have hlocks := B.notSynchronized
  have hin : meth.name = "<init>" := (name_of_methodNamed B.named B.method).1
  subst hsz
  have hA : ∀ q : Nat, s.heap.size ≤ q → (th_AC τ s.heap.size h0) q := fun q h => Or.inr (Or.inr h)
  have hE : th_Ext [] τ gi gr s.heap.size h0 τ gi gr := th_Ext.rf
  have hS : va_S (th_AC τ s.heap.size h0) s.heap s.heap [] := va_S.rf
  have hl := lv_entry ([.ref h0, .int p1, .int p2, .int p3]) (n := 4) (Nat.le_of_ble_eq_true rfl)
  rw [lg_entry_eq]
  generalize (lg_sl ([.ref h0, .int p1, .int p2, .int p3]) ++ List.replicate (4 - (lg_sl ([.ref h0, .int p1, .int p2, .int p3])).length) Slot.unset).toArray = ls at hl ⊢
  have hl : lv_has ls 4 [(0, .ref h0), (1, .int p1), (2, .int p2), (3, .int p3)] := hl
  have hF : (∀ (tO : th_t) (gO : th_i) (qO : th_r), M_X4_init τ Z gi gr h0 p1 p2 p3 tO gO qO → M_X4_init τ Z gi gr h0 p1 p2 p3 tO gO qO) := fun tO gO qO h9 => h9
  refine lv_aload_n hx hb dX4_init_0 rfl (lv_at hl 0 rfl) ?_
  refine lv_iload_n hx hb dX4_init_1 rfl (lv_at hl 1 rfl) ?_
  refine lv_iload_n hx hb dX4_init_2 rfl (lv_at hl 2 rfl) ?_
  refine lv_iload_n hx hb dX4_init_3 rfl (lv_at hl 3 rfl) ?_
  have hle1 := hS.1
  have lt1_h0 := (hR_h0 0 _ rfl).lt
  have hAC1 : ∀ x, th_AC τ _ h0 x → (th_AC τ s.heap.size h0) x := th_ACo hE hS
  refine va_callv (va_runI (As := [.int p1, .int p2, .int p3]) (rest := []) ⟨hx, hb, hml, hown, hts⟩ (k_X2_init_4 l D cA Z τ gi gr _ h0 p1 p2 p3) (cwI 3 hts gX4_init_X2_init rfl rfl rfl (hts (.initialized RX2) (List.mem_cons_of_mem _ (List.mem_append_left _ (List.mem_append_left _ (List.mem_append_left _ (List.mem_of_getElem? (i := 2) rfl)))))) (hts (.methodLink RX4 3 yX2_init) (List.mem_cons_of_mem _ (List.mem_append_left _ (List.mem_append_left _ (List.mem_append_left _ (List.mem_of_getElem? (i := 0) rfl)))))) (hts (.instanceMethod yX2_init) (List.mem_cons_of_mem _ (List.mem_append_left _ (List.mem_append_left _ (List.mem_append_left _ (List.mem_of_getElem? (i := 1) rfl)))))) rfl (by decide +kernel) ⟨Nat.le_of_ble_eq_true rfl, Nat.le_of_ble_eq_true rfl⟩) ⟨th_blindC, th_preC hH hK hN hZ hS hAC1 z_h0 hR_h0⟩ rfl rfl hl.1 rfl (lv_room (Nat.le_of_ble_eq_true rfl)) dX4_init_4 ⟨Nat.le_of_ble_eq_true rfl, Nat.le_of_ble_eq_true rfl⟩) hS (fun x _ h => hAC1 x h) hAC1 (fun u t H locs ht hvm hw1 hB hz1 hk1 hS => ?_)
  obtain ⟨τ1, gi1, gr1⟩ := u
  try dsimp only at hw1 hB
  rw [ht] at hB
  have hH := hB
  have hE := hE.tr hw1.1 (Or.inl rfl) hle1 (by decide)
  have tn1 := hw1.2.1
  refine W.widen (k := 1) (n := 4) (Nat.le_of_ble_eq_true rfl) (Nat.le_of_ble_eq_true rfl) ?_
  exact W.vret hx hb hr (fun t ht hW => ⟨⟨(τ1, gi1, gr1), rfl, ⟨hE, tn1, (hF _ _ _ (by (try simp only [M_X4_init]); refine ⟨τ1, gi1, gr1, hw1.2.2, ?_⟩; first | done | exact ⟨(by first | rfl | trivial), (by first | rfl | trivial), (by first | rfl | trivial)⟩))⟩, th_Ht ht hH⟩, hS.F ht⟩) hS.2.2 dX4_init_7

noncomputable def M_X0_newBoat (τ : th_t) (Z : th_Zt) (gi : th_i) (gr : th_r) (p0 : Int32) (p1 : Int32) (p2 : Int32) (p3 : Int32) (rO : Nat) (tO : th_t) (gO : th_i) (qO : th_r) : Prop :=
  if p0.toInt = 1 then (
    ∃ (q2 : Nat), τ q2 = 0 ∧ (
    ∃ (τ3 : th_t) (gi3 : th_i) (gr3 : th_r), M_X9_init τ Z gi gr q2 p1 p2 p3 τ3 gi3 gr3 ∧ (
    rO = q2 ∧ tO = τ3 ∧ gO = gi3 ∧ qO = gr3))) else (
    if p0.toInt = 2 then (
      ∃ (q4 : Nat), τ q4 = 0 ∧ (
      ∃ (τ5 : th_t) (gi5 : th_i) (gr5 : th_r), M_X4_init τ Z gi gr q4 p1 p2 p3 τ5 gi5 gr5 ∧ (
      rO = q4 ∧ tO = τ5 ∧ gO = gi5 ∧ qO = gr5))) else (
      ∃ (q6 : Nat), τ q6 = 0 ∧ (
      ∃ (τ7 : th_t) (gi7 : th_i) (gr7 : th_r), M_X8_init τ Z gi gr q6 p1 p2 p3 τ7 gi7 gr7 ∧ (
      rO = q6 ∧ tO = τ7 ∧ gO = gi7 ∧ qO = gr7))))
set_option maxHeartbeats 20000000 in
set_option maxRecDepth 100000 in
theorem k_X0_newBoat (l : Launch) (D : va_G) (cA : Nat → ClassId) (Z : th_Zt) (τ : th_t) (gi : th_i) (gr : th_r) (sz : Nat) (p0 : Int32) (p1 : Int32) (p2 : Int32) (p3 : Int32) : Met l yX0_newBoat wsX0_newBoat ({ frames := 3, cells := 2, slots := 10, locals := 76 }) (va_Pc [.int p0, .int p1, .int p2, .int p3] (th_Pre D cA Z τ gi gr sz)) (va_Qr (fun (u : th_t × th_i × th_r) => th_Ext [] τ gi gr sz sz u.1 u.2.1 u.2.2) (fun (u : th_t × th_i × th_r) a t => th_H D cA u.1 u.2.1 u.2.2 t.heap ∧ (u.1 a = 8 ∨ u.1 a = 9 ∨ u.1 a = 4) ∧ (M_X0_newBoat τ Z gi gr p0 p1 p2 p3 a u.1 u.2.1 u.2.2)) (th_A τ sz)) 2 10 (th_A τ sz) := by
  refine Met.ofW (cc := cX0_newBoat) (maxL := 4) (ret := (some (.object "BayMoorings$Boat"))) (by decide) rfl ?_
  intro p e s m args below meth c s₁ B hml hv
  obtain ⟨rfl, hsz, hH, hK, hN, hZ⟩ := hv
  have hx := B.exec
  have hb := B.bytes
  have hr := B.returns
  have hts := atoms_spec (ws := wsX0_newBoat) B.pre
  have hown : s.vm.findClass RX0 = some m.cls := findClass_of_methodNamed B.named
  have hlocks := B.notSynchronized
  subst hsz
  have hA : ∀ q : Nat, s.heap.size ≤ q → (th_A τ s.heap.size) q := fun q h => Or.inr h
  have hE : th_Ext [] τ gi gr s.heap.size s.heap.size τ gi gr := th_Ext.rf
  have hS : va_S (th_A τ s.heap.size) s.heap s.heap [] := va_S.rf
  have hl := lv_entry ([.int p0, .int p1, .int p2, .int p3]) (n := 4) (Nat.le_of_ble_eq_true rfl)
  rw [lg_entry_eq]
  generalize (lg_sl ([.int p0, .int p1, .int p2, .int p3]) ++ List.replicate (4 - (lg_sl ([.int p0, .int p1, .int p2, .int p3])).length) Slot.unset).toArray = ls at hl ⊢
  have hl : lv_has ls 4 [(0, .int p0), (1, .int p1), (2, .int p2), (3, .int p3)] := hl
  have hF : (∀ (rO : Nat) (tO : th_t) (gO : th_i) (qO : th_r), M_X0_newBoat τ Z gi gr p0 p1 p2 p3 rO tO gO qO → M_X0_newBoat τ Z gi gr p0 p1 p2 p3 rO tO gO qO) := fun rO tO gO qO h9 => h9
  refine lv_iload_n hx hb dX0_newBoat_0 rfl (lv_at hl 0 rfl) ?_
  by_cases w1_0 : p0.toInt = 1
  · refine lv_lookup (tgt := 28) (off := 27) hx hb dX0_newBoat_1 (by decide) (by rw [w1_0]; first | done | rfl) (by decide) ?_
    have hle2 := hS.1
    refine th_newO (ci := 8) (fs := [.int 0, .int 0, .int 0, .null, .int 0, .int 0]) (C := RX9) (T := TX9) (N := 6) hx hb hts (fun w h => List.mem_cons_of_mem _ (List.mem_append_left _ (List.mem_append_left _ (List.mem_append_right _ h)))) tyX9 tyX9_ok hown (hts (.classLink RX0 66 RX9) (List.mem_cons_of_mem _ (List.mem_append_left _ (List.mem_append_left _ (List.mem_append_left _ (List.mem_append_left _ (List.mem_of_getElem? (i := 0) rfl))))))) (hts (.instantiable RX9 6) (List.mem_cons_of_mem _ (List.mem_append_left _ (List.mem_append_left _ (List.mem_append_left _ (List.mem_append_left _ (List.mem_of_getElem? (i := 1) rfl))))))) (hts (.initialized RX9) (List.mem_cons_of_mem _ (List.mem_append_left _ (List.mem_append_left _ (List.mem_append_left _ (List.mem_append_left _ (List.mem_of_getElem? (i := 2) rfl))))))) hK hH hS hA rfl (fun j hj => by rcases (show j = 0 ∨ j = 1 ∨ j = 2 ∨ j = 3 ∨ j = 4 ∨ j = 5 by omega) with rfl | rfl | rfl | rfl | rfl | rfl <;> rfl) (Nat.le_of_ble_eq_true rfl) (Nat.le_of_ble_eq_true rfl) dX0_newBoat_28 (fun q2 H s2 y2 n2 o2 hR_q2 hH hS => ?_)
    have le2 : s.heap.size ≤ q2 := th_leE s2 hle2
    refine W.widen (k := 1) (n := 6) (Nat.le_of_ble_eq_true rfl) (Nat.le_of_ble_eq_true rfl) ?_
    refine lv_dup hx hb dX0_newBoat_31 rfl ?_
    refine lv_iload_n hx hb dX0_newBoat_32 rfl (lv_at hl 1 rfl) ?_
    refine lv_iload_n hx hb dX0_newBoat_33 rfl (lv_at hl 2 rfl) ?_
    refine lv_iload_n hx hb dX0_newBoat_34 rfl (lv_at hl 3 rfl) ?_
    have hle3 := hS.1
    have lt3_q2 := (hR_q2 0 _ rfl).lt
    have hAC3 : ∀ x, th_AC τ _ q2 x → (th_A τ s.heap.size) x := th_ACa hE hS le2
    refine va_callv (va_runI (As := [.int p1, .int p2, .int p3]) (rest := [.ref q2]) ⟨hx, hb, hml, hown, hts⟩ (k_X9_init l D cA Z τ gi gr _ q2 p1 p2 p3) (cwI 3 hts gX0_newBoat_X9_init rfl rfl rfl (hts (.initialized RX9) (List.mem_cons_of_mem _ (List.mem_append_left _ (List.mem_append_left _ (List.mem_append_left _ (List.mem_append_left _ (List.mem_of_getElem? (i := 2) rfl))))))) (hts (.methodLink RX0 68 yX9_init) (List.mem_cons_of_mem _ (List.mem_append_left _ (List.mem_append_left _ (List.mem_append_left _ (List.mem_append_left _ (List.mem_of_getElem? (i := 9) rfl))))))) (hts (.instanceMethod yX9_init) (List.mem_cons_of_mem _ (List.mem_append_left _ (List.mem_append_left _ (List.mem_append_left _ (List.mem_append_left _ (List.mem_of_getElem? (i := 10) rfl))))))) rfl (by decide +kernel) ⟨Nat.le_of_ble_eq_true rfl, Nat.le_of_ble_eq_true rfl⟩) ⟨th_blindC, th_preC hH hK hN hZ hS hAC3 n2 hR_q2⟩ rfl rfl hl.1 rfl (lv_room (Nat.le_of_ble_eq_true rfl)) dX0_newBoat_35 ⟨Nat.le_of_ble_eq_true rfl, Nat.le_of_ble_eq_true rfl⟩) hS (fun x _ h => hAC3 x h) hAC3 (fun u t H locs ht hvm hw3 hB hz3 hk3 hS => ?_)
    obtain ⟨τ3, gi3, gr3⟩ := u
    try dsimp only at hw3 hB
    rw [ht] at hB
    have hH := hB
    have hE := hE.tr hw3.1 (Or.inr le2) hle3 (by decide)
    have tn3 := hw3.2.1
    refine W.widen (k := 2) (n := 10) (Nat.le_of_ble_eq_true rfl) (Nat.le_of_ble_eq_true rfl) ?_
    exact W.aret (v := .ref q2) hx hb hr (Or.inl ⟨_, rfl⟩) (Or.inr ⟨_, rfl⟩) (fun t ht hW => ⟨⟨(τ3, gi3, gr3), q2, rfl, hE, th_Ht ht hH, (Or.inr (Or.inl tn3)), (hF _ _ _ _ (by (try simp only [M_X0_newBoat, if_pos w1_0]); refine ⟨q2, n2, ?_⟩; refine ⟨τ3, gi3, gr3, hw3.2.2, ?_⟩; (try simp only [if_pos w1_0]); first | done | exact ⟨(by first | rfl | trivial), (by first | rfl | trivial), (by first | rfl | trivial), (by first | rfl | trivial)⟩))⟩, hS.F ht⟩) hS.2.2 dX0_newBoat_38
  have vw1_0 : ¬ 1 = p0.toInt := fun h => w1_0 h.symm
  by_cases w1_1 : p0.toInt = 2
  · refine lv_lookup (tgt := 39) (off := 38) hx hb dX0_newBoat_1 (by decide) (by rw [w1_1]; first | done | rfl) (by decide) ?_
    have hle4 := hS.1
    refine th_newO (ci := 3) (fs := [.int 0, .int 0, .int 0, .null, .int 0, .int 0]) (C := RX4) (T := TX4) (N := 6) hx hb hts (fun w h => List.mem_cons_of_mem _ (List.mem_append_left _ (List.mem_append_right _ h))) tyX4 tyX4_ok hown (hts (.classLink RX0 71 RX4) (List.mem_cons_of_mem _ (List.mem_append_left _ (List.mem_append_left _ (List.mem_append_left _ (List.mem_append_left _ (List.mem_of_getElem? (i := 3) rfl))))))) (hts (.instantiable RX4 6) (List.mem_cons_of_mem _ (List.mem_append_left _ (List.mem_append_left _ (List.mem_append_left _ (List.mem_append_left _ (List.mem_of_getElem? (i := 4) rfl))))))) (hts (.initialized RX4) (List.mem_cons_of_mem _ (List.mem_append_left _ (List.mem_append_left _ (List.mem_append_left _ (List.mem_append_left _ (List.mem_of_getElem? (i := 5) rfl))))))) hK hH hS hA rfl (fun j hj => by rcases (show j = 0 ∨ j = 1 ∨ j = 2 ∨ j = 3 ∨ j = 4 ∨ j = 5 by omega) with rfl | rfl | rfl | rfl | rfl | rfl <;> rfl) (Nat.le_of_ble_eq_true rfl) (Nat.le_of_ble_eq_true rfl) dX0_newBoat_39 (fun q4 H s4 y4 n4 o4 hR_q4 hH hS => ?_)
    have le4 : s.heap.size ≤ q4 := th_leE s4 hle4
    refine W.widen (k := 1) (n := 6) (Nat.le_of_ble_eq_true rfl) (Nat.le_of_ble_eq_true rfl) ?_
    refine lv_dup hx hb dX0_newBoat_42 rfl ?_
    refine lv_iload_n hx hb dX0_newBoat_43 rfl (lv_at hl 1 rfl) ?_
    refine lv_iload_n hx hb dX0_newBoat_44 rfl (lv_at hl 2 rfl) ?_
    refine lv_iload_n hx hb dX0_newBoat_45 rfl (lv_at hl 3 rfl) ?_
    have hle5 := hS.1
    have lt5_q4 := (hR_q4 0 _ rfl).lt
    have hAC5 : ∀ x, th_AC τ _ q4 x → (th_A τ s.heap.size) x := th_ACa hE hS le4
    refine va_callv (va_runI (As := [.int p1, .int p2, .int p3]) (rest := [.ref q4]) ⟨hx, hb, hml, hown, hts⟩ (k_X4_init l D cA Z τ gi gr _ q4 p1 p2 p3) (cwI 3 hts gX0_newBoat_X4_init rfl rfl rfl (hts (.initialized RX4) (List.mem_cons_of_mem _ (List.mem_append_left _ (List.mem_append_left _ (List.mem_append_left _ (List.mem_append_left _ (List.mem_of_getElem? (i := 5) rfl))))))) (hts (.methodLink RX0 73 yX4_init) (List.mem_cons_of_mem _ (List.mem_append_left _ (List.mem_append_left _ (List.mem_append_left _ (List.mem_append_right _ (List.mem_of_getElem? (i := 2) rfl))))))) (hts (.instanceMethod yX4_init) (List.mem_cons_of_mem _ (List.mem_append_left _ (List.mem_append_left _ (List.mem_append_left _ (List.mem_append_right _ (List.mem_of_getElem? (i := 3) rfl))))))) rfl (by decide +kernel) ⟨Nat.le_of_ble_eq_true rfl, Nat.le_of_ble_eq_true rfl⟩) ⟨th_blindC, th_preC hH hK hN hZ hS hAC5 n4 hR_q4⟩ rfl rfl hl.1 rfl (lv_room (Nat.le_of_ble_eq_true rfl)) dX0_newBoat_46 ⟨Nat.le_of_ble_eq_true rfl, Nat.le_of_ble_eq_true rfl⟩) hS (fun x _ h => hAC5 x h) hAC5 (fun u t H locs ht hvm hw5 hB hz5 hk5 hS => ?_)
    obtain ⟨τ5, gi5, gr5⟩ := u
    try dsimp only at hw5 hB
    rw [ht] at hB
    have hH := hB
    have hE := hE.tr hw5.1 (Or.inr le4) hle5 (by decide)
    have tn5 := hw5.2.1
    refine W.widen (k := 2) (n := 10) (Nat.le_of_ble_eq_true rfl) (Nat.le_of_ble_eq_true rfl) ?_
    exact W.aret (v := .ref q4) hx hb hr (Or.inl ⟨_, rfl⟩) (Or.inr ⟨_, rfl⟩) (fun t ht hW => ⟨⟨(τ5, gi5, gr5), q4, rfl, hE, th_Ht ht hH, (Or.inr (Or.inr tn5)), (hF _ _ _ _ (by (try simp only [M_X0_newBoat, if_neg w1_0, if_pos w1_1]); refine ⟨q4, n4, ?_⟩; refine ⟨τ5, gi5, gr5, hw5.2.2, ?_⟩; (try simp only [if_neg w1_0, if_pos w1_1]); first | done | exact ⟨(by first | rfl | trivial), (by first | rfl | trivial), (by first | rfl | trivial), (by first | rfl | trivial)⟩))⟩, hS.F ht⟩) hS.2.2 dX0_newBoat_49
  have vw1_1 : ¬ 2 = p0.toInt := fun h => w1_1 h.symm
  refine lv_lookup (tgt := 50) (off := 49) hx hb dX0_newBoat_1 (by decide) (by simp [Op.lookupswitch.offset, vw1_0, vw1_1]) (by decide) ?_
  have hle6 := hS.1
  refine th_newO (ci := 7) (fs := [.int 0, .int 0, .int 0, .null, .int 0, .int 0]) (C := RX8) (T := TX8) (N := 6) hx hb hts (fun w h => List.mem_cons_of_mem _ (List.mem_append_right _ h)) tyX8 tyX8_ok hown (hts (.classLink RX0 74 RX8) (List.mem_cons_of_mem _ (List.mem_append_left _ (List.mem_append_left _ (List.mem_append_left _ (List.mem_append_left _ (List.mem_of_getElem? (i := 6) rfl))))))) (hts (.instantiable RX8 6) (List.mem_cons_of_mem _ (List.mem_append_left _ (List.mem_append_left _ (List.mem_append_left _ (List.mem_append_left _ (List.mem_of_getElem? (i := 7) rfl))))))) (hts (.initialized RX8) (List.mem_cons_of_mem _ (List.mem_append_left _ (List.mem_append_left _ (List.mem_append_left _ (List.mem_append_left _ (List.mem_of_getElem? (i := 8) rfl))))))) hK hH hS hA rfl (fun j hj => by rcases (show j = 0 ∨ j = 1 ∨ j = 2 ∨ j = 3 ∨ j = 4 ∨ j = 5 by omega) with rfl | rfl | rfl | rfl | rfl | rfl <;> rfl) (Nat.le_of_ble_eq_true rfl) (Nat.le_of_ble_eq_true rfl) dX0_newBoat_50 (fun q6 H s6 y6 n6 o6 hR_q6 hH hS => ?_)
  have le6 : s.heap.size ≤ q6 := th_leE s6 hle6
  refine W.widen (k := 1) (n := 6) (Nat.le_of_ble_eq_true rfl) (Nat.le_of_ble_eq_true rfl) ?_
  refine lv_dup hx hb dX0_newBoat_53 rfl ?_
  refine lv_iload_n hx hb dX0_newBoat_54 rfl (lv_at hl 1 rfl) ?_
  refine lv_iload_n hx hb dX0_newBoat_55 rfl (lv_at hl 2 rfl) ?_
  refine lv_iload_n hx hb dX0_newBoat_56 rfl (lv_at hl 3 rfl) ?_
  have hle7 := hS.1
  have lt7_q6 := (hR_q6 0 _ rfl).lt
  have hAC7 : ∀ x, th_AC τ _ q6 x → (th_A τ s.heap.size) x := th_ACa hE hS le6
  refine va_callv (va_runI (As := [.int p1, .int p2, .int p3]) (rest := [.ref q6]) ⟨hx, hb, hml, hown, hts⟩ (k_X8_init l D cA Z τ gi gr _ q6 p1 p2 p3) (cwI 3 hts gX0_newBoat_X8_init rfl rfl rfl (hts (.initialized RX8) (List.mem_cons_of_mem _ (List.mem_append_left _ (List.mem_append_left _ (List.mem_append_left _ (List.mem_append_left _ (List.mem_of_getElem? (i := 8) rfl))))))) (hts (.methodLink RX0 76 yX8_init) (List.mem_cons_of_mem _ (List.mem_append_left _ (List.mem_append_left _ (List.mem_append_left _ (List.mem_append_right _ (List.mem_of_getElem? (i := 6) rfl))))))) (hts (.instanceMethod yX8_init) (List.mem_cons_of_mem _ (List.mem_append_left _ (List.mem_append_left _ (List.mem_append_left _ (List.mem_append_right _ (List.mem_of_getElem? (i := 7) rfl))))))) rfl (by decide +kernel) ⟨Nat.le_of_ble_eq_true rfl, Nat.le_of_ble_eq_true rfl⟩) ⟨th_blindC, th_preC hH hK hN hZ hS hAC7 n6 hR_q6⟩ rfl rfl hl.1 rfl (lv_room (Nat.le_of_ble_eq_true rfl)) dX0_newBoat_57 ⟨Nat.le_of_ble_eq_true rfl, Nat.le_of_ble_eq_true rfl⟩) hS (fun x _ h => hAC7 x h) hAC7 (fun u t H locs ht hvm hw7 hB hz7 hk7 hS => ?_)
  obtain ⟨τ7, gi7, gr7⟩ := u
  try dsimp only at hw7 hB
  rw [ht] at hB
  have hH := hB
  have hE := hE.tr hw7.1 (Or.inr le6) hle7 (by decide)
  have tn7 := hw7.2.1
  refine W.widen (k := 2) (n := 10) (Nat.le_of_ble_eq_true rfl) (Nat.le_of_ble_eq_true rfl) ?_
  exact W.aret (v := .ref q6) hx hb hr (Or.inl ⟨_, rfl⟩) (Or.inr ⟨_, rfl⟩) (fun t ht hW => ⟨⟨(τ7, gi7, gr7), q6, rfl, hE, th_Ht ht hH, (Or.inl tn7), (hF _ _ _ _ (by (try simp only [M_X0_newBoat, if_neg w1_0, if_neg w1_1]); refine ⟨q6, n6, ?_⟩; refine ⟨τ7, gi7, gr7, hw7.2.2, ?_⟩; (try simp only [if_neg w1_0, if_neg w1_1]); first | done | exact ⟨(by first | rfl | trivial), (by first | rfl | trivial), (by first | rfl | trivial), (by first | rfl | trivial)⟩))⟩, hS.F ht⟩) hS.2.2 dX0_newBoat_60

noncomputable def M_X0_addBoat (τ : th_t) (Z : th_Zt) (gi : th_i) (gr : th_r) (h0 : Nat) (p1 : Int32) (p2 : Int32) (p3 : Int32) (rO : Int32) (tO : th_t) (gO : th_i) (qO : th_r) : Prop :=
  let x1 : Int32 := gi h0 6
  if (16 : Int32) ≤ x1 then (
    rO = x1 ∧ tO = τ ∧ gO = gi ∧ qO = gr) else (
    let q5 : Nat := (gr h0 1).getD 0
    ∃ (q6 : Nat) (τ6 : th_t) (gi6 : th_i) (gr6 : th_r), M_X0_newBoat τ Z gi gr p1 x1 p2 p3 q6 τ6 gi6 gr6 ∧ (
    let gr11 : th_r := va_up gr6 q5 (va_up (gr6 q5) x1.toNatClampNeg (some q6))
    let x13 : Int32 := x1 + 1
    ∃ (gi14 : th_i), gi14 = va_up gi6 h0 (upd (gi6 h0) 6 x13) ∧ (
    rO = x1 ∧ tO = τ6 ∧ gO = gi14 ∧ qO = gr11)))
set_option maxHeartbeats 20000000 in
set_option maxRecDepth 100000 in
theorem k_X0_addBoat (l : Launch) (D : va_G) (cA : Nat → ClassId) (Z : th_Zt) (τ : th_t) (gi : th_i) (gr : th_r) (sz : Nat) (h0 : Nat) (t_h0 : τ h0 = 1) (p1 : Int32) (p2 : Int32) (p3 : Int32) : Met l yX0_addBoat wsX0_addBoat ({ frames := 4, cells := 2, slots := 10, locals := 99 }) (va_Pc [.ref h0, .int p1, .int p2, .int p3] (th_Pre D cA Z τ gi gr sz)) (va_Qi (fun (r : Int32) (u : th_t × th_i × th_r) => th_Ext [106, 2100] τ gi gr sz sz u.1 u.2.1 u.2.2 ∧ (M_X0_addBoat τ Z gi gr h0 p1 p2 p3 r u.1 u.2.1 u.2.2)) (fun (u : th_t × th_i × th_r) t => th_H D cA u.1 u.2.1 u.2.2 t.heap) (th_A τ sz)) 2 10 (th_A τ sz) := by
  refine Met.ofW (cc := cX0_addBoat) (maxL := 5) (ret := (some .int)) (by decide) rfl ?_
  intro p e s m args below meth c s₁ B hml hv
  obtain ⟨rfl, hsz, hH, hK, hN, hZ⟩ := hv
  have hx := B.exec
  have hb := B.bytes
  have hr := B.returns
  have hts := atoms_spec (ws := wsX0_addBoat) B.pre
  have hown : s.vm.findClass RX0 = some m.cls := findClass_of_methodNamed B.named
  have hlocks := B.notSynchronized
  subst hsz
  have hA : ∀ q : Nat, s.heap.size ≤ q → (th_A τ s.heap.size) q := fun q h => Or.inr h
  have hE : th_Ext [106, 2100] τ gi gr s.heap.size s.heap.size τ gi gr := th_Ext.rf
  have hS : va_S (th_A τ s.heap.size) s.heap s.heap [] := va_S.rf
  have hl := lv_entry ([.ref h0, .int p1, .int p2, .int p3]) (n := 5) (Nat.le_of_ble_eq_true rfl)
  rw [lg_entry_eq]
  generalize (lg_sl ([.ref h0, .int p1, .int p2, .int p3]) ++ List.replicate (5 - (lg_sl ([.ref h0, .int p1, .int p2, .int p3])).length) Slot.unset).toArray = ls at hl ⊢
  have hl : lv_has ls 5 [(0, .ref h0), (1, .int p1), (2, .int p2), (3, .int p3)] := hl
  have hF : (∀ (rO : Int32) (tO : th_t) (gO : th_i) (qO : th_r), M_X0_addBoat τ Z gi gr h0 p1 p2 p3 rO tO gO qO → M_X0_addBoat τ Z gi gr h0 p1 p2 p3 rO tO gO qO) := fun rO tO gO qO h9 => h9
  refine lv_aload_n hx hb dX0_addBoat_0 rfl (lv_at hl 0 rfl) ?_
  obtain ⟨x1, e1⟩ : ∃ y : Int32, y = gi h0 6 := ⟨_, rfl⟩
  refine th_get (ci := 0) (v := .int x1) (T := TX0) (C := RX0) (N := 9) hx hb hts (fun w h => List.mem_cons_of_mem _ (List.mem_append_left _ (List.mem_append_left _ (List.mem_append_left _ (List.mem_append_right _ h))))) hown hK hH t_h0 (th_nz rfl) rfl rfl 6 (th_ltN rfl) (hts (.fieldLink RX0 42 "BayMoorings$Bay" "boatCount" "I") (List.mem_cons_of_mem _ (List.mem_append_left _ (List.mem_append_left _ (List.mem_append_left _ (List.mem_append_left _ (List.mem_append_left _ (List.mem_of_getElem? (i := 0) rfl)))))))) (fun _ h9 => h9) (th_fI e1 rfl) dX0_addBoat_1 ?_
  have f1 : rg 0 16 x1 := rg_e e1 ((hH.at t_h0 (th_nz rfl)).2.2.2.2.2.2.2)
  refine lv_istore (i := 4) (lv' := [(4, .int x1), (0, .ref h0), (1, .int p1), (2, .int p2), (3, .int p3)]) hx hb dX0_addBoat_4 hl (th_ltN rfl) rfl (fun ls hl => ?_)
  refine lv_iload hx hb dX0_addBoat_6 (lv_at hl 0 rfl) ?_
  refine lv_bipush (v := 16) hx hb dX0_addBoat_8 bp_16 ?_
  refine lv_icmp_ge (tgt := 38) hx hb dX0_addBoat_10 (th_eqI rfl) (fun c2 => ?_) (fun c2 => ?_)
  · skip
    have f3 : rg 16 16 x1 := rg_w (rg_le rgc_16 f1 c2).2 (th_leI rfl) (th_leI rfl)
    refine lv_iload hx hb dX0_addBoat_38 (lv_at hl 0 rfl) ?_
    refine W.widen (k := 2) (n := 10) (Nat.le_of_ble_eq_true rfl) (Nat.le_of_ble_eq_true rfl) ?_
    exact W.iret (v := x1) hx hb hr (fun t ht hW => ⟨⟨x1, (τ, gi, gr), rfl, ⟨hE, (hF _ _ _ _ (by (try simp only [M_X0_addBoat, ← e1, if_pos c2]); first | done | exact ⟨(by first | rfl | trivial), (by first | rfl | trivial), (by first | rfl | trivial), (by first | rfl | trivial)⟩))⟩, th_Ht ht hH⟩, hS.F ht⟩) hS.2.2 dX0_addBoat_40
  · skip
    have f4 : rg 0 15 x1 := rg_w (rg_nle rgc_16 f1 c2).2 (th_leI rfl) (th_leI rfl)
    refine lv_aload_n hx hb dX0_addBoat_13 rfl (lv_at hl 1 rfl) ?_
    obtain ⟨q5, r5, t5⟩ : ∃ q, gr h0 1 = some q ∧ τ q = 21 := (hH.at t_h0 (th_nz rfl)).2.2.1
    refine th_get (ci := 0) (v := .ref q5) (T := TX0) (C := RX0) (N := 9) hx hb hts (fun w h => List.mem_cons_of_mem _ (List.mem_append_left _ (List.mem_append_left _ (List.mem_append_left _ (List.mem_append_right _ h))))) hown hK hH t_h0 (th_nz rfl) rfl rfl 1 (th_ltN rfl) (hts (.fieldLink RX0 19 "BayMoorings$Bay" "boats" "[LBayMoorings$Boat;") (List.mem_cons_of_mem _ (List.mem_append_left _ (List.mem_append_left _ (List.mem_append_left _ (List.mem_append_left _ (List.mem_append_left _ (List.mem_of_getElem? (i := 1) rfl)))))))) (fun _ h9 => h9) (th_fR r5 rfl) dX0_addBoat_14 ?_
    refine lv_iload hx hb dX0_addBoat_17 (lv_at hl 0 rfl) ?_
    refine lv_iload_n hx hb dX0_addBoat_19 rfl (lv_at hl 2 rfl) ?_
    refine lv_iload hx hb dX0_addBoat_20 (lv_at hl 0 rfl) ?_
    refine lv_iload_n hx hb dX0_addBoat_22 rfl (lv_at hl 3 rfl) ?_
    refine lv_iload_n hx hb dX0_addBoat_23 rfl (lv_at hl 4 rfl) ?_
    have hA6 : ∀ q, th_A τ _ q → (th_A τ s.heap.size) q := th_AEa hE hS
    have hle6 := hS.1
    refine va_callr (va_runS (As := [.int p1, .int x1, .int p2, .int p3]) (rest := [.int x1, .ref q5]) ⟨hx, hb, hml, hown, hts⟩ (k_X0_newBoat l D cA Z τ gi gr _ p1 x1 p2 p3) (va_cwS 4 hts gX0_addBoat_X0_newBoat rfl rfl rfl (by decide +kernel) ⟨Nat.le_of_ble_eq_true rfl, Nat.le_of_ble_eq_true rfl⟩) ⟨th_blind, (th_pre hH hK hN hZ hS hA6)⟩ rfl rfl hl.1 rfl (lv_room (Nat.le_of_ble_eq_true rfl)) dX0_addBoat_24 ⟨Nat.le_of_ble_eq_true rfl, Nat.le_of_ble_eq_true rfl⟩) hS (fun q _ h => hA6 q h) hA6 (fun u q6 t H locs ht hvm hw6 hB hz6 hk6 hS => ?_)
    obtain ⟨τ6, gi6, gr6⟩ := u
    try dsimp only at hw6 hB
    rw [ht] at hB
    have hH := hB.1
    have t7 : τ6 h0 = 1 := ((hw6.1 h0 (by rw [t_h0]; decide)).trans t_h0)
    have t8 : τ6 q5 = 21 := ((hw6.1 q5 (by rw [t5]; decide)).trans t5)
    have hE := hE.tr hw6 (Or.inr hle6) hle6 (by decide)
    have e9 : x1 = gi6 h0 6 := by rw [(hw6.2.2 h0 6 (by rw [t_h0]; decide) (by rw [t_h0]; show (106 : Nat) ∉ _; decide)).1]; exact e1
    have r10 : gr6 h0 1 = some q5 := by rw [(hw6.2.2 h0 1 (by rw [t_h0]; decide) (by rw [t_h0]; show (101 : Nat) ∉ _; decide)).2]; exact r5
    refine W.widen (k := 2) (n := 10) (Nat.le_of_ble_eq_true rfl) (Nat.le_of_ble_eq_true rfl) ?_
    have tn6 := hB.2.1
    refine th_any3 tn6 (fun t9 k9 => th_aast hx hb hK hH hS t8 (th_nz rfl) (th_AEa hE hS _ (Or.inl (by rw [t8]; decide))) 3 (fun _ => rfl) rfl t9 (th_nz rfl) rfl (ci := 7) rfl (Or.inr hN.2.2.2.2.2.2.2.2.2.2.2.2.2.2.2.1) (rg_in (n := 16) f4 (th_leI rfl) (th_ltI rfl)) (th_ar (P := fun q => τ6 q = 8 ∨ τ6 q = 9 ∨ τ6 q = 4) (hH.at t8 (th_nz rfl)).2 (fun _ h9 => by cases h9; exact (Or.inl t9))) dX0_addBoat_27 k9) (fun t9 k9 => th_aast hx hb hK hH hS t8 (th_nz rfl) (th_AEa hE hS _ (Or.inl (by rw [t8]; decide))) 3 (fun _ => rfl) rfl t9 (th_nz rfl) rfl (ci := 8) rfl (Or.inr hN.2.2.2.2.2.2.2.2.2.2.2.2.2.2.2.2) (rg_in (n := 16) f4 (th_leI rfl) (th_ltI rfl)) (th_ar (P := fun q => τ6 q = 8 ∨ τ6 q = 9 ∨ τ6 q = 4) (hH.at t8 (th_nz rfl)).2 (fun _ h9 => by cases h9; exact (Or.inr (Or.inl t9)))) dX0_addBoat_27 k9) (fun t9 k9 => th_aast hx hb hK hH hS t8 (th_nz rfl) (th_AEa hE hS _ (Or.inl (by rw [t8]; decide))) 3 (fun _ => rfl) rfl t9 (th_nz rfl) rfl (ci := 3) rfl (Or.inr hN.2.2.2.2.2.2.2.2.2.2.2.2.2.2.1) (rg_in (n := 16) f4 (th_leI rfl) (th_ltI rfl)) (th_ar (P := fun q => τ6 q = 8 ∨ τ6 q = 9 ∨ τ6 q = 4) (hH.at t8 (th_nz rfl)).2 (fun _ h9 => by cases h9; exact (Or.inr (Or.inr t9)))) dX0_addBoat_27 k9) (fun gr11 H locs hu11 ho11 hH hS => ?_)
    have eg11 : gr11 = va_up gr6 q5 (va_up (gr6 q5) x1.toNatClampNeg (some q6)) := th_upF hu11 ho11
    have hE := hE.mod ((th_Mod.rf (M := [106, 2100])).r t8 (by show (2100 : Nat) ∈ _; decide) ho11) (fun _ h => h)
    refine lv_aload_n hx hb dX0_addBoat_28 rfl (lv_at hl 1 rfl) ?_
    refine lv_dup hx hb dX0_addBoat_29 rfl ?_
    refine th_get (ci := 0) (v := .int x1) (T := TX0) (C := RX0) (N := 9) hx hb hts (fun w h => List.mem_cons_of_mem _ (List.mem_append_left _ (List.mem_append_left _ (List.mem_append_left _ (List.mem_append_right _ h))))) hown hK hH t7 (th_nz rfl) rfl rfl 6 (th_ltN rfl) (hts (.fieldLink RX0 42 "BayMoorings$Bay" "boatCount" "I") (List.mem_cons_of_mem _ (List.mem_append_left _ (List.mem_append_left _ (List.mem_append_left _ (List.mem_append_left _ (List.mem_append_left _ (List.mem_of_getElem? (i := 0) rfl)))))))) (fun _ h9 => h9) (th_fI e9 rfl) dX0_addBoat_30 ?_
    refine lv_iconst (v := 1) hx hb dX0_addBoat_33 ic_1 ?_
    refine lv_iadd hx hb dX0_addBoat_34 ?_
    refine lv_topi (fun x13 e13 => ?_)
    have f13 : rg 1 16 x13 := rg_e e13 (rg_w (rg_add f4 rgc_1 (th_leI rfl) (th_leI rfl)) (th_leI rfl) (th_leI rfl))
    refine th_put (ci := 0) (v := .int x13) (T := TX0) (C := RX0) (N := 9) (ty := .int) (gi' := va_up gi6 h0 (upd (gi6 h0) 6 x13)) (gr' := gr11) hx hb hts (fun w h => List.mem_cons_of_mem _ (List.mem_append_left _ (List.mem_append_left _ (List.mem_append_left _ (List.mem_append_right _ h))))) tyX0 tyX0_ok nmX0 hown hK hH hS t7 (th_nz rfl) (th_AEa hE hS _ (Or.inl (by rw [t7]; decide))) rfl rfl 6 (th_ltN rfl) (hts (.fieldLink RX0 42 "BayMoorings$Bay" "boatCount" "I") (List.mem_cons_of_mem _ (List.mem_append_left _ (List.mem_append_left _ (List.mem_append_left _ (List.mem_append_left _ (List.mem_append_left _ (List.mem_of_getElem? (i := 0) rfl)))))))) (fun _ h9 => h9) rfl (by decide +kernel) rfl rfl (Nat.le_of_ble_eq_true rfl) (by rw [va_up_self]; rfl) (by rw [va_up_self]; show (∃ q, gr11 h0 0 = some q ∧ τ6 q = 20) ∧ (∃ q, gr11 h0 1 = some q ∧ τ6 q = 21) ∧ (∃ q, gr11 h0 2 = some q ∧ τ6 q = 22) ∧ (∃ q, gr11 h0 3 = some q ∧ τ6 q = 23) ∧ (∃ q, gr11 h0 4 = some q ∧ τ6 q = 2) ∧ rg 0 12 (gi6 h0 5) ∧ rg 0 16 x13; exact ⟨(hH.at t7 (th_nz rfl)).2.1, (hH.at t7 (th_nz rfl)).2.2.1, (hH.at t7 (th_nz rfl)).2.2.2.1, (hH.at t7 (th_nz rfl)).2.2.2.2.1, (hH.at t7 (th_nz rfl)).2.2.2.2.2.1, (hH.at t7 (th_nz rfl)).2.2.2.2.2.2.1, (rg_w f13 (th_leI rfl) (th_leI rfl))⟩) (fun b hb => ⟨va_up_ne _ _ hb, rfl⟩) dX0_addBoat_35 (fun H locs hH hS => ?_)
    obtain ⟨gi14, eg14⟩ : ∃ g, g = va_up gi6 h0 (upd (gi6 h0) 6 x13) := ⟨_, rfl⟩
    rw [← eg14] at hH
    have hu14 : gi14 h0 6 = x13 := (th_uI eg14).1
    have ho14 : ∀ b j, b ≠ h0 ∨ j ≠ 6 → gi14 b j = gi6 b j := (th_uI eg14).2
    have hE := hE.mod ((th_Mod.rf (M := [106, 2100])).i t7 (by show (106 : Nat) ∈ _; decide) ho14) (fun _ h => h)
    refine lv_iload hx hb dX0_addBoat_38 (lv_at hl 0 rfl) ?_
    exact W.iret (v := x1) hx hb hr (fun t ht hW => ⟨⟨x1, (τ6, gi14, gr11), rfl, ⟨hE, (hF _ _ _ _ (by (try simp only [M_X0_addBoat, ← e1, if_neg c2, r5, Option.getD_some]); refine ⟨q6, τ6, gi6, gr6, hB.2.2, ?_⟩; (try simp only [← eg11, ← e13]); refine ⟨gi14, eg14, ?_⟩; (try simp only [← e1, if_neg c2, r5, Option.getD_some, ← eg11, ← e13]); first | done | exact ⟨(by first | rfl | trivial), (by first | rfl | trivial), (by first | rfl | trivial), (by first | rfl | trivial)⟩))⟩, th_Ht ht hH⟩, hS.F ht⟩) hS.2.2 dX0_addBoat_40

noncomputable def f_X0_addBuoy_32 (τ : th_t) (Z : th_Zt) (gi : th_i) (gr : th_r) (h0 : Nat) (p1 : Int32) (p2 : Int32) (p3 : Int32) (p4 : Int32) (rO : Int32) (tO : th_t) (gO : th_i) (qO : th_r) (x1 : Int32) (q5 : Nat) (τ6 : th_t) : Nat → th_i → th_r → Int32 → Prop
  | 0, gi_32, gr_32, y32_7 => False
  | n + 1, gi_32, gr_32, y32_7 =>
    if (24 : Int32) ≤ y32_7 then (
      let q11 : Nat := (gr_32 h0 0).getD 0
      let gr12 : th_r := va_up gr_32 q11 (va_up (gr_32 q11) x1.toNatClampNeg (some q5))
      let x14 : Int32 := x1 + 1
      ∃ (gi15 : th_i), gi15 = va_up gi_32 h0 (upd (gi_32 h0) 5 x14) ∧ (
      rO = x1 ∧ tO = τ6 ∧ gO = gi15 ∧ qO = gr12)) else (
      let q18 : Nat := (gr_32 h0 2).getD 0
      let x19 : Int32 := gi_32 q18 y32_7.toNatClampNeg
      let gi21 : th_i := F_X3_flood τ6 Z gi_32 gr_32 q5 y32_7 x19
      let x24 : Int32 := y32_7 + 1
      f_X0_addBuoy_32 τ Z gi gr h0 p1 p2 p3 p4 rO tO gO qO x1 q5 τ6 n gi21 gr_32 x24)
noncomputable def M_X0_addBuoy (τ : th_t) (Z : th_Zt) (gi : th_i) (gr : th_r) (h0 : Nat) (p1 : Int32) (p2 : Int32) (p3 : Int32) (p4 : Int32) (rO : Int32) (tO : th_t) (gO : th_i) (qO : th_r) : Prop :=
  let x1 : Int32 := gi h0 5
  if (12 : Int32) ≤ x1 then (
    rO = x1 ∧ tO = τ ∧ gO = gi ∧ qO = gr) else (
    ∃ (q5 : Nat), τ q5 = 0 ∧ (
    ∃ (τ6 : th_t) (gi6 : th_i) (gr6 : th_r), M_X3_init τ Z gi gr q5 x1 p1 p2 p3 p4 τ6 gi6 gr6 ∧ (
    f_X0_addBuoy_32 τ Z gi gr h0 p1 p2 p3 p4 rO tO gO qO x1 q5 τ6 ((24 - (0 : Int32).toInt).toNat + 1) gi6 gr6 0)))
set_option maxHeartbeats 20000000 in
set_option maxRecDepth 100000 in
theorem k_X0_addBuoy (l : Launch) (D : va_G) (cA : Nat → ClassId) (Z : th_Zt) (τ : th_t) (gi : th_i) (gr : th_r) (sz : Nat) (h0 : Nat) (t_h0 : τ h0 = 1) (p1 : Int32) (p2 : Int32) (p3 : Int32) (p4 : Int32) : Met l yX0_addBuoy wsX0_addBuoy ({ frames := 3, cells := 2, slots := 32, locals := 65 }) (va_Pc [.ref h0, .int p1, .int p2, .int p3, .int p4] (th_Pre D cA Z τ gi gr sz)) (va_Qi (fun (r : Int32) (u : th_t × th_i × th_r) => th_Ext [105, 2000, 2600] τ gi gr sz sz u.1 u.2.1 u.2.2 ∧ (M_X0_addBuoy τ Z gi gr h0 p1 p2 p3 p4 r u.1 u.2.1 u.2.2)) (fun (u : th_t × th_i × th_r) t => th_H D cA u.1 u.2.1 u.2.2 t.heap) (th_A τ sz)) 2 32 (th_A τ sz) := by
  refine Met.ofW (cc := cX0_addBuoy) (maxL := 8) (ret := (some .int)) (by decide) rfl ?_
  intro p e s m args below meth c s₁ B hml hv
  obtain ⟨rfl, hsz, hH, hK, hN, hZ⟩ := hv
  have hx := B.exec
  have hb := B.bytes
  have hr := B.returns
  have hts := atoms_spec (ws := wsX0_addBuoy) B.pre
  have hown : s.vm.findClass RX0 = some m.cls := findClass_of_methodNamed B.named
  have hlocks := B.notSynchronized
  subst hsz
  have hA : ∀ q : Nat, s.heap.size ≤ q → (th_A τ s.heap.size) q := fun q h => Or.inr h
  have hE : th_Ext [105, 2000, 2600] τ gi gr s.heap.size s.heap.size τ gi gr := th_Ext.rf
  have hS : va_S (th_A τ s.heap.size) s.heap s.heap [] := va_S.rf
  have hl := lv_entry ([.ref h0, .int p1, .int p2, .int p3, .int p4]) (n := 8) (Nat.le_of_ble_eq_true rfl)
  rw [lg_entry_eq]
  generalize (lg_sl ([.ref h0, .int p1, .int p2, .int p3, .int p4]) ++ List.replicate (8 - (lg_sl ([.ref h0, .int p1, .int p2, .int p3, .int p4])).length) Slot.unset).toArray = ls at hl ⊢
  have hl : lv_has ls 8 [(0, .ref h0), (1, .int p1), (2, .int p2), (3, .int p3), (4, .int p4)] := hl
  have hF : (∀ (rO : Int32) (tO : th_t) (gO : th_i) (qO : th_r), M_X0_addBuoy τ Z gi gr h0 p1 p2 p3 p4 rO tO gO qO → M_X0_addBuoy τ Z gi gr h0 p1 p2 p3 p4 rO tO gO qO) := fun rO tO gO qO h9 => h9
  refine lv_aload_n hx hb dX0_addBuoy_0 rfl (lv_at hl 0 rfl) ?_
  obtain ⟨x1, e1⟩ : ∃ y : Int32, y = gi h0 5 := ⟨_, rfl⟩
  refine th_get (ci := 0) (v := .int x1) (T := TX0) (C := RX0) (N := 9) hx hb hts (fun w h => List.mem_cons_of_mem _ (List.mem_append_left _ (List.mem_append_right _ h))) hown hK hH t_h0 (th_nz rfl) rfl rfl 5 (th_ltN rfl) (hts (.fieldLink RX0 38 "BayMoorings$Bay" "buoyCount" "I") (List.mem_cons_of_mem _ (List.mem_append_left _ (List.mem_append_left _ (List.mem_append_left _ (List.mem_of_getElem? (i := 0) rfl)))))) (fun _ h9 => h9) (th_fI e1 rfl) dX0_addBuoy_1 ?_
  have f1 : rg 0 12 x1 := rg_e e1 ((hH.at t_h0 (th_nz rfl)).2.2.2.2.2.2.1)
  refine lv_istore (i := 5) (lv' := [(5, .int x1), (0, .ref h0), (1, .int p1), (2, .int p2), (3, .int p3), (4, .int p4)]) hx hb dX0_addBuoy_4 hl (th_ltN rfl) rfl (fun ls hl => ?_)
  refine lv_iload hx hb dX0_addBuoy_6 (lv_at hl 0 rfl) ?_
  refine lv_bipush (v := 12) hx hb dX0_addBuoy_8 bp_12 ?_
  refine lv_icmp_ge (tgt := 78) hx hb dX0_addBuoy_10 (th_eqI rfl) (fun c2 => ?_) (fun c2 => ?_)
  · skip
    have f3 : rg 12 12 x1 := rg_w (rg_le rgc_12 f1 c2).2 (th_leI rfl) (th_leI rfl)
    refine lv_iload hx hb dX0_addBuoy_78 (lv_at hl 0 rfl) ?_
    refine W.widen (k := 2) (n := 32) (Nat.le_of_ble_eq_true rfl) (Nat.le_of_ble_eq_true rfl) ?_
    exact W.iret (v := x1) hx hb hr (fun t ht hW => ⟨⟨x1, (τ, gi, gr), rfl, ⟨hE, (hF _ _ _ _ (by (try simp only [M_X0_addBuoy, ← e1, if_pos c2]); first | done | exact ⟨(by first | rfl | trivial), (by first | rfl | trivial), (by first | rfl | trivial), (by first | rfl | trivial)⟩))⟩, th_Ht ht hH⟩, hS.F ht⟩) hS.2.2 dX0_addBuoy_80
  · skip
    have f4 : rg 0 11 x1 := rg_w (rg_nle rgc_12 f1 c2).2 (th_leI rfl) (th_leI rfl)
    have hle5 := hS.1
    refine th_newO (ci := 2) (fs := [.int 0, .int 0, .int 0, .int 0, .int 0, .null, .int 0, .int 0]) (C := RX3) (T := TX3) (N := 8) hx hb hts (fun w h => List.mem_cons_of_mem _ (List.mem_append_right _ h)) tyX3 tyX3_ok hown (hts (.classLink RX0 9 RX3) (List.mem_cons_of_mem _ (List.mem_append_left _ (List.mem_append_left _ (List.mem_append_left _ (List.mem_of_getElem? (i := 1) rfl)))))) (hts (.instantiable RX3 8) (List.mem_cons_of_mem _ (List.mem_append_left _ (List.mem_append_left _ (List.mem_append_left _ (List.mem_of_getElem? (i := 2) rfl)))))) (hts (.initialized RX3) (List.mem_cons_of_mem _ (List.mem_append_left _ (List.mem_append_left _ (List.mem_append_left _ (List.mem_of_getElem? (i := 3) rfl)))))) hK hH hS hA rfl (fun j hj => by rcases (show j = 0 ∨ j = 1 ∨ j = 2 ∨ j = 3 ∨ j = 4 ∨ j = 5 ∨ j = 6 ∨ j = 7 by omega) with rfl | rfl | rfl | rfl | rfl | rfl | rfl | rfl <;> rfl) (Nat.le_of_ble_eq_true rfl) (Nat.le_of_ble_eq_true rfl) dX0_addBuoy_13 (fun q5 H s5 y5 n5 o5 hR_q5 hH hS => ?_)
    have le5 : s.heap.size ≤ q5 := th_leE s5 hle5
    refine W.widen (k := 1) (n := 8) (Nat.le_of_ble_eq_true rfl) (Nat.le_of_ble_eq_true rfl) ?_
    refine lv_dup hx hb dX0_addBuoy_16 rfl ?_
    refine lv_iload hx hb dX0_addBuoy_17 (lv_at hl 0 rfl) ?_
    refine lv_iload_n hx hb dX0_addBuoy_19 rfl (lv_at hl 2 rfl) ?_
    refine lv_iload_n hx hb dX0_addBuoy_20 rfl (lv_at hl 3 rfl) ?_
    refine lv_iload_n hx hb dX0_addBuoy_21 rfl (lv_at hl 4 rfl) ?_
    refine lv_iload hx hb dX0_addBuoy_22 (lv_at hl 5 rfl) ?_
    have hle6 := hS.1
    have lt6_q5 := (hR_q5 0 _ rfl).lt
    have hAC6 : ∀ x, th_AC τ _ q5 x → (th_A τ s.heap.size) x := th_ACa hE hS le5
    refine va_callv (va_runI (As := [.int x1, .int p1, .int p2, .int p3, .int p4]) (rest := [.ref q5]) ⟨hx, hb, hml, hown, hts⟩ (k_X3_init l D cA Z τ gi gr _ q5 x1 p1 p2 p3 p4) (cwI 5 hts gX0_addBuoy_X3_init rfl rfl rfl (hts (.initialized RX3) (List.mem_cons_of_mem _ (List.mem_append_left _ (List.mem_append_left _ (List.mem_append_left _ (List.mem_of_getElem? (i := 3) rfl)))))) (hts (.methodLink RX0 55 yX3_init) (List.mem_cons_of_mem _ (List.mem_append_left _ (List.mem_append_left _ (List.mem_append_left _ (List.mem_of_getElem? (i := 6) rfl)))))) (hts (.instanceMethod yX3_init) (List.mem_cons_of_mem _ (List.mem_append_left _ (List.mem_append_left _ (List.mem_append_left _ (List.mem_of_getElem? (i := 7) rfl)))))) rfl (by decide +kernel) ⟨Nat.le_of_ble_eq_true rfl, Nat.le_of_ble_eq_true rfl⟩) ⟨th_blindC, th_preC hH hK hN hZ hS hAC6 n5 hR_q5⟩ rfl rfl hl.1 rfl (lv_room (Nat.le_of_ble_eq_true rfl)) dX0_addBuoy_24 ⟨Nat.le_of_ble_eq_true rfl, Nat.le_of_ble_eq_true rfl⟩) hS (fun x _ h => hAC6 x h) hAC6 (fun u t H locs ht hvm hw6 hB hz6 hk6 hS => ?_)
    obtain ⟨τ6, gi6, gr6⟩ := u
    try dsimp only at hw6 hB
    rw [ht] at hB
    have hH := hB
    have e7 : x1 = gi6 h0 5 := by rw [(hw6.1.2.2 h0 5 (by rw [t_h0]; decide) (by rw [t_h0]; show (105 : Nat) ∉ _; decide)).1]; exact e1
    have t8 : τ6 h0 = 1 := ((hw6.1.1 h0 (by rw [t_h0]; decide)).trans t_h0)
    have hE := hE.tr hw6.1 (Or.inr le5) hle6 (by decide)
    have tn6 := hw6.2.1
    refine W.widen (k := 2) (n := 32) (Nat.le_of_ble_eq_true rfl) (Nat.le_of_ble_eq_true rfl) ?_
    refine lv_astore (i := 6) (lv' := [(6, .ref q5), (5, .int x1), (0, .ref h0), (1, .int p1), (2, .int p2), (3, .int p3), (4, .int p4)]) hx hb dX0_addBuoy_27 hl (th_ltN rfl) rfl (fun ls hl => ?_)
    refine lv_iconst (v := 0) hx hb dX0_addBuoy_29 ic_0 ?_
    refine lv_istore (i := 7) (lv' := [(7, .int 0), (6, .ref q5), (5, .int x1), (0, .ref h0), (1, .int p1), (2, .int p2), (3, .int p3), (4, .int p4)]) hx hb dX0_addBuoy_30 hl (th_ltN rfl) rfl (fun ls hl => ?_)
    have J32 : ∀ (n : Nat) (gi_32 : th_i) (gr_32 : th_r) (H : Heap) (locs : List Loc) (ls : Array Slot) (y32_7 : Int32), (24 - y32_7.toInt).toNat < n → th_H D cA τ6 gi_32 gr_32 H → va_S (th_A τ s.heap.size) s.heap H locs → th_Ext [105, 2000, 2600] τ gi gr s.heap.size s.heap.size τ6 gi_32 gr_32 → x1 = gi_32 h0 5 → lv_has ls 8 [(0, .ref h0), (5, .int x1), (6, .ref q5), (7, .int y32_7)] → rg 0 24 y32_7 → (∀ (rO : Int32) (tO : th_t) (gO : th_i) (qO : th_r), f_X0_addBuoy_32 τ Z gi gr h0 p1 p2 p3 p4 rO tO gO qO x1 q5 τ6 n gi_32 gr_32 y32_7 → M_X0_addBuoy τ Z gi gr h0 p1 p2 p3 p4 rO tO gO qO) → W p l e (headSpec wsX0_addBuoy ({ frames := 3, cells := 2, slots := 32, locals := 65 })).room s m [.ref h0, .int p1, .int p2, .int p3, .int p4].toArray below meth c H locs 2 32 (MQ below (va_Qi (fun (r : Int32) (u : th_t × th_i × th_r) => th_Ext [105, 2000, 2600] τ gi gr s.heap.size s.heap.size u.1 u.2.1 u.2.2 ∧ (M_X0_addBuoy τ Z gi gr h0 p1 p2 p3 p4 r u.1 u.2.1 u.2.2)) (fun (u : th_t × th_i × th_r) t => th_H D cA u.1 u.2.1 u.2.2 t.heap) (th_A τ s.heap.size)) [.ref h0, .int p1, .int p2, .int p3, .int p4].toArray s 2 32 (th_A τ s.heap.size)) (F0 m 32 ls []) := by
      intro n
      induction n with
      | zero =>
        intro gi_32 gr_32 H locs ls y32_7 hn
        exact absurd hn (Nat.not_lt_zero _)
      | succ n ih32 =>
        intro gi_32 gr_32 H locs ls y32_7 hn32 hH hS hE em32_0 hl fy32_7 hF
        refine lv_iload hx hb dX0_addBuoy_32 (lv_at hl 3 rfl) ?_
        refine lv_bipush (v := 24) hx hb dX0_addBuoy_34 bp_24 ?_
        refine lv_icmp_ge (tgt := 59) hx hb dX0_addBuoy_36 (th_eqI rfl) (fun c9 => ?_) (fun c9 => ?_)
        · skip
          have f10 : rg 24 24 y32_7 := rg_w (rg_le rgc_24 fy32_7 c9).2 (th_leI rfl) (th_leI rfl)
          refine lv_aload_n hx hb dX0_addBuoy_59 rfl (lv_at hl 0 rfl) ?_
          obtain ⟨q11, r11, t11⟩ : ∃ q, gr_32 h0 0 = some q ∧ τ6 q = 20 := (hH.at t8 (th_nz rfl)).2.1
          refine th_get (ci := 0) (v := .ref q11) (T := TX0) (C := RX0) (N := 9) hx hb hts (fun w h => List.mem_cons_of_mem _ (List.mem_append_left _ (List.mem_append_right _ h))) hown hK hH t8 (th_nz rfl) rfl rfl 0 (th_ltN rfl) (hts (.fieldLink RX0 11 "BayMoorings$Bay" "buoys" "[LBayMoorings$Buoy;") (List.mem_cons_of_mem _ (List.mem_append_left _ (List.mem_append_left _ (List.mem_append_left _ (List.mem_of_getElem? (i := 5) rfl)))))) (fun _ h9 => h9) (th_fR r11 rfl) dX0_addBuoy_60 ?_
          refine lv_iload hx hb dX0_addBuoy_63 (lv_at hl 1 rfl) ?_
          refine lv_aload hx hb dX0_addBuoy_65 (lv_at hl 2 rfl) ?_
          refine th_aast hx hb hK hH hS t11 (th_nz rfl) (th_AEa hE hS _ (Or.inl (by rw [t11]; decide))) 2 (fun _ => rfl) rfl tn6 (th_nz rfl) rfl (ci := 2) rfl (Or.inl rfl) (rg_in (n := 12) f4 (th_leI rfl) (th_ltI rfl)) (th_ar (P := fun q => τ6 q = 3) (hH.at t11 (th_nz rfl)).2 (fun _ h9 => by cases h9; exact tn6)) dX0_addBuoy_67 (fun gr12 H locs hu12 ho12 hH hS => ?_)
          have eg12 : gr12 = va_up gr_32 q11 (va_up (gr_32 q11) x1.toNatClampNeg (some q5)) := th_upF hu12 ho12
          have hE := hE.mod ((th_Mod.rf (M := [105, 2000, 2600])).r t11 (by show (2000 : Nat) ∈ _; decide) ho12) (fun _ h => h)
          refine lv_aload_n hx hb dX0_addBuoy_68 rfl (lv_at hl 0 rfl) ?_
          refine lv_dup hx hb dX0_addBuoy_69 rfl ?_
          refine th_get (ci := 0) (v := .int x1) (T := TX0) (C := RX0) (N := 9) hx hb hts (fun w h => List.mem_cons_of_mem _ (List.mem_append_left _ (List.mem_append_right _ h))) hown hK hH t8 (th_nz rfl) rfl rfl 5 (th_ltN rfl) (hts (.fieldLink RX0 38 "BayMoorings$Bay" "buoyCount" "I") (List.mem_cons_of_mem _ (List.mem_append_left _ (List.mem_append_left _ (List.mem_append_left _ (List.mem_of_getElem? (i := 0) rfl)))))) (fun _ h9 => h9) (th_fI em32_0 rfl) dX0_addBuoy_70 ?_
          refine lv_iconst (v := 1) hx hb dX0_addBuoy_73 ic_1 ?_
          refine lv_iadd hx hb dX0_addBuoy_74 ?_
          refine lv_topi (fun x14 e14 => ?_)
          have f14 : rg 1 12 x14 := rg_e e14 (rg_w (rg_add f4 rgc_1 (th_leI rfl) (th_leI rfl)) (th_leI rfl) (th_leI rfl))
          refine th_put (ci := 0) (v := .int x14) (T := TX0) (C := RX0) (N := 9) (ty := .int) (gi' := va_up gi_32 h0 (upd (gi_32 h0) 5 x14)) (gr' := gr12) hx hb hts (fun w h => List.mem_cons_of_mem _ (List.mem_append_left _ (List.mem_append_right _ h))) tyX0 tyX0_ok nmX0 hown hK hH hS t8 (th_nz rfl) (th_AEa hE hS _ (Or.inl (by rw [t8]; decide))) rfl rfl 5 (th_ltN rfl) (hts (.fieldLink RX0 38 "BayMoorings$Bay" "buoyCount" "I") (List.mem_cons_of_mem _ (List.mem_append_left _ (List.mem_append_left _ (List.mem_append_left _ (List.mem_of_getElem? (i := 0) rfl)))))) (fun _ h9 => h9) rfl (by decide +kernel) rfl rfl (Nat.le_of_ble_eq_true rfl) (by rw [va_up_self]; rfl) (by rw [va_up_self]; show (∃ q, gr12 h0 0 = some q ∧ τ6 q = 20) ∧ (∃ q, gr12 h0 1 = some q ∧ τ6 q = 21) ∧ (∃ q, gr12 h0 2 = some q ∧ τ6 q = 22) ∧ (∃ q, gr12 h0 3 = some q ∧ τ6 q = 23) ∧ (∃ q, gr12 h0 4 = some q ∧ τ6 q = 2) ∧ rg 0 12 x14 ∧ rg 0 16 (gi_32 h0 6); exact ⟨(hH.at t8 (th_nz rfl)).2.1, (hH.at t8 (th_nz rfl)).2.2.1, (hH.at t8 (th_nz rfl)).2.2.2.1, (hH.at t8 (th_nz rfl)).2.2.2.2.1, (hH.at t8 (th_nz rfl)).2.2.2.2.2.1, (rg_w f14 (th_leI rfl) (th_leI rfl)), (hH.at t8 (th_nz rfl)).2.2.2.2.2.2.2⟩) (fun b hb => ⟨va_up_ne _ _ hb, rfl⟩) dX0_addBuoy_75 (fun H locs hH hS => ?_)
          obtain ⟨gi15, eg15⟩ : ∃ g, g = va_up gi_32 h0 (upd (gi_32 h0) 5 x14) := ⟨_, rfl⟩
          rw [← eg15] at hH
          have hu15 : gi15 h0 5 = x14 := (th_uI eg15).1
          have ho15 : ∀ b j, b ≠ h0 ∨ j ≠ 5 → gi15 b j = gi_32 b j := (th_uI eg15).2
          have hE := hE.mod ((th_Mod.rf (M := [105, 2000, 2600])).i t8 (by show (105 : Nat) ∈ _; decide) ho15) (fun _ h => h)
          refine lv_iload hx hb dX0_addBuoy_78 (lv_at hl 1 rfl) ?_
          exact W.iret (v := x1) hx hb hr (fun t ht hW => ⟨⟨x1, (τ6, gi15, gr12), rfl, ⟨hE, (hF _ _ _ _ (by (try simp only [f_X0_addBuoy_32, if_pos c9, r11, Option.getD_some, ← eg12, ← e14]); refine ⟨gi15, eg15, ?_⟩; (try simp only [if_pos c9, r11, Option.getD_some, ← eg12, ← e14]); first | done | exact ⟨(by first | rfl | trivial), (by first | rfl | trivial), (by first | rfl | trivial), (by first | rfl | trivial)⟩))⟩, th_Ht ht hH⟩, hS.F ht⟩) hS.2.2 dX0_addBuoy_80
        · skip
          have f17 : rg 0 23 y32_7 := rg_w (rg_nle rgc_24 fy32_7 c9).2 (th_leI rfl) (th_leI rfl)
          refine lv_aload hx hb dX0_addBuoy_39 (lv_at hl 2 rfl) ?_
          refine lv_iload hx hb dX0_addBuoy_41 (lv_at hl 3 rfl) ?_
          refine lv_aload_n hx hb dX0_addBuoy_43 rfl (lv_at hl 0 rfl) ?_
          obtain ⟨q18, r18, t18⟩ : ∃ q, gr_32 h0 2 = some q ∧ τ6 q = 22 := (hH.at t8 (th_nz rfl)).2.2.2.1
          refine th_get (ci := 0) (v := .ref q18) (T := TX0) (C := RX0) (N := 9) hx hb hts (fun w h => List.mem_cons_of_mem _ (List.mem_append_left _ (List.mem_append_right _ h))) hown hK hH t8 (th_nz rfl) rfl rfl 2 (th_ltN rfl) (hts (.fieldLink RX0 23 "BayMoorings$Bay" "tides" "[I") (List.mem_cons_of_mem _ (List.mem_append_left _ (List.mem_append_left _ (List.mem_append_left _ (List.mem_of_getElem? (i := 4) rfl)))))) (fun _ h9 => h9) (th_fR r18 rfl) dX0_addBuoy_44 ?_
          refine lv_iload hx hb dX0_addBuoy_47 (lv_at hl 3 rfl) ?_
          refine th_iald hx hb hK hH t18 (th_nz rfl) 0 rfl rfl (rg_in (n := 24) f17 (th_leI rfl) (th_ltI rfl)) dX0_addBuoy_49 ?_
          refine lv_topi (fun x19 e19 => ?_)
          have hA20 : ∀ q, th_A τ6 _ q → (th_A τ s.heap.size) q := th_AEa hE hS
          refine va_callv (va_runV (As := [.int y32_7, .int x19]) (rest := []) ⟨hx, hb, hml, hown, hts⟩ (k_X3_flood l D cA Z τ6 gi_32 gr_32 _ q5 tn6 y32_7 x19) (cwV 2 hts gX0_addBuoy_X3_flood rfl rfl rfl hd_X3_flood__2 ⟨Nat.le_of_ble_eq_true rfl, Nat.le_of_ble_eq_true rfl⟩) ⟨th_blind, th_recv hK hH tn6 (ci := 2) (th_nz rfl) rfl rfl, (th_pre hH hK hN hZ hS hA20)⟩ rfl rfl hl.1 rfl (lv_room (Nat.le_of_ble_eq_true rfl)) dX0_addBuoy_50 ⟨Nat.le_of_ble_eq_true rfl, Nat.le_of_ble_eq_true rfl⟩) hS (fun q _ h => hA20 q h) hA20 (fun  u t H locs ht hvm hw21 hB hz1 hk1 hS => ?_)
          try dsimp only at hw21 hB
          rw [ht] at hB
          have hH := hB
          obtain ⟨gi21, gr21⟩ := u
          try dsimp only at hw21 hH
          obtain rfl : gr_32 = gr21 := (hw21.2.1).symm
          have hE := hE.mod hw21.1 (by decide)
          have e22 : x1 = gi21 h0 5 := Eq.trans em32_0 (Eq.symm (hw21.1 h0 5 (th_nzE t8 rfl) (th_nmE (key := 105) t8 rfl rfl)).1)
          have e23 : x19 = gi21 q18 (y32_7.toNatClampNeg) := Eq.trans e19 (Eq.symm (hw21.1 q18 (y32_7.toNatClampNeg) (th_nzE t18 rfl) (th_nmE (key := 2200) t18 rfl rfl)).1)
          obtain ⟨x24, e24⟩ : ∃ y : Int32, y = y32_7 + 1 := ⟨_, rfl⟩
          have f24 : rg 1 24 x24 := rg_e e24 (rg_w (rg_add f17 rgc_1 (th_leI rfl) (th_leI rfl)) (th_leI rfl) (th_leI rfl))
          refine lv_iinc (v := x24) (lv' := [(7, .int x24), (0, .ref h0), (5, .int x1), (6, .ref q5)]) hx hb dX0_addBuoy_53 hl (k := 3) rfl (by rw [e24]; rfl) (th_ltN rfl) rfl (fun ls hl => ?_)
          refine lv_goto (tgt := 32) hx hb dX0_addBuoy_56 (th_eqI rfl) ?_
          exact ih32 gi21 gr_32 _ _ _ x24 (th_up (rg_dA e24 f17 rgc_1 (th_leI rfl) (th_leI rfl)) f17 hn32 (by decide)) hH hS hE e22 (lv_sub hl [1, 2, 3, 0] rfl) (rg_w f24 (th_leI rfl) (th_leI rfl)) (fun rO tO gO qO h9 => hF rO tO gO qO (by (try simp only [f_X0_addBuoy_32, if_neg c9, r18, Option.getD_some, ← e19, hw21.2.2, ← e24]); exact h9))
    exact J32 _ gi6 gr6 _ _ _ 0 (Nat.lt_succ_self _) hH hS hE e7 (lv_sub hl [3, 2, 1, 0] rfl) (rg_w rgc_0 (th_leI rfl) (th_leI rfl)) (fun rO tO gO qO h9 => hF rO tO gO qO (by (try simp only [M_X0_addBuoy, ← e1, if_neg c2]); refine ⟨q5, n5, ?_⟩; refine ⟨τ6, gi6, gr6, hw6.2.2, ?_⟩; (try simp only [← e1, if_neg c2]); exact h9))
