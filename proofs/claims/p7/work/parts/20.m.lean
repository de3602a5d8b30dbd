section
noncomputable def F_X11_within (τ : th_t) (Z : th_Zt) (gi : th_i) (gr : th_r) (p0 : Int32) (p1 : Int32) (p2 : Int32) : Int32 :=
  if p0 < p1 then (
    0) else (
    if p2 < p0 then (
      0) else (
      1))
set_option maxHeartbeats 8000000 in
set_option maxRecDepth 100000 in
theorem k_X11_within (l : Launch) (D : va_G) (cA : Nat → ClassId) (Z : th_Zt) (τ : th_t) (gi : th_i) (gr : th_r) (sz : Nat) (p0 : Int32) (p1 : Int32) (p2 : Int32) : Met l yX11_within wsX11_within ({ frames := 0, cells := 0, slots := 0, locals := 0 }) (va_Pc [.int p0, .int p1, .int p2] (th_Pre D cA Z τ gi gr sz)) (va_Qi (fun (r : Int32) (_ : Unit) => rg 0 1 r ∧ (¬ r = 0 → p1 ≤ p0 ∧ p0 ≤ p2) ∧ (F_X11_within τ Z gi gr p0 p1 p2 = r) ∧ (r = 0 → ¬ (p1 ≤ p0 ∧ p0 ≤ p2))) (fun (_ : Unit) t => th_H D cA τ gi gr t.heap) (th_A τ sz)) 0 0 (th_A τ sz) := by
  refine Met.ofW (cc := cX11_within) (maxL := 3) (ret := (some .boolean)) (by decide) rfl ?_
  intro p e s m args below meth c s₁ B hml hv
  obtain ⟨rfl, hsz, hH, hK, hN, hZ⟩ := hv
  have hx := B.exec
  have hb := B.bytes
  have hr := B.returns
  have hts := atoms_spec (ws := wsX11_within) B.pre
  have hown : s.vm.findClass RX11 = some m.cls := findClass_of_methodNamed B.named
  have hlocks := B.notSynchronized
  subst hsz
  have hS : va_S (th_A τ s.heap.size) s.heap s.heap [] := va_S.rf
  have hl := lv_entry ([.int p0, .int p1, .int p2]) (n := 3) (Nat.le_of_ble_eq_true rfl)
  rw [lg_entry_eq]
  generalize (lg_sl ([.int p0, .int p1, .int p2]) ++ List.replicate (3 - (lg_sl ([.int p0, .int p1, .int p2])).length) Slot.unset).toArray = ls at hl ⊢
  have hl : lv_has ls 3 [(0, .int p0), (1, .int p1), (2, .int p2)] := hl
  have hF : F_X11_within τ Z gi gr p0 p1 p2 = F_X11_within τ Z gi gr p0 p1 p2 := rfl
  refine lv_iload_n hx hb dX11_within_0 rfl (lv_at hl 0 rfl) ?_
  refine lv_iload_n hx hb dX11_within_1 rfl (lv_at hl 1 rfl) ?_
  refine lv_icmp_lt (tgt := 14) hx hb dX11_within_2 (th_eqI rfl) (fun c1 => ?_) (fun c1 => ?_)
  · skip
    refine lv_iconst (v := 0) hx hb dX11_within_14 ic_0 ?_
    exact W.zret (v := 0) hx hb hr (rg_nb (rg_w rgc_0 (th_leI rfl) (th_leI rfl))) (fun t ht hW => ⟨⟨0, (), rfl, ⟨(rg_w rgc_0 (th_leI rfl) (th_leI rfl)), (fun h9 => absurd rfl h9), (hF.trans (by simp only [↓reduceIte, F_X11_within, eq_true c1])), (fun _ h9 => (Int32.not_lt.mpr h9.1) c1)⟩, th_Ht ht hH⟩, hS.F ht⟩) hS.2.2 dX11_within_15
  · skip
    refine lv_iload_n hx hb dX11_within_5 rfl (lv_at hl 0 rfl) ?_
    refine lv_iload_n hx hb dX11_within_6 rfl (lv_at hl 2 rfl) ?_
    refine lv_icmp_gt (tgt := 14) hx hb dX11_within_7 (th_eqI rfl) (fun c2 => ?_) (fun c2 => ?_)
    · skip
      refine lv_iconst (v := 0) hx hb dX11_within_14 ic_0 ?_
      exact W.zret (v := 0) hx hb hr (rg_nb (rg_w rgc_0 (th_leI rfl) (th_leI rfl))) (fun t ht hW => ⟨⟨0, (), rfl, ⟨(rg_w rgc_0 (th_leI rfl) (th_leI rfl)), (fun h9 => absurd rfl h9), (hF.trans (by simp only [↓reduceIte, F_X11_within, eq_false c1, eq_true c2])), (fun _ h9 => (Int32.not_lt.mpr h9.2) c2)⟩, th_Ht ht hH⟩, hS.F ht⟩) hS.2.2 dX11_within_15
    · skip
      refine lv_iconst (v := 1) hx hb dX11_within_10 ic_1 ?_
      refine lv_goto (tgt := 15) hx hb dX11_within_11 (th_eqI rfl) ?_
      exact W.zret (v := 1) hx hb hr (rg_nb (rg_w rgc_1 (th_leI rfl) (th_leI rfl))) (fun t ht hW => ⟨⟨1, (), rfl, ⟨(rg_w rgc_1 (th_leI rfl) (th_leI rfl)), (fun _ => ⟨Int32.not_lt.mp c1, Int32.not_lt.mp c2⟩), (hF.trans (by simp only [↓reduceIte, F_X11_within, eq_false c1, eq_false c2])), (fun h9 => absurd h9 (by decide))⟩, th_Ht ht hH⟩, hS.F ht⟩) hS.2.2 dX11_within_15

noncomputable def F_X11_isKind (τ : th_t) (Z : th_Zt) (gi : th_i) (gr : th_r) (p0 : Int32) : Int32 :=
  let x2 : Int32 := F_X11_within τ Z gi gr p0 0 2
  x2
set_option maxHeartbeats 8000000 in
set_option maxRecDepth 100000 in
theorem k_X11_isKind (l : Launch) (D : va_G) (cA : Nat → ClassId) (Z : th_Zt) (τ : th_t) (gi : th_i) (gr : th_r) (sz : Nat) (p0 : Int32) : Met l yX11_isKind wsX11_isKind ({ frames := 1, cells := 0, slots := 0, locals := 22 }) (va_Pc [.int p0] (th_Pre D cA Z τ gi gr sz)) (va_Qi (fun (r : Int32) (_ : Unit) => rg 0 1 r ∧ (¬ r = 0 → rg 0 2 p0) ∧ (F_X11_isKind τ Z gi gr p0 = r) ∧ (r = 0 → ¬ rg 0 2 p0)) (fun (_ : Unit) t => th_H D cA τ gi gr t.heap) (th_A τ sz)) 0 0 (th_A τ sz) := by
  refine Met.ofW (cc := cX11_isKind) (maxL := 1) (ret := (some .boolean)) (by decide) rfl ?_
  intro p e s m args below meth c s₁ B hml hv
  obtain ⟨rfl, hsz, hH, hK, hN, hZ⟩ := hv
  have hx := B.exec
  have hb := B.bytes
  have hr := B.returns
  have hts := atoms_spec (ws := wsX11_isKind) B.pre
  have hown : s.vm.findClass RX11 = some m.cls := findClass_of_methodNamed B.named
  have hlocks := B.notSynchronized
  subst hsz
  have hS : va_S (th_A τ s.heap.size) s.heap s.heap [] := va_S.rf
  have hl := lv_entry ([.int p0]) (n := 1) (Nat.le_of_ble_eq_true rfl)
  rw [lg_entry_eq]
  generalize (lg_sl ([.int p0]) ++ List.replicate (1 - (lg_sl ([.int p0])).length) Slot.unset).toArray = ls at hl ⊢
  have hl : lv_has ls 1 [(0, .int p0)] := hl
  have hF : F_X11_isKind τ Z gi gr p0 = F_X11_isKind τ Z gi gr p0 := rfl
  refine lv_iload_n hx hb dX11_isKind_0 rfl (lv_at hl 0 rfl) ?_
  refine lv_iconst (v := 0) hx hb dX11_isKind_1 ic_0 ?_
  refine lv_iconst (v := 2) hx hb dX11_isKind_2 ic_2 ?_
  have hA1 := th_Asub (τ := τ) hS
  refine va_calli (va_runS (As := [.int p0, .int 0, .int 2]) (rest := []) ⟨hx, hb, hml, hown, hts⟩ (k_X11_within l D cA Z τ gi gr _ p0 0 2) (va_cwS 3 hts gX11_isKind_X11_within rfl rfl rfl (by decide +kernel) ⟨Nat.le_of_ble_eq_true rfl, Nat.le_of_ble_eq_true rfl⟩) ⟨th_blind, (th_pre hH hK hN hZ hS hA1)⟩ rfl rfl hl.1 rfl (lv_room (Nat.le_of_ble_eq_true rfl)) dX11_isKind_3 ⟨Nat.le_of_ble_eq_true rfl, Nat.le_of_ble_eq_true rfl⟩) hS (fun q _ h => hA1 q h) hA1 (fun x2 u t H locs ht hvm hw2 hB hz1 hk1 hS => ?_)
  try dsimp only at hw2 hB
  rw [ht] at hB
  have hH := hB
  exact W.zret (v := x2) hx hb hr (rg_nb hw2.1) (fun t ht hW => ⟨⟨x2, (), rfl, ⟨hw2.1, (fun h9 => rg_wi rgc_0 rgc_2 (hw2.2.1 h9)), (hF.trans (by simp only [F_X11_isKind, hw2.2.2.1])), (fun h9 h8 => (hw2.2.2.2 h9) (rg_iw (by decide) (by decide) h8))⟩, th_Ht ht hH⟩, hS.F ht⟩) hS.2.2 dX11_isKind_6

noncomputable def F_X11_isHour (τ : th_t) (Z : th_Zt) (gi : th_i) (gr : th_r) (p0 : Int32) : Int32 :=
  let x2 : Int32 := F_X11_within τ Z gi gr p0 0 23
  x2
set_option maxHeartbeats 8000000 in
set_option maxRecDepth 100000 in
theorem k_X11_isHour (l : Launch) (D : va_G) (cA : Nat → ClassId) (Z : th_Zt) (τ : th_t) (gi : th_i) (gr : th_r) (sz : Nat) (p0 : Int32) : Met l yX11_isHour wsX11_isHour ({ frames := 1, cells := 0, slots := 0, locals := 22 }) (va_Pc [.int p0] (th_Pre D cA Z τ gi gr sz)) (va_Qi (fun (r : Int32) (_ : Unit) => rg 0 1 r ∧ (¬ r = 0 → rg 0 23 p0) ∧ (F_X11_isHour τ Z gi gr p0 = r) ∧ (r = 0 → ¬ rg 0 23 p0)) (fun (_ : Unit) t => th_H D cA τ gi gr t.heap) (th_A τ sz)) 0 0 (th_A τ sz) := by
  refine Met.ofW (cc := cX11_isHour) (maxL := 1) (ret := (some .boolean)) (by decide) rfl ?_
  intro p e s m args below meth c s₁ B hml hv
  obtain ⟨rfl, hsz, hH, hK, hN, hZ⟩ := hv
  have hx := B.exec
  have hb := B.bytes
  have hr := B.returns
  have hts := atoms_spec (ws := wsX11_isHour) B.pre
  have hown : s.vm.findClass RX11 = some m.cls := findClass_of_methodNamed B.named
  have hlocks := B.notSynchronized
  subst hsz
  have hS : va_S (th_A τ s.heap.size) s.heap s.heap [] := va_S.rf
  have hl := lv_entry ([.int p0]) (n := 1) (Nat.le_of_ble_eq_true rfl)
  rw [lg_entry_eq]
  generalize (lg_sl ([.int p0]) ++ List.replicate (1 - (lg_sl ([.int p0])).length) Slot.unset).toArray = ls at hl ⊢
  have hl : lv_has ls 1 [(0, .int p0)] := hl
  have hF : F_X11_isHour τ Z gi gr p0 = F_X11_isHour τ Z gi gr p0 := rfl
  refine lv_iload_n hx hb dX11_isHour_0 rfl (lv_at hl 0 rfl) ?_
  refine lv_iconst (v := 0) hx hb dX11_isHour_1 ic_0 ?_
  refine lv_bipush (v := 23) hx hb dX11_isHour_2 bp_23 ?_
  have hA1 := th_Asub (τ := τ) hS
  refine va_calli (va_runS (As := [.int p0, .int 0, .int 23]) (rest := []) ⟨hx, hb, hml, hown, hts⟩ (k_X11_within l D cA Z τ gi gr _ p0 0 23) (va_cwS 3 hts gX11_isHour_X11_within rfl rfl rfl (by decide +kernel) ⟨Nat.le_of_ble_eq_true rfl, Nat.le_of_ble_eq_true rfl⟩) ⟨th_blind, (th_pre hH hK hN hZ hS hA1)⟩ rfl rfl hl.1 rfl (lv_room (Nat.le_of_ble_eq_true rfl)) dX11_isHour_4 ⟨Nat.le_of_ble_eq_true rfl, Nat.le_of_ble_eq_true rfl⟩) hS (fun q _ h => hA1 q h) hA1 (fun x2 u t H locs ht hvm hw2 hB hz1 hk1 hS => ?_)
  try dsimp only at hw2 hB
  rw [ht] at hB
  have hH := hB
  exact W.zret (v := x2) hx hb hr (rg_nb hw2.1) (fun t ht hW => ⟨⟨x2, (), rfl, ⟨hw2.1, (fun h9 => rg_wi rgc_0 rgc_23 (hw2.2.1 h9)), (hF.trans (by simp only [F_X11_isHour, hw2.2.2.1])), (fun h9 h8 => (hw2.2.2.2 h9) (rg_iw (by decide) (by decide) h8))⟩, th_Ht ht hH⟩, hS.F ht⟩) hS.2.2 dX11_isHour_7

noncomputable def F_X11_isFlag (τ : th_t) (Z : th_Zt) (gi : th_i) (gr : th_r) (p0 : Int32) : Int32 :=
  let x2 : Int32 := F_X11_within τ Z gi gr p0 0 1
  x2
set_option maxHeartbeats 8000000 in
set_option maxRecDepth 100000 in
theorem k_X11_isFlag (l : Launch) (D : va_G) (cA : Nat → ClassId) (Z : th_Zt) (τ : th_t) (gi : th_i) (gr : th_r) (sz : Nat) (p0 : Int32) : Met l yX11_isFlag wsX11_isFlag ({ frames := 1, cells := 0, slots := 0, locals := 22 }) (va_Pc [.int p0] (th_Pre D cA Z τ gi gr sz)) (va_Qi (fun (r : Int32) (_ : Unit) => rg 0 1 r ∧ (¬ r = 0 → rg 0 1 p0) ∧ (F_X11_isFlag τ Z gi gr p0 = r) ∧ (r = 0 → ¬ rg 0 1 p0)) (fun (_ : Unit) t => th_H D cA τ gi gr t.heap) (th_A τ sz)) 0 0 (th_A τ sz) := by
  refine Met.ofW (cc := cX11_isFlag) (maxL := 1) (ret := (some .boolean)) (by decide) rfl ?_
  intro p e s m args below meth c s₁ B hml hv
  obtain ⟨rfl, hsz, hH, hK, hN, hZ⟩ := hv
  have hx := B.exec
  have hb := B.bytes
  have hr := B.returns
  have hts := atoms_spec (ws := wsX11_isFlag) B.pre
  have hown : s.vm.findClass RX11 = some m.cls := findClass_of_methodNamed B.named
  have hlocks := B.notSynchronized
  subst hsz
  have hS : va_S (th_A τ s.heap.size) s.heap s.heap [] := va_S.rf
  have hl := lv_entry ([.int p0]) (n := 1) (Nat.le_of_ble_eq_true rfl)
  rw [lg_entry_eq]
  generalize (lg_sl ([.int p0]) ++ List.replicate (1 - (lg_sl ([.int p0])).length) Slot.unset).toArray = ls at hl ⊢
  have hl : lv_has ls 1 [(0, .int p0)] := hl
  have hF : F_X11_isFlag τ Z gi gr p0 = F_X11_isFlag τ Z gi gr p0 := rfl
  refine lv_iload_n hx hb dX11_isFlag_0 rfl (lv_at hl 0 rfl) ?_
  refine lv_iconst (v := 0) hx hb dX11_isFlag_1 ic_0 ?_
  refine lv_iconst (v := 1) hx hb dX11_isFlag_2 ic_1 ?_
  have hA1 := th_Asub (τ := τ) hS
  refine va_calli (va_runS (As := [.int p0, .int 0, .int 1]) (rest := []) ⟨hx, hb, hml, hown, hts⟩ (k_X11_within l D cA Z τ gi gr _ p0 0 1) (va_cwS 3 hts gX11_isFlag_X11_within rfl rfl rfl (by decide +kernel) ⟨Nat.le_of_ble_eq_true rfl, Nat.le_of_ble_eq_true rfl⟩) ⟨th_blind, (th_pre hH hK hN hZ hS hA1)⟩ rfl rfl hl.1 rfl (lv_room (Nat.le_of_ble_eq_true rfl)) dX11_isFlag_3 ⟨Nat.le_of_ble_eq_true rfl, Nat.le_of_ble_eq_true rfl⟩) hS (fun q _ h => hA1 q h) hA1 (fun x2 u t H locs ht hvm hw2 hB hz1 hk1 hS => ?_)
  try dsimp only at hw2 hB
  rw [ht] at hB
  have hH := hB
  exact W.zret (v := x2) hx hb hr (rg_nb hw2.1) (fun t ht hW => ⟨⟨x2, (), rfl, ⟨hw2.1, (fun h9 => rg_wi rgc_0 rgc_1 (hw2.2.1 h9)), (hF.trans (by simp only [F_X11_isFlag, hw2.2.2.1])), (fun h9 h8 => (hw2.2.2.2 h9) (rg_iw (by decide) (by decide) h8))⟩, th_Ht ht hH⟩, hS.F ht⟩) hS.2.2 dX11_isFlag_6

noncomputable def F_X11_isForce (τ : th_t) (Z : th_Zt) (gi : th_i) (gr : th_r) (p0 : Int32) : Int32 :=
  let x2 : Int32 := F_X11_within τ Z gi gr p0 1 100
  x2
set_option maxHeartbeats 8000000 in
set_option maxRecDepth 100000 in
theorem k_X11_isForce (l : Launch) (D : va_G) (cA : Nat → ClassId) (Z : th_Zt) (τ : th_t) (gi : th_i) (gr : th_r) (sz : Nat) (p0 : Int32) : Met l yX11_isForce wsX11_isForce ({ frames := 1, cells := 0, slots := 0, locals := 22 }) (va_Pc [.int p0] (th_Pre D cA Z τ gi gr sz)) (va_Qi (fun (r : Int32) (_ : Unit) => rg 0 1 r ∧ (¬ r = 0 → rg 1 100 p0) ∧ (F_X11_isForce τ Z gi gr p0 = r) ∧ (r = 0 → ¬ rg 1 100 p0)) (fun (_ : Unit) t => th_H D cA τ gi gr t.heap) (th_A τ sz)) 0 0 (th_A τ sz) := by
  refine Met.ofW (cc := cX11_isForce) (maxL := 1) (ret := (some .boolean)) (by decide) rfl ?_
  intro p e s m args below meth c s₁ B hml hv
  obtain ⟨rfl, hsz, hH, hK, hN, hZ⟩ := hv
  have hx := B.exec
  have hb := B.bytes
  have hr := B.returns
  have hts := atoms_spec (ws := wsX11_isForce) B.pre
  have hown : s.vm.findClass RX11 = some m.cls := findClass_of_methodNamed B.named
  have hlocks := B.notSynchronized
  subst hsz
  have hS : va_S (th_A τ s.heap.size) s.heap s.heap [] := va_S.rf
  have hl := lv_entry ([.int p0]) (n := 1) (Nat.le_of_ble_eq_true rfl)
  rw [lg_entry_eq]
  generalize (lg_sl ([.int p0]) ++ List.replicate (1 - (lg_sl ([.int p0])).length) Slot.unset).toArray = ls at hl ⊢
  have hl : lv_has ls 1 [(0, .int p0)] := hl
  have hF : F_X11_isForce τ Z gi gr p0 = F_X11_isForce τ Z gi gr p0 := rfl
  refine lv_iload_n hx hb dX11_isForce_0 rfl (lv_at hl 0 rfl) ?_
  refine lv_iconst (v := 1) hx hb dX11_isForce_1 ic_1 ?_
  refine lv_bipush (v := 100) hx hb dX11_isForce_2 bp_100 ?_
  have hA1 := th_Asub (τ := τ) hS
  refine va_calli (va_runS (As := [.int p0, .int 1, .int 100]) (rest := []) ⟨hx, hb, hml, hown, hts⟩ (k_X11_within l D cA Z τ gi gr _ p0 1 100) (va_cwS 3 hts gX11_isForce_X11_within rfl rfl rfl (by decide +kernel) ⟨Nat.le_of_ble_eq_true rfl, Nat.le_of_ble_eq_true rfl⟩) ⟨th_blind, (th_pre hH hK hN hZ hS hA1)⟩ rfl rfl hl.1 rfl (lv_room (Nat.le_of_ble_eq_true rfl)) dX11_isForce_4 ⟨Nat.le_of_ble_eq_true rfl, Nat.le_of_ble_eq_true rfl⟩) hS (fun q _ h => hA1 q h) hA1 (fun x2 u t H locs ht hvm hw2 hB hz1 hk1 hS => ?_)
  try dsimp only at hw2 hB
  rw [ht] at hB
  have hH := hB
  exact W.zret (v := x2) hx hb hr (rg_nb hw2.1) (fun t ht hW => ⟨⟨x2, (), rfl, ⟨hw2.1, (fun h9 => rg_wi rgc_1 rgc_100 (hw2.2.1 h9)), (hF.trans (by simp only [F_X11_isForce, hw2.2.2.1])), (fun h9 h8 => (hw2.2.2.2 h9) (rg_iw (by decide) (by decide) h8))⟩, th_Ht ht hH⟩, hS.F ht⟩) hS.2.2 dX11_isForce_7

noncomputable def F_X1_buoyOf (τ : th_t) (Z : th_Zt) (gi : th_i) (gr : th_r) (h0 : Nat) (p1 : Int32) : Int32 :=
  let x2 : Int32 := F_X11_within τ Z gi gr p1 0 15
  if x2 = (0 : Int32) then (
    (-1)) else (
    let q9 : Nat := (gr h0 0).getD 0
    let x10 : Int32 := gi q9 p1.toNatClampNeg
    x10)
set_option maxHeartbeats 8000000 in
set_option maxRecDepth 100000 in
theorem k_X1_buoyOf (l : Launch) (D : va_G) (cA : Nat → ClassId) (Z : th_Zt) (τ : th_t) (gi : th_i) (gr : th_r) (sz : Nat) (h0 : Nat) (t_h0 : τ h0 = 2) (p1 : Int32) : Met l yX1_buoyOf wsX1_buoyOf ({ frames := 1, cells := 0, slots := 0, locals := 22 }) (va_Pc [.ref h0, .int p1] (th_Pre D cA Z τ gi gr sz)) (va_Qi (fun (r : Int32) (_ : Unit) => (F_X1_buoyOf τ Z gi gr h0 p1 = r)) (fun (_ : Unit) t => th_H D cA τ gi gr t.heap) (th_A τ sz)) 0 0 (th_A τ sz) := by
  refine Met.ofW (cc := cX1_buoyOf) (maxL := 2) (ret := (some .int)) (by decide) rfl ?_
  intro p e s m args below meth c s₁ B hml hv
  obtain ⟨rfl, hsz, hH, hK, hN, hZ⟩ := hv
  have hx := B.exec
  have hb := B.bytes
  have hr := B.returns
  have hts := atoms_spec (ws := wsX1_buoyOf) B.pre
  have hown : s.vm.findClass RX1 = some m.cls := findClass_of_methodNamed B.named
  have hlocks := B.notSynchronized
  subst hsz
  have hS : va_S (th_A τ s.heap.size) s.heap s.heap [] := va_S.rf
  have hl := lv_entry ([.ref h0, .int p1]) (n := 2) (Nat.le_of_ble_eq_true rfl)
  rw [lg_entry_eq]
  generalize (lg_sl ([.ref h0, .int p1]) ++ List.replicate (2 - (lg_sl ([.ref h0, .int p1])).length) Slot.unset).toArray = ls at hl ⊢
  have hl : lv_has ls 2 [(0, .ref h0), (1, .int p1)] := hl
  have hF : F_X1_buoyOf τ Z gi gr h0 p1 = F_X1_buoyOf τ Z gi gr h0 p1 := rfl
  refine lv_iload_n hx hb dX1_buoyOf_0 rfl (lv_at hl 1 rfl) ?_
  refine lv_iconst (v := 0) hx hb dX1_buoyOf_1 ic_0 ?_
  refine lv_bipush (v := 15) hx hb dX1_buoyOf_2 bp_15 ?_
  have hA1 := th_Asub (τ := τ) hS
  refine va_calli (va_runSN (As := [.int p1, .int 0, .int 15]) (rest := []) ⟨hx, hb, hml, hown, hts⟩ (k_X11_within l D cA Z τ gi gr _ p1 0 15) ⟨va_cnB (host := RX11) 3 hts gX1_buoyOf_X11_within_n24 rfl rfl rfl hN.2.2.2.1 (hts (.initialized RX11) (List.mem_cons_of_mem _ (List.mem_append_left _ (List.mem_of_getElem? (i := 2) rfl)))) (by decide +kernel) ⟨Nat.le_of_ble_eq_true rfl, Nat.le_of_ble_eq_true rfl⟩, (hts (.static yX11_within) (List.mem_cons_of_mem _ (List.mem_append_left _ (List.mem_of_getElem? (i := 1) rfl)))), trivial⟩ ⟨th_blind, (th_pre hH hK hN hZ hS hA1)⟩ rfl rfl hl.1 rfl (lv_room (Nat.le_of_ble_eq_true rfl)) dX1_buoyOf_4 ⟨Nat.le_of_ble_eq_true rfl, Nat.le_of_ble_eq_true rfl⟩) hS (fun q _ h => hA1 q h) hA1 (fun x2 u t H locs ht hvm hw2 hB hz1 hk1 hS => ?_)
  try dsimp only at hw2 hB
  rw [ht] at hB
  have hH := hB
  refine lv_if_eq (tgt := 19) hx hb dX1_buoyOf_7 (th_eqI rfl) (fun c3 => ?_) (fun c3 => ?_)
  · skip
    have f4 : rg 0 0 x2 := rg_w (rg_eq hw2.1 rgc_0 c3).1 (th_leI rfl) (th_leI rfl)
    refine lv_iconst (v := (-1)) hx hb dX1_buoyOf_19 ic_m1 ?_
    exact W.iret (v := (-1)) hx hb hr (fun t ht hW => ⟨⟨(-1), (), rfl, (hF.trans (by simp only [↓reduceIte, F_X1_buoyOf, hw2.2.2.1, eq_true c3])), th_Ht ht hH⟩, hS.F ht⟩) hS.2.2 dX1_buoyOf_20
  · skip
    have f5 : rg 1 1 x2 := rg_w (rg_neL hw2.1 rgc_0 c3) (th_leI rfl) (th_leI rfl)
    have g6 := hw2.2.1 c3
    have f7 : rg 0 2147483647 p1 := rg_w (rg_le rgc_0 (rg_any p1) g6.1).2 (th_leI rfl) (th_leI rfl)
    have f8 : rg 0 15 p1 := rg_w (rg_le f7 rgc_15 g6.2).1 (th_leI rfl) (th_leI rfl)
    refine lv_aload_n hx hb dX1_buoyOf_10 rfl (lv_at hl 0 rfl) ?_
    obtain ⟨q9, r9, t9⟩ : ∃ q, gr h0 0 = some q ∧ τ q = 24 := (thI_2 hH t_h0).1
    refine th_get (ci := 1) (v := .ref q9) (T := TX1) (C := RX1) (N := 2) hx hb hts (fun w h => List.mem_cons_of_mem _ (List.mem_append_right _ h)) hown hK hH t_h0 (th_nz rfl) (thE_2 _ _ _) rfl 0 (th_ltN rfl) (hts (.fieldLink RX1 9 "BayMoorings$Berths" "buoyOfBoat" "[I") (List.mem_cons_of_mem _ (List.mem_append_left _ (List.mem_of_getElem? (i := 0) rfl)))) (fun _ h9 => h9) (th_fR r9 rfl) dX1_buoyOf_11 ?_
    refine lv_iload_n hx hb dX1_buoyOf_14 rfl (lv_at hl 1 rfl) ?_
    refine th_iald hx hb hK hH t9 (th_nz rfl) 0 (thE_24 _ _ _) rfl (rg_in (n := 16) f8 (th_leI rfl) (th_ltI rfl)) dX1_buoyOf_15 ?_
    refine lv_topi (fun x10 e10 => ?_)
    refine lv_goto (tgt := 20) hx hb dX1_buoyOf_16 (th_eqI rfl) ?_
    exact W.iret (v := x10) hx hb hr (fun t ht hW => ⟨⟨x10, (), rfl, (hF.trans (by simp only [↓reduceIte, F_X1_buoyOf, hw2.2.2.1, eq_false c3, r9, Option.getD_some, ← e10])), th_Ht ht hH⟩, hS.F ht⟩) hS.2.2 dX1_buoyOf_20

noncomputable def F_X1_boatOf (τ : th_t) (Z : th_Zt) (gi : th_i) (gr : th_r) (h0 : Nat) (p1 : Int32) : Int32 :=
  let x2 : Int32 := F_X11_within τ Z gi gr p1 0 11
  if x2 = (0 : Int32) then (
    (-1)) else (
    let q9 : Nat := (gr h0 1).getD 0
    let x10 : Int32 := gi q9 p1.toNatClampNeg
    x10)
set_option maxHeartbeats 8000000 in
set_option maxRecDepth 100000 in
theorem k_X1_boatOf (l : Launch) (D : va_G) (cA : Nat → ClassId) (Z : th_Zt) (τ : th_t) (gi : th_i) (gr : th_r) (sz : Nat) (h0 : Nat) (t_h0 : τ h0 = 2) (p1 : Int32) : Met l yX1_boatOf wsX1_boatOf ({ frames := 1, cells := 0, slots := 0, locals := 22 }) (va_Pc [.ref h0, .int p1] (th_Pre D cA Z τ gi gr sz)) (va_Qi (fun (r : Int32) (_ : Unit) => (F_X1_boatOf τ Z gi gr h0 p1 = r)) (fun (_ : Unit) t => th_H D cA τ gi gr t.heap) (th_A τ sz)) 0 0 (th_A τ sz) := by
  refine Met.ofW (cc := cX1_boatOf) (maxL := 2) (ret := (some .int)) (by decide) rfl ?_
  intro p e s m args below meth c s₁ B hml hv
  obtain ⟨rfl, hsz, hH, hK, hN, hZ⟩ := hv
  have hx := B.exec
  have hb := B.bytes
  have hr := B.returns
  have hts := atoms_spec (ws := wsX1_boatOf) B.pre
  have hown : s.vm.findClass RX1 = some m.cls := findClass_of_methodNamed B.named
  have hlocks := B.notSynchronized
  subst hsz
  have hS : va_S (th_A τ s.heap.size) s.heap s.heap [] := va_S.rf
  have hl := lv_entry ([.ref h0, .int p1]) (n := 2) (Nat.le_of_ble_eq_true rfl)
  rw [lg_entry_eq]
  generalize (lg_sl ([.ref h0, .int p1]) ++ List.replicate (2 - (lg_sl ([.ref h0, .int p1])).length) Slot.unset).toArray = ls at hl ⊢
  have hl : lv_has ls 2 [(0, .ref h0), (1, .int p1)] := hl
  have hF : F_X1_boatOf τ Z gi gr h0 p1 = F_X1_boatOf τ Z gi gr h0 p1 := rfl
  refine lv_iload_n hx hb dX1_boatOf_0 rfl (lv_at hl 1 rfl) ?_
  refine lv_iconst (v := 0) hx hb dX1_boatOf_1 ic_0 ?_
  refine lv_bipush (v := 11) hx hb dX1_boatOf_2 bp_11 ?_
  have hA1 := th_Asub (τ := τ) hS
  refine va_calli (va_runSN (As := [.int p1, .int 0, .int 11]) (rest := []) ⟨hx, hb, hml, hown, hts⟩ (k_X11_within l D cA Z τ gi gr _ p1 0 11) ⟨va_cnB (host := RX11) 3 hts gX1_boatOf_X11_within_n24 rfl rfl rfl hN.2.2.2.1 (hts (.initialized RX11) (List.mem_cons_of_mem _ (List.mem_append_left _ (List.mem_of_getElem? (i := 2) rfl)))) (by decide +kernel) ⟨Nat.le_of_ble_eq_true rfl, Nat.le_of_ble_eq_true rfl⟩, (hts (.static yX11_within) (List.mem_cons_of_mem _ (List.mem_append_left _ (List.mem_of_getElem? (i := 1) rfl)))), trivial⟩ ⟨th_blind, (th_pre hH hK hN hZ hS hA1)⟩ rfl rfl hl.1 rfl (lv_room (Nat.le_of_ble_eq_true rfl)) dX1_boatOf_4 ⟨Nat.le_of_ble_eq_true rfl, Nat.le_of_ble_eq_true rfl⟩) hS (fun q _ h => hA1 q h) hA1 (fun x2 u t H locs ht hvm hw2 hB hz1 hk1 hS => ?_)
  try dsimp only at hw2 hB
  rw [ht] at hB
  have hH := hB
  refine lv_if_eq (tgt := 19) hx hb dX1_boatOf_7 (th_eqI rfl) (fun c3 => ?_) (fun c3 => ?_)
  · skip
    have f4 : rg 0 0 x2 := rg_w (rg_eq hw2.1 rgc_0 c3).1 (th_leI rfl) (th_leI rfl)
    refine lv_iconst (v := (-1)) hx hb dX1_boatOf_19 ic_m1 ?_
    exact W.iret (v := (-1)) hx hb hr (fun t ht hW => ⟨⟨(-1), (), rfl, (hF.trans (by simp only [↓reduceIte, F_X1_boatOf, hw2.2.2.1, eq_true c3])), th_Ht ht hH⟩, hS.F ht⟩) hS.2.2 dX1_boatOf_20
  · skip
    have f5 : rg 1 1 x2 := rg_w (rg_neL hw2.1 rgc_0 c3) (th_leI rfl) (th_leI rfl)
    have g6 := hw2.2.1 c3
    have f7 : rg 0 2147483647 p1 := rg_w (rg_le rgc_0 (rg_any p1) g6.1).2 (th_leI rfl) (th_leI rfl)
    have f8 : rg 0 11 p1 := rg_w (rg_le f7 rgc_11 g6.2).1 (th_leI rfl) (th_leI rfl)
    refine lv_aload_n hx hb dX1_boatOf_10 rfl (lv_at hl 0 rfl) ?_
    obtain ⟨q9, r9, t9⟩ : ∃ q, gr h0 1 = some q ∧ τ q = 25 := (thI_2 hH t_h0).2
    refine th_get (ci := 1) (v := .ref q9) (T := TX1) (C := RX1) (N := 2) hx hb hts (fun w h => List.mem_cons_of_mem _ (List.mem_append_right _ h)) hown hK hH t_h0 (th_nz rfl) (thE_2 _ _ _) rfl 1 (th_ltN rfl) (hts (.fieldLink RX1 15 "BayMoorings$Berths" "boatOfBuoy" "[I") (List.mem_cons_of_mem _ (List.mem_append_left _ (List.mem_of_getElem? (i := 0) rfl)))) (fun _ h9 => h9) (th_fR r9 rfl) dX1_boatOf_11 ?_
    refine lv_iload_n hx hb dX1_boatOf_14 rfl (lv_at hl 1 rfl) ?_
    refine th_iald hx hb hK hH t9 (th_nz rfl) 0 (thE_25 _ _ _) rfl (rg_in (n := 12) f8 (th_leI rfl) (th_ltI rfl)) dX1_boatOf_15 ?_
    refine lv_topi (fun x10 e10 => ?_)
    refine lv_goto (tgt := 20) hx hb dX1_boatOf_16 (th_eqI rfl) ?_
    exact W.iret (v := x10) hx hb hr (fun t ht hW => ⟨⟨x10, (), rfl, (hF.trans (by simp only [↓reduceIte, F_X1_boatOf, hw2.2.2.1, eq_false c3, r9, Option.getD_some, ← e10])), th_Ht ht hH⟩, hS.F ht⟩) hS.2.2 dX1_boatOf_20

noncomputable def F_X1_put (τ : th_t) (Z : th_Zt) (gi : th_i) (gr : th_r) (h0 : Nat) (p1 : Int32) (p2 : Int32) : th_i :=
  let x2 : Int32 := F_X11_within τ Z gi gr p1 0 15
  if x2 = (0 : Int32) then (
    (gi)) else (
    let x10 : Int32 := F_X11_within τ Z gi gr p2 0 11
    if x10 = (0 : Int32) then (
      (gi)) else (
      let q17 : Nat := (gr h0 0).getD 0
      let gi18 : th_i := va_up gi q17 (upd (gi q17) p1.toNatClampNeg p2)
      let q19 : Nat := (gr h0 1).getD 0
      let gi20 : th_i := va_up gi18 q19 (upd (gi18 q19) p2.toNatClampNeg p1)
      (gi20)))
set_option maxHeartbeats 8000000 in
set_option maxRecDepth 100000 in
theorem k_X1_put (l : Launch) (D : va_G) (cA : Nat → ClassId) (Z : th_Zt) (τ : th_t) (gi : th_i) (gr : th_r) (sz : Nat) (h0 : Nat) (t_h0 : τ h0 = 2) (p1 : Int32) (p2 : Int32) : Met l yX1_put wsX1_put ({ frames := 1, cells := 0, slots := 0, locals := 22 }) (va_Pc [.ref h0, .int p1, .int p2] (th_Pre D cA Z τ gi gr sz)) (va_Qv (fun (u : th_i × th_r) => th_Mod [2400, 2500] τ gi gr u.1 u.2 ∧ u.2 = gr ∧ (F_X1_put τ Z gi gr h0 p1 p2 = u.1)) (fun (u : th_i × th_r) t => th_H D cA τ u.1 u.2 t.heap) (th_A τ sz)) 0 0 (th_A τ sz) := by
  refine Met.ofW (cc := cX1_put) (maxL := 3) (ret := none) (by decide) rfl ?_
  intro p e s m args below meth c s₁ B hml hv
  obtain ⟨rfl, hsz, hH, hK, hN, hZ⟩ := hv
  have hx := B.exec
  have hb := B.bytes
  have hr := B.returns
  have hts := atoms_spec (ws := wsX1_put) B.pre
  have hown : s.vm.findClass RX1 = some m.cls := findClass_of_methodNamed B.named
  have hlocks := B.notSynchronized
  subst hsz
  have hM : th_Mod [2400, 2500] τ gi gr gi gr := th_Mod.rf
  have hS : va_S (th_A τ s.heap.size) s.heap s.heap [] := va_S.rf
  have hl := lv_entry ([.ref h0, .int p1, .int p2]) (n := 3) (Nat.le_of_ble_eq_true rfl)
  rw [lg_entry_eq]
  generalize (lg_sl ([.ref h0, .int p1, .int p2]) ++ List.replicate (3 - (lg_sl ([.ref h0, .int p1, .int p2])).length) Slot.unset).toArray = ls at hl ⊢
  have hl : lv_has ls 3 [(0, .ref h0), (1, .int p1), (2, .int p2)] := hl
  have hF : F_X1_put τ Z gi gr h0 p1 p2 = F_X1_put τ Z gi gr h0 p1 p2 := rfl
  refine lv_iload_n hx hb dX1_put_0 rfl (lv_at hl 1 rfl) ?_
  refine lv_iconst (v := 0) hx hb dX1_put_1 ic_0 ?_
  refine lv_bipush (v := 15) hx hb dX1_put_2 bp_15 ?_
  have hA1 := th_Asub (τ := τ) hS
  refine va_calli (va_runSN (As := [.int p1, .int 0, .int 15]) (rest := []) ⟨hx, hb, hml, hown, hts⟩ (k_X11_within l D cA Z τ gi gr _ p1 0 15) ⟨va_cnB (host := RX11) 3 hts gX1_put_X11_within_n24 rfl rfl rfl hN.2.2.2.1 (hts (.initialized RX11) (List.mem_cons_of_mem _ (List.mem_append_left _ (List.mem_of_getElem? (i := 3) rfl)))) (by decide +kernel) ⟨Nat.le_of_ble_eq_true rfl, Nat.le_of_ble_eq_true rfl⟩, (hts (.static yX11_within) (List.mem_cons_of_mem _ (List.mem_append_left _ (List.mem_of_getElem? (i := 2) rfl)))), trivial⟩ ⟨th_blind, (th_pre hH hK hN hZ hS hA1)⟩ rfl rfl hl.1 rfl (lv_room (Nat.le_of_ble_eq_true rfl)) dX1_put_4 ⟨Nat.le_of_ble_eq_true rfl, Nat.le_of_ble_eq_true rfl⟩) hS (fun q _ h => hA1 q h) hA1 (fun x2 u t H locs ht hvm hw2 hB hz1 hk1 hS => ?_)
  try dsimp only at hw2 hB
  rw [ht] at hB
  have hH := hB
  refine lv_if_eq (tgt := 34) hx hb dX1_put_7 (th_eqI rfl) (fun c3 => ?_) (fun c3 => ?_)
  · skip
    have f4 : rg 0 0 x2 := rg_w (rg_eq hw2.1 rgc_0 c3).1 (th_leI rfl) (th_leI rfl)
    exact W.vret hx hb hr (fun t ht hW => ⟨⟨(gi, gr), rfl, ⟨hM, rfl, (hF.trans (by simp only [↓reduceIte, F_X1_put, hw2.2.2.1, eq_true c3]))⟩, th_Ht ht hH⟩, hS.F ht⟩) hS.2.2 dX1_put_34
  · skip
    have f5 : rg 1 1 x2 := rg_w (rg_neL hw2.1 rgc_0 c3) (th_leI rfl) (th_leI rfl)
    have g6 := hw2.2.1 c3
    have f7 : rg 0 2147483647 p1 := rg_w (rg_le rgc_0 (rg_any p1) g6.1).2 (th_leI rfl) (th_leI rfl)
    have f8 : rg 0 15 p1 := rg_w (rg_le f7 rgc_15 g6.2).1 (th_leI rfl) (th_leI rfl)
    refine lv_iload_n hx hb dX1_put_10 rfl (lv_at hl 2 rfl) ?_
    refine lv_iconst (v := 0) hx hb dX1_put_11 ic_0 ?_
    refine lv_bipush (v := 11) hx hb dX1_put_12 bp_11 ?_
    have hA9 := th_Asub (τ := τ) hS
    refine va_calli (va_runSN (As := [.int p2, .int 0, .int 11]) (rest := []) ⟨hx, hb, hml, hown, hts⟩ (k_X11_within l D cA Z τ gi gr _ p2 0 11) ⟨va_cnB (host := RX11) 3 hts gX1_put_X11_within_n24 rfl rfl rfl hN.2.2.2.1 (hts (.initialized RX11) (List.mem_cons_of_mem _ (List.mem_append_left _ (List.mem_of_getElem? (i := 3) rfl)))) (by decide +kernel) ⟨Nat.le_of_ble_eq_true rfl, Nat.le_of_ble_eq_true rfl⟩, (hts (.static yX11_within) (List.mem_cons_of_mem _ (List.mem_append_left _ (List.mem_of_getElem? (i := 2) rfl)))), trivial⟩ ⟨th_blind, (th_pre hH hK hN hZ hS hA9)⟩ rfl rfl hl.1 rfl (lv_room (Nat.le_of_ble_eq_true rfl)) dX1_put_14 ⟨Nat.le_of_ble_eq_true rfl, Nat.le_of_ble_eq_true rfl⟩) hS (fun q _ h => hA9 q h) hA9 (fun x10 u t H locs ht hvm hw10 hB hz1 hk1 hS => ?_)
    try dsimp only at hw10 hB
    rw [ht] at hB
    have hH := hB
    refine lv_if_eq (tgt := 34) hx hb dX1_put_17 (th_eqI rfl) (fun c11 => ?_) (fun c11 => ?_)
    · skip
      have f12 : rg 0 0 x10 := rg_w (rg_eq hw10.1 rgc_0 c11).1 (th_leI rfl) (th_leI rfl)
      exact W.vret hx hb hr (fun t ht hW => ⟨⟨(gi, gr), rfl, ⟨hM, rfl, (hF.trans (by simp only [↓reduceIte, F_X1_put, hw2.2.2.1, eq_false c3, hw10.2.2.1, eq_true c11]))⟩, th_Ht ht hH⟩, hS.F ht⟩) hS.2.2 dX1_put_34
    · skip
      have f13 : rg 1 1 x10 := rg_w (rg_neL hw10.1 rgc_0 c11) (th_leI rfl) (th_leI rfl)
      have g14 := hw10.2.1 c11
      have f15 : rg 0 2147483647 p2 := rg_w (rg_le rgc_0 (rg_any p2) g14.1).2 (th_leI rfl) (th_leI rfl)
      have f16 : rg 0 11 p2 := rg_w (rg_le f15 rgc_11 g14.2).1 (th_leI rfl) (th_leI rfl)
      refine lv_aload_n hx hb dX1_put_20 rfl (lv_at hl 0 rfl) ?_
      obtain ⟨q17, r17, t17⟩ : ∃ q, gr h0 0 = some q ∧ τ q = 24 := (thI_2 hH t_h0).1
      refine th_get (ci := 1) (v := .ref q17) (T := TX1) (C := RX1) (N := 2) hx hb hts (fun w h => List.mem_cons_of_mem _ (List.mem_append_right _ h)) hown hK hH t_h0 (th_nz rfl) (thE_2 _ _ _) rfl 0 (th_ltN rfl) (hts (.fieldLink RX1 9 "BayMoorings$Berths" "buoyOfBoat" "[I") (List.mem_cons_of_mem _ (List.mem_append_left _ (List.mem_of_getElem? (i := 0) rfl)))) (fun _ h9 => h9) (th_fR r17 rfl) dX1_put_21 ?_
      refine lv_iload_n hx hb dX1_put_24 rfl (lv_at hl 1 rfl) ?_
      refine lv_iload_n hx hb dX1_put_25 rfl (lv_at hl 2 rfl) ?_
      refine th_iast hx hb hK hH hS t17 (th_nz rfl) (Or.inl (th_nzE t17 rfl)) 0 (fun _ => thE_24 _ _ _) rfl (rg_in (n := 16) f8 (th_leI rfl) (th_ltI rfl)) (trivial) dX1_put_26 (fun gi18 H locs hu18 ho18 hH hS => ?_)
      have eg18 : gi18 = va_up gi q17 (upd (gi q17) p1.toNatClampNeg p2) := th_upE hu18 ho18
      have hM := hM.i t17 (th_mem (a := 2400) rfl) ho18
      refine lv_aload_n hx hb dX1_put_27 rfl (lv_at hl 0 rfl) ?_
      obtain ⟨q19, r19, t19⟩ : ∃ q, gr h0 1 = some q ∧ τ q = 25 := (thI_2 hH t_h0).2
      refine th_get (ci := 1) (v := .ref q19) (T := TX1) (C := RX1) (N := 2) hx hb hts (fun w h => List.mem_cons_of_mem _ (List.mem_append_right _ h)) hown hK hH t_h0 (th_nz rfl) (thE_2 _ _ _) rfl 1 (th_ltN rfl) (hts (.fieldLink RX1 15 "BayMoorings$Berths" "boatOfBuoy" "[I") (List.mem_cons_of_mem _ (List.mem_append_left _ (List.mem_of_getElem? (i := 1) rfl)))) (fun _ h9 => h9) (th_fR r19 rfl) dX1_put_28 ?_
      refine lv_iload_n hx hb dX1_put_31 rfl (lv_at hl 2 rfl) ?_
      refine lv_iload_n hx hb dX1_put_32 rfl (lv_at hl 1 rfl) ?_
      refine th_iast hx hb hK hH hS t19 (th_nz rfl) (Or.inl (th_nzE t19 rfl)) 0 (fun _ => thE_25 _ _ _) rfl (rg_in (n := 12) f16 (th_leI rfl) (th_ltI rfl)) (trivial) dX1_put_33 (fun gi20 H locs hu20 ho20 hH hS => ?_)
      have eg20 : gi20 = va_up gi18 q19 (upd (gi18 q19) p2.toNatClampNeg p1) := th_upE hu20 ho20
      have e21 : p2 = gi20 q17 (p1.toNatClampNeg) := Eq.trans hu18.symm (Eq.symm (ho20 _ _ (Or.inl (th_ne t17 t19 (th_nz rfl)))))
      have hM := hM.i t19 (th_mem (a := 2500) rfl) ho20
      exact W.vret hx hb hr (fun t ht hW => ⟨⟨(gi20, gr), rfl, ⟨hM, rfl, (hF.trans (by simp only [↓reduceIte, F_X1_put, hw2.2.2.1, eq_false c3, hw10.2.2.1, eq_false c11, r17, Option.getD_some, ← eg18, r19, ← eg20]))⟩, th_Ht ht hH⟩, hS.F ht⟩) hS.2.2 dX1_put_34

noncomputable def F_X1_lift (τ : th_t) (Z : th_Zt) (gi : th_i) (gr : th_r) (h0 : Nat) (p1 : Int32) : th_i :=
  let x2 : Int32 := F_X1_buoyOf τ Z gi gr h0 p1
  let x4 : Int32 := F_X11_within τ Z gi gr p1 0 15
  if x4 = (0 : Int32) then (
    (gi)) else (
    let x12 : Int32 := F_X11_within τ Z gi gr x2 0 11
    if x12 = (0 : Int32) then (
      (gi)) else (
      let q19 : Nat := (gr h0 1).getD 0
      let gi20 : th_i := va_up gi q19 (upd (gi q19) x2.toNatClampNeg (-1))
      let q21 : Nat := (gr h0 0).getD 0
      let gi22 : th_i := va_up gi20 q21 (upd (gi20 q21) p1.toNatClampNeg (-1))
      (gi22)))
set_option maxHeartbeats 8000000 in
set_option maxRecDepth 100000 in
theorem k_X1_lift (l : Launch) (D : va_G) (cA : Nat → ClassId) (Z : th_Zt) (τ : th_t) (gi : th_i) (gr : th_r) (sz : Nat) (h0 : Nat) (t_h0 : τ h0 = 2) (p1 : Int32) : Met l yX1_lift wsX1_lift ({ frames := 2, cells := 0, slots := 0, locals := 43 }) (va_Pc [.ref h0, .int p1] (th_Pre D cA Z τ gi gr sz)) (va_Qv (fun (u : th_i × th_r) => th_Mod [2400, 2500] τ gi gr u.1 u.2 ∧ u.2 = gr ∧ (F_X1_lift τ Z gi gr h0 p1 = u.1)) (fun (u : th_i × th_r) t => th_H D cA τ u.1 u.2 t.heap) (th_A τ sz)) 0 0 (th_A τ sz) := by
  refine Met.ofW (cc := cX1_lift) (maxL := 3) (ret := none) (by decide) rfl ?_
  intro p e s m args below meth c s₁ B hml hv
  obtain ⟨rfl, hsz, hH, hK, hN, hZ⟩ := hv
  have hx := B.exec
  have hb := B.bytes
  have hr := B.returns
  have hts := atoms_spec (ws := wsX1_lift) B.pre
  have hown : s.vm.findClass RX1 = some m.cls := findClass_of_methodNamed B.named
  have hlocks := B.notSynchronized
  subst hsz
  have hM : th_Mod [2400, 2500] τ gi gr gi gr := th_Mod.rf
  have hS : va_S (th_A τ s.heap.size) s.heap s.heap [] := va_S.rf
  have hl := lv_entry ([.ref h0, .int p1]) (n := 3) (Nat.le_of_ble_eq_true rfl)
  rw [lg_entry_eq]
  generalize (lg_sl ([.ref h0, .int p1]) ++ List.replicate (3 - (lg_sl ([.ref h0, .int p1])).length) Slot.unset).toArray = ls at hl ⊢
  have hl : lv_has ls 3 [(0, .ref h0), (1, .int p1)] := hl
  have hF : F_X1_lift τ Z gi gr h0 p1 = F_X1_lift τ Z gi gr h0 p1 := rfl
  refine lv_aload_n hx hb dX1_lift_0 rfl (lv_at hl 0 rfl) ?_
  refine lv_iload_n hx hb dX1_lift_1 rfl (lv_at hl 1 rfl) ?_
  have hA1 := th_Asub (τ := τ) hS
  refine va_calli (va_runV (As := [.int p1]) (rest := []) ⟨hx, hb, hml, hown, hts⟩ (k_X1_buoyOf l D cA Z τ gi gr _ h0 t_h0 p1) (cwV 1 hts gX1_lift_X1_buoyOf rfl rfl rfl hd_X1_buoyOf__1 ⟨Nat.le_of_ble_eq_true rfl, Nat.le_of_ble_eq_true rfl⟩) ⟨th_blind, tr_2 hK hH t_h0, (th_pre hH hK hN hZ hS hA1)⟩ rfl rfl hl.1 rfl (lv_room (Nat.le_of_ble_eq_true rfl)) dX1_lift_2 ⟨Nat.le_of_ble_eq_true rfl, Nat.le_of_ble_eq_true rfl⟩) hS (fun q _ h => hA1 q h) hA1 (fun x2 u t H locs ht hvm hw2 hB hz1 hk1 hS => ?_)
  try dsimp only at hw2 hB
  rw [ht] at hB
  have hH := hB
  refine lv_istore_n (i := 2) (lv' := [(2, .int x2), (0, .ref h0), (1, .int p1)]) hx hb dX1_lift_5 rfl hl (th_ltN rfl) rfl (fun ls hl => ?_)
  refine lv_iload_n hx hb dX1_lift_6 rfl (lv_at hl 2 rfl) ?_
  refine lv_iconst (v := 0) hx hb dX1_lift_7 ic_0 ?_
  refine lv_bipush (v := 15) hx hb dX1_lift_8 bp_15 ?_
  have hA3 := th_Asub (τ := τ) hS
  refine va_calli (va_runSN (As := [.int p1, .int 0, .int 15]) (rest := []) ⟨hx, hb, hml, hown, hts⟩ (k_X11_within l D cA Z τ gi gr _ p1 0 15) ⟨va_cnB (host := RX11) 3 hts gX1_lift_X11_within_n24 rfl rfl rfl hN.2.2.2.1 (hts (.initialized RX11) (List.mem_cons_of_mem _ (List.mem_append_left _ (List.mem_of_getElem? (i := 8) rfl)))) (by decide +kernel) ⟨Nat.le_of_ble_eq_true rfl, Nat.le_of_ble_eq_true rfl⟩, (hts (.static yX11_within) (List.mem_cons_of_mem _ (List.mem_append_left _ (List.mem_of_getElem? (i := 7) rfl)))), trivial⟩ ⟨th_blind, (th_pre hH hK hN hZ hS hA3)⟩ rfl rfl hl.1 rfl (lv_room (Nat.le_of_ble_eq_true rfl)) dX1_lift_10 ⟨Nat.le_of_ble_eq_true rfl, Nat.le_of_ble_eq_true rfl⟩) hS (fun q _ h => hA3 q h) hA3 (fun x4 u t H locs ht hvm hw4 hB hz1 hk1 hS => ?_)
  try dsimp only at hw4 hB
  rw [ht] at hB
  have hH := hB
  refine lv_if_eq (tgt := 40) hx hb dX1_lift_13 (th_eqI rfl) (fun c5 => ?_) (fun c5 => ?_)
  · skip
    have f6 : rg 0 0 x4 := rg_w (rg_eq hw4.1 rgc_0 c5).1 (th_leI rfl) (th_leI rfl)
    exact W.vret hx hb hr (fun t ht hW => ⟨⟨(gi, gr), rfl, ⟨hM, rfl, (hF.trans (by simp only [↓reduceIte, F_X1_lift, hw2, hw4.2.2.1, eq_true c5]))⟩, th_Ht ht hH⟩, hS.F ht⟩) hS.2.2 dX1_lift_40
  · skip
    have f7 : rg 1 1 x4 := rg_w (rg_neL hw4.1 rgc_0 c5) (th_leI rfl) (th_leI rfl)
    have g8 := hw4.2.1 c5
    have f9 : rg 0 2147483647 p1 := rg_w (rg_le rgc_0 (rg_any p1) g8.1).2 (th_leI rfl) (th_leI rfl)
    have f10 : rg 0 15 p1 := rg_w (rg_le f9 rgc_15 g8.2).1 (th_leI rfl) (th_leI rfl)
    refine lv_iload_n hx hb dX1_lift_16 rfl (lv_at hl 0 rfl) ?_
    refine lv_iconst (v := 0) hx hb dX1_lift_17 ic_0 ?_
    refine lv_bipush (v := 11) hx hb dX1_lift_18 bp_11 ?_
    have hA11 := th_Asub (τ := τ) hS
    refine va_calli (va_runSN (As := [.int x2, .int 0, .int 11]) (rest := []) ⟨hx, hb, hml, hown, hts⟩ (k_X11_within l D cA Z τ gi gr _ x2 0 11) ⟨va_cnB (host := RX11) 3 hts gX1_lift_X11_within_n24 rfl rfl rfl hN.2.2.2.1 (hts (.initialized RX11) (List.mem_cons_of_mem _ (List.mem_append_left _ (List.mem_of_getElem? (i := 8) rfl)))) (by decide +kernel) ⟨Nat.le_of_ble_eq_true rfl, Nat.le_of_ble_eq_true rfl⟩, (hts (.static yX11_within) (List.mem_cons_of_mem _ (List.mem_append_left _ (List.mem_of_getElem? (i := 7) rfl)))), trivial⟩ ⟨th_blind, (th_pre hH hK hN hZ hS hA11)⟩ rfl rfl hl.1 rfl (lv_room (Nat.le_of_ble_eq_true rfl)) dX1_lift_20 ⟨Nat.le_of_ble_eq_true rfl, Nat.le_of_ble_eq_true rfl⟩) hS (fun q _ h => hA11 q h) hA11 (fun x12 u t H locs ht hvm hw12 hB hz1 hk1 hS => ?_)
    try dsimp only at hw12 hB
    rw [ht] at hB
    have hH := hB
    refine lv_if_eq (tgt := 40) hx hb dX1_lift_23 (th_eqI rfl) (fun c13 => ?_) (fun c13 => ?_)
    · skip
      have f14 : rg 0 0 x12 := rg_w (rg_eq hw12.1 rgc_0 c13).1 (th_leI rfl) (th_leI rfl)
      exact W.vret hx hb hr (fun t ht hW => ⟨⟨(gi, gr), rfl, ⟨hM, rfl, (hF.trans (by simp only [↓reduceIte, F_X1_lift, hw2, hw4.2.2.1, eq_false c5, hw12.2.2.1, eq_true c13]))⟩, th_Ht ht hH⟩, hS.F ht⟩) hS.2.2 dX1_lift_40
    · skip
      have f15 : rg 1 1 x12 := rg_w (rg_neL hw12.1 rgc_0 c13) (th_leI rfl) (th_leI rfl)
      have g16 := hw12.2.1 c13
      have f17 : rg 0 2147483647 x2 := rg_w (rg_le rgc_0 (rg_any x2) g16.1).2 (th_leI rfl) (th_leI rfl)
      have f18 : rg 0 11 x2 := rg_w (rg_le f17 rgc_11 g16.2).1 (th_leI rfl) (th_leI rfl)
      refine lv_aload_n hx hb dX1_lift_26 rfl (lv_at hl 1 rfl) ?_
      obtain ⟨q19, r19, t19⟩ : ∃ q, gr h0 1 = some q ∧ τ q = 25 := (thI_2 hH t_h0).2
      refine th_get (ci := 1) (v := .ref q19) (T := TX1) (C := RX1) (N := 2) hx hb hts (fun w h => List.mem_cons_of_mem _ (List.mem_append_right _ h)) hown hK hH t_h0 (th_nz rfl) (thE_2 _ _ _) rfl 1 (th_ltN rfl) (hts (.fieldLink RX1 15 "BayMoorings$Berths" "boatOfBuoy" "[I") (List.mem_cons_of_mem _ (List.mem_append_left _ (List.mem_of_getElem? (i := 0) rfl)))) (fun _ h9 => h9) (th_fR r19 rfl) dX1_lift_27 ?_
      refine lv_iload_n hx hb dX1_lift_30 rfl (lv_at hl 0 rfl) ?_
      refine lv_iconst (v := (-1)) hx hb dX1_lift_31 ic_m1 ?_
      refine th_iast hx hb hK hH hS t19 (th_nz rfl) (Or.inl (th_nzE t19 rfl)) 0 (fun _ => thE_25 _ _ _) rfl (rg_in (n := 12) f18 (th_leI rfl) (th_ltI rfl)) (trivial) dX1_lift_32 (fun gi20 H locs hu20 ho20 hH hS => ?_)
      have eg20 : gi20 = va_up gi q19 (upd (gi q19) x2.toNatClampNeg (-1)) := th_upE hu20 ho20
      have hM := hM.i t19 (th_mem (a := 2500) rfl) ho20
      refine lv_aload_n hx hb dX1_lift_33 rfl (lv_at hl 1 rfl) ?_
      obtain ⟨q21, r21, t21⟩ : ∃ q, gr h0 0 = some q ∧ τ q = 24 := (thI_2 hH t_h0).1
      refine th_get (ci := 1) (v := .ref q21) (T := TX1) (C := RX1) (N := 2) hx hb hts (fun w h => List.mem_cons_of_mem _ (List.mem_append_right _ h)) hown hK hH t_h0 (th_nz rfl) (thE_2 _ _ _) rfl 0 (th_ltN rfl) (hts (.fieldLink RX1 9 "BayMoorings$Berths" "buoyOfBoat" "[I") (List.mem_cons_of_mem _ (List.mem_append_left _ (List.mem_of_getElem? (i := 1) rfl)))) (fun _ h9 => h9) (th_fR r21 rfl) dX1_lift_34 ?_
      refine lv_iload_n hx hb dX1_lift_37 rfl (lv_at hl 2 rfl) ?_
      refine lv_iconst (v := (-1)) hx hb dX1_lift_38 ic_m1 ?_
      refine th_iast hx hb hK hH hS t21 (th_nz rfl) (Or.inl (th_nzE t21 rfl)) 0 (fun _ => thE_24 _ _ _) rfl (rg_in (n := 16) f10 (th_leI rfl) (th_ltI rfl)) (trivial) dX1_lift_39 (fun gi22 H locs hu22 ho22 hH hS => ?_)
      have eg22 : gi22 = va_up gi20 q21 (upd (gi20 q21) p1.toNatClampNeg (-1)) := th_upE hu22 ho22
      have e23 : (-1) = gi22 q19 (x2.toNatClampNeg) := Eq.trans hu20.symm (Eq.symm (ho22 _ _ (Or.inl (th_ne t19 t21 (th_nz rfl)))))
      have hM := hM.i t21 (th_mem (a := 2400) rfl) ho22
      exact W.vret hx hb hr (fun t ht hW => ⟨⟨(gi22, gr), rfl, ⟨hM, rfl, (hF.trans (by simp only [↓reduceIte, F_X1_lift, hw2, hw4.2.2.1, eq_false c5, hw12.2.2.1, eq_false c13, r19, Option.getD_some, ← eg20, r21, ← eg22]))⟩, th_Ht ht hH⟩, hS.F ht⟩) hS.2.2 dX1_lift_40
end
section
noncomputable def f_X3_wholeRoot_23 (τ : th_t) (Z : th_Zt) (gi : th_i) (gr : th_r) (p0 : Int32) (y6_1 : Int32) (y6_2 : Int32) (k_6 : Int32 → Int32 → Int32) (y23_1 : Int32) : Int32 :=
  let x1 : Int32 := y6_2 >>> (1 &&& 31)
  k_6 y23_1 x1
noncomputable def f_X3_wholeRoot_6 (τ : th_t) (Z : th_Zt) (gi : th_i) (gr : th_r) (p0 : Int32) : Nat → Int32 → Int32 → Int32
  | 0, y6_1, y6_2 => 0
  | n6 + 1, y6_1, y6_2 =>
    if y6_2 ≤ (0 : Int32) then (
      y6_1) else (
      let x5 : Int32 := y6_1 + y6_2
      let x6 : Int32 := x5 * x5
      if p0 < x6 then (
        f_X3_wholeRoot_23 τ Z gi gr p0 y6_1 y6_2 (f_X3_wholeRoot_6 τ Z gi gr p0 n6) y6_1) else (
        f_X3_wholeRoot_23 τ Z gi gr p0 y6_1 y6_2 (f_X3_wholeRoot_6 τ Z gi gr p0 n6) x5))
noncomputable def F_X3_wholeRoot (τ : th_t) (Z : th_Zt) (gi : th_i) (gr : th_r) (p0 : Int32) : Int32 :=
  f_X3_wholeRoot_6 τ Z gi gr p0 ((256 : Int32).toInt.toNat + 1) 0 256
set_option maxHeartbeats 8000000 in
set_option maxRecDepth 100000 in
theorem k_X3_wholeRoot (l : Launch) (D : va_G) (cA : Nat → ClassId) (Z : th_Zt) (τ : th_t) (gi : th_i) (gr : th_r) (sz : Nat) (p0 : Int32) : Met l yX3_wholeRoot wsX3_wholeRoot ({ frames := 0, cells := 0, slots := 0, locals := 0 }) (va_Pc [.int p0] (th_Pre D cA Z τ gi gr sz)) (va_Qi (fun (r : Int32) (_ : Unit) => (F_X3_wholeRoot τ Z gi gr p0 = r)) (fun (_ : Unit) t => th_H D cA τ gi gr t.heap) (th_A τ sz)) 0 0 (th_A τ sz) := by
  refine Met.ofW (cc := cX3_wholeRoot) (maxL := 4) (ret := (some .int)) (by decide) rfl ?_
  intro p e s m args below meth c s₁ B hml hv
  obtain ⟨rfl, hsz, hH, hK, hN, hZ⟩ := hv
  have hx := B.exec
  have hb := B.bytes
  have hr := B.returns
  have hts := atoms_spec (ws := wsX3_wholeRoot) B.pre
  have hown : s.vm.findClass RX3 = some m.cls := findClass_of_methodNamed B.named
  have hlocks := B.notSynchronized
  subst hsz
  have J6 : ∀ (n6 : Nat) (H : Heap) (locs : List Loc) (ls : Array Slot) (y6_1 : Int32) (y6_2 : Int32), y6_2.toInt.toNat < n6 → th_H D cA τ gi gr H → va_S (th_A τ s.heap.size) s.heap H locs → lv_has ls 4 [(0, .int p0), (1, .int y6_1), (2, .int y6_2)] → rg 0 256 y6_2 → F_X3_wholeRoot τ Z gi gr p0 = f_X3_wholeRoot_6 τ Z gi gr p0 n6 y6_1 y6_2 → W p l e (headSpec wsX3_wholeRoot ({ frames := 0, cells := 0, slots := 0, locals := 0 })).room s m [.int p0].toArray below meth c H locs 0 0 (MQ below (va_Qi (fun (r : Int32) (_ : Unit) => (F_X3_wholeRoot τ Z gi gr p0 = r)) (fun (_ : Unit) t => th_H D cA τ gi gr t.heap) (th_A τ s.heap.size)) [.int p0].toArray s 0 0 (th_A τ s.heap.size)) (F0 m 6 ls []) := by
    intro n6
    induction n6 with
    | zero =>
      intro H locs ls y6_1 y6_2 hn
      exact absurd hn (Nat.not_lt_zero _)
    | succ n6 ih6 =>
      intro H locs ls y6_1 y6_2 hn6 hH hS hl fy6_2 hF
      have J23 : ∀ (H : Heap) (locs : List Loc) (ls : Array Slot) (y23_1 : Int32), th_H D cA τ gi gr H → va_S (th_A τ s.heap.size) s.heap H locs → lv_has ls 4 [(0, .int p0), (1, .int y23_1), (2, .int y6_2)] → rg 1 256 y6_2 → F_X3_wholeRoot τ Z gi gr p0 = f_X3_wholeRoot_23 τ Z gi gr p0 y6_1 y6_2 (f_X3_wholeRoot_6 τ Z gi gr p0 n6) y23_1 → W p l e (headSpec wsX3_wholeRoot ({ frames := 0, cells := 0, slots := 0, locals := 0 })).room s m [.int p0].toArray below meth c H locs 0 0 (MQ below (va_Qi (fun (r : Int32) (_ : Unit) => (F_X3_wholeRoot τ Z gi gr p0 = r)) (fun (_ : Unit) t => th_H D cA τ gi gr t.heap) (th_A τ s.heap.size)) [.int p0].toArray s 0 0 (th_A τ s.heap.size)) (F0 m 23 ls []) := by
        intro H locs ls y23_1 hH hS hl fy23_2 hF
        refine lv_iload_n hx hb dX3_wholeRoot_23 rfl (lv_at hl 2 rfl) ?_
        refine lv_iconst (v := 1) hx hb dX3_wholeRoot_24 ic_1 ?_
        refine lv_ishr hx hb dX3_wholeRoot_25 ?_
        refine lv_topi (fun x1 e1 => ?_)
        have f1 : rg 0 128 x1 := rg_e e1 (rg_w (rg_shr1 fy23_2 (th_leI rfl)) (th_leI rfl) (th_leI rfl))
        refine lv_istore_n (i := 2) (lv' := [(2, .int x1), (0, .int p0), (1, .int y23_1)]) hx hb dX3_wholeRoot_26 rfl hl (th_ltN rfl) rfl (fun ls hl => ?_)
        refine lv_goto (tgt := 6) hx hb dX3_wholeRoot_27 (th_eqI rfl) ?_
        exact ih6 _ _ _ y23_1 x1 (th_half e1 fy23_2 hn6 (by decide)) hH hS (lv_sub hl [1, 2, 0] rfl) (rg_w f1 (th_leI rfl) (th_leI rfl)) (hF.trans (by simp only [f_X3_wholeRoot_23, ← e1]))
      refine lv_iload_n hx hb dX3_wholeRoot_6 rfl (lv_at hl 2 rfl) ?_
      refine lv_if_le (tgt := 30) hx hb dX3_wholeRoot_7 (th_eqI rfl) (fun c2 => ?_) (fun c2 => ?_)
      · skip
        have f3 : rg 0 0 y6_2 := rg_w (rg_le fy6_2 rgc_0 c2).1 (th_leI rfl) (th_leI rfl)
        refine lv_iload_n hx hb dX3_wholeRoot_30 rfl (lv_at hl 1 rfl) ?_
        exact W.iret (v := y6_1) hx hb hr (fun t ht hW => ⟨⟨y6_1, (), rfl, (hF.trans (by simp only [↓reduceIte, f_X3_wholeRoot_6, eq_true c2])), th_Ht ht hH⟩, hS.F ht⟩) hS.2.2 dX3_wholeRoot_31
      · skip
        have f4 : rg 1 256 y6_2 := rg_w (rg_nle fy6_2 rgc_0 c2).1 (th_leI rfl) (th_leI rfl)
        refine lv_iload_n hx hb dX3_wholeRoot_10 rfl (lv_at hl 1 rfl) ?_
        refine lv_iload_n hx hb dX3_wholeRoot_11 rfl (lv_at hl 2 rfl) ?_
        refine lv_iadd hx hb dX3_wholeRoot_12 ?_
        refine lv_topi (fun x5 e5 => ?_)
        refine lv_istore_n (i := 3) (lv' := [(3, .int x5), (0, .int p0), (1, .int y6_1), (2, .int y6_2)]) hx hb dX3_wholeRoot_13 rfl hl (th_ltN rfl) rfl (fun ls hl => ?_)
        refine lv_iload_n hx hb dX3_wholeRoot_14 rfl (lv_at hl 0 rfl) ?_
        refine lv_iload_n hx hb dX3_wholeRoot_15 rfl (lv_at hl 0 rfl) ?_
        refine lv_imul hx hb dX3_wholeRoot_16 ?_
        refine lv_topi (fun x6 e6 => ?_)
        refine lv_iload_n hx hb dX3_wholeRoot_17 rfl (lv_at hl 1 rfl) ?_
        refine lv_icmp_gt (tgt := 23) hx hb dX3_wholeRoot_18 (th_eqI rfl) (fun c7 => ?_) (fun c7 => ?_)
        · skip
          exact J23 _ _ _ y6_1 hH hS (lv_sub hl [1, 2, 3] rfl) f4 (hF.trans (by simp only [↓reduceIte, f_X3_wholeRoot_6, eq_false c2, ← e5, ← e6, eq_true c7]))
        · skip
          refine lv_iload_n hx hb dX3_wholeRoot_21 rfl (lv_at hl 0 rfl) ?_
          refine lv_istore_n (i := 1) (lv' := [(1, .int x5), (3, .int x5), (0, .int p0), (2, .int y6_2)]) hx hb dX3_wholeRoot_22 rfl hl (th_ltN rfl) rfl (fun ls hl => ?_)
          exact J23 _ _ _ x5 hH hS (lv_sub hl [2, 0, 3] rfl) f4 (hF.trans (by simp only [↓reduceIte, f_X3_wholeRoot_6, eq_false c2, ← e5, ← e6, eq_false c7]))
  have hS : va_S (th_A τ s.heap.size) s.heap s.heap [] := va_S.rf
  have hl := lv_entry ([.int p0]) (n := 4) (Nat.le_of_ble_eq_true rfl)
  rw [lg_entry_eq]
  generalize (lg_sl ([.int p0]) ++ List.replicate (4 - (lg_sl ([.int p0])).length) Slot.unset).toArray = ls at hl ⊢
  have hl : lv_has ls 4 [(0, .int p0)] := hl
  have hF : F_X3_wholeRoot τ Z gi gr p0 = F_X3_wholeRoot τ Z gi gr p0 := rfl
  refine lv_iconst (v := 0) hx hb dX3_wholeRoot_0 ic_0 ?_
  refine lv_istore_n (i := 1) (lv' := [(1, .int 0), (0, .int p0)]) hx hb dX3_wholeRoot_1 rfl hl (th_ltN rfl) rfl (fun ls hl => ?_)
  refine lv_sipush (v := 256) hx hb dX3_wholeRoot_2 sp_256 ?_
  refine lv_istore_n (i := 2) (lv' := [(2, .int 256), (1, .int 0), (0, .int p0)]) hx hb dX3_wholeRoot_5 rfl hl (th_ltN rfl) rfl (fun ls hl => ?_)
  exact J6 _ _ _ _ 0 256 (Nat.lt_add_one _) hH hS (lv_sub hl [2, 1, 0] rfl) (rg_w rgc_256 (th_leI rfl) (th_leI rfl)) (hF.trans (by simp only [F_X3_wholeRoot]))

noncomputable def F_X3_flood (τ : th_t) (Z : th_Zt) (gi : th_i) (gr : th_r) (h0 : Nat) (p1 : Int32) (p2 : Int32) : th_i :=
  let x2 : Int32 := F_X11_isHour τ Z gi gr p1
  if x2 = (0 : Int32) then (
    (gi)) else (
    let x6 : Int32 := gi h0 3
    let x7 : Int32 := x6 + p2
    let q8 : Nat := (gr h0 5).getD 0
    let x9 : Int32 := gi h0 4
    if x7 < x9 then (
      let x13 : Int32 := x9 * x9
      let x14 : Int32 := x7 * x7
      let x15 : Int32 := x13 - x14
      let x17 : Int32 := F_X3_wholeRoot τ Z gi gr x15
      let gi18 : th_i := va_up gi q8 (upd (gi q8) p1.toNatClampNeg x17)
      (gi18)) else (
      let gi21 : th_i := va_up gi q8 (upd (gi q8) p1.toNatClampNeg 0)
      (gi21)))
set_option maxHeartbeats 8000000 in
set_option maxRecDepth 100000 in
theorem k_X3_flood (l : Launch) (D : va_G) (cA : Nat → ClassId) (Z : th_Zt) (τ : th_t) (gi : th_i) (gr : th_r) (sz : Nat) (h0 : Nat) (t_h0 : τ h0 = 3) (p1 : Int32) (p2 : Int32) : Met l yX3_flood wsX3_flood ({ frames := 2, cells := 0, slots := 0, locals := 42 }) (va_Pc [.ref h0, .int p1, .int p2] (th_Pre D cA Z τ gi gr sz)) (va_Qv (fun (u : th_i × th_r) => th_Mod [2600] τ gi gr u.1 u.2 ∧ u.2 = gr ∧ (F_X3_flood τ Z gi gr h0 p1 p2 = u.1)) (fun (u : th_i × th_r) t => th_H D cA τ u.1 u.2 t.heap) (th_A τ sz)) 0 0 (th_A τ sz) := by
  refine Met.ofW (cc := cX3_flood) (maxL := 4) (ret := none) (by decide) rfl ?_
  intro p e s m args below meth c s₁ B hml hv
  obtain ⟨rfl, hsz, hH, hK, hN, hZ⟩ := hv
  have hx := B.exec
  have hb := B.bytes
  have hr := B.returns
  have hts := atoms_spec (ws := wsX3_flood) B.pre
  have hown : s.vm.findClass RX3 = some m.cls := findClass_of_methodNamed B.named
  have hlocks := B.notSynchronized
  subst hsz
  have hM : th_Mod [2600] τ gi gr gi gr := th_Mod.rf
  have hS : va_S (th_A τ s.heap.size) s.heap s.heap [] := va_S.rf
  have hl := lv_entry ([.ref h0, .int p1, .int p2]) (n := 4) (Nat.le_of_ble_eq_true rfl)
  rw [lg_entry_eq]
  generalize (lg_sl ([.ref h0, .int p1, .int p2]) ++ List.replicate (4 - (lg_sl ([.ref h0, .int p1, .int p2])).length) Slot.unset).toArray = ls at hl ⊢
  have hl : lv_has ls 4 [(0, .ref h0), (1, .int p1), (2, .int p2)] := hl
  have hF : F_X3_flood τ Z gi gr h0 p1 p2 = F_X3_flood τ Z gi gr h0 p1 p2 := rfl
  refine lv_iload_n hx hb dX3_flood_0 rfl (lv_at hl 1 rfl) ?_
  have hA1 := th_Asub (τ := τ) hS
  refine va_calli (va_runSN (As := [.int p1]) (rest := []) ⟨hx, hb, hml, hown, hts⟩ (k_X11_isHour l D cA Z τ gi gr _ p1) ⟨va_cnB (host := RX11) 1 hts gX3_flood_X11_isHour_n37 rfl rfl rfl hN.1 (hts (.initialized RX11) (List.mem_cons_of_mem _ (List.mem_append_left _ (List.mem_of_getElem? (i := 4) rfl)))) (by decide +kernel) ⟨Nat.le_of_ble_eq_true rfl, Nat.le_of_ble_eq_true rfl⟩, (hts (.static yX11_isHour) (List.mem_cons_of_mem _ (List.mem_append_left _ (List.mem_of_getElem? (i := 3) rfl)))), trivial⟩ ⟨th_blind, (th_pre hH hK hN hZ hS hA1)⟩ rfl rfl hl.1 rfl (lv_room (Nat.le_of_ble_eq_true rfl)) dX3_flood_1 ⟨Nat.le_of_ble_eq_true rfl, Nat.le_of_ble_eq_true rfl⟩) hS (fun q _ h => hA1 q h) hA1 (fun x2 u t H locs ht hvm hw2 hB hz1 hk1 hS => ?_)
  try dsimp only at hw2 hB
  rw [ht] at hB
  have hH := hB
  refine lv_if_ne (tgt := 8) hx hb dX3_flood_4 (th_eqI rfl) (fun c3 => ?_) (fun c3 => ?_)
  · skip
    have f4 : rg 1 1 x2 := rg_w (rg_neL hw2.1 rgc_0 c3) (th_leI rfl) (th_leI rfl)
    have f5 : rg 0 23 p1 := rg_w (hw2.2.1 c3) (th_leI rfl) (th_leI rfl)
    refine lv_aload_n hx hb dX3_flood_8 rfl (lv_at hl 0 rfl) ?_
    obtain ⟨x6, e6⟩ : ∃ y : Int32, y = gi h0 3 := ⟨_, rfl⟩
    refine th_get (ci := 2) (v := .int x6) (T := TX3) (C := RX3) (N := 8) hx hb hts (fun w h => List.mem_cons_of_mem _ (List.mem_append_right _ h)) hown hK hH t_h0 (th_nz rfl) (thE_3 _ _ _) rfl 3 (th_ltN rfl) (hts (.fieldLink RX3 31 "BayMoorings$Buoy" "depth" "I") (List.mem_cons_of_mem _ (List.mem_append_left _ (List.mem_of_getElem? (i := 0) rfl)))) (fun _ h9 => h9) (th_fI e6 rfl) dX3_flood_9 ?_
    refine lv_iload_n hx hb dX3_flood_12 rfl (lv_at hl 2 rfl) ?_
    refine lv_iadd hx hb dX3_flood_13 ?_
    refine lv_topi (fun x7 e7 => ?_)
    refine lv_istore_n (i := 3) (lv' := [(3, .int x7), (0, .ref h0), (1, .int p1), (2, .int p2)]) hx hb dX3_flood_14 rfl hl (th_ltN rfl) rfl (fun ls hl => ?_)
    refine lv_aload_n hx hb dX3_flood_15 rfl (lv_at hl 1 rfl) ?_
    obtain ⟨q8, r8, t8⟩ : ∃ q, gr h0 5 = some q ∧ τ q = 26 := (thI_3 hH t_h0)
    refine th_get (ci := 2) (v := .ref q8) (T := TX3) (C := RX3) (N := 8) hx hb hts (fun w h => List.mem_cons_of_mem _ (List.mem_append_right _ h)) hown hK hH t_h0 (th_nz rfl) (thE_3 _ _ _) rfl 5 (th_ltN rfl) (hts (.fieldLink RX3 9 "BayMoorings$Buoy" "slack" "[I") (List.mem_cons_of_mem _ (List.mem_append_left _ (List.mem_of_getElem? (i := 1) rfl)))) (fun _ h9 => h9) (th_fR r8 rfl) dX3_flood_16 ?_
    refine lv_iload_n hx hb dX3_flood_19 rfl (lv_at hl 2 rfl) ?_
    refine lv_iload_n hx hb dX3_flood_20 rfl (lv_at hl 0 rfl) ?_
    refine lv_aload_n hx hb dX3_flood_21 rfl (lv_at hl 1 rfl) ?_
    obtain ⟨x9, e9⟩ : ∃ y : Int32, y = gi h0 4 := ⟨_, rfl⟩
    refine th_get (ci := 2) (v := .int x9) (T := TX3) (C := RX3) (N := 8) hx hb hts (fun w h => List.mem_cons_of_mem _ (List.mem_append_right _ h)) hown hK hH t_h0 (th_nz rfl) (thE_3 _ _ _) rfl 4 (th_ltN rfl) (hts (.fieldLink RX3 34 "BayMoorings$Buoy" "chain" "I") (List.mem_cons_of_mem _ (List.mem_append_left _ (List.mem_of_getElem? (i := 2) rfl)))) (fun _ h9 => h9) (th_fI e9 rfl) dX3_flood_22 ?_
    refine lv_icmp_lt (tgt := 32) hx hb dX3_flood_25 (th_eqI rfl) (fun c10 => ?_) (fun c10 => ?_)
    · skip
      refine lv_aload_n hx hb dX3_flood_32 rfl (lv_at hl 1 rfl) ?_
      refine th_get (ci := 2) (v := .int x9) (T := TX3) (C := RX3) (N := 8) hx hb hts (fun w h => List.mem_cons_of_mem _ (List.mem_append_right _ h)) hown hK hH t_h0 (th_nz rfl) (thE_3 _ _ _) rfl 4 (th_ltN rfl) (hts (.fieldLink RX3 34 "BayMoorings$Buoy" "chain" "I") (List.mem_cons_of_mem _ (List.mem_append_left _ (List.mem_of_getElem? (i := 2) rfl)))) (fun _ h9 => h9) (th_fI e9 rfl) dX3_flood_33 ?_
      refine lv_aload_n hx hb dX3_flood_36 rfl (lv_at hl 1 rfl) ?_
      refine th_get (ci := 2) (v := .int x9) (T := TX3) (C := RX3) (N := 8) hx hb hts (fun w h => List.mem_cons_of_mem _ (List.mem_append_right _ h)) hown hK hH t_h0 (th_nz rfl) (thE_3 _ _ _) rfl 4 (th_ltN rfl) (hts (.fieldLink RX3 34 "BayMoorings$Buoy" "chain" "I") (List.mem_cons_of_mem _ (List.mem_append_left _ (List.mem_of_getElem? (i := 2) rfl)))) (fun _ h9 => h9) (th_fI e9 rfl) dX3_flood_37 ?_
      refine lv_imul hx hb dX3_flood_40 ?_
      refine lv_topi (fun x13 e13 => ?_)
      refine lv_iload_n hx hb dX3_flood_41 rfl (lv_at hl 0 rfl) ?_
      refine lv_iload_n hx hb dX3_flood_42 rfl (lv_at hl 0 rfl) ?_
      refine lv_imul hx hb dX3_flood_43 ?_
      refine lv_topi (fun x14 e14 => ?_)
      refine lv_isub hx hb dX3_flood_44 ?_
      refine lv_topi (fun x15 e15 => ?_)
      have hA16 := th_Asub (τ := τ) hS
      refine va_calli (va_runS (As := [.int x15]) (rest := [.int p1, .ref q8]) ⟨hx, hb, hml, hown, hts⟩ (k_X3_wholeRoot l D cA Z τ gi gr _ x15) (va_cwS 1 hts gX3_flood_X3_wholeRoot rfl rfl rfl (by decide +kernel) ⟨Nat.le_of_ble_eq_true rfl, Nat.le_of_ble_eq_true rfl⟩) ⟨th_blind, (th_pre hH hK hN hZ hS hA16)⟩ rfl rfl hl.1 rfl (lv_room (Nat.le_of_ble_eq_true rfl)) dX3_flood_45 ⟨Nat.le_of_ble_eq_true rfl, Nat.le_of_ble_eq_true rfl⟩) hS (fun q _ h => hA16 q h) hA16 (fun x17 u t H locs ht hvm hw17 hB hz1 hk1 hS => ?_)
      try dsimp only at hw17 hB
      rw [ht] at hB
      have hH := hB
      refine th_iast hx hb hK hH hS t8 (th_nz rfl) (Or.inl (th_nzE t8 rfl)) 0 (fun _ => thE_26 _ _ _) rfl (rg_in (n := 24) f5 (th_leI rfl) (th_ltI rfl)) (trivial) dX3_flood_48 (fun gi18 H locs hu18 ho18 hH hS => ?_)
      have eg18 : gi18 = va_up gi q8 (upd (gi q8) p1.toNatClampNeg x17) := th_upE hu18 ho18
      have e19 : x6 = gi18 h0 3 := Eq.trans e6 (Eq.symm (ho18 _ _ (Or.inl (th_ne t_h0 t8 (th_nz rfl)))))
      have e20 : x9 = gi18 h0 4 := Eq.trans e9 (Eq.symm (ho18 _ _ (Or.inl (th_ne t_h0 t8 (th_nz rfl)))))
      have hM := hM.i t8 (th_mem (a := 2600) rfl) ho18
      exact W.vret hx hb hr (fun t ht hW => ⟨⟨(gi18, gr), rfl, ⟨hM, rfl, (hF.trans (by simp only [↓reduceIte, F_X3_flood, hw2.2.2.1, eq_false c3, ← e6, ← e7, r8, Option.getD_some, ← e9, eq_true c10, ← e13, ← e14, ← e15, hw17, ← eg18]))⟩, th_Ht ht hH⟩, hS.F ht⟩) hS.2.2 dX3_flood_49
    · skip
      refine lv_iconst (v := 0) hx hb dX3_flood_28 ic_0 ?_
      refine lv_goto (tgt := 48) hx hb dX3_flood_29 (th_eqI rfl) ?_
      refine th_iast hx hb hK hH hS t8 (th_nz rfl) (Or.inl (th_nzE t8 rfl)) 0 (fun _ => thE_26 _ _ _) rfl (rg_in (n := 24) f5 (th_leI rfl) (th_ltI rfl)) (trivial) dX3_flood_48 (fun gi21 H locs hu21 ho21 hH hS => ?_)
      have eg21 : gi21 = va_up gi q8 (upd (gi q8) p1.toNatClampNeg 0) := th_upE hu21 ho21
      have e22 : x6 = gi21 h0 3 := Eq.trans e6 (Eq.symm (ho21 _ _ (Or.inl (th_ne t_h0 t8 (th_nz rfl)))))
      have e23 : x9 = gi21 h0 4 := Eq.trans e9 (Eq.symm (ho21 _ _ (Or.inl (th_ne t_h0 t8 (th_nz rfl)))))
      have hM := hM.i t8 (th_mem (a := 2600) rfl) ho21
      exact W.vret hx hb hr (fun t ht hW => ⟨⟨(gi21, gr), rfl, ⟨hM, rfl, (hF.trans (by simp only [↓reduceIte, F_X3_flood, hw2.2.2.1, eq_false c3, ← e6, ← e7, r8, Option.getD_some, ← e9, eq_false c10, ← eg21]))⟩, th_Ht ht hH⟩, hS.F ht⟩) hS.2.2 dX3_flood_49
  · skip
    have f24 : rg 0 0 x2 := rg_w (rg_eq hw2.1 rgc_0 c3).1 (th_leI rfl) (th_leI rfl)
    exact W.vret hx hb hr (fun t ht hW => ⟨⟨(gi, gr), rfl, ⟨hM, rfl, (hF.trans (by simp only [↓reduceIte, F_X3_flood, hw2.2.2.1, eq_true c3]))⟩, th_Ht ht hH⟩, hS.F ht⟩) hS.2.2 dX3_flood_7

noncomputable def F_X3_slackAt (τ : th_t) (Z : th_Zt) (gi : th_i) (gr : th_r) (h0 : Nat) (p1 : Int32) : Int32 :=
  if p1 < (0 : Int32) then (
    0) else (
    if (24 : Int32) ≤ p1 then (
      0) else (
      let q7 : Nat := (gr h0 5).getD 0
      let x8 : Int32 := gi q7 p1.toNatClampNeg
      x8))
set_option maxHeartbeats 8000000 in
set_option maxRecDepth 100000 in
theorem k_X3_slackAt (l : Launch) (D : va_G) (cA : Nat → ClassId) (Z : th_Zt) (τ : th_t) (gi : th_i) (gr : th_r) (sz : Nat) (h0 : Nat) (t_h0 : τ h0 = 3) (p1 : Int32) : Met l yX3_slackAt wsX3_slackAt ({ frames := 0, cells := 0, slots := 0, locals := 0 }) (va_Pc [.ref h0, .int p1] (th_Pre D cA Z τ gi gr sz)) (va_Qi (fun (r : Int32) (_ : Unit) => (F_X3_slackAt τ Z gi gr h0 p1 = r)) (fun (_ : Unit) t => th_H D cA τ gi gr t.heap) (th_A τ sz)) 0 0 (th_A τ sz) := by
  refine Met.ofW (cc := cX3_slackAt) (maxL := 2) (ret := (some .int)) (by decide) rfl ?_
  intro p e s m args below meth c s₁ B hml hv
  obtain ⟨rfl, hsz, hH, hK, hN, hZ⟩ := hv
  have hx := B.exec
  have hb := B.bytes
  have hr := B.returns
  have hts := atoms_spec (ws := wsX3_slackAt) B.pre
  have hown : s.vm.findClass RX3 = some m.cls := findClass_of_methodNamed B.named
  have hlocks := B.notSynchronized
  subst hsz
  have hS : va_S (th_A τ s.heap.size) s.heap s.heap [] := va_S.rf
  have hl := lv_entry ([.ref h0, .int p1]) (n := 2) (Nat.le_of_ble_eq_true rfl)
  rw [lg_entry_eq]
  generalize (lg_sl ([.ref h0, .int p1]) ++ List.replicate (2 - (lg_sl ([.ref h0, .int p1])).length) Slot.unset).toArray = ls at hl ⊢
  have hl : lv_has ls 2 [(0, .ref h0), (1, .int p1)] := hl
  have hF : F_X3_slackAt τ Z gi gr h0 p1 = F_X3_slackAt τ Z gi gr h0 p1 := rfl
  refine lv_iload_n hx hb dX3_slackAt_0 rfl (lv_at hl 1 rfl) ?_
  refine lv_if_lt (tgt := 19) hx hb dX3_slackAt_1 (th_eqI rfl) (fun c1 => ?_) (fun c1 => ?_)
  · skip
    have f2 : rg (-2147483648) (-1) p1 := rg_w (rg_lt (rg_any p1) rgc_0 c1).1 (th_leI rfl) (th_leI rfl)
    refine lv_iconst (v := 0) hx hb dX3_slackAt_19 ic_0 ?_
    exact W.iret (v := 0) hx hb hr (fun t ht hW => ⟨⟨0, (), rfl, (hF.trans (by simp only [↓reduceIte, F_X3_slackAt, eq_true c1])), th_Ht ht hH⟩, hS.F ht⟩) hS.2.2 dX3_slackAt_20
  · skip
    have f3 : rg 0 2147483647 p1 := rg_w (rg_nlt (rg_any p1) rgc_0 c1).1 (th_leI rfl) (th_leI rfl)
    refine lv_iload_n hx hb dX3_slackAt_4 rfl (lv_at hl 1 rfl) ?_
    refine lv_bipush (v := 24) hx hb dX3_slackAt_5 bp_24 ?_
    refine lv_icmp_ge (tgt := 19) hx hb dX3_slackAt_7 (th_eqI rfl) (fun c4 => ?_) (fun c4 => ?_)
    · skip
      have f5 : rg 24 2147483647 p1 := rg_w (rg_le rgc_24 f3 c4).2 (th_leI rfl) (th_leI rfl)
      refine lv_iconst (v := 0) hx hb dX3_slackAt_19 ic_0 ?_
      exact W.iret (v := 0) hx hb hr (fun t ht hW => ⟨⟨0, (), rfl, (hF.trans (by simp only [↓reduceIte, F_X3_slackAt, eq_false c1, eq_true c4])), th_Ht ht hH⟩, hS.F ht⟩) hS.2.2 dX3_slackAt_20
    · skip
      have f6 : rg 0 23 p1 := rg_w (rg_nle rgc_24 f3 c4).2 (th_leI rfl) (th_leI rfl)
      refine lv_aload_n hx hb dX3_slackAt_10 rfl (lv_at hl 0 rfl) ?_
      obtain ⟨q7, r7, t7⟩ : ∃ q, gr h0 5 = some q ∧ τ q = 26 := (thI_3 hH t_h0)
      refine th_get (ci := 2) (v := .ref q7) (T := TX3) (C := RX3) (N := 8) hx hb hts (fun w h => List.mem_cons_of_mem _ (List.mem_append_right _ h)) hown hK hH t_h0 (th_nz rfl) (thE_3 _ _ _) rfl 5 (th_ltN rfl) (hts (.fieldLink RX3 9 "BayMoorings$Buoy" "slack" "[I") (List.mem_cons_of_mem _ (List.mem_append_left _ (List.mem_of_getElem? (i := 0) rfl)))) (fun _ h9 => h9) (th_fR r7 rfl) dX3_slackAt_11 ?_
      refine lv_iload_n hx hb dX3_slackAt_14 rfl (lv_at hl 1 rfl) ?_
      refine th_iald hx hb hK hH t7 (th_nz rfl) 0 (thE_26 _ _ _) rfl (rg_in (n := 24) f6 (th_leI rfl) (th_ltI rfl)) dX3_slackAt_15 ?_
      refine lv_topi (fun x8 e8 => ?_)
      refine lv_goto (tgt := 20) hx hb dX3_slackAt_16 (th_eqI rfl) ?_
      exact W.iret (v := x8) hx hb hr (fun t ht hW => ⟨⟨x8, (), rfl, (hF.trans (by simp only [↓reduceIte, F_X3_slackAt, eq_false c1, eq_false c4, r7, Option.getD_some, ← e8])), th_Ht ht hH⟩, hS.F ht⟩) hS.2.2 dX3_slackAt_20

noncomputable def F_X3_isParted (τ : th_t) (Z : th_Zt) (gi : th_i) (gr : th_r) (h0 : Nat) : Int32 :=
  let x1 : Int32 := gi h0 6
  if x1 < (60 : Int32) then (
    0) else (
    1)
set_option maxHeartbeats 8000000 in
set_option maxRecDepth 100000 in
theorem k_X3_isParted (l : Launch) (D : va_G) (cA : Nat → ClassId) (Z : th_Zt) (τ : th_t) (gi : th_i) (gr : th_r) (sz : Nat) (h0 : Nat) (t_h0 : τ h0 = 3) : Met l yX3_isParted wsX3_isParted ({ frames := 0, cells := 0, slots := 0, locals := 0 }) (va_Pc [.ref h0] (th_Pre D cA Z τ gi gr sz)) (va_Qi (fun (r : Int32) (_ : Unit) => rg 0 1 r ∧ (F_X3_isParted τ Z gi gr h0 = r)) (fun (_ : Unit) t => th_H D cA τ gi gr t.heap) (th_A τ sz)) 0 0 (th_A τ sz) := by
  refine Met.ofW (cc := cX3_isParted) (maxL := 1) (ret := (some .boolean)) (by decide) rfl ?_
  intro p e s m args below meth c s₁ B hml hv
  obtain ⟨rfl, hsz, hH, hK, hN, hZ⟩ := hv
  have hx := B.exec
  have hb := B.bytes
  have hr := B.returns
  have hts := atoms_spec (ws := wsX3_isParted) B.pre
  have hown : s.vm.findClass RX3 = some m.cls := findClass_of_methodNamed B.named
  have hlocks := B.notSynchronized
  subst hsz
  have hS : va_S (th_A τ s.heap.size) s.heap s.heap [] := va_S.rf
  have hl := lv_entry ([.ref h0]) (n := 1) (Nat.le_of_ble_eq_true rfl)
  rw [lg_entry_eq]
  generalize (lg_sl ([.ref h0]) ++ List.replicate (1 - (lg_sl ([.ref h0])).length) Slot.unset).toArray = ls at hl ⊢
  have hl : lv_has ls 1 [(0, .ref h0)] := hl
  have hF : F_X3_isParted τ Z gi gr h0 = F_X3_isParted τ Z gi gr h0 := rfl
  refine lv_aload_n hx hb dX3_isParted_0 rfl (lv_at hl 0 rfl) ?_
  obtain ⟨x1, e1⟩ : ∃ y : Int32, y = gi h0 6 := ⟨_, rfl⟩
  refine th_get (ci := 2) (v := .int x1) (T := TX3) (C := RX3) (N := 8) hx hb hts (fun w h => List.mem_cons_of_mem _ (List.mem_append_right _ h)) hown hK hH t_h0 (th_nz rfl) (thE_3 _ _ _) rfl 6 (th_ltN rfl) (hts (.fieldLink RX3 15 "BayMoorings$Buoy" "low" "I") (List.mem_cons_of_mem _ (List.mem_append_left _ (List.mem_of_getElem? (i := 0) rfl)))) (fun _ h9 => h9) (th_fI e1 rfl) dX3_isParted_1 ?_
  refine lv_bipush (v := 60) hx hb dX3_isParted_4 bp_60 ?_
  refine lv_icmp_lt (tgt := 13) hx hb dX3_isParted_6 (th_eqI rfl) (fun c2 => ?_) (fun c2 => ?_)
  · skip
    have f3 : rg (-2147483648) 59 x1 := rg_w (rg_lt (rg_any x1) rgc_60 c2).1 (th_leI rfl) (th_leI rfl)
    refine lv_iconst (v := 0) hx hb dX3_isParted_13 ic_0 ?_
    exact W.zret (v := 0) hx hb hr (rg_nb (rg_w rgc_0 (th_leI rfl) (th_leI rfl))) (fun t ht hW => ⟨⟨0, (), rfl, ⟨(rg_w rgc_0 (th_leI rfl) (th_leI rfl)), (hF.trans (by simp only [↓reduceIte, F_X3_isParted, ← e1, eq_true c2]))⟩, th_Ht ht hH⟩, hS.F ht⟩) hS.2.2 dX3_isParted_14
  · skip
    have f4 : rg 60 2147483647 x1 := rg_w (rg_nlt (rg_any x1) rgc_60 c2).1 (th_leI rfl) (th_leI rfl)
    refine lv_iconst (v := 1) hx hb dX3_isParted_9 ic_1 ?_
    refine lv_goto (tgt := 14) hx hb dX3_isParted_10 (th_eqI rfl) ?_
    exact W.zret (v := 1) hx hb hr (rg_nb (rg_w rgc_1 (th_leI rfl) (th_leI rfl))) (fun t ht hW => ⟨⟨1, (), rfl, ⟨(rg_w rgc_1 (th_leI rfl) (th_leI rfl)), (hF.trans (by simp only [↓reduceIte, F_X3_isParted, ← e1, eq_false c2]))⟩, th_Ht ht hH⟩, hS.F ht⟩) hS.2.2 dX3_isParted_14

noncomputable def F_X3_doubt (τ : th_t) (Z : th_Zt) (gi : th_i) (gr : th_r) (h0 : Nat) : Int32 :=
  let x1 : Int32 := gi h0 7
  let x2 : Int32 := gi h0 6
  let x3 : Int32 := x1 - x2
  x3
set_option maxHeartbeats 8000000 in
set_option maxRecDepth 100000 in
theorem k_X3_doubt (l : Launch) (D : va_G) (cA : Nat → ClassId) (Z : th_Zt) (τ : th_t) (gi : th_i) (gr : th_r) (sz : Nat) (h0 : Nat) (t_h0 : τ h0 = 3) : Met l yX3_doubt wsX3_doubt ({ frames := 0, cells := 0, slots := 0, locals := 0 }) (va_Pc [.ref h0] (th_Pre D cA Z τ gi gr sz)) (va_Qi (fun (r : Int32) (_ : Unit) => (F_X3_doubt τ Z gi gr h0 = r)) (fun (_ : Unit) t => th_H D cA τ gi gr t.heap) (th_A τ sz)) 0 0 (th_A τ sz) := by
  refine Met.ofW (cc := cX3_doubt) (maxL := 1) (ret := (some .int)) (by decide) rfl ?_
  intro p e s m args below meth c s₁ B hml hv
  obtain ⟨rfl, hsz, hH, hK, hN, hZ⟩ := hv
  have hx := B.exec
  have hb := B.bytes
  have hr := B.returns
  have hts := atoms_spec (ws := wsX3_doubt) B.pre
  have hown : s.vm.findClass RX3 = some m.cls := findClass_of_methodNamed B.named
  have hlocks := B.notSynchronized
  subst hsz
  have hS : va_S (th_A τ s.heap.size) s.heap s.heap [] := va_S.rf
  have hl := lv_entry ([.ref h0]) (n := 1) (Nat.le_of_ble_eq_true rfl)
  rw [lg_entry_eq]
  generalize (lg_sl ([.ref h0]) ++ List.replicate (1 - (lg_sl ([.ref h0])).length) Slot.unset).toArray = ls at hl ⊢
  have hl : lv_has ls 1 [(0, .ref h0)] := hl
  have hF : F_X3_doubt τ Z gi gr h0 = F_X3_doubt τ Z gi gr h0 := rfl
  refine lv_aload_n hx hb dX3_doubt_0 rfl (lv_at hl 0 rfl) ?_
  obtain ⟨x1, e1⟩ : ∃ y : Int32, y = gi h0 7 := ⟨_, rfl⟩
  refine th_get (ci := 2) (v := .int x1) (T := TX3) (C := RX3) (N := 8) hx hb hts (fun w h => List.mem_cons_of_mem _ (List.mem_append_right _ h)) hown hK hH t_h0 (th_nz rfl) (thE_3 _ _ _) rfl 7 (th_ltN rfl) (hts (.fieldLink RX3 19 "BayMoorings$Buoy" "high" "I") (List.mem_cons_of_mem _ (List.mem_append_left _ (List.mem_of_getElem? (i := 0) rfl)))) (fun _ h9 => h9) (th_fI e1 rfl) dX3_doubt_1 ?_
  refine lv_aload_n hx hb dX3_doubt_4 rfl (lv_at hl 0 rfl) ?_
  obtain ⟨x2, e2⟩ : ∃ y : Int32, y = gi h0 6 := ⟨_, rfl⟩
  refine th_get (ci := 2) (v := .int x2) (T := TX3) (C := RX3) (N := 8) hx hb hts (fun w h => List.mem_cons_of_mem _ (List.mem_append_right _ h)) hown hK hH t_h0 (th_nz rfl) (thE_3 _ _ _) rfl 6 (th_ltN rfl) (hts (.fieldLink RX3 15 "BayMoorings$Buoy" "low" "I") (List.mem_cons_of_mem _ (List.mem_append_left _ (List.mem_of_getElem? (i := 1) rfl)))) (fun _ h9 => h9) (th_fI e2 rfl) dX3_doubt_5 ?_
  refine lv_isub hx hb dX3_doubt_8 ?_
  refine lv_topi (fun x3 e3 => ?_)
  exact W.iret (v := x3) hx hb hr (fun t ht hW => ⟨⟨x3, (), rfl, (hF.trans (by simp only [F_X3_doubt, ← e1, ← e2, ← e3])), th_Ht ht hH⟩, hS.F ht⟩) hS.2.2 dX3_doubt_9

noncomputable def f_X3_wear_31 (τ : th_t) (Z : th_Zt) (gi : th_i) (gr : th_r) (h0 : Nat) (p1 : Int32) (gi_31 : th_i) (z31_1 : Int32) (z31_2 : Int32) : th_i :=
  let w31_0 : Int32 := gi_31 h0 6
  let w31_1 : Int32 := gi_31 h0 7
  let x1 : Int32 := z31_1 + z31_2
  let x2 : Int32 := th_mn x1 100
  let gi3 : th_i := va_up gi_31 h0 (upd (gi_31 h0) 7 x2)
  (gi3)
noncomputable def F_X3_wear (τ : th_t) (Z : th_Zt) (gi : th_i) (gr : th_r) (h0 : Nat) (p1 : Int32) : th_i :=
  let x6 : Int32 := gi h0 6
  let x7 : Int32 := x6 + 3
  let x8 : Int32 := th_mn x7 100
  let gi9 : th_i := va_up gi h0 (upd (gi h0) 6 x8)
  let x11 : Int32 := gi9 h0 7
  if p1 = (0 : Int32) then (
    f_X3_wear_31 τ Z gi gr h0 p1 gi9 x11 12) else (
    f_X3_wear_31 τ Z gi gr h0 p1 gi9 x11 20)
set_option maxHeartbeats 8000000 in
set_option maxRecDepth 100000 in
theorem k_X3_wear (l : Launch) (D : va_G) (cA : Nat → ClassId) (Z : th_Zt) (τ : th_t) (gi : th_i) (gr : th_r) (sz : Nat) (h0 : Nat) (t_h0 : τ h0 = 3) (p1 : Int32) (f_p1 : rg 0 1 p1) : Met l yX3_wear wsX3_wear ({ frames := 1, cells := 0, slots := 0, locals := 40 }) (va_Pc [.ref h0, .int p1] (th_Pre D cA Z τ gi gr sz)) (va_Qv (fun (u : th_i × th_r) => th_Mod [306, 307] τ gi gr u.1 u.2 ∧ u.2 = gr ∧ (F_X3_wear τ Z gi gr h0 p1 = u.1)) (fun (u : th_i × th_r) t => th_H D cA τ u.1 u.2 t.heap) (th_A τ sz)) 0 0 (th_A τ sz) := by
  refine Met.ofW (cc := cX3_wear) (maxL := 2) (ret := none) (by decide) rfl ?_
  intro p e s m args below meth c s₁ B hml hv
  obtain ⟨rfl, hsz, hH, hK, hN, hZ⟩ := hv
  have hx := B.exec
  have hb := B.bytes
  have hr := B.returns
  have hts := atoms_spec (ws := wsX3_wear) B.pre
  have hown : s.vm.findClass RX3 = some m.cls := findClass_of_methodNamed B.named
  have hlocks := B.notSynchronized
  subst hsz
  have hM : th_Mod [306, 307] τ gi gr gi gr := th_Mod.rf
  have J31 : ∀ (gi_31 : th_i) (H : Heap) (locs : List Loc) (ls : Array Slot) (z31_1 : Int32) (z31_2 : Int32) (w31_0 : Int32) (w31_1 : Int32), th_H D cA τ gi_31 gr H → va_S (th_A τ s.heap.size) s.heap H locs → th_Mod [306, 307] τ gi gr gi_31 gr → lv_has ls 2 [] → rg 12 20 z31_2 → w31_0 = gi_31 h0 6 → w31_1 = gi_31 h0 7 → F_X3_wear τ Z gi gr h0 p1 = f_X3_wear_31 τ Z gi gr h0 p1 gi_31 z31_1 z31_2 → W p l e (headSpec wsX3_wear ({ frames := 1, cells := 0, slots := 0, locals := 40 })).room s m [.ref h0, .int p1].toArray below meth c H locs 0 0 (MQ below (va_Qv (fun (u : th_i × th_r) => th_Mod [306, 307] τ gi gr u.1 u.2 ∧ u.2 = gr ∧ (F_X3_wear τ Z gi gr h0 p1 = u.1)) (fun (u : th_i × th_r) t => th_H D cA τ u.1 u.2 t.heap) (th_A τ s.heap.size)) [.ref h0, .int p1].toArray s 0 0 (th_A τ s.heap.size)) (F0 m 31 ls [.int z31_2, .int z31_1, .ref h0]) := by
    intro gi_31 H locs ls z31_1 z31_2 w31_0 w31_1 hH hS hM hl fz31_2 ew31_0 ew31_1 hF
    refine lv_iadd hx hb dX3_wear_31 ?_
    refine lv_topi (fun x1 e1 => ?_)
    refine lv_bipush (v := 100) hx hb dX3_wear_32 bp_100 ?_
    refine va_mmin hx hb (by rw [hml]; exact hl.1.symm) hown (hts (.methodLink RX3 45 Lib.Math.min.name) (List.mem_cons_of_mem _ (List.mem_append_left _ (List.mem_of_getElem? (i := 1) rfl)))) (hts (.static Lib.Math.min.name) (List.mem_cons_of_mem _ (List.mem_append_left _ (List.mem_of_getElem? (i := 2) rfl)))) (hts (.initialized "java/lang/Math") (List.mem_cons_of_mem _ (List.mem_append_left _ (List.mem_of_getElem? (i := 3) rfl)))) (hts (.code Lib.Math.min.name Lib.Math.min.code 2 (some .int)) (List.mem_cons_of_mem _ (List.mem_append_left _ (List.mem_of_getElem? (i := 4) rfl)))) (Nat.le_of_ble_eq_true rfl) (Nat.le_of_ble_eq_true rfl) (Nat.zero_le _) (Nat.zero_le _) dX3_wear_34 ?_
    refine lv_topi (fun x2 e2 => ?_)
    have em2 : x2 = th_mn x1 100 := e2
    refine th_put (ci := 2) (v := .int x2) (T := TX3) (C := RX3) (N := 8) (ty := .int) (gi' := va_up gi_31 h0 (upd (gi_31 h0) 7 x2)) (gr' := gr) hx hb hts (fun w h => List.mem_cons_of_mem _ (List.mem_append_right _ h)) tyX3 tyX3_ok nmX3 hown hK hH hS t_h0 (th_nz rfl) (Or.inl (th_nzE t_h0 rfl)) rfl rfl 7 (th_ltN rfl) (hts (.fieldLink RX3 19 "BayMoorings$Buoy" "high" "I") (List.mem_cons_of_mem _ (List.mem_append_left _ (List.mem_of_getElem? (i := 5) rfl)))) (fun _ h9 => h9) rfl (by decide +kernel) rfl rfl (Nat.le_of_ble_eq_true rfl) (by rw [va_up_self]; rfl) (by rw [va_up_self]; show (∃ q, gr h0 5 = some q ∧ τ q = 26); exact (show (∃ q, gr h0 5 = some q ∧ τ q = 26) from (thI_3 hH t_h0))) (fun b hb => ⟨va_up_ne _ _ hb, rfl⟩) dX3_wear_37 (fun H locs hH hS => ?_)
    obtain ⟨gi3, eg3⟩ : ∃ g, g = va_up gi_31 h0 (upd (gi_31 h0) 7 x2) := ⟨_, rfl⟩
    rw [← eg3] at hH
    have hu3 : gi3 h0 7 = x2 := (th_uI eg3).1
    have ho3 : ∀ b j, b ≠ h0 ∨ j ≠ 7 → gi3 b j = gi_31 b j := (th_uI eg3).2
    have e4 : w31_0 = gi3 h0 6 := Eq.trans ew31_0 (Eq.symm (ho3 _ _ (Or.inr (th_nz rfl))))
    have hM := hM.i t_h0 (th_mem (a := 307) rfl) ho3
    exact W.vret hx hb hr (fun t ht hW => ⟨⟨(gi3, gr), rfl, ⟨hM, rfl, (hF.trans (by simp only [f_X3_wear_31, ← ew31_0, ← ew31_1, ← e1, ← em2, ← eg3]))⟩, th_Ht ht hH⟩, hS.F ht⟩) hS.2.2 dX3_wear_40
  have hS : va_S (th_A τ s.heap.size) s.heap s.heap [] := va_S.rf
  have hl := lv_entry ([.ref h0, .int p1]) (n := 2) (Nat.le_of_ble_eq_true rfl)
  rw [lg_entry_eq]
  generalize (lg_sl ([.ref h0, .int p1]) ++ List.replicate (2 - (lg_sl ([.ref h0, .int p1])).length) Slot.unset).toArray = ls at hl ⊢
  have hl : lv_has ls 2 [(0, .ref h0), (1, .int p1)] := hl
  have hF : F_X3_wear τ Z gi gr h0 p1 = F_X3_wear τ Z gi gr h0 p1 := rfl
  refine lv_aload_n hx hb dX3_wear_0 rfl (lv_at hl 0 rfl) ?_
  refine lv_aload_n hx hb dX3_wear_1 rfl (lv_at hl 0 rfl) ?_
  obtain ⟨x6, e6⟩ : ∃ y : Int32, y = gi h0 6 := ⟨_, rfl⟩
  refine th_get (ci := 2) (v := .int x6) (T := TX3) (C := RX3) (N := 8) hx hb hts (fun w h => List.mem_cons_of_mem _ (List.mem_append_right _ h)) hown hK hH t_h0 (th_nz rfl) (thE_3 _ _ _) rfl 6 (th_ltN rfl) (hts (.fieldLink RX3 15 "BayMoorings$Buoy" "low" "I") (List.mem_cons_of_mem _ (List.mem_append_left _ (List.mem_of_getElem? (i := 0) rfl)))) (fun _ h9 => h9) (th_fI e6 rfl) dX3_wear_2 ?_
  refine lv_iconst (v := 3) hx hb dX3_wear_5 ic_3 ?_
  refine lv_iadd hx hb dX3_wear_6 ?_
  refine lv_topi (fun x7 e7 => ?_)
  refine lv_bipush (v := 100) hx hb dX3_wear_7 bp_100 ?_
  refine va_mmin hx hb (by rw [hml]; exact hl.1.symm) hown (hts (.methodLink RX3 45 Lib.Math.min.name) (List.mem_cons_of_mem _ (List.mem_append_left _ (List.mem_of_getElem? (i := 1) rfl)))) (hts (.static Lib.Math.min.name) (List.mem_cons_of_mem _ (List.mem_append_left _ (List.mem_of_getElem? (i := 2) rfl)))) (hts (.initialized "java/lang/Math") (List.mem_cons_of_mem _ (List.mem_append_left _ (List.mem_of_getElem? (i := 3) rfl)))) (hts (.code Lib.Math.min.name Lib.Math.min.code 2 (some .int)) (List.mem_cons_of_mem _ (List.mem_append_left _ (List.mem_of_getElem? (i := 4) rfl)))) (Nat.le_of_ble_eq_true rfl) (Nat.le_of_ble_eq_true rfl) (Nat.zero_le _) (Nat.zero_le _) dX3_wear_9 ?_
  refine lv_topi (fun x8 e8 => ?_)
  have em8 : x8 = th_mn x7 100 := e8
  refine th_put (ci := 2) (v := .int x8) (T := TX3) (C := RX3) (N := 8) (ty := .int) (gi' := va_up gi h0 (upd (gi h0) 6 x8)) (gr' := gr) hx hb hts (fun w h => List.mem_cons_of_mem _ (List.mem_append_right _ h)) tyX3 tyX3_ok nmX3 hown hK hH hS t_h0 (th_nz rfl) (Or.inl (th_nzE t_h0 rfl)) rfl rfl 6 (th_ltN rfl) (hts (.fieldLink RX3 15 "BayMoorings$Buoy" "low" "I") (List.mem_cons_of_mem _ (List.mem_append_left _ (List.mem_of_getElem? (i := 0) rfl)))) (fun _ h9 => h9) rfl (by decide +kernel) rfl rfl (Nat.le_of_ble_eq_true rfl) (by rw [va_up_self]; rfl) (by rw [va_up_self]; show (∃ q, gr h0 5 = some q ∧ τ q = 26); exact (show (∃ q, gr h0 5 = some q ∧ τ q = 26) from (thI_3 hH t_h0))) (fun b hb => ⟨va_up_ne _ _ hb, rfl⟩) dX3_wear_12 (fun H locs hH hS => ?_)
  obtain ⟨gi9, eg9⟩ : ∃ g, g = va_up gi h0 (upd (gi h0) 6 x8) := ⟨_, rfl⟩
  rw [← eg9] at hH
  have hu9 : gi9 h0 6 = x8 := (th_uI eg9).1
  have ho9 : ∀ b j, b ≠ h0 ∨ j ≠ 6 → gi9 b j = gi b j := (th_uI eg9).2
  have hM := hM.i t_h0 (th_mem (a := 306) rfl) ho9
  refine lv_aload_n hx hb dX3_wear_15 rfl (lv_at hl 0 rfl) ?_
  refine lv_aload_n hx hb dX3_wear_16 rfl (lv_at hl 0 rfl) ?_
  obtain ⟨x11, e11⟩ : ∃ y : Int32, y = gi9 h0 7 := ⟨_, rfl⟩
  refine th_get (ci := 2) (v := .int x11) (T := TX3) (C := RX3) (N := 8) hx hb hts (fun w h => List.mem_cons_of_mem _ (List.mem_append_right _ h)) hown hK hH t_h0 (th_nz rfl) (thE_3 _ _ _) rfl 7 (th_ltN rfl) (hts (.fieldLink RX3 19 "BayMoorings$Buoy" "high" "I") (List.mem_cons_of_mem _ (List.mem_append_left _ (List.mem_of_getElem? (i := 5) rfl)))) (fun _ h9 => h9) (th_fI e11 rfl) dX3_wear_17 ?_
  refine lv_iload_n hx hb dX3_wear_20 rfl (lv_at hl 1 rfl) ?_
  refine lv_if_eq (tgt := 29) hx hb dX3_wear_21 (th_eqI rfl) (fun c12 => ?_) (fun c12 => ?_)
  · skip
    have f13 : rg 0 0 p1 := rg_w (rg_eq f_p1 rgc_0 c12).1 (th_leI rfl) (th_leI rfl)
    refine lv_bipush (v := 12) hx hb dX3_wear_29 bp_12 ?_
    exact J31 gi9 _ _ _ x11 12 x8 x11 hH hS hM (lv_sub hl [] rfl) (rg_w rgc_12 (th_leI rfl) (th_leI rfl)) hu9.symm e11 (hF.trans (by simp only [↓reduceIte, F_X3_wear, ← e6, ← e7, ← em8, ← eg9, ← e11, eq_true c12]))
  · skip
    have f14 : rg 1 1 p1 := rg_w (rg_neL f_p1 rgc_0 c12) (th_leI rfl) (th_leI rfl)
    refine lv_bipush (v := 20) hx hb dX3_wear_24 bp_20 ?_
    refine lv_goto (tgt := 31) hx hb dX3_wear_26 (th_eqI rfl) ?_
    exact J31 gi9 _ _ _ x11 20 x8 x11 hH hS hM (lv_sub hl [] rfl) (rg_w rgc_20 (th_leI rfl) (th_leI rfl)) hu9.symm e11 (hF.trans (by simp only [↓reduceIte, F_X3_wear, ← e6, ← e7, ← em8, ← eg9, ← e11, eq_false c12]))

noncomputable def F_X3_holds (τ : th_t) (Z : th_Zt) (gi : th_i) (gr : th_r) (h0 : Nat) (h1 : Nat) (p2 : Int32) : Int32 :=
  let x1 : Int32 := gi h0 7
  let x2 : Int32 := x1 + p2
  let x3 : Int32 := gi h1 1
  let x4 : Int32 := x3 / 10
  let x5 : Int32 := x2 + x4
  if (100 : Int32) < x5 then (
    0) else (
    1)
set_option maxHeartbeats 8000000 in
set_option maxRecDepth 100000 in
theorem k_X3_holds (l : Launch) (D : va_G) (cA : Nat → ClassId) (Z : th_Zt) (τ : th_t) (gi : th_i) (gr : th_r) (sz : Nat) (h0 : Nat) (t_h0 : τ h0 = 3) (h1 : Nat) (t_h1 : τ h1 = 8 ∨ τ h1 = 9 ∨ τ h1 = 4) (p2 : Int32) : Met l yX3_holds wsX3_holds ({ frames := 0, cells := 0, slots := 0, locals := 0 }) (va_Pc [.ref h0, .ref h1, .int p2] (th_Pre D cA Z τ gi gr sz)) (va_Qi (fun (r : Int32) (_ : Unit) => rg 0 1 r ∧ (F_X3_holds τ Z gi gr h0 h1 p2 = r)) (fun (_ : Unit) t => th_H D cA τ gi gr t.heap) (th_A τ sz)) 0 0 (th_A τ sz) := by
  refine Met.ofW (cc := cX3_holds) (maxL := 3) (ret := (some .boolean)) (by decide) rfl ?_
  intro p e s m args below meth c s₁ B hml hv
  obtain ⟨rfl, hsz, hH, hK, hN, hZ⟩ := hv
  have hx := B.exec
  have hb := B.bytes
  have hr := B.returns
  have hts := atoms_spec (ws := wsX3_holds) B.pre
  have hown : s.vm.findClass RX3 = some m.cls := findClass_of_methodNamed B.named
  have hlocks := B.notSynchronized
  subst hsz
  have hS : va_S (th_A τ s.heap.size) s.heap s.heap [] := va_S.rf
  have hl := lv_entry ([.ref h0, .ref h1, .int p2]) (n := 3) (Nat.le_of_ble_eq_true rfl)
  rw [lg_entry_eq]
  generalize (lg_sl ([.ref h0, .ref h1, .int p2]) ++ List.replicate (3 - (lg_sl ([.ref h0, .ref h1, .int p2])).length) Slot.unset).toArray = ls at hl ⊢
  have hl : lv_has ls 3 [(0, .ref h0), (1, .ref h1), (2, .int p2)] := hl
  have hF : F_X3_holds τ Z gi gr h0 h1 p2 = F_X3_holds τ Z gi gr h0 h1 p2 := rfl
  refine lv_aload_n hx hb dX3_holds_0 rfl (lv_at hl 0 rfl) ?_
  obtain ⟨x1, e1⟩ : ∃ y : Int32, y = gi h0 7 := ⟨_, rfl⟩
  refine th_get (ci := 2) (v := .int x1) (T := TX3) (C := RX3) (N := 8) hx hb hts (fun w h => List.mem_cons_of_mem _ (List.mem_append_left _ (List.mem_append_left _ (List.mem_append_left _ (List.mem_append_right _ h))))) hown hK hH t_h0 (th_nz rfl) (thE_3 _ _ _) rfl 7 (th_ltN rfl) (hts (.fieldLink RX3 19 "BayMoorings$Buoy" "high" "I") (List.mem_cons_of_mem _ (List.mem_append_left _ (List.mem_append_left _ (List.mem_append_left _ (List.mem_append_left _ (List.mem_of_getElem? (i := 0) rfl))))))) (fun _ h9 => h9) (th_fI e1 rfl) dX3_holds_1 ?_
  refine lv_iload_n hx hb dX3_holds_4 rfl (lv_at hl 2 rfl) ?_
  refine lv_iadd hx hb dX3_holds_5 ?_
  refine lv_topi (fun x2 e2 => ?_)
  refine lv_aload_n hx hb dX3_holds_6 rfl (lv_at hl 1 rfl) ?_
  obtain ⟨x3, e3⟩ : ∃ y : Int32, y = gi h1 1 := ⟨_, rfl⟩
  refine th_any3 t_h1 (fun t9 k9 => th_get (ci := 7) (v := .int x3) (T := TX8) (C := RX8) (N := 6) hx hb hts (fun w h => List.mem_cons_of_mem _ (List.mem_append_left _ (List.mem_append_right _ h))) hown hK hH t9 (th_nz rfl) (thE_8 _ _ _) rfl 1 (th_ltN rfl) (hts (.fieldLink RX3 51 "BayMoorings$Boat" "length" "I") (List.mem_cons_of_mem _ (List.mem_append_left _ (List.mem_append_left _ (List.mem_append_left _ (List.mem_append_left _ (List.mem_of_getElem? (i := 1) rfl))))))) (fun _ h9 => h9) (th_fI e3 rfl) dX3_holds_7 k9) (fun t9 k9 => th_get (ci := 8) (v := .int x3) (T := TX9) (C := RX9) (N := 6) hx hb hts (fun w h => List.mem_cons_of_mem _ (List.mem_append_right _ h)) hown hK hH t9 (th_nz rfl) (thE_9 _ _ _) rfl 1 (th_ltN rfl) (hts (.fieldLink RX3 51 "BayMoorings$Boat" "length" "I") (List.mem_cons_of_mem _ (List.mem_append_left _ (List.mem_append_left _ (List.mem_append_left _ (List.mem_append_left _ (List.mem_of_getElem? (i := 1) rfl))))))) (fun _ h9 => h9) (th_fI e3 rfl) dX3_holds_7 k9) (fun t9 k9 => th_get (ci := 3) (v := .int x3) (T := TX4) (C := RX4) (N := 6) hx hb hts (fun w h => List.mem_cons_of_mem _ (List.mem_append_left _ (List.mem_append_left _ (List.mem_append_right _ h)))) hown hK hH t9 (th_nz rfl) (thE_4 _ _ _) rfl 1 (th_ltN rfl) (hts (.fieldLink RX3 51 "BayMoorings$Boat" "length" "I") (List.mem_cons_of_mem _ (List.mem_append_left _ (List.mem_append_left _ (List.mem_append_left _ (List.mem_append_left _ (List.mem_of_getElem? (i := 1) rfl))))))) (fun _ h9 => h9) (th_fI e3 rfl) dX3_holds_7 k9) ?_
  refine lv_bipush (v := 10) hx hb dX3_holds_10 bp_10 ?_
  refine lv_idiv hx hb dX3_holds_12 (rg_ne0 rgc_10 (Or.inl (th_ltI rfl))) ?_
  refine lv_topi (fun x4 e4 => ?_)
  refine lv_iadd hx hb dX3_holds_13 ?_
  refine lv_topi (fun x5 e5 => ?_)
  refine lv_bipush (v := 100) hx hb dX3_holds_14 bp_100 ?_
  refine lv_icmp_gt (tgt := 23) hx hb dX3_holds_16 (th_eqI rfl) (fun c6 => ?_) (fun c6 => ?_)
  · skip
    have f7 : rg 101 2147483647 x5 := rg_w (rg_lt rgc_100 (rg_any x5) c6).2 (th_leI rfl) (th_leI rfl)
    refine lv_iconst (v := 0) hx hb dX3_holds_23 ic_0 ?_
    exact W.zret (v := 0) hx hb hr (rg_nb (rg_w rgc_0 (th_leI rfl) (th_leI rfl))) (fun t ht hW => ⟨⟨0, (), rfl, ⟨(rg_w rgc_0 (th_leI rfl) (th_leI rfl)), (hF.trans (by simp only [↓reduceIte, F_X3_holds, ← e1, ← e2, ← e3, ← e4, ← e5, eq_true c6]))⟩, th_Ht ht hH⟩, hS.F ht⟩) hS.2.2 dX3_holds_24
  · skip
    have f8 : rg (-2147483648) 100 x5 := rg_w (rg_nlt rgc_100 (rg_any x5) c6).2 (th_leI rfl) (th_leI rfl)
    refine lv_iconst (v := 1) hx hb dX3_holds_19 ic_1 ?_
    refine lv_goto (tgt := 24) hx hb dX3_holds_20 (th_eqI rfl) ?_
    exact W.zret (v := 1) hx hb hr (rg_nb (rg_w rgc_1 (th_leI rfl) (th_leI rfl))) (fun t ht hW => ⟨⟨1, (), rfl, ⟨(rg_w rgc_1 (th_leI rfl) (th_leI rfl)), (hF.trans (by simp only [↓reduceIte, F_X3_holds, ← e1, ← e2, ← e3, ← e4, ← e5, eq_false c6]))⟩, th_Ht ht hH⟩, hS.F ht⟩) hS.2.2 dX3_holds_24
end
section
noncomputable def F_X2_reach (τ : th_t) (Z : th_Zt) (gi : th_i) (gr : th_r) (h0 : Nat) : Int32 :=
  let x1 : Int32 := gi h0 1
  x1
set_option maxHeartbeats 8000000 in
set_option maxRecDepth 100000 in
theorem k_X2_reach (l : Launch) (D : va_G) (cA : Nat → ClassId) (Z : th_Zt) (τ : th_t) (gi : th_i) (gr : th_r) (sz : Nat) (h0 : Nat) (t_h0 : τ h0 = 8 ∨ τ h0 = 9 ∨ τ h0 = 4) : Met l yX2_reach wsX2_reach ({ frames := 0, cells := 0, slots := 0, locals := 0 }) (va_Pc [.ref h0] (th_Pre D cA Z τ gi gr sz)) (va_Qi (fun (r : Int32) (_ : Unit) => (F_X2_reach τ Z gi gr h0 = r)) (fun (_ : Unit) t => th_H D cA τ gi gr t.heap) (th_A τ sz)) 0 0 (th_A τ sz) := by
  refine Met.ofW (cc := cX2_reach) (maxL := 1) (ret := (some .int)) (by decide) rfl ?_
  intro p e s m args below meth c s₁ B hml hv
  obtain ⟨rfl, hsz, hH, hK, hN, hZ⟩ := hv
  have hx := B.exec
  have hb := B.bytes
  have hr := B.returns
  have hts := atoms_spec (ws := wsX2_reach) B.pre
  have hown : s.vm.findClass RX2 = some m.cls := findClass_of_methodNamed B.named
  have hlocks := B.notSynchronized
  subst hsz
  have hS : va_S (th_A τ s.heap.size) s.heap s.heap [] := va_S.rf
  have hl := lv_entry ([.ref h0]) (n := 1) (Nat.le_of_ble_eq_true rfl)
  rw [lg_entry_eq]
  generalize (lg_sl ([.ref h0]) ++ List.replicate (1 - (lg_sl ([.ref h0])).length) Slot.unset).toArray = ls at hl ⊢
  have hl : lv_has ls 1 [(0, .ref h0)] := hl
  have hF : F_X2_reach τ Z gi gr h0 = F_X2_reach τ Z gi gr h0 := rfl
  refine lv_aload_n hx hb dX2_reach_0 rfl (lv_at hl 0 rfl) ?_
  obtain ⟨x1, e1⟩ : ∃ y : Int32, y = gi h0 1 := ⟨_, rfl⟩
  refine th_any3 t_h0 (fun t9 k9 => th_get (ci := 7) (v := .int x1) (T := TX8) (C := RX8) (N := 6) hx hb hts (fun w h => List.mem_cons_of_mem _ (List.mem_append_left _ (List.mem_append_right _ h))) hown hK hH t9 (th_nz rfl) (thE_8 _ _ _) rfl 1 (th_ltN rfl) (hts (.fieldLink RX2 25 "BayMoorings$Boat" "length" "I") (List.mem_cons_of_mem _ (List.mem_append_left _ (List.mem_append_left _ (List.mem_append_left _ (List.mem_of_getElem? (i := 0) rfl)))))) (fun _ h9 => h9) (th_fI e1 rfl) dX2_reach_1 k9) (fun t9 k9 => th_get (ci := 8) (v := .int x1) (T := TX9) (C := RX9) (N := 6) hx hb hts (fun w h => List.mem_cons_of_mem _ (List.mem_append_right _ h)) hown hK hH t9 (th_nz rfl) (thE_9 _ _ _) rfl 1 (th_ltN rfl) (hts (.fieldLink RX2 25 "BayMoorings$Boat" "length" "I") (List.mem_cons_of_mem _ (List.mem_append_left _ (List.mem_append_left _ (List.mem_append_left _ (List.mem_of_getElem? (i := 0) rfl)))))) (fun _ h9 => h9) (th_fI e1 rfl) dX2_reach_1 k9) (fun t9 k9 => th_get (ci := 3) (v := .int x1) (T := TX4) (C := RX4) (N := 6) hx hb hts (fun w h => List.mem_cons_of_mem _ (List.mem_append_left _ (List.mem_append_left _ (List.mem_append_right _ h)))) hown hK hH t9 (th_nz rfl) (thE_4 _ _ _) rfl 1 (th_ltN rfl) (hts (.fieldLink RX2 25 "BayMoorings$Boat" "length" "I") (List.mem_cons_of_mem _ (List.mem_append_left _ (List.mem_append_left _ (List.mem_append_left _ (List.mem_of_getElem? (i := 0) rfl)))))) (fun _ h9 => h9) (th_fI e1 rfl) dX2_reach_1 k9) ?_
  exact W.iret (v := x1) hx hb hr (fun t ht hW => ⟨⟨x1, (), rfl, (hF.trans (by simp only [F_X2_reach, ← e1])), th_Ht ht hH⟩, hS.F ht⟩) hS.2.2 dX2_reach_4

noncomputable def F_X2_need (τ : th_t) (Z : th_Zt) (gi : th_i) (gr : th_r) (h0 : Nat) : Int32 :=
  let x1 : Int32 := gi h0 2
  x1
set_option maxHeartbeats 8000000 in
set_option maxRecDepth 100000 in
theorem k_X2_need (l : Launch) (D : va_G) (cA : Nat → ClassId) (Z : th_Zt) (τ : th_t) (gi : th_i) (gr : th_r) (sz : Nat) (h0 : Nat) (t_h0 : τ h0 = 8 ∨ τ h0 = 9 ∨ τ h0 = 4) : Met l yX2_need wsX2_need ({ frames := 0, cells := 0, slots := 0, locals := 0 }) (va_Pc [.ref h0] (th_Pre D cA Z τ gi gr sz)) (va_Qi (fun (r : Int32) (_ : Unit) => (F_X2_need τ Z gi gr h0 = r)) (fun (_ : Unit) t => th_H D cA τ gi gr t.heap) (th_A τ sz)) 0 0 (th_A τ sz) := by
  refine Met.ofW (cc := cX2_need) (maxL := 1) (ret := (some .int)) (by decide) rfl ?_
  intro p e s m args below meth c s₁ B hml hv
  obtain ⟨rfl, hsz, hH, hK, hN, hZ⟩ := hv
  have hx := B.exec
  have hb := B.bytes
  have hr := B.returns
  have hts := atoms_spec (ws := wsX2_need) B.pre
  have hown : s.vm.findClass RX2 = some m.cls := findClass_of_methodNamed B.named
  have hlocks := B.notSynchronized
  subst hsz
  have hS : va_S (th_A τ s.heap.size) s.heap s.heap [] := va_S.rf
  have hl := lv_entry ([.ref h0]) (n := 1) (Nat.le_of_ble_eq_true rfl)
  rw [lg_entry_eq]
  generalize (lg_sl ([.ref h0]) ++ List.replicate (1 - (lg_sl ([.ref h0])).length) Slot.unset).toArray = ls at hl ⊢
  have hl : lv_has ls 1 [(0, .ref h0)] := hl
  have hF : F_X2_need τ Z gi gr h0 = F_X2_need τ Z gi gr h0 := rfl
  refine lv_aload_n hx hb dX2_need_0 rfl (lv_at hl 0 rfl) ?_
  obtain ⟨x1, e1⟩ : ∃ y : Int32, y = gi h0 2 := ⟨_, rfl⟩
  refine th_any3 t_h0 (fun t9 k9 => th_get (ci := 7) (v := .int x1) (T := TX8) (C := RX8) (N := 6) hx hb hts (fun w h => List.mem_cons_of_mem _ (List.mem_append_left _ (List.mem_append_right _ h))) hown hK hH t9 (th_nz rfl) (thE_8 _ _ _) rfl 2 (th_ltN rfl) (hts (.fieldLink RX2 28 "BayMoorings$Boat" "draught" "I") (List.mem_cons_of_mem _ (List.mem_append_left _ (List.mem_append_left _ (List.mem_append_left _ (List.mem_of_getElem? (i := 0) rfl)))))) (fun _ h9 => h9) (th_fI e1 rfl) dX2_need_1 k9) (fun t9 k9 => th_get (ci := 8) (v := .int x1) (T := TX9) (C := RX9) (N := 6) hx hb hts (fun w h => List.mem_cons_of_mem _ (List.mem_append_right _ h)) hown hK hH t9 (th_nz rfl) (thE_9 _ _ _) rfl 2 (th_ltN rfl) (hts (.fieldLink RX2 28 "BayMoorings$Boat" "draught" "I") (List.mem_cons_of_mem _ (List.mem_append_left _ (List.mem_append_left _ (List.mem_append_left _ (List.mem_of_getElem? (i := 0) rfl)))))) (fun _ h9 => h9) (th_fI e1 rfl) dX2_need_1 k9) (fun t9 k9 => th_get (ci := 3) (v := .int x1) (T := TX4) (C := RX4) (N := 6) hx hb hts (fun w h => List.mem_cons_of_mem _ (List.mem_append_left _ (List.mem_append_left _ (List.mem_append_right _ h)))) hown hK hH t9 (th_nz rfl) (thE_4 _ _ _) rfl 2 (th_ltN rfl) (hts (.fieldLink RX2 28 "BayMoorings$Boat" "draught" "I") (List.mem_cons_of_mem _ (List.mem_append_left _ (List.mem_append_left _ (List.mem_append_left _ (List.mem_of_getElem? (i := 0) rfl)))))) (fun _ h9 => h9) (th_fI e1 rfl) dX2_need_1 k9) ?_
  exact W.iret (v := x1) hx hb hr (fun t ht hW => ⟨⟨x1, (), rfl, (hF.trans (by simp only [F_X2_need, ← e1])), th_Ht ht hH⟩, hS.F ht⟩) hS.2.2 dX2_need_4

noncomputable def F_X2_plainFee (τ : th_t) (Z : th_Zt) (gi : th_i) (gr : th_r) (h0 : Nat) (p1 : Int32) : Int32 :=
  let x1 : Int32 := gi h0 1
  let x2 : Int32 := x1 * p1
  let x3 : Int32 := x2 + 9
  let x4 : Int32 := x3 / 10
  x4
set_option maxHeartbeats 8000000 in
set_option maxRecDepth 100000 in
theorem k_X2_plainFee (l : Launch) (D : va_G) (cA : Nat → ClassId) (Z : th_Zt) (τ : th_t) (gi : th_i) (gr : th_r) (sz : Nat) (h0 : Nat) (t_h0 : τ h0 = 8 ∨ τ h0 = 9 ∨ τ h0 = 4) (p1 : Int32) : Met l yX2_plainFee wsX2_plainFee ({ frames := 0, cells := 0, slots := 0, locals := 0 }) (va_Pc [.ref h0, .int p1] (th_Pre D cA Z τ gi gr sz)) (va_Qi (fun (r : Int32) (_ : Unit) => (F_X2_plainFee τ Z gi gr h0 p1 = r)) (fun (_ : Unit) t => th_H D cA τ gi gr t.heap) (th_A τ sz)) 0 0 (th_A τ sz) := by
  refine Met.ofW (cc := cX2_plainFee) (maxL := 2) (ret := (some .int)) (by decide) rfl ?_
  intro p e s m args below meth c s₁ B hml hv
  obtain ⟨rfl, hsz, hH, hK, hN, hZ⟩ := hv
  have hx := B.exec
  have hb := B.bytes
  have hr := B.returns
  have hts := atoms_spec (ws := wsX2_plainFee) B.pre
  have hown : s.vm.findClass RX2 = some m.cls := findClass_of_methodNamed B.named
  have hlocks := B.notSynchronized
  subst hsz
  have hS : va_S (th_A τ s.heap.size) s.heap s.heap [] := va_S.rf
  have hl := lv_entry ([.ref h0, .int p1]) (n := 2) (Nat.le_of_ble_eq_true rfl)
  rw [lg_entry_eq]
  generalize (lg_sl ([.ref h0, .int p1]) ++ List.replicate (2 - (lg_sl ([.ref h0, .int p1])).length) Slot.unset).toArray = ls at hl ⊢
  have hl : lv_has ls 2 [(0, .ref h0), (1, .int p1)] := hl
  have hF : F_X2_plainFee τ Z gi gr h0 p1 = F_X2_plainFee τ Z gi gr h0 p1 := rfl
  refine lv_aload_n hx hb dX2_plainFee_0 rfl (lv_at hl 0 rfl) ?_
  obtain ⟨x1, e1⟩ : ∃ y : Int32, y = gi h0 1 := ⟨_, rfl⟩
  refine th_any3 t_h0 (fun t9 k9 => th_get (ci := 7) (v := .int x1) (T := TX8) (C := RX8) (N := 6) hx hb hts (fun w h => List.mem_cons_of_mem _ (List.mem_append_left _ (List.mem_append_right _ h))) hown hK hH t9 (th_nz rfl) (thE_8 _ _ _) rfl 1 (th_ltN rfl) (hts (.fieldLink RX2 25 "BayMoorings$Boat" "length" "I") (List.mem_cons_of_mem _ (List.mem_append_left _ (List.mem_append_left _ (List.mem_append_left _ (List.mem_of_getElem? (i := 0) rfl)))))) (fun _ h9 => h9) (th_fI e1 rfl) dX2_plainFee_1 k9) (fun t9 k9 => th_get (ci := 8) (v := .int x1) (T := TX9) (C := RX9) (N := 6) hx hb hts (fun w h => List.mem_cons_of_mem _ (List.mem_append_right _ h)) hown hK hH t9 (th_nz rfl) (thE_9 _ _ _) rfl 1 (th_ltN rfl) (hts (.fieldLink RX2 25 "BayMoorings$Boat" "length" "I") (List.mem_cons_of_mem _ (List.mem_append_left _ (List.mem_append_left _ (List.mem_append_left _ (List.mem_of_getElem? (i := 0) rfl)))))) (fun _ h9 => h9) (th_fI e1 rfl) dX2_plainFee_1 k9) (fun t9 k9 => th_get (ci := 3) (v := .int x1) (T := TX4) (C := RX4) (N := 6) hx hb hts (fun w h => List.mem_cons_of_mem _ (List.mem_append_left _ (List.mem_append_left _ (List.mem_append_right _ h)))) hown hK hH t9 (th_nz rfl) (thE_4 _ _ _) rfl 1 (th_ltN rfl) (hts (.fieldLink RX2 25 "BayMoorings$Boat" "length" "I") (List.mem_cons_of_mem _ (List.mem_append_left _ (List.mem_append_left _ (List.mem_append_left _ (List.mem_of_getElem? (i := 0) rfl)))))) (fun _ h9 => h9) (th_fI e1 rfl) dX2_plainFee_1 k9) ?_
  refine lv_iload_n hx hb dX2_plainFee_4 rfl (lv_at hl 1 rfl) ?_
  refine lv_imul hx hb dX2_plainFee_5 ?_
  refine lv_topi (fun x2 e2 => ?_)
  refine lv_bipush (v := 9) hx hb dX2_plainFee_6 bp_9 ?_
  refine lv_iadd hx hb dX2_plainFee_8 ?_
  refine lv_topi (fun x3 e3 => ?_)
  refine lv_bipush (v := 10) hx hb dX2_plainFee_9 bp_10 ?_
  refine lv_idiv hx hb dX2_plainFee_11 (rg_ne0 rgc_10 (Or.inl (th_ltI rfl))) ?_
  refine lv_topi (fun x4 e4 => ?_)
  exact W.iret (v := x4) hx hb hr (fun t ht hW => ⟨⟨x4, (), rfl, (hF.trans (by simp only [F_X2_plainFee, ← e1, ← e2, ← e3, ← e4])), th_Ht ht hH⟩, hS.F ht⟩) hS.2.2 dX2_plainFee_12

noncomputable def F_X2_fee (τ : th_t) (Z : th_Zt) (gi : th_i) (gr : th_r) (h0 : Nat) (p1 : Int32) : Int32 :=
  let x2 : Int32 := F_X2_plainFee τ Z gi gr h0 p1
  x2
set_option maxHeartbeats 8000000 in
set_option maxRecDepth 100000 in
theorem k_X2_fee (l : Launch) (D : va_G) (cA : Nat → ClassId) (Z : th_Zt) (τ : th_t) (gi : th_i) (gr : th_r) (sz : Nat) (h0 : Nat) (t_h0 : τ h0 = 8 ∨ τ h0 = 9 ∨ τ h0 = 4) (p1 : Int32) : Met l yX2_fee wsX2_fee ({ frames := 1, cells := 0, slots := 0, locals := 21 }) (va_Pc [.ref h0, .int p1] (th_Pre D cA Z τ gi gr sz)) (va_Qi (fun (r : Int32) (_ : Unit) => (F_X2_fee τ Z gi gr h0 p1 = r)) (fun (_ : Unit) t => th_H D cA τ gi gr t.heap) (th_A τ sz)) 0 0 (th_A τ sz) := by
  refine Met.ofW (cc := cX2_fee) (maxL := 2) (ret := (some .int)) (by decide) rfl ?_
  intro p e s m args below meth c s₁ B hml hv
  obtain ⟨rfl, hsz, hH, hK, hN, hZ⟩ := hv
  have hx := B.exec
  have hb := B.bytes
  have hr := B.returns
  have hts := atoms_spec (ws := wsX2_fee) B.pre
  have hown : s.vm.findClass RX2 = some m.cls := findClass_of_methodNamed B.named
  have hlocks := B.notSynchronized
  subst hsz
  have hS : va_S (th_A τ s.heap.size) s.heap s.heap [] := va_S.rf
  have hl := lv_entry ([.ref h0, .int p1]) (n := 2) (Nat.le_of_ble_eq_true rfl)
  rw [lg_entry_eq]
  generalize (lg_sl ([.ref h0, .int p1]) ++ List.replicate (2 - (lg_sl ([.ref h0, .int p1])).length) Slot.unset).toArray = ls at hl ⊢
  have hl : lv_has ls 2 [(0, .ref h0), (1, .int p1)] := hl
  have hF : F_X2_fee τ Z gi gr h0 p1 = F_X2_fee τ Z gi gr h0 p1 := rfl
  refine lv_aload_n hx hb dX2_fee_0 rfl (lv_at hl 0 rfl) ?_
  refine lv_iload_n hx hb dX2_fee_1 rfl (lv_at hl 1 rfl) ?_
  have hA1 := th_Asub (τ := τ) hS
  refine va_calli (th_or3 t_h0 (fun t9 => va_runU (As := [.int p1]) (rest := []) ⟨hx, hb, hml, hown, hts⟩ (k_X2_plainFee l D cA Z τ gi gr _ h0 (Or.inl t9) p1) (va_cwU 1 hts gX2_fee_X2_plainFee_u31X8 rfl rfl rfl rfl (by decide +kernel) ⟨Nat.le_of_ble_eq_true rfl, Nat.le_of_ble_eq_true rfl⟩) ⟨th_blind, tr_8 hK hH t9, (th_pre hH hK hN hZ hS hA1)⟩ rfl rfl hl.1 rfl (lv_room (Nat.le_of_ble_eq_true rfl)) dX2_fee_2 ⟨Nat.le_of_ble_eq_true rfl, Nat.le_of_ble_eq_true rfl⟩) (fun t9 => va_runU (As := [.int p1]) (rest := []) ⟨hx, hb, hml, hown, hts⟩ (k_X2_plainFee l D cA Z τ gi gr _ h0 (Or.inr (Or.inl t9)) p1) (va_cwU 1 hts gX2_fee_X2_plainFee_u31X9 rfl rfl rfl rfl (by decide +kernel) ⟨Nat.le_of_ble_eq_true rfl, Nat.le_of_ble_eq_true rfl⟩) ⟨th_blind, tr_9 hK hH t9, (th_pre hH hK hN hZ hS hA1)⟩ rfl rfl hl.1 rfl (lv_room (Nat.le_of_ble_eq_true rfl)) dX2_fee_2 ⟨Nat.le_of_ble_eq_true rfl, Nat.le_of_ble_eq_true rfl⟩) (fun t9 => va_runU (As := [.int p1]) (rest := []) ⟨hx, hb, hml, hown, hts⟩ (k_X2_plainFee l D cA Z τ gi gr _ h0 (Or.inr (Or.inr t9)) p1) (va_cwU 1 hts gX2_fee_X2_plainFee_u31X4 rfl rfl rfl rfl (by decide +kernel) ⟨Nat.le_of_ble_eq_true rfl, Nat.le_of_ble_eq_true rfl⟩) ⟨th_blind, tr_4 hK hH t9, (th_pre hH hK hN hZ hS hA1)⟩ rfl rfl hl.1 rfl (lv_room (Nat.le_of_ble_eq_true rfl)) dX2_fee_2 ⟨Nat.le_of_ble_eq_true rfl, Nat.le_of_ble_eq_true rfl⟩)) hS (fun q _ h => hA1 q h) hA1 (fun x2 u t H locs ht hvm hw2 hB hz1 hk1 hS => ?_)
  try dsimp only at hw2 hB
  rw [ht] at hB
  have hH := hB
  exact W.iret (v := x2) hx hb hr (fun t ht hW => ⟨⟨x2, (), rfl, (hF.trans (by simp only [F_X2_fee, hw2])), th_Ht ht hH⟩, hS.F ht⟩) hS.2.2 dX2_fee_5

noncomputable def F_X2_hasRefused (τ : th_t) (Z : th_Zt) (gi : th_i) (gr : th_r) (h0 : Nat) (p1 : Int32) : Int32 :=
  let x1 : Int32 := gi h0 5
  let x2 : Int32 := x1 >>> (p1 &&& 31)
  let x3 : Int32 := x2 &&& 1
  if x3 = (0 : Int32) then (
    0) else (
    1)
set_option maxHeartbeats 8000000 in
set_option maxRecDepth 100000 in
theorem k_X2_hasRefused (l : Launch) (D : va_G) (cA : Nat → ClassId) (Z : th_Zt) (τ : th_t) (gi : th_i) (gr : th_r) (sz : Nat) (h0 : Nat) (t_h0 : τ h0 = 8 ∨ τ h0 = 9 ∨ τ h0 = 4) (p1 : Int32) : Met l yX2_hasRefused wsX2_hasRefused ({ frames := 0, cells := 0, slots := 0, locals := 0 }) (va_Pc [.ref h0, .int p1] (th_Pre D cA Z τ gi gr sz)) (va_Qi (fun (r : Int32) (_ : Unit) => rg 0 1 r ∧ (F_X2_hasRefused τ Z gi gr h0 p1 = r)) (fun (_ : Unit) t => th_H D cA τ gi gr t.heap) (th_A τ sz)) 0 0 (th_A τ sz) := by
  refine Met.ofW (cc := cX2_hasRefused) (maxL := 2) (ret := (some .boolean)) (by decide) rfl ?_
  intro p e s m args below meth c s₁ B hml hv
  obtain ⟨rfl, hsz, hH, hK, hN, hZ⟩ := hv
  have hx := B.exec
  have hb := B.bytes
  have hr := B.returns
  have hts := atoms_spec (ws := wsX2_hasRefused) B.pre
  have hown : s.vm.findClass RX2 = some m.cls := findClass_of_methodNamed B.named
  have hlocks := B.notSynchronized
  subst hsz
  have hS : va_S (th_A τ s.heap.size) s.heap s.heap [] := va_S.rf
  have hl := lv_entry ([.ref h0, .int p1]) (n := 2) (Nat.le_of_ble_eq_true rfl)
  rw [lg_entry_eq]
  generalize (lg_sl ([.ref h0, .int p1]) ++ List.replicate (2 - (lg_sl ([.ref h0, .int p1])).length) Slot.unset).toArray = ls at hl ⊢
  have hl : lv_has ls 2 [(0, .ref h0), (1, .int p1)] := hl
  have hF : F_X2_hasRefused τ Z gi gr h0 p1 = F_X2_hasRefused τ Z gi gr h0 p1 := rfl
  refine lv_aload_n hx hb dX2_hasRefused_0 rfl (lv_at hl 0 rfl) ?_
  obtain ⟨x1, e1⟩ : ∃ y : Int32, y = gi h0 5 := ⟨_, rfl⟩
  refine th_any3 t_h0 (fun t9 k9 => th_get (ci := 7) (v := .int x1) (T := TX8) (C := RX8) (N := 6) hx hb hts (fun w h => List.mem_cons_of_mem _ (List.mem_append_left _ (List.mem_append_right _ h))) hown hK hH t9 (th_nz rfl) (thE_8 _ _ _) rfl 5 (th_ltN rfl) (hts (.fieldLink RX2 19 "BayMoorings$Boat" "refused" "I") (List.mem_cons_of_mem _ (List.mem_append_left _ (List.mem_append_left _ (List.mem_append_left _ (List.mem_of_getElem? (i := 0) rfl)))))) (fun _ h9 => h9) (th_fI e1 rfl) dX2_hasRefused_1 k9) (fun t9 k9 => th_get (ci := 8) (v := .int x1) (T := TX9) (C := RX9) (N := 6) hx hb hts (fun w h => List.mem_cons_of_mem _ (List.mem_append_right _ h)) hown hK hH t9 (th_nz rfl) (thE_9 _ _ _) rfl 5 (th_ltN rfl) (hts (.fieldLink RX2 19 "BayMoorings$Boat" "refused" "I") (List.mem_cons_of_mem _ (List.mem_append_left _ (List.mem_append_left _ (List.mem_append_left _ (List.mem_of_getElem? (i := 0) rfl)))))) (fun _ h9 => h9) (th_fI e1 rfl) dX2_hasRefused_1 k9) (fun t9 k9 => th_get (ci := 3) (v := .int x1) (T := TX4) (C := RX4) (N := 6) hx hb hts (fun w h => List.mem_cons_of_mem _ (List.mem_append_left _ (List.mem_append_left _ (List.mem_append_right _ h)))) hown hK hH t9 (th_nz rfl) (thE_4 _ _ _) rfl 5 (th_ltN rfl) (hts (.fieldLink RX2 19 "BayMoorings$Boat" "refused" "I") (List.mem_cons_of_mem _ (List.mem_append_left _ (List.mem_append_left _ (List.mem_append_left _ (List.mem_of_getElem? (i := 0) rfl)))))) (fun _ h9 => h9) (th_fI e1 rfl) dX2_hasRefused_1 k9) ?_
  refine lv_iload_n hx hb dX2_hasRefused_4 rfl (lv_at hl 1 rfl) ?_
  refine lv_ishr hx hb dX2_hasRefused_5 ?_
  refine lv_topi (fun x2 e2 => ?_)
  refine lv_iconst (v := 1) hx hb dX2_hasRefused_6 ic_1 ?_
  refine lv_iand hx hb dX2_hasRefused_7 ?_
  refine lv_topi (fun x3 e3 => ?_)
  have f3 : rg 0 1 x3 := rg_e e3 (rg_and 1 (by decide) (th_leN rfl) (th_eqI rfl))
  refine lv_if_eq (tgt := 15) hx hb dX2_hasRefused_8 (th_eqI rfl) (fun c4 => ?_) (fun c4 => ?_)
  · skip
    have f5 : rg 0 0 x3 := rg_w (rg_eq f3 rgc_0 c4).1 (th_leI rfl) (th_leI rfl)
    refine lv_iconst (v := 0) hx hb dX2_hasRefused_15 ic_0 ?_
    exact W.zret (v := 0) hx hb hr (rg_nb (rg_w rgc_0 (th_leI rfl) (th_leI rfl))) (fun t ht hW => ⟨⟨0, (), rfl, ⟨(rg_w rgc_0 (th_leI rfl) (th_leI rfl)), (hF.trans (by simp only [↓reduceIte, F_X2_hasRefused, ← e1, ← e2, ← e3, eq_true c4]))⟩, th_Ht ht hH⟩, hS.F ht⟩) hS.2.2 dX2_hasRefused_16
  · skip
    have f6 : rg 1 1 x3 := rg_w (rg_neL f3 rgc_0 c4) (th_leI rfl) (th_leI rfl)
    refine lv_iconst (v := 1) hx hb dX2_hasRefused_11 ic_1 ?_
    refine lv_goto (tgt := 16) hx hb dX2_hasRefused_12 (th_eqI rfl) ?_
    exact W.zret (v := 1) hx hb hr (rg_nb (rg_w rgc_1 (th_leI rfl) (th_leI rfl))) (fun t ht hW => ⟨⟨1, (), rfl, ⟨(rg_w rgc_1 (th_leI rfl) (th_leI rfl)), (hF.trans (by simp only [↓reduceIte, F_X2_hasRefused, ← e1, ← e2, ← e3, eq_false c4]))⟩, th_Ht ht hH⟩, hS.F ht⟩) hS.2.2 dX2_hasRefused_16

noncomputable def F_X2_wishAt (τ : th_t) (Z : th_Zt) (gi : th_i) (gr : th_r) (h0 : Nat) (p1 : Int32) : Int32 :=
  let x1 : Int32 := gi h0 4
  let x2 : Int32 := x1 - 1
  let x4 : Int32 := F_X11_within τ Z gi gr p1 0 x2
  if x4 = (0 : Int32) then (
    (-1)) else (
    if (4 : Int32) ≤ p1 then (
      0) else (
      let q14 : Nat := (gr h0 3).getD 0
      let x15 : Int32 := gi q14 p1.toNatClampNeg
      x15))
set_option maxHeartbeats 8000000 in
set_option maxRecDepth 100000 in
theorem k_X2_wishAt (l : Launch) (D : va_G) (cA : Nat → ClassId) (Z : th_Zt) (τ : th_t) (gi : th_i) (gr : th_r) (sz : Nat) (h0 : Nat) (t_h0 : τ h0 = 8 ∨ τ h0 = 9 ∨ τ h0 = 4) (p1 : Int32) : Met l yX2_wishAt wsX2_wishAt ({ frames := 1, cells := 0, slots := 0, locals := 22 }) (va_Pc [.ref h0, .int p1] (th_Pre D cA Z τ gi gr sz)) (va_Qi (fun (r : Int32) (_ : Unit) => (F_X2_wishAt τ Z gi gr h0 p1 = r)) (fun (_ : Unit) t => th_H D cA τ gi gr t.heap) (th_A τ sz)) 0 0 (th_A τ sz) := by
  refine Met.ofW (cc := cX2_wishAt) (maxL := 2) (ret := (some .int)) (by decide) rfl ?_
  intro p e s m args below meth c s₁ B hml hv
  obtain ⟨rfl, hsz, hH, hK, hN, hZ⟩ := hv
  have hx := B.exec
  have hb := B.bytes
  have hr := B.returns
  have hts := atoms_spec (ws := wsX2_wishAt) B.pre
  have hown : s.vm.findClass RX2 = some m.cls := findClass_of_methodNamed B.named
  have hlocks := B.notSynchronized
  subst hsz
  have hS : va_S (th_A τ s.heap.size) s.heap s.heap [] := va_S.rf
  have hl := lv_entry ([.ref h0, .int p1]) (n := 2) (Nat.le_of_ble_eq_true rfl)
  rw [lg_entry_eq]
  generalize (lg_sl ([.ref h0, .int p1]) ++ List.replicate (2 - (lg_sl ([.ref h0, .int p1])).length) Slot.unset).toArray = ls at hl ⊢
  have hl : lv_has ls 2 [(0, .ref h0), (1, .int p1)] := hl
  have hF : F_X2_wishAt τ Z gi gr h0 p1 = F_X2_wishAt τ Z gi gr h0 p1 := rfl
  refine lv_iload_n hx hb dX2_wishAt_0 rfl (lv_at hl 1 rfl) ?_
  refine lv_iconst (v := 0) hx hb dX2_wishAt_1 ic_0 ?_
  refine lv_aload_n hx hb dX2_wishAt_2 rfl (lv_at hl 0 rfl) ?_
  obtain ⟨x1, e1⟩ : ∃ y : Int32, y = gi h0 4 := ⟨_, rfl⟩
  refine th_any3 t_h0 (fun t9 k9 => th_get (ci := 7) (v := .int x1) (T := TX8) (C := RX8) (N := 6) hx hb hts (fun w h => List.mem_cons_of_mem _ (List.mem_append_left _ (List.mem_append_right _ h))) hown hK hH t9 (th_nz rfl) (thE_8 _ _ _) rfl 4 (th_ltN rfl) (hts (.fieldLink RX2 15 "BayMoorings$Boat" "wishCount" "I") (List.mem_cons_of_mem _ (List.mem_append_left _ (List.mem_append_left _ (List.mem_append_left _ (List.mem_of_getElem? (i := 0) rfl)))))) (fun _ h9 => h9) (th_fI e1 rfl) dX2_wishAt_3 k9) (fun t9 k9 => th_get (ci := 8) (v := .int x1) (T := TX9) (C := RX9) (N := 6) hx hb hts (fun w h => List.mem_cons_of_mem _ (List.mem_append_right _ h)) hown hK hH t9 (th_nz rfl) (thE_9 _ _ _) rfl 4 (th_ltN rfl) (hts (.fieldLink RX2 15 "BayMoorings$Boat" "wishCount" "I") (List.mem_cons_of_mem _ (List.mem_append_left _ (List.mem_append_left _ (List.mem_append_left _ (List.mem_of_getElem? (i := 0) rfl)))))) (fun _ h9 => h9) (th_fI e1 rfl) dX2_wishAt_3 k9) (fun t9 k9 => th_get (ci := 3) (v := .int x1) (T := TX4) (C := RX4) (N := 6) hx hb hts (fun w h => List.mem_cons_of_mem _ (List.mem_append_left _ (List.mem_append_left _ (List.mem_append_right _ h)))) hown hK hH t9 (th_nz rfl) (thE_4 _ _ _) rfl 4 (th_ltN rfl) (hts (.fieldLink RX2 15 "BayMoorings$Boat" "wishCount" "I") (List.mem_cons_of_mem _ (List.mem_append_left _ (List.mem_append_left _ (List.mem_append_left _ (List.mem_of_getElem? (i := 0) rfl)))))) (fun _ h9 => h9) (th_fI e1 rfl) dX2_wishAt_3 k9) ?_
  have f1 : rg 0 4 x1 := rg_e e1 (th_or3 t_h0 (fun t9 => (thI_8 hH t9).2) (fun t9 => (thI_9 hH t9).2) (fun t9 => (thI_4 hH t9).2))
  refine lv_iconst (v := 1) hx hb dX2_wishAt_6 ic_1 ?_
  refine lv_isub hx hb dX2_wishAt_7 ?_
  refine lv_topi (fun x2 e2 => ?_)
  have f2 : rg (-1) 3 x2 := rg_e e2 (rg_w (rg_sub f1 rgc_1 (th_leI rfl) (th_leI rfl)) (th_leI rfl) (th_leI rfl))
  have hA3 := th_Asub (τ := τ) hS
  refine va_calli (va_runSN (As := [.int p1, .int 0, .int x2]) (rest := []) ⟨hx, hb, hml, hown, hts⟩ (k_X11_within l D cA Z τ gi gr _ p1 0 x2) ⟨va_cnB (host := RX11) 3 hts gX2_wishAt_X11_within_n39 rfl rfl rfl hN.2.2.2.2.2.2.1 (hts (.initialized RX11) (List.mem_cons_of_mem _ (List.mem_append_left _ (List.mem_append_left _ (List.mem_append_left _ (List.mem_of_getElem? (i := 3) rfl)))))) (by decide +kernel) ⟨Nat.le_of_ble_eq_true rfl, Nat.le_of_ble_eq_true rfl⟩, (hts (.static yX11_within) (List.mem_cons_of_mem _ (List.mem_append_left _ (List.mem_append_left _ (List.mem_append_left _ (List.mem_of_getElem? (i := 2) rfl)))))), trivial⟩ ⟨th_blind, (th_pre hH hK hN hZ hS hA3)⟩ rfl rfl hl.1 rfl (lv_room (Nat.le_of_ble_eq_true rfl)) dX2_wishAt_8 ⟨Nat.le_of_ble_eq_true rfl, Nat.le_of_ble_eq_true rfl⟩) hS (fun q _ h => hA3 q h) hA3 (fun x4 u t H locs ht hvm hw4 hB hz1 hk1 hS => ?_)
  try dsimp only at hw4 hB
  rw [ht] at hB
  have hH := hB
  refine lv_if_eq (tgt := 28) hx hb dX2_wishAt_11 (th_eqI rfl) (fun c5 => ?_) (fun c5 => ?_)
  · skip
    have f6 : rg 0 0 x4 := rg_w (rg_eq hw4.1 rgc_0 c5).1 (th_leI rfl) (th_leI rfl)
    refine lv_iconst (v := (-1)) hx hb dX2_wishAt_28 ic_m1 ?_
    exact W.iret (v := (-1)) hx hb hr (fun t ht hW => ⟨⟨(-1), (), rfl, (hF.trans (by simp only [↓reduceIte, F_X2_wishAt, ← e1, ← e2, hw4.2.2.1, eq_true c5])), th_Ht ht hH⟩, hS.F ht⟩) hS.2.2 dX2_wishAt_29
  · skip
    have f7 : rg 1 1 x4 := rg_w (rg_neL hw4.1 rgc_0 c5) (th_leI rfl) (th_leI rfl)
    have g8 := hw4.2.1 c5
    have f9 : rg 0 2147483647 p1 := rg_w (rg_le rgc_0 (rg_any p1) g8.1).2 (th_leI rfl) (th_leI rfl)
    have f10 : rg 0 3 p1 := rg_w (rg_le f9 f2 g8.2).1 (th_leI rfl) (th_leI rfl)
    have f11 : rg 0 3 x2 := rg_w (rg_le f10 f2 g8.2).2 (th_leI rfl) (th_leI rfl)
    have f12 : rg 1 4 x1 := rg_back (rg_dS e2 f1 rgc_1 (th_leI rfl) (th_leI rfl)) f1 f11 (by decide) (by decide)
    refine lv_iload_n hx hb dX2_wishAt_14 rfl (lv_at hl 1 rfl) ?_
    refine lv_iconst (v := 4) hx hb dX2_wishAt_15 ic_4 ?_
    refine lv_icmp_ge (tgt := 28) hx hb dX2_wishAt_16 (th_eqI rfl) (fun c13 => ?_) (fun c13 => ?_)
    · skip
      exact absurd (rg_le rgc_4 f10 c13).1 (rg_no (th_ltI rfl))
    · skip
      refine lv_aload_n hx hb dX2_wishAt_19 rfl (lv_at hl 0 rfl) ?_
      obtain ⟨q14, r14, t14⟩ : ∃ q, gr h0 3 = some q ∧ τ q = 27 := th_or3 t_h0 (fun t9 => (thI_8 hH t9).1) (fun t9 => (thI_9 hH t9).1) (fun t9 => (thI_4 hH t9).1)
      refine th_any3 t_h0 (fun t9 k9 => th_get (ci := 7) (v := .ref q14) (T := TX8) (C := RX8) (N := 6) hx hb hts (fun w h => List.mem_cons_of_mem _ (List.mem_append_left _ (List.mem_append_right _ h))) hown hK hH t9 (th_nz rfl) (thE_8 _ _ _) rfl 3 (th_ltN rfl) (hts (.fieldLink RX2 9 "BayMoorings$Boat" "wishes" "[I") (List.mem_cons_of_mem _ (List.mem_append_left _ (List.mem_append_left _ (List.mem_append_left _ (List.mem_of_getElem? (i := 1) rfl)))))) (fun _ h9 => h9) (th_fR r14 rfl) dX2_wishAt_20 k9) (fun t9 k9 => th_get (ci := 8) (v := .ref q14) (T := TX9) (C := RX9) (N := 6) hx hb hts (fun w h => List.mem_cons_of_mem _ (List.mem_append_right _ h)) hown hK hH t9 (th_nz rfl) (thE_9 _ _ _) rfl 3 (th_ltN rfl) (hts (.fieldLink RX2 9 "BayMoorings$Boat" "wishes" "[I") (List.mem_cons_of_mem _ (List.mem_append_left _ (List.mem_append_left _ (List.mem_append_left _ (List.mem_of_getElem? (i := 1) rfl)))))) (fun _ h9 => h9) (th_fR r14 rfl) dX2_wishAt_20 k9) (fun t9 k9 => th_get (ci := 3) (v := .ref q14) (T := TX4) (C := RX4) (N := 6) hx hb hts (fun w h => List.mem_cons_of_mem _ (List.mem_append_left _ (List.mem_append_left _ (List.mem_append_right _ h)))) hown hK hH t9 (th_nz rfl) (thE_4 _ _ _) rfl 3 (th_ltN rfl) (hts (.fieldLink RX2 9 "BayMoorings$Boat" "wishes" "[I") (List.mem_cons_of_mem _ (List.mem_append_left _ (List.mem_append_left _ (List.mem_append_left _ (List.mem_of_getElem? (i := 1) rfl)))))) (fun _ h9 => h9) (th_fR r14 rfl) dX2_wishAt_20 k9) ?_
      refine lv_iload_n hx hb dX2_wishAt_23 rfl (lv_at hl 1 rfl) ?_
      refine th_iald hx hb hK hH t14 (th_nz rfl) 0 (thE_27 _ _ _) rfl (rg_in (n := 4) f10 (th_leI rfl) (th_ltI rfl)) dX2_wishAt_24 ?_
      refine lv_topi (fun x15 e15 => ?_)
      refine lv_goto (tgt := 29) hx hb dX2_wishAt_25 (th_eqI rfl) ?_
      exact W.iret (v := x15) hx hb hr (fun t ht hW => ⟨⟨x15, (), rfl, (hF.trans (by simp only [↓reduceIte, F_X2_wishAt, ← e1, ← e2, hw4.2.2.1, eq_false c5, eq_false c13, r14, Option.getD_some, ← e15])), th_Ht ht hH⟩, hS.F ht⟩) hS.2.2 dX2_wishAt_29

noncomputable def f_X2_wishesFor_2 (τ : th_t) (Z : th_Zt) (gi : th_i) (gr : th_r) (h0 : Nat) (p1 : Int32) : Nat → Int32 → Int32
  | 0, y2_2 => 0
  | n2 + 1, y2_2 =>
    let x1 : Int32 := gi h0 4
    if x1 ≤ y2_2 then (
      0) else (
      let x6 : Int32 := F_X2_wishAt τ Z gi gr h0 y2_2
      if x6 = p1 then (
        1) else (
        let x8 : Int32 := y2_2 + 1
        (f_X2_wishesFor_2 τ Z gi gr h0 p1 n2) x8))
noncomputable def F_X2_wishesFor (τ : th_t) (Z : th_Zt) (gi : th_i) (gr : th_r) (h0 : Nat) (p1 : Int32) : Int32 :=
  f_X2_wishesFor_2 τ Z gi gr h0 p1 ((4 - (0 : Int32).toInt).toNat + 1) 0
set_option maxHeartbeats 8000000 in
set_option maxRecDepth 100000 in
theorem k_X2_wishesFor (l : Launch) (D : va_G) (cA : Nat → ClassId) (Z : th_Zt) (τ : th_t) (gi : th_i) (gr : th_r) (sz : Nat) (h0 : Nat) (t_h0 : τ h0 = 8 ∨ τ h0 = 9 ∨ τ h0 = 4) (p1 : Int32) : Met l yX2_wishesFor wsX2_wishesFor ({ frames := 2, cells := 0, slots := 0, locals := 43 }) (va_Pc [.ref h0, .int p1] (th_Pre D cA Z τ gi gr sz)) (va_Qi (fun (r : Int32) (_ : Unit) => rg 0 1 r ∧ (F_X2_wishesFor τ Z gi gr h0 p1 = r)) (fun (_ : Unit) t => th_H D cA τ gi gr t.heap) (th_A τ sz)) 0 0 (th_A τ sz) := by
  refine Met.ofW (cc := cX2_wishesFor) (maxL := 3) (ret := (some .boolean)) (by decide) rfl ?_
  intro p e s m args below meth c s₁ B hml hv
  obtain ⟨rfl, hsz, hH, hK, hN, hZ⟩ := hv
  have hx := B.exec
  have hb := B.bytes
  have hr := B.returns
  have hts := atoms_spec (ws := wsX2_wishesFor) B.pre
  have hown : s.vm.findClass RX2 = some m.cls := findClass_of_methodNamed B.named
  have hlocks := B.notSynchronized
  subst hsz
  have J2 : ∀ (n2 : Nat) (H : Heap) (locs : List Loc) (ls : Array Slot) (y2_2 : Int32), (4 - y2_2.toInt).toNat < n2 → th_H D cA τ gi gr H → va_S (th_A τ s.heap.size) s.heap H locs → lv_has ls 3 [(0, .ref h0), (1, .int p1), (2, .int y2_2)] → rg 0 4 y2_2 → F_X2_wishesFor τ Z gi gr h0 p1 = f_X2_wishesFor_2 τ Z gi gr h0 p1 n2 y2_2 → W p l e (headSpec wsX2_wishesFor ({ frames := 2, cells := 0, slots := 0, locals := 43 })).room s m [.ref h0, .int p1].toArray below meth c H locs 0 0 (MQ below (va_Qi (fun (r : Int32) (_ : Unit) => rg 0 1 r ∧ (F_X2_wishesFor τ Z gi gr h0 p1 = r)) (fun (_ : Unit) t => th_H D cA τ gi gr t.heap) (th_A τ s.heap.size)) [.ref h0, .int p1].toArray s 0 0 (th_A τ s.heap.size)) (F0 m 2 ls []) := by
    intro n2
    induction n2 with
    | zero =>
      intro H locs ls y2_2 hn
      exact absurd hn (Nat.not_lt_zero _)
    | succ n2 ih2 =>
      intro H locs ls y2_2 hn2 hH hS hl fy2_2 hF
      refine lv_iload_n hx hb dX2_wishesFor_2 rfl (lv_at hl 2 rfl) ?_
      refine lv_aload_n hx hb dX2_wishesFor_3 rfl (lv_at hl 0 rfl) ?_
      obtain ⟨x1, e1⟩ : ∃ y : Int32, y = gi h0 4 := ⟨_, rfl⟩
      refine th_any3 t_h0 (fun t9 k9 => th_get (ci := 7) (v := .int x1) (T := TX8) (C := RX8) (N := 6) hx hb hts (fun w h => List.mem_cons_of_mem _ (List.mem_append_left _ (List.mem_append_right _ h))) hown hK hH t9 (th_nz rfl) (thE_8 _ _ _) rfl 4 (th_ltN rfl) (hts (.fieldLink RX2 15 "BayMoorings$Boat" "wishCount" "I") (List.mem_cons_of_mem _ (List.mem_append_left _ (List.mem_append_left _ (List.mem_append_left _ (List.mem_of_getElem? (i := 0) rfl)))))) (fun _ h9 => h9) (th_fI e1 rfl) dX2_wishesFor_4 k9) (fun t9 k9 => th_get (ci := 8) (v := .int x1) (T := TX9) (C := RX9) (N := 6) hx hb hts (fun w h => List.mem_cons_of_mem _ (List.mem_append_right _ h)) hown hK hH t9 (th_nz rfl) (thE_9 _ _ _) rfl 4 (th_ltN rfl) (hts (.fieldLink RX2 15 "BayMoorings$Boat" "wishCount" "I") (List.mem_cons_of_mem _ (List.mem_append_left _ (List.mem_append_left _ (List.mem_append_left _ (List.mem_of_getElem? (i := 0) rfl)))))) (fun _ h9 => h9) (th_fI e1 rfl) dX2_wishesFor_4 k9) (fun t9 k9 => th_get (ci := 3) (v := .int x1) (T := TX4) (C := RX4) (N := 6) hx hb hts (fun w h => List.mem_cons_of_mem _ (List.mem_append_left _ (List.mem_append_left _ (List.mem_append_right _ h)))) hown hK hH t9 (th_nz rfl) (thE_4 _ _ _) rfl 4 (th_ltN rfl) (hts (.fieldLink RX2 15 "BayMoorings$Boat" "wishCount" "I") (List.mem_cons_of_mem _ (List.mem_append_left _ (List.mem_append_left _ (List.mem_append_left _ (List.mem_of_getElem? (i := 0) rfl)))))) (fun _ h9 => h9) (th_fI e1 rfl) dX2_wishesFor_4 k9) ?_
      have f1 : rg 0 4 x1 := rg_e e1 (th_or3 t_h0 (fun t9 => (thI_8 hH t9).2) (fun t9 => (thI_9 hH t9).2) (fun t9 => (thI_4 hH t9).2))
      refine lv_icmp_ge (tgt := 27) hx hb dX2_wishesFor_7 (th_eqI rfl) (fun c2 => ?_) (fun c2 => ?_)
      · skip
        refine lv_iconst (v := 0) hx hb dX2_wishesFor_27 ic_0 ?_
        exact W.zret (v := 0) hx hb hr (rg_nb (rg_w rgc_0 (th_leI rfl) (th_leI rfl))) (fun t ht hW => ⟨⟨0, (), rfl, ⟨(rg_w rgc_0 (th_leI rfl) (th_leI rfl)), (hF.trans (by simp only [↓reduceIte, f_X2_wishesFor_2, ← e1, eq_true c2]))⟩, th_Ht ht hH⟩, hS.F ht⟩) hS.2.2 dX2_wishesFor_28
      · skip
        have f3 : rg 1 4 x1 := rg_w (rg_nle f1 fy2_2 c2).1 (th_leI rfl) (th_leI rfl)
        have f4 : rg 0 3 y2_2 := rg_w (rg_nle f1 fy2_2 c2).2 (th_leI rfl) (th_leI rfl)
        refine lv_aload_n hx hb dX2_wishesFor_10 rfl (lv_at hl 0 rfl) ?_
        refine lv_iload_n hx hb dX2_wishesFor_11 rfl (lv_at hl 2 rfl) ?_
        have hA5 := th_Asub (τ := τ) hS
        refine va_calli (th_or3 t_h0 (fun t9 => va_runU (As := [.int y2_2]) (rest := []) ⟨hx, hb, hml, hown, hts⟩ (k_X2_wishAt l D cA Z τ gi gr _ h0 (Or.inl t9) y2_2) (va_cwU 1 hts gX2_wishesFor_X2_wishAt_u43X8 rfl rfl rfl rfl (by decide +kernel) ⟨Nat.le_of_ble_eq_true rfl, Nat.le_of_ble_eq_true rfl⟩) ⟨th_blind, tr_8 hK hH t9, (th_pre hH hK hN hZ hS hA5)⟩ rfl rfl hl.1 rfl (lv_room (Nat.le_of_ble_eq_true rfl)) dX2_wishesFor_12 ⟨Nat.le_of_ble_eq_true rfl, Nat.le_of_ble_eq_true rfl⟩) (fun t9 => va_runU (As := [.int y2_2]) (rest := []) ⟨hx, hb, hml, hown, hts⟩ (k_X2_wishAt l D cA Z τ gi gr _ h0 (Or.inr (Or.inl t9)) y2_2) (va_cwU 1 hts gX2_wishesFor_X2_wishAt_u43X9 rfl rfl rfl rfl (by decide +kernel) ⟨Nat.le_of_ble_eq_true rfl, Nat.le_of_ble_eq_true rfl⟩) ⟨th_blind, tr_9 hK hH t9, (th_pre hH hK hN hZ hS hA5)⟩ rfl rfl hl.1 rfl (lv_room (Nat.le_of_ble_eq_true rfl)) dX2_wishesFor_12 ⟨Nat.le_of_ble_eq_true rfl, Nat.le_of_ble_eq_true rfl⟩) (fun t9 => va_runU (As := [.int y2_2]) (rest := []) ⟨hx, hb, hml, hown, hts⟩ (k_X2_wishAt l D cA Z τ gi gr _ h0 (Or.inr (Or.inr t9)) y2_2) (va_cwU 1 hts gX2_wishesFor_X2_wishAt_u43X4 rfl rfl rfl rfl (by decide +kernel) ⟨Nat.le_of_ble_eq_true rfl, Nat.le_of_ble_eq_true rfl⟩) ⟨th_blind, tr_4 hK hH t9, (th_pre hH hK hN hZ hS hA5)⟩ rfl rfl hl.1 rfl (lv_room (Nat.le_of_ble_eq_true rfl)) dX2_wishesFor_12 ⟨Nat.le_of_ble_eq_true rfl, Nat.le_of_ble_eq_true rfl⟩)) hS (fun q _ h => hA5 q h) hA5 (fun x6 u t H locs ht hvm hw6 hB hz1 hk1 hS => ?_)
        try dsimp only at hw6 hB
        rw [ht] at hB
        have hH := hB
        refine lv_iload_n hx hb dX2_wishesFor_15 rfl (lv_at hl 1 rfl) ?_
        refine lv_icmp_ne (tgt := 21) hx hb dX2_wishesFor_16 (th_eqI rfl) (fun c7 => ?_) (fun c7 => ?_)
        · skip
          obtain ⟨x8, e8⟩ : ∃ y : Int32, y = y2_2 + 1 := ⟨_, rfl⟩
          have f8 : rg 1 4 x8 := rg_e e8 (rg_w (rg_add f4 rgc_1 (th_leI rfl) (th_leI rfl)) (th_leI rfl) (th_leI rfl))
          refine lv_iinc (v := x8) (lv' := [(2, .int x8), (0, .ref h0), (1, .int p1)]) hx hb dX2_wishesFor_21 hl (k := 2) rfl (by rw [e8]; rfl) (th_ltN rfl) rfl (fun ls hl => ?_)
          refine lv_goto (tgt := 2) hx hb dX2_wishesFor_24 (th_eqI rfl) ?_
          exact ih2 _ _ _ x8 (th_up (rg_dA e8 f4 rgc_1 (th_leI rfl) (th_leI rfl)) f4 hn2 (th_ltI rfl)) hH hS (lv_sub hl [1, 2, 0] rfl) (rg_w f8 (th_leI rfl) (th_leI rfl)) (hF.trans (by simp only [↓reduceIte, f_X2_wishesFor_2, ← e1, eq_false c2, hw6, eq_false c7, ← e8]))
        · skip
          refine lv_iconst (v := 1) hx hb dX2_wishesFor_19 ic_1 ?_
          exact W.zret (v := 1) hx hb hr (rg_nb (rg_w rgc_1 (th_leI rfl) (th_leI rfl))) (fun t ht hW => ⟨⟨1, (), rfl, ⟨(rg_w rgc_1 (th_leI rfl) (th_leI rfl)), (hF.trans (by simp only [↓reduceIte, f_X2_wishesFor_2, ← e1, eq_false c2, hw6, eq_true c7]))⟩, th_Ht ht hH⟩, hS.F ht⟩) hS.2.2 dX2_wishesFor_20
  have hS : va_S (th_A τ s.heap.size) s.heap s.heap [] := va_S.rf
  have hl := lv_entry ([.ref h0, .int p1]) (n := 3) (Nat.le_of_ble_eq_true rfl)
  rw [lg_entry_eq]
  generalize (lg_sl ([.ref h0, .int p1]) ++ List.replicate (3 - (lg_sl ([.ref h0, .int p1])).length) Slot.unset).toArray = ls at hl ⊢
  have hl : lv_has ls 3 [(0, .ref h0), (1, .int p1)] := hl
  have hF : F_X2_wishesFor τ Z gi gr h0 p1 = F_X2_wishesFor τ Z gi gr h0 p1 := rfl
  refine lv_iconst (v := 0) hx hb dX2_wishesFor_0 ic_0 ?_
  refine lv_istore_n (i := 2) (lv' := [(2, .int 0), (0, .ref h0), (1, .int p1)]) hx hb dX2_wishesFor_1 rfl hl (th_ltN rfl) rfl (fun ls hl => ?_)
  exact J2 _ _ _ _ 0 (Nat.lt_add_one _) hH hS (lv_sub hl [1, 2, 0] rfl) (rg_w rgc_0 (th_leI rfl) (th_leI rfl)) (hF.trans (by simp only [F_X2_wishesFor]))

noncomputable def F_X2_addWish (τ : th_t) (Z : th_Zt) (gi : th_i) (gr : th_r) (h0 : Nat) (p1 : Int32) : th_i :=
  let x1 : Int32 := gi h0 4
  if (4 : Int32) ≤ x1 then (
    (gi)) else (
    let q5 : Nat := (gr h0 3).getD 0
    let gi7 : th_i := va_up gi q5 (upd (gi q5) x1.toNatClampNeg p1)
    let x10 : Int32 := x1 + 1
    let gi11 : th_i := va_up gi7 h0 (upd (gi7 h0) 4 x10)
    (gi11))
set_option maxHeartbeats 8000000 in
set_option maxRecDepth 100000 in
theorem k_X2_addWish (l : Launch) (D : va_G) (cA : Nat → ClassId) (Z : th_Zt) (τ : th_t) (gi : th_i) (gr : th_r) (sz : Nat) (h0 : Nat) (t_h0 : τ h0 = 8 ∨ τ h0 = 9 ∨ τ h0 = 4) (p1 : Int32) : Met l yX2_addWish wsX2_addWish ({ frames := 0, cells := 0, slots := 0, locals := 0 }) (va_Pc [.ref h0, .int p1] (th_Pre D cA Z τ gi gr sz)) (va_Qv (fun (u : th_i × th_r) => th_Mod [404, 804, 904, 2700] τ gi gr u.1 u.2 ∧ u.2 = gr ∧ (F_X2_addWish τ Z gi gr h0 p1 = u.1)) (fun (u : th_i × th_r) t => th_H D cA τ u.1 u.2 t.heap) (th_A τ sz)) 0 0 (th_A τ sz) := by
  refine Met.ofW (cc := cX2_addWish) (maxL := 2) (ret := none) (by decide) rfl ?_
  intro p e s m args below meth c s₁ B hml hv
  obtain ⟨rfl, hsz, hH, hK, hN, hZ⟩ := hv
  have hx := B.exec
  have hb := B.bytes
  have hr := B.returns
  have hts := atoms_spec (ws := wsX2_addWish) B.pre
  have hown : s.vm.findClass RX2 = some m.cls := findClass_of_methodNamed B.named
  have hlocks := B.notSynchronized
  subst hsz
  have hM : th_Mod [404, 804, 904, 2700] τ gi gr gi gr := th_Mod.rf
  have hS : va_S (th_A τ s.heap.size) s.heap s.heap [] := va_S.rf
  have hl := lv_entry ([.ref h0, .int p1]) (n := 2) (Nat.le_of_ble_eq_true rfl)
  rw [lg_entry_eq]
  generalize (lg_sl ([.ref h0, .int p1]) ++ List.replicate (2 - (lg_sl ([.ref h0, .int p1])).length) Slot.unset).toArray = ls at hl ⊢
  have hl : lv_has ls 2 [(0, .ref h0), (1, .int p1)] := hl
  have hF : F_X2_addWish τ Z gi gr h0 p1 = F_X2_addWish τ Z gi gr h0 p1 := rfl
  refine lv_aload_n hx hb dX2_addWish_0 rfl (lv_at hl 0 rfl) ?_
  obtain ⟨x1, e1⟩ : ∃ y : Int32, y = gi h0 4 := ⟨_, rfl⟩
  refine th_any3 t_h0 (fun t9 k9 => th_get (ci := 7) (v := .int x1) (T := TX8) (C := RX8) (N := 6) hx hb hts (fun w h => List.mem_cons_of_mem _ (List.mem_append_left _ (List.mem_append_right _ h))) hown hK hH t9 (th_nz rfl) (thE_8 _ _ _) rfl 4 (th_ltN rfl) (hts (.fieldLink RX2 15 "BayMoorings$Boat" "wishCount" "I") (List.mem_cons_of_mem _ (List.mem_append_left _ (List.mem_append_left _ (List.mem_append_left _ (List.mem_of_getElem? (i := 0) rfl)))))) (fun _ h9 => h9) (th_fI e1 rfl) dX2_addWish_1 k9) (fun t9 k9 => th_get (ci := 8) (v := .int x1) (T := TX9) (C := RX9) (N := 6) hx hb hts (fun w h => List.mem_cons_of_mem _ (List.mem_append_right _ h)) hown hK hH t9 (th_nz rfl) (thE_9 _ _ _) rfl 4 (th_ltN rfl) (hts (.fieldLink RX2 15 "BayMoorings$Boat" "wishCount" "I") (List.mem_cons_of_mem _ (List.mem_append_left _ (List.mem_append_left _ (List.mem_append_left _ (List.mem_of_getElem? (i := 0) rfl)))))) (fun _ h9 => h9) (th_fI e1 rfl) dX2_addWish_1 k9) (fun t9 k9 => th_get (ci := 3) (v := .int x1) (T := TX4) (C := RX4) (N := 6) hx hb hts (fun w h => List.mem_cons_of_mem _ (List.mem_append_left _ (List.mem_append_left _ (List.mem_append_right _ h)))) hown hK hH t9 (th_nz rfl) (thE_4 _ _ _) rfl 4 (th_ltN rfl) (hts (.fieldLink RX2 15 "BayMoorings$Boat" "wishCount" "I") (List.mem_cons_of_mem _ (List.mem_append_left _ (List.mem_append_left _ (List.mem_append_left _ (List.mem_of_getElem? (i := 0) rfl)))))) (fun _ h9 => h9) (th_fI e1 rfl) dX2_addWish_1 k9) ?_
  have f1 : rg 0 4 x1 := rg_e e1 (th_or3 t_h0 (fun t9 => (thI_8 hH t9).2) (fun t9 => (thI_9 hH t9).2) (fun t9 => (thI_4 hH t9).2))
  refine lv_iconst (v := 4) hx hb dX2_addWish_4 ic_4 ?_
  refine lv_icmp_ge (tgt := 28) hx hb dX2_addWish_5 (th_eqI rfl) (fun c2 => ?_) (fun c2 => ?_)
  · skip
    have f3 : rg 4 4 x1 := rg_w (rg_le rgc_4 f1 c2).2 (th_leI rfl) (th_leI rfl)
    exact W.vret hx hb hr (fun t ht hW => ⟨⟨(gi, gr), rfl, ⟨hM, rfl, (hF.trans (by simp only [↓reduceIte, F_X2_addWish, ← e1, eq_true c2]))⟩, th_Ht ht hH⟩, hS.F ht⟩) hS.2.2 dX2_addWish_28
  · skip
    have f4 : rg 0 3 x1 := rg_w (rg_nle rgc_4 f1 c2).2 (th_leI rfl) (th_leI rfl)
    refine lv_aload_n hx hb dX2_addWish_8 rfl (lv_at hl 0 rfl) ?_
    obtain ⟨q5, r5, t5⟩ : ∃ q, gr h0 3 = some q ∧ τ q = 27 := th_or3 t_h0 (fun t9 => (thI_8 hH t9).1) (fun t9 => (thI_9 hH t9).1) (fun t9 => (thI_4 hH t9).1)
    refine th_any3 t_h0 (fun t9 k9 => th_get (ci := 7) (v := .ref q5) (T := TX8) (C := RX8) (N := 6) hx hb hts (fun w h => List.mem_cons_of_mem _ (List.mem_append_left _ (List.mem_append_right _ h))) hown hK hH t9 (th_nz rfl) (thE_8 _ _ _) rfl 3 (th_ltN rfl) (hts (.fieldLink RX2 9 "BayMoorings$Boat" "wishes" "[I") (List.mem_cons_of_mem _ (List.mem_append_left _ (List.mem_append_left _ (List.mem_append_left _ (List.mem_of_getElem? (i := 1) rfl)))))) (fun _ h9 => h9) (th_fR r5 rfl) dX2_addWish_9 k9) (fun t9 k9 => th_get (ci := 8) (v := .ref q5) (T := TX9) (C := RX9) (N := 6) hx hb hts (fun w h => List.mem_cons_of_mem _ (List.mem_append_right _ h)) hown hK hH t9 (th_nz rfl) (thE_9 _ _ _) rfl 3 (th_ltN rfl) (hts (.fieldLink RX2 9 "BayMoorings$Boat" "wishes" "[I") (List.mem_cons_of_mem _ (List.mem_append_left _ (List.mem_append_left _ (List.mem_append_left _ (List.mem_of_getElem? (i := 1) rfl)))))) (fun _ h9 => h9) (th_fR r5 rfl) dX2_addWish_9 k9) (fun t9 k9 => th_get (ci := 3) (v := .ref q5) (T := TX4) (C := RX4) (N := 6) hx hb hts (fun w h => List.mem_cons_of_mem _ (List.mem_append_left _ (List.mem_append_left _ (List.mem_append_right _ h)))) hown hK hH t9 (th_nz rfl) (thE_4 _ _ _) rfl 3 (th_ltN rfl) (hts (.fieldLink RX2 9 "BayMoorings$Boat" "wishes" "[I") (List.mem_cons_of_mem _ (List.mem_append_left _ (List.mem_append_left _ (List.mem_append_left _ (List.mem_of_getElem? (i := 1) rfl)))))) (fun _ h9 => h9) (th_fR r5 rfl) dX2_addWish_9 k9) ?_
    refine lv_aload_n hx hb dX2_addWish_12 rfl (lv_at hl 0 rfl) ?_
    refine th_any3 t_h0 (fun t9 k9 => th_get (ci := 7) (v := .int x1) (T := TX8) (C := RX8) (N := 6) hx hb hts (fun w h => List.mem_cons_of_mem _ (List.mem_append_left _ (List.mem_append_right _ h))) hown hK hH t9 (th_nz rfl) (thE_8 _ _ _) rfl 4 (th_ltN rfl) (hts (.fieldLink RX2 15 "BayMoorings$Boat" "wishCount" "I") (List.mem_cons_of_mem _ (List.mem_append_left _ (List.mem_append_left _ (List.mem_append_left _ (List.mem_of_getElem? (i := 0) rfl)))))) (fun _ h9 => h9) (th_fI e1 rfl) dX2_addWish_13 k9) (fun t9 k9 => th_get (ci := 8) (v := .int x1) (T := TX9) (C := RX9) (N := 6) hx hb hts (fun w h => List.mem_cons_of_mem _ (List.mem_append_right _ h)) hown hK hH t9 (th_nz rfl) (thE_9 _ _ _) rfl 4 (th_ltN rfl) (hts (.fieldLink RX2 15 "BayMoorings$Boat" "wishCount" "I") (List.mem_cons_of_mem _ (List.mem_append_left _ (List.mem_append_left _ (List.mem_append_left _ (List.mem_of_getElem? (i := 0) rfl)))))) (fun _ h9 => h9) (th_fI e1 rfl) dX2_addWish_13 k9) (fun t9 k9 => th_get (ci := 3) (v := .int x1) (T := TX4) (C := RX4) (N := 6) hx hb hts (fun w h => List.mem_cons_of_mem _ (List.mem_append_left _ (List.mem_append_left _ (List.mem_append_right _ h)))) hown hK hH t9 (th_nz rfl) (thE_4 _ _ _) rfl 4 (th_ltN rfl) (hts (.fieldLink RX2 15 "BayMoorings$Boat" "wishCount" "I") (List.mem_cons_of_mem _ (List.mem_append_left _ (List.mem_append_left _ (List.mem_append_left _ (List.mem_of_getElem? (i := 0) rfl)))))) (fun _ h9 => h9) (th_fI e1 rfl) dX2_addWish_13 k9) ?_
    refine lv_iload_n hx hb dX2_addWish_16 rfl (lv_at hl 1 rfl) ?_
    refine th_iast hx hb hK hH hS t5 (th_nz rfl) (Or.inl (th_nzE t5 rfl)) 0 (fun _ => thE_27 _ _ _) rfl (rg_in (n := 4) f4 (th_leI rfl) (th_ltI rfl)) (trivial) dX2_addWish_17 (fun gi7 H locs hu7 ho7 hH hS => ?_)
    have eg7 : gi7 = va_up gi q5 (upd (gi q5) x1.toNatClampNeg p1) := th_upE hu7 ho7
    have e8 : x1 = gi7 h0 4 := Eq.trans e1 (Eq.symm (ho7 _ _ (Or.inl (th_or3 t_h0 (fun t9 => th_ne t9 t5 (th_nz rfl)) (fun t9 => th_ne t9 t5 (th_nz rfl)) (fun t9 => th_ne t9 t5 (th_nz rfl))))))
    have hM := hM.i t5 (th_mem (a := 2700) rfl) ho7
    refine lv_aload_n hx hb dX2_addWish_18 rfl (lv_at hl 0 rfl) ?_
    refine lv_dup hx hb dX2_addWish_19 rfl ?_
    refine th_any3 t_h0 (fun t9 k9 => th_get (ci := 7) (v := .int x1) (T := TX8) (C := RX8) (N := 6) hx hb hts (fun w h => List.mem_cons_of_mem _ (List.mem_append_left _ (List.mem_append_right _ h))) hown hK hH t9 (th_nz rfl) (thE_8 _ _ _) rfl 4 (th_ltN rfl) (hts (.fieldLink RX2 15 "BayMoorings$Boat" "wishCount" "I") (List.mem_cons_of_mem _ (List.mem_append_left _ (List.mem_append_left _ (List.mem_append_left _ (List.mem_of_getElem? (i := 0) rfl)))))) (fun _ h9 => h9) (th_fI e8 rfl) dX2_addWish_20 k9) (fun t9 k9 => th_get (ci := 8) (v := .int x1) (T := TX9) (C := RX9) (N := 6) hx hb hts (fun w h => List.mem_cons_of_mem _ (List.mem_append_right _ h)) hown hK hH t9 (th_nz rfl) (thE_9 _ _ _) rfl 4 (th_ltN rfl) (hts (.fieldLink RX2 15 "BayMoorings$Boat" "wishCount" "I") (List.mem_cons_of_mem _ (List.mem_append_left _ (List.mem_append_left _ (List.mem_append_left _ (List.mem_of_getElem? (i := 0) rfl)))))) (fun _ h9 => h9) (th_fI e8 rfl) dX2_addWish_20 k9) (fun t9 k9 => th_get (ci := 3) (v := .int x1) (T := TX4) (C := RX4) (N := 6) hx hb hts (fun w h => List.mem_cons_of_mem _ (List.mem_append_left _ (List.mem_append_left _ (List.mem_append_right _ h)))) hown hK hH t9 (th_nz rfl) (thE_4 _ _ _) rfl 4 (th_ltN rfl) (hts (.fieldLink RX2 15 "BayMoorings$Boat" "wishCount" "I") (List.mem_cons_of_mem _ (List.mem_append_left _ (List.mem_append_left _ (List.mem_append_left _ (List.mem_of_getElem? (i := 0) rfl)))))) (fun _ h9 => h9) (th_fI e8 rfl) dX2_addWish_20 k9) ?_
    refine lv_iconst (v := 1) hx hb dX2_addWish_23 ic_1 ?_
    refine lv_iadd hx hb dX2_addWish_24 ?_
    refine lv_topi (fun x10 e10 => ?_)
    have f10 : rg 1 4 x10 := rg_e e10 (rg_w (rg_add f4 rgc_1 (th_leI rfl) (th_leI rfl)) (th_leI rfl) (th_leI rfl))
    refine th_any3 t_h0 (fun t9 k9 => th_put (ci := 7) (v := .int x10) (T := TX8) (C := RX8) (N := 6) (ty := .int) (gi' := va_up gi7 h0 (upd (gi7 h0) 4 x10)) (gr' := gr) hx hb hts (fun w h => List.mem_cons_of_mem _ (List.mem_append_left _ (List.mem_append_right _ h))) tyX8 tyX8_ok nmX8 hown hK hH hS t9 (th_nz rfl) (Or.inl (th_nzE t9 rfl)) rfl rfl 4 (th_ltN rfl) (hts (.fieldLink RX2 15 "BayMoorings$Boat" "wishCount" "I") (List.mem_cons_of_mem _ (List.mem_append_left _ (List.mem_append_left _ (List.mem_append_left _ (List.mem_of_getElem? (i := 0) rfl)))))) (fun _ h9 => h9) rfl (by decide +kernel) rfl rfl (Nat.le_of_ble_eq_true rfl) (by rw [va_up_self]; rfl) (by rw [va_up_self]; show (∃ q, gr h0 3 = some q ∧ τ q = 27) ∧ rg 0 4 x10; exact ⟨(thI_8 hH t9).1, (rg_w f10 (th_leI rfl) (th_leI rfl))⟩) (fun b hb => ⟨va_up_ne _ _ hb, rfl⟩) dX2_addWish_25 k9) (fun t9 k9 => th_put (ci := 8) (v := .int x10) (T := TX9) (C := RX9) (N := 6) (ty := .int) (gi' := va_up gi7 h0 (upd (gi7 h0) 4 x10)) (gr' := gr) hx hb hts (fun w h => List.mem_cons_of_mem _ (List.mem_append_right _ h)) tyX9 tyX9_ok nmX9 hown hK hH hS t9 (th_nz rfl) (Or.inl (th_nzE t9 rfl)) rfl rfl 4 (th_ltN rfl) (hts (.fieldLink RX2 15 "BayMoorings$Boat" "wishCount" "I") (List.mem_cons_of_mem _ (List.mem_append_left _ (List.mem_append_left _ (List.mem_append_left _ (List.mem_of_getElem? (i := 0) rfl)))))) (fun _ h9 => h9) rfl (by decide +kernel) rfl rfl (Nat.le_of_ble_eq_true rfl) (by rw [va_up_self]; rfl) (by rw [va_up_self]; show (∃ q, gr h0 3 = some q ∧ τ q = 27) ∧ rg 0 4 x10; exact ⟨(thI_9 hH t9).1, (rg_w f10 (th_leI rfl) (th_leI rfl))⟩) (fun b hb => ⟨va_up_ne _ _ hb, rfl⟩) dX2_addWish_25 k9) (fun t9 k9 => th_put (ci := 3) (v := .int x10) (T := TX4) (C := RX4) (N := 6) (ty := .int) (gi' := va_up gi7 h0 (upd (gi7 h0) 4 x10)) (gr' := gr) hx hb hts (fun w h => List.mem_cons_of_mem _ (List.mem_append_left _ (List.mem_append_left _ (List.mem_append_right _ h)))) tyX4 tyX4_ok nmX4 hown hK hH hS t9 (th_nz rfl) (Or.inl (th_nzE t9 rfl)) rfl rfl 4 (th_ltN rfl) (hts (.fieldLink RX2 15 "BayMoorings$Boat" "wishCount" "I") (List.mem_cons_of_mem _ (List.mem_append_left _ (List.mem_append_left _ (List.mem_append_left _ (List.mem_of_getElem? (i := 0) rfl)))))) (fun _ h9 => h9) rfl (by decide +kernel) rfl rfl (Nat.le_of_ble_eq_true rfl) (by rw [va_up_self]; rfl) (by rw [va_up_self]; show (∃ q, gr h0 3 = some q ∧ τ q = 27) ∧ rg 0 4 x10; exact ⟨(thI_4 hH t9).1, (rg_w f10 (th_leI rfl) (th_leI rfl))⟩) (fun b hb => ⟨va_up_ne _ _ hb, rfl⟩) dX2_addWish_25 k9) (fun H locs hH hS => ?_)
    obtain ⟨gi11, eg11⟩ : ∃ g, g = va_up gi7 h0 (upd (gi7 h0) 4 x10) := ⟨_, rfl⟩
    rw [← eg11] at hH
    have hu11 : gi11 h0 4 = x10 := (th_uI eg11).1
    have ho11 : ∀ b j, b ≠ h0 ∨ j ≠ 4 → gi11 b j = gi7 b j := (th_uI eg11).2
    have hM := th_or3 t_h0 (fun t9 => hM.i t9 (th_mem rfl) ho11) (fun t9 => hM.i t9 (th_mem rfl) ho11) (fun t9 => hM.i t9 (th_mem rfl) ho11)
    exact W.vret hx hb hr (fun t ht hW => ⟨⟨(gi11, gr), rfl, ⟨hM, rfl, (hF.trans (by simp only [↓reduceIte, F_X2_addWish, ← e1, eq_false c2, r5, Option.getD_some, ← eg7, ← e10, ← eg11]))⟩, th_Ht ht hH⟩, hS.F ht⟩) hS.2.2 dX2_addWish_28

noncomputable def F_X8_kindNumber (τ : th_t) (Z : th_Zt) (gi : th_i) (gr : th_r) (h0 : Nat) : Int32 :=
  0
set_option maxHeartbeats 8000000 in
set_option maxRecDepth 100000 in
theorem k_X8_kindNumber (l : Launch) (D : va_G) (cA : Nat → ClassId) (Z : th_Zt) (τ : th_t) (gi : th_i) (gr : th_r) (sz : Nat) (h0 : Nat) (t_h0 : τ h0 = 8) : Met l yX8_kindNumber wsX8_kindNumber ({ frames := 0, cells := 0, slots := 0, locals := 0 }) (va_Pc [.ref h0] (th_Pre D cA Z τ gi gr sz)) (va_Qi (fun (r : Int32) (_ : Unit) => (F_X8_kindNumber τ Z gi gr h0 = r)) (fun (_ : Unit) t => th_H D cA τ gi gr t.heap) (th_A τ sz)) 0 0 (th_A τ sz) := by
  refine Met.ofW (cc := cX8_kindNumber) (maxL := 1) (ret := (some .int)) (by decide) rfl ?_
  intro p e s m args below meth c s₁ B hml hv
  obtain ⟨rfl, hsz, hH, hK, hN, hZ⟩ := hv
  have hx := B.exec
  have hb := B.bytes
  have hr := B.returns
  have hts := atoms_spec (ws := wsX8_kindNumber) B.pre
  have hown : s.vm.findClass RX8 = some m.cls := findClass_of_methodNamed B.named
  have hlocks := B.notSynchronized
  subst hsz
  have hS : va_S (th_A τ s.heap.size) s.heap s.heap [] := va_S.rf
  have hl := lv_entry ([.ref h0]) (n := 1) (Nat.le_of_ble_eq_true rfl)
  rw [lg_entry_eq]
  generalize (lg_sl ([.ref h0]) ++ List.replicate (1 - (lg_sl ([.ref h0])).length) Slot.unset).toArray = ls at hl ⊢
  have hl : lv_has ls 1 [(0, .ref h0)] := hl
  have hF : F_X8_kindNumber τ Z gi gr h0 = F_X8_kindNumber τ Z gi gr h0 := rfl
  refine lv_iconst (v := 0) hx hb dX8_kindNumber_0 ic_0 ?_
  exact W.iret (v := 0) hx hb hr (fun t ht hW => ⟨⟨0, (), rfl, (hF.trans (by simp only [F_X8_kindNumber])), th_Ht ht hH⟩, hS.F ht⟩) hS.2.2 dX8_kindNumber_1

noncomputable def F_X9_kindNumber (τ : th_t) (Z : th_Zt) (gi : th_i) (gr : th_r) (h0 : Nat) : Int32 :=
  1
set_option maxHeartbeats 8000000 in
set_option maxRecDepth 100000 in
theorem k_X9_kindNumber (l : Launch) (D : va_G) (cA : Nat → ClassId) (Z : th_Zt) (τ : th_t) (gi : th_i) (gr : th_r) (sz : Nat) (h0 : Nat) (t_h0 : τ h0 = 9) : Met l yX9_kindNumber wsX9_kindNumber ({ frames := 0, cells := 0, slots := 0, locals := 0 }) (va_Pc [.ref h0] (th_Pre D cA Z τ gi gr sz)) (va_Qi (fun (r : Int32) (_ : Unit) => (F_X9_kindNumber τ Z gi gr h0 = r)) (fun (_ : Unit) t => th_H D cA τ gi gr t.heap) (th_A τ sz)) 0 0 (th_A τ sz) := by
  refine Met.ofW (cc := cX9_kindNumber) (maxL := 1) (ret := (some .int)) (by decide) rfl ?_
  intro p e s m args below meth c s₁ B hml hv
  obtain ⟨rfl, hsz, hH, hK, hN, hZ⟩ := hv
  have hx := B.exec
  have hb := B.bytes
  have hr := B.returns
  have hts := atoms_spec (ws := wsX9_kindNumber) B.pre
  have hown : s.vm.findClass RX9 = some m.cls := findClass_of_methodNamed B.named
  have hlocks := B.notSynchronized
  subst hsz
  have hS : va_S (th_A τ s.heap.size) s.heap s.heap [] := va_S.rf
  have hl := lv_entry ([.ref h0]) (n := 1) (Nat.le_of_ble_eq_true rfl)
  rw [lg_entry_eq]
  generalize (lg_sl ([.ref h0]) ++ List.replicate (1 - (lg_sl ([.ref h0])).length) Slot.unset).toArray = ls at hl ⊢
  have hl : lv_has ls 1 [(0, .ref h0)] := hl
  have hF : F_X9_kindNumber τ Z gi gr h0 = F_X9_kindNumber τ Z gi gr h0 := rfl
  refine lv_iconst (v := 1) hx hb dX9_kindNumber_0 ic_1 ?_
  exact W.iret (v := 1) hx hb hr (fun t ht hW => ⟨⟨1, (), rfl, (hF.trans (by simp only [F_X9_kindNumber])), th_Ht ht hH⟩, hS.F ht⟩) hS.2.2 dX9_kindNumber_1

noncomputable def F_X4_kindNumber (τ : th_t) (Z : th_Zt) (gi : th_i) (gr : th_r) (h0 : Nat) : Int32 :=
  2
set_option maxHeartbeats 8000000 in
set_option maxRecDepth 100000 in
theorem k_X4_kindNumber (l : Launch) (D : va_G) (cA : Nat → ClassId) (Z : th_Zt) (τ : th_t) (gi : th_i) (gr : th_r) (sz : Nat) (h0 : Nat) (t_h0 : τ h0 = 4) : Met l yX4_kindNumber wsX4_kindNumber ({ frames := 0, cells := 0, slots := 0, locals := 0 }) (va_Pc [.ref h0] (th_Pre D cA Z τ gi gr sz)) (va_Qi (fun (r : Int32) (_ : Unit) => (F_X4_kindNumber τ Z gi gr h0 = r)) (fun (_ : Unit) t => th_H D cA τ gi gr t.heap) (th_A τ sz)) 0 0 (th_A τ sz) := by
  refine Met.ofW (cc := cX4_kindNumber) (maxL := 1) (ret := (some .int)) (by decide) rfl ?_
  intro p e s m args below meth c s₁ B hml hv
  obtain ⟨rfl, hsz, hH, hK, hN, hZ⟩ := hv
  have hx := B.exec
  have hb := B.bytes
  have hr := B.returns
  have hts := atoms_spec (ws := wsX4_kindNumber) B.pre
  have hown : s.vm.findClass RX4 = some m.cls := findClass_of_methodNamed B.named
  have hlocks := B.notSynchronized
  subst hsz
  have hS : va_S (th_A τ s.heap.size) s.heap s.heap [] := va_S.rf
  have hl := lv_entry ([.ref h0]) (n := 1) (Nat.le_of_ble_eq_true rfl)
  rw [lg_entry_eq]
  generalize (lg_sl ([.ref h0]) ++ List.replicate (1 - (lg_sl ([.ref h0])).length) Slot.unset).toArray = ls at hl ⊢
  have hl : lv_has ls 1 [(0, .ref h0)] := hl
  have hF : F_X4_kindNumber τ Z gi gr h0 = F_X4_kindNumber τ Z gi gr h0 := rfl
  refine lv_iconst (v := 2) hx hb dX4_kindNumber_0 ic_2 ?_
  exact W.iret (v := 2) hx hb hr (fun t ht hW => ⟨⟨2, (), rfl, (hF.trans (by simp only [F_X4_kindNumber])), th_Ht ht hH⟩, hS.F ht⟩) hS.2.2 dX4_kindNumber_1

noncomputable def F_X9_reach (τ : th_t) (Z : th_Zt) (gi : th_i) (gr : th_r) (h0 : Nat) : Int32 :=
  let x1 : Int32 := gi h0 1
  let x3 : Int32 := x1 / 2
  let x4 : Int32 := x1 + x3
  x4
set_option maxHeartbeats 8000000 in
set_option maxRecDepth 100000 in
theorem k_X9_reach (l : Launch) (D : va_G) (cA : Nat → ClassId) (Z : th_Zt) (τ : th_t) (gi : th_i) (gr : th_r) (sz : Nat) (h0 : Nat) (t_h0 : τ h0 = 9) : Met l yX9_reach wsX9_reach ({ frames := 0, cells := 0, slots := 0, locals := 0 }) (va_Pc [.ref h0] (th_Pre D cA Z τ gi gr sz)) (va_Qi (fun (r : Int32) (_ : Unit) => (F_X9_reach τ Z gi gr h0 = r)) (fun (_ : Unit) t => th_H D cA τ gi gr t.heap) (th_A τ sz)) 0 0 (th_A τ sz) := by
  refine Met.ofW (cc := cX9_reach) (maxL := 1) (ret := (some .int)) (by decide) rfl ?_
  intro p e s m args below meth c s₁ B hml hv
  obtain ⟨rfl, hsz, hH, hK, hN, hZ⟩ := hv
  have hx := B.exec
  have hb := B.bytes
  have hr := B.returns
  have hts := atoms_spec (ws := wsX9_reach) B.pre
  have hown : s.vm.findClass RX9 = some m.cls := findClass_of_methodNamed B.named
  have hlocks := B.notSynchronized
  subst hsz
  have hS : va_S (th_A τ s.heap.size) s.heap s.heap [] := va_S.rf
  have hl := lv_entry ([.ref h0]) (n := 1) (Nat.le_of_ble_eq_true rfl)
  rw [lg_entry_eq]
  generalize (lg_sl ([.ref h0]) ++ List.replicate (1 - (lg_sl ([.ref h0])).length) Slot.unset).toArray = ls at hl ⊢
  have hl : lv_has ls 1 [(0, .ref h0)] := hl
  have hF : F_X9_reach τ Z gi gr h0 = F_X9_reach τ Z gi gr h0 := rfl
  refine lv_aload_n hx hb dX9_reach_0 rfl (lv_at hl 0 rfl) ?_
  obtain ⟨x1, e1⟩ : ∃ y : Int32, y = gi h0 1 := ⟨_, rfl⟩
  refine th_get (ci := 8) (v := .int x1) (T := TX9) (C := RX9) (N := 6) hx hb hts (fun w h => List.mem_cons_of_mem _ (List.mem_append_right _ h)) hown hK hH t_h0 (th_nz rfl) (thE_9 _ _ _) rfl 1 (th_ltN rfl) (hts (.fieldLink RX9 9 "BayMoorings$Twin" "length" "I") (List.mem_cons_of_mem _ (List.mem_append_left _ (List.mem_append_left _ (List.mem_append_left _ (List.mem_of_getElem? (i := 0) rfl)))))) (fun x9 h9 => u_same (hts (.sameField "BayMoorings$Twin" "BayMoorings$Boat" "length" "I") (List.mem_cons_of_mem _ (List.mem_append_left _ (List.mem_append_left _ (List.mem_append_left _ (List.mem_of_getElem? (i := 1) rfl)))))) x9 h9) (th_fI e1 rfl) dX9_reach_1 ?_
  refine lv_aload_n hx hb dX9_reach_4 rfl (lv_at hl 0 rfl) ?_
  refine th_get (ci := 8) (v := .int x1) (T := TX9) (C := RX9) (N := 6) hx hb hts (fun w h => List.mem_cons_of_mem _ (List.mem_append_right _ h)) hown hK hH t_h0 (th_nz rfl) (thE_9 _ _ _) rfl 1 (th_ltN rfl) (hts (.fieldLink RX9 9 "BayMoorings$Twin" "length" "I") (List.mem_cons_of_mem _ (List.mem_append_left _ (List.mem_append_left _ (List.mem_append_left _ (List.mem_of_getElem? (i := 0) rfl)))))) (fun x9 h9 => u_same (hts (.sameField "BayMoorings$Twin" "BayMoorings$Boat" "length" "I") (List.mem_cons_of_mem _ (List.mem_append_left _ (List.mem_append_left _ (List.mem_append_left _ (List.mem_of_getElem? (i := 1) rfl)))))) x9 h9) (th_fI e1 rfl) dX9_reach_5 ?_
  refine lv_iconst (v := 2) hx hb dX9_reach_8 ic_2 ?_
  refine lv_idiv hx hb dX9_reach_9 (rg_ne0 rgc_2 (Or.inl (th_ltI rfl))) ?_
  refine lv_topi (fun x3 e3 => ?_)
  refine lv_iadd hx hb dX9_reach_10 ?_
  refine lv_topi (fun x4 e4 => ?_)
  exact W.iret (v := x4) hx hb hr (fun t ht hW => ⟨⟨x4, (), rfl, (hF.trans (by simp only [F_X9_reach, ← e1, ← e3, ← e4])), th_Ht ht hH⟩, hS.F ht⟩) hS.2.2 dX9_reach_11

noncomputable def F_X9_fee (τ : th_t) (Z : th_Zt) (gi : th_i) (gr : th_r) (h0 : Nat) (p1 : Int32) : Int32 :=
  let x2 : Int32 := F_X2_plainFee τ Z gi gr h0 p1
  let x3 : Int32 := x2 / 2
  let x4 : Int32 := x2 + x3
  x4
set_option maxHeartbeats 8000000 in
set_option maxRecDepth 100000 in
theorem k_X9_fee (l : Launch) (D : va_G) (cA : Nat → ClassId) (Z : th_Zt) (τ : th_t) (gi : th_i) (gr : th_r) (sz : Nat) (h0 : Nat) (t_h0 : τ h0 = 9) (p1 : Int32) : Met l yX9_fee wsX9_fee ({ frames := 1, cells := 0, slots := 0, locals := 21 }) (va_Pc [.ref h0, .int p1] (th_Pre D cA Z τ gi gr sz)) (va_Qi (fun (r : Int32) (_ : Unit) => (F_X9_fee τ Z gi gr h0 p1 = r)) (fun (_ : Unit) t => th_H D cA τ gi gr t.heap) (th_A τ sz)) 0 0 (th_A τ sz) := by
  refine Met.ofW (cc := cX9_fee) (maxL := 3) (ret := (some .int)) (by decide) rfl ?_
  intro p e s m args below meth c s₁ B hml hv
  obtain ⟨rfl, hsz, hH, hK, hN, hZ⟩ := hv
  have hx := B.exec
  have hb := B.bytes
  have hr := B.returns
  have hts := atoms_spec (ws := wsX9_fee) B.pre
  have hown : s.vm.findClass RX9 = some m.cls := findClass_of_methodNamed B.named
  have hlocks := B.notSynchronized
  subst hsz
  have hS : va_S (th_A τ s.heap.size) s.heap s.heap [] := va_S.rf
  have hl := lv_entry ([.ref h0, .int p1]) (n := 3) (Nat.le_of_ble_eq_true rfl)
  rw [lg_entry_eq]
  generalize (lg_sl ([.ref h0, .int p1]) ++ List.replicate (3 - (lg_sl ([.ref h0, .int p1])).length) Slot.unset).toArray = ls at hl ⊢
  have hl : lv_has ls 3 [(0, .ref h0), (1, .int p1)] := hl
  have hF : F_X9_fee τ Z gi gr h0 p1 = F_X9_fee τ Z gi gr h0 p1 := rfl
  refine lv_aload_n hx hb dX9_fee_0 rfl (lv_at hl 0 rfl) ?_
  refine lv_iload_n hx hb dX9_fee_1 rfl (lv_at hl 1 rfl) ?_
  have hA1 := th_Asub (τ := τ) hS
  refine va_calli (va_runU (As := [.int p1]) (rest := []) ⟨hx, hb, hml, hown, hts⟩ (k_X2_plainFee l D cA Z τ gi gr _ h0 (Or.inr (Or.inl t_h0)) p1) (va_cwU 1 hts gX9_fee_X2_plainFee_u15X9 rfl rfl rfl rfl (by decide +kernel) ⟨Nat.le_of_ble_eq_true rfl, Nat.le_of_ble_eq_true rfl⟩) ⟨th_blind, tr_9 hK hH t_h0, (th_pre hH hK hN hZ hS hA1)⟩ rfl rfl hl.1 rfl (lv_room (Nat.le_of_ble_eq_true rfl)) dX9_fee_2 ⟨Nat.le_of_ble_eq_true rfl, Nat.le_of_ble_eq_true rfl⟩) hS (fun q _ h => hA1 q h) hA1 (fun x2 u t H locs ht hvm hw2 hB hz1 hk1 hS => ?_)
  try dsimp only at hw2 hB
  rw [ht] at hB
  have hH := hB
  refine lv_istore_n (i := 2) (lv' := [(2, .int x2), (0, .ref h0), (1, .int p1)]) hx hb dX9_fee_5 rfl hl (th_ltN rfl) rfl (fun ls hl => ?_)
  refine lv_iload_n hx hb dX9_fee_6 rfl (lv_at hl 0 rfl) ?_
  refine lv_iload_n hx hb dX9_fee_7 rfl (lv_at hl 0 rfl) ?_
  refine lv_iconst (v := 2) hx hb dX9_fee_8 ic_2 ?_
  refine lv_idiv hx hb dX9_fee_9 (rg_ne0 rgc_2 (Or.inl (th_ltI rfl))) ?_
  refine lv_topi (fun x3 e3 => ?_)
  refine lv_iadd hx hb dX9_fee_10 ?_
  refine lv_topi (fun x4 e4 => ?_)
  exact W.iret (v := x4) hx hb hr (fun t ht hW => ⟨⟨x4, (), rfl, (hF.trans (by simp only [F_X9_fee, hw2, ← e3, ← e4])), th_Ht ht hH⟩, hS.F ht⟩) hS.2.2 dX9_fee_11

noncomputable def F_X4_need (τ : th_t) (Z : th_Zt) (gi : th_i) (gr : th_r) (h0 : Nat) : Int32 :=
  let x1 : Int32 := gi h0 2
  let x2 : Int32 := x1 / 2
  x2
set_option maxHeartbeats 8000000 in
set_option maxRecDepth 100000 in
theorem k_X4_need (l : Launch) (D : va_G) (cA : Nat → ClassId) (Z : th_Zt) (τ : th_t) (gi : th_i) (gr : th_r) (sz : Nat) (h0 : Nat) (t_h0 : τ h0 = 4) : Met l yX4_need wsX4_need ({ frames := 0, cells := 0, slots := 0, locals := 0 }) (va_Pc [.ref h0] (th_Pre D cA Z τ gi gr sz)) (va_Qi (fun (r : Int32) (_ : Unit) => (F_X4_need τ Z gi gr h0 = r)) (fun (_ : Unit) t => th_H D cA τ gi gr t.heap) (th_A τ sz)) 0 0 (th_A τ sz) := by
  refine Met.ofW (cc := cX4_need) (maxL := 1) (ret := (some .int)) (by decide) rfl ?_
  intro p e s m args below meth c s₁ B hml hv
  obtain ⟨rfl, hsz, hH, hK, hN, hZ⟩ := hv
  have hx := B.exec
  have hb := B.bytes
  have hr := B.returns
  have hts := atoms_spec (ws := wsX4_need) B.pre
  have hown : s.vm.findClass RX4 = some m.cls := findClass_of_methodNamed B.named
  have hlocks := B.notSynchronized
  subst hsz
  have hS : va_S (th_A τ s.heap.size) s.heap s.heap [] := va_S.rf
  have hl := lv_entry ([.ref h0]) (n := 1) (Nat.le_of_ble_eq_true rfl)
  rw [lg_entry_eq]
  generalize (lg_sl ([.ref h0]) ++ List.replicate (1 - (lg_sl ([.ref h0])).length) Slot.unset).toArray = ls at hl ⊢
  have hl : lv_has ls 1 [(0, .ref h0)] := hl
  have hF : F_X4_need τ Z gi gr h0 = F_X4_need τ Z gi gr h0 := rfl
  refine lv_aload_n hx hb dX4_need_0 rfl (lv_at hl 0 rfl) ?_
  obtain ⟨x1, e1⟩ : ∃ y : Int32, y = gi h0 2 := ⟨_, rfl⟩
  refine th_get (ci := 3) (v := .int x1) (T := TX4) (C := RX4) (N := 6) hx hb hts (fun w h => List.mem_cons_of_mem _ (List.mem_append_left _ (List.mem_append_left _ (List.mem_append_right _ h)))) hown hK hH t_h0 (th_nz rfl) (thE_4 _ _ _) rfl 2 (th_ltN rfl) (hts (.fieldLink RX4 9 "BayMoorings$Dry" "draught" "I") (List.mem_cons_of_mem _ (List.mem_append_left _ (List.mem_append_left _ (List.mem_append_left _ (List.mem_of_getElem? (i := 0) rfl)))))) (fun x9 h9 => u_same (hts (.sameField "BayMoorings$Dry" "BayMoorings$Boat" "draught" "I") (List.mem_cons_of_mem _ (List.mem_append_left _ (List.mem_append_left _ (List.mem_append_left _ (List.mem_of_getElem? (i := 1) rfl)))))) x9 h9) (th_fI e1 rfl) dX4_need_1 ?_
  refine lv_iconst (v := 2) hx hb dX4_need_4 ic_2 ?_
  refine lv_idiv hx hb dX4_need_5 (rg_ne0 rgc_2 (Or.inl (th_ltI rfl))) ?_
  refine lv_topi (fun x2 e2 => ?_)
  exact W.iret (v := x2) hx hb hr (fun t ht hW => ⟨⟨x2, (), rfl, (hF.trans (by simp only [F_X4_need, ← e1, ← e2])), th_Ht ht hH⟩, hS.F ht⟩) hS.2.2 dX4_need_6

noncomputable def FV_kindNumber (τ : th_t) (Z : th_Zt) (gi : th_i) (gr : th_r) (h0 : Nat) : Int32 := if τ h0 = 8 then F_X8_kindNumber τ Z gi gr h0 else if τ h0 = 9 then F_X9_kindNumber τ Z gi gr h0 else F_X4_kindNumber τ Z gi gr h0
theorem FV_kindNumber_8 {τ : th_t} {Z : th_Zt} {gi : th_i} {gr : th_r} {h0 : Nat} (t : τ h0 = 8) : FV_kindNumber τ Z gi gr h0 = F_X8_kindNumber τ Z gi gr h0 := by
  unfold FV_kindNumber
  rw [if_pos t]
theorem FV_kindNumber_9 {τ : th_t} {Z : th_Zt} {gi : th_i} {gr : th_r} {h0 : Nat} (t : τ h0 = 9) : FV_kindNumber τ Z gi gr h0 = F_X9_kindNumber τ Z gi gr h0 := by
  unfold FV_kindNumber
  rw [if_neg (by rw [t]; decide), if_pos t]
theorem FV_kindNumber_4 {τ : th_t} {Z : th_Zt} {gi : th_i} {gr : th_r} {h0 : Nat} (t : τ h0 = 4) : FV_kindNumber τ Z gi gr h0 = F_X4_kindNumber τ Z gi gr h0 := by
  unfold FV_kindNumber
  rw [if_neg (by rw [t]; decide), if_neg (by rw [t]; decide)]
noncomputable def F_X2_isOf (τ : th_t) (Z : th_Zt) (gi : th_i) (gr : th_r) (h0 : Nat) (p1 : Int32) : Int32 :=
  if p1 = (0 : Int32) then (
    1) else (
    let x4 : Int32 := FV_kindNumber τ Z gi gr h0
    if p1 = x4 then (
      1) else (
      0))
set_option maxHeartbeats 8000000 in
set_option maxRecDepth 100000 in
theorem k_X2_isOf (l : Launch) (D : va_G) (cA : Nat → ClassId) (Z : th_Zt) (τ : th_t) (gi : th_i) (gr : th_r) (sz : Nat) (h0 : Nat) (t_h0 : τ h0 = 8 ∨ τ h0 = 9 ∨ τ h0 = 4) (p1 : Int32) : Met l yX2_isOf wsX2_isOf ({ frames := 1, cells := 0, slots := 0, locals := 20 }) (va_Pc [.ref h0, .int p1] (th_Pre D cA Z τ gi gr sz)) (va_Qi (fun (r : Int32) (_ : Unit) => rg 0 1 r ∧ (F_X2_isOf τ Z gi gr h0 p1 = r)) (fun (_ : Unit) t => th_H D cA τ gi gr t.heap) (th_A τ sz)) 0 0 (th_A τ sz) := by
  refine Met.ofW (cc := cX2_isOf) (maxL := 2) (ret := (some .boolean)) (by decide) rfl ?_
  intro p e s m args below meth c s₁ B hml hv
  obtain ⟨rfl, hsz, hH, hK, hN, hZ⟩ := hv
  have hx := B.exec
  have hb := B.bytes
  have hr := B.returns
  have hts := atoms_spec (ws := wsX2_isOf) B.pre
  have hown : s.vm.findClass RX2 = some m.cls := findClass_of_methodNamed B.named
  have hlocks := B.notSynchronized
  subst hsz
  have hS : va_S (th_A τ s.heap.size) s.heap s.heap [] := va_S.rf
  have hl := lv_entry ([.ref h0, .int p1]) (n := 2) (Nat.le_of_ble_eq_true rfl)
  rw [lg_entry_eq]
  generalize (lg_sl ([.ref h0, .int p1]) ++ List.replicate (2 - (lg_sl ([.ref h0, .int p1])).length) Slot.unset).toArray = ls at hl ⊢
  have hl : lv_has ls 2 [(0, .ref h0), (1, .int p1)] := hl
  have hF : F_X2_isOf τ Z gi gr h0 p1 = F_X2_isOf τ Z gi gr h0 p1 := rfl
  refine lv_iload_n hx hb dX2_isOf_0 rfl (lv_at hl 1 rfl) ?_
  refine lv_if_eq (tgt := 12) hx hb dX2_isOf_1 (th_eqI rfl) (fun c1 => ?_) (fun c1 => ?_)
  · skip
    have f2 : rg 0 0 p1 := rg_w (rg_eq (rg_any p1) rgc_0 c1).1 (th_leI rfl) (th_leI rfl)
    refine lv_iconst (v := 1) hx hb dX2_isOf_12 ic_1 ?_
    refine lv_goto (tgt := 17) hx hb dX2_isOf_13 (th_eqI rfl) ?_
    exact W.zret (v := 1) hx hb hr (rg_nb (rg_w rgc_1 (th_leI rfl) (th_leI rfl))) (fun t ht hW => ⟨⟨1, (), rfl, ⟨(rg_w rgc_1 (th_leI rfl) (th_leI rfl)), (hF.trans (by simp only [↓reduceIte, F_X2_isOf, eq_true c1]))⟩, th_Ht ht hH⟩, hS.F ht⟩) hS.2.2 dX2_isOf_17
  · skip
    refine lv_iload_n hx hb dX2_isOf_4 rfl (lv_at hl 1 rfl) ?_
    refine lv_aload_n hx hb dX2_isOf_5 rfl (lv_at hl 0 rfl) ?_
    have hA3 := th_Asub (τ := τ) hS
    refine va_calli (th_or3 t_h0 (fun t9 => th_runi (post' := (fun (r : Int32) (_ : Unit) => (FV_kindNumber τ Z gi gr h0 = r))) (va_runU (As := []) (rest := [.int p1]) ⟨hx, hb, hml, hown, hts⟩ (k_X8_kindNumber l D cA Z τ gi gr _ h0 t9) (va_cwA 0 hts gX2_isOf_X8_kindNumber_u35X8 rfl rfl rfl hN.2.2.2.2.2.2.2.2.2.2.1 (by decide +kernel) ⟨Nat.le_of_ble_eq_true rfl, Nat.le_of_ble_eq_true rfl⟩) ⟨th_blind, tr_8 hK hH t9, (th_pre hH hK hN hZ hS hA3)⟩ rfl rfl hl.1 rfl (lv_room (Nat.le_of_ble_eq_true rfl)) dX2_isOf_6 ⟨Nat.le_of_ble_eq_true rfl, Nat.le_of_ble_eq_true rfl⟩) (fun _ _ h9 => ((FV_kindNumber_8 t9).trans h9))) (fun t9 => th_runi (post' := (fun (r : Int32) (_ : Unit) => (FV_kindNumber τ Z gi gr h0 = r))) (va_runU (As := []) (rest := [.int p1]) ⟨hx, hb, hml, hown, hts⟩ (k_X9_kindNumber l D cA Z τ gi gr _ h0 t9) (va_cwA 0 hts gX2_isOf_X9_kindNumber_u35X9 rfl rfl rfl hN.2.2.2.2.2.2.2.2.2.2.1 (by decide +kernel) ⟨Nat.le_of_ble_eq_true rfl, Nat.le_of_ble_eq_true rfl⟩) ⟨th_blind, tr_9 hK hH t9, (th_pre hH hK hN hZ hS hA3)⟩ rfl rfl hl.1 rfl (lv_room (Nat.le_of_ble_eq_true rfl)) dX2_isOf_6 ⟨Nat.le_of_ble_eq_true rfl, Nat.le_of_ble_eq_true rfl⟩) (fun _ _ h9 => ((FV_kindNumber_9 t9).trans h9))) (fun t9 => th_runi (post' := (fun (r : Int32) (_ : Unit) => (FV_kindNumber τ Z gi gr h0 = r))) (va_runU (As := []) (rest := [.int p1]) ⟨hx, hb, hml, hown, hts⟩ (k_X4_kindNumber l D cA Z τ gi gr _ h0 t9) (va_cwA 0 hts gX2_isOf_X4_kindNumber_u35X4 rfl rfl rfl hN.2.2.2.2.2.2.2.2.2.2.1 (by decide +kernel) ⟨Nat.le_of_ble_eq_true rfl, Nat.le_of_ble_eq_true rfl⟩) ⟨th_blind, tr_4 hK hH t9, (th_pre hH hK hN hZ hS hA3)⟩ rfl rfl hl.1 rfl (lv_room (Nat.le_of_ble_eq_true rfl)) dX2_isOf_6 ⟨Nat.le_of_ble_eq_true rfl, Nat.le_of_ble_eq_true rfl⟩) (fun _ _ h9 => ((FV_kindNumber_4 t9).trans h9)))) hS (fun q _ h => hA3 q h) hA3 (fun x4 u t H locs ht hvm hw4 hB hz1 hk1 hS => ?_)
    try dsimp only at hw4 hB
    rw [ht] at hB
    have hH := hB
    refine lv_icmp_ne (tgt := 16) hx hb dX2_isOf_9 (th_eqI rfl) (fun c5 => ?_) (fun c5 => ?_)
    · skip
      refine lv_iconst (v := 0) hx hb dX2_isOf_16 ic_0 ?_
      exact W.zret (v := 0) hx hb hr (rg_nb (rg_w rgc_0 (th_leI rfl) (th_leI rfl))) (fun t ht hW => ⟨⟨0, (), rfl, ⟨(rg_w rgc_0 (th_leI rfl) (th_leI rfl)), (hF.trans (by simp only [↓reduceIte, F_X2_isOf, eq_false c1, hw4, eq_false c5]))⟩, th_Ht ht hH⟩, hS.F ht⟩) hS.2.2 dX2_isOf_17
    · skip
      refine lv_iconst (v := 1) hx hb dX2_isOf_12 ic_1 ?_
      refine lv_goto (tgt := 17) hx hb dX2_isOf_13 (th_eqI rfl) ?_
      exact W.zret (v := 1) hx hb hr (rg_nb (rg_w rgc_1 (th_leI rfl) (th_leI rfl))) (fun t ht hW => ⟨⟨1, (), rfl, ⟨(rg_w rgc_1 (th_leI rfl) (th_leI rfl)), (hF.trans (by simp only [↓reduceIte, F_X2_isOf, eq_false c1, hw4, eq_true c5]))⟩, th_Ht ht hH⟩, hS.F ht⟩) hS.2.2 dX2_isOf_17
end
section
noncomputable def F_X0_buoyAt (τ : th_t) (Z : th_Zt) (gi : th_i) (gr : th_r) (h0 : Nat) (p1 : Int32) : Option Nat :=
  let x1 : Int32 := gi h0 5
  let x2 : Int32 := x1 - 1
  let x4 : Int32 := F_X11_within τ Z gi gr p1 0 x2
  if x4 = (0 : Int32) then (
    (none : Option Nat)) else (
    if (12 : Int32) ≤ p1 then (
      none) else (
      let q14 : Nat := (gr h0 0).getD 0
      let r15 : Option Nat := gr q14 p1.toNatClampNeg
      r15))
set_option maxHeartbeats 8000000 in
set_option maxRecDepth 100000 in
theorem k_X0_buoyAt (l : Launch) (D : va_G) (cA : Nat → ClassId) (Z : th_Zt) (τ : th_t) (gi : th_i) (gr : th_r) (sz : Nat) (h0 : Nat) (t_h0 : τ h0 = 1) (p1 : Int32) : Met l yX0_buoyAt wsX0_buoyAt ({ frames := 1, cells := 0, slots := 0, locals := 22 }) (va_Pc [.ref h0, .int p1] (th_Pre D cA Z τ gi gr sz)) (va_Qq (fun (r : Option Nat) (_ : Unit) => (∀ q, r = some q → τ q = 3) ∧ (F_X0_buoyAt τ Z gi gr h0 p1 = r)) (fun (_ : Unit) t => th_H D cA τ gi gr t.heap) (th_A τ sz)) 0 0 (th_A τ sz) := by
  refine Met.ofW (cc := cX0_buoyAt) (maxL := 2) (ret := (some (.object "BayMoorings$Buoy"))) (by decide) rfl ?_
  intro p e s m args below meth c s₁ B hml hv
  obtain ⟨rfl, hsz, hH, hK, hN, hZ⟩ := hv
  have hx := B.exec
  have hb := B.bytes
  have hr := B.returns
  have hts := atoms_spec (ws := wsX0_buoyAt) B.pre
  have hown : s.vm.findClass RX0 = some m.cls := findClass_of_methodNamed B.named
  have hlocks := B.notSynchronized
  subst hsz
  have hS : va_S (th_A τ s.heap.size) s.heap s.heap [] := va_S.rf
  have hl := lv_entry ([.ref h0, .int p1]) (n := 2) (Nat.le_of_ble_eq_true rfl)
  rw [lg_entry_eq]
  generalize (lg_sl ([.ref h0, .int p1]) ++ List.replicate (2 - (lg_sl ([.ref h0, .int p1])).length) Slot.unset).toArray = ls at hl ⊢
  have hl : lv_has ls 2 [(0, .ref h0), (1, .int p1)] := hl
  have hF : F_X0_buoyAt τ Z gi gr h0 p1 = F_X0_buoyAt τ Z gi gr h0 p1 := rfl
  refine lv_iload_n hx hb dX0_buoyAt_0 rfl (lv_at hl 1 rfl) ?_
  refine lv_iconst (v := 0) hx hb dX0_buoyAt_1 ic_0 ?_
  refine lv_aload_n hx hb dX0_buoyAt_2 rfl (lv_at hl 0 rfl) ?_
  obtain ⟨x1, e1⟩ : ∃ y : Int32, y = gi h0 5 := ⟨_, rfl⟩
  refine th_get (ci := 0) (v := .int x1) (T := TX0) (C := RX0) (N := 9) hx hb hts (fun w h => List.mem_cons_of_mem _ (List.mem_append_right _ h)) hown hK hH t_h0 (th_nz rfl) (thE_1 _ _ _) rfl 5 (th_ltN rfl) (hts (.fieldLink RX0 38 "BayMoorings$Bay" "buoyCount" "I") (List.mem_cons_of_mem _ (List.mem_append_left _ (List.mem_of_getElem? (i := 0) rfl)))) (fun _ h9 => h9) (th_fI e1 rfl) dX0_buoyAt_3 ?_
  have f1 : rg 0 12 x1 := rg_e e1 ((thI_1 hH t_h0).2.2.2.2.2.1)
  refine lv_iconst (v := 1) hx hb dX0_buoyAt_6 ic_1 ?_
  refine lv_isub hx hb dX0_buoyAt_7 ?_
  refine lv_topi (fun x2 e2 => ?_)
  have f2 : rg (-1) 11 x2 := rg_e e2 (rg_w (rg_sub f1 rgc_1 (th_leI rfl) (th_leI rfl)) (th_leI rfl) (th_leI rfl))
  have hA3 := th_Asub (τ := τ) hS
  refine va_calli (va_runSN (As := [.int p1, .int 0, .int x2]) (rest := []) ⟨hx, hb, hml, hown, hts⟩ (k_X11_within l D cA Z τ gi gr _ p1 0 x2) ⟨va_cnB (host := RX11) 3 hts gX0_buoyAt_X11_within_n51 rfl rfl rfl hN.2.1 (hts (.initialized RX11) (List.mem_cons_of_mem _ (List.mem_append_left _ (List.mem_of_getElem? (i := 3) rfl)))) (by decide +kernel) ⟨Nat.le_of_ble_eq_true rfl, Nat.le_of_ble_eq_true rfl⟩, (hts (.static yX11_within) (List.mem_cons_of_mem _ (List.mem_append_left _ (List.mem_of_getElem? (i := 2) rfl)))), trivial⟩ ⟨th_blind, (th_pre hH hK hN hZ hS hA3)⟩ rfl rfl hl.1 rfl (lv_room (Nat.le_of_ble_eq_true rfl)) dX0_buoyAt_8 ⟨Nat.le_of_ble_eq_true rfl, Nat.le_of_ble_eq_true rfl⟩) hS (fun q _ h => hA3 q h) hA3 (fun x4 u t H locs ht hvm hw4 hB hz1 hk1 hS => ?_)
  try dsimp only at hw4 hB
  rw [ht] at hB
  have hH := hB
  refine lv_if_eq (tgt := 29) hx hb dX0_buoyAt_11 (th_eqI rfl) (fun c5 => ?_) (fun c5 => ?_)
  · skip
    have f6 : rg 0 0 x4 := rg_w (rg_eq hw4.1 rgc_0 c5).1 (th_leI rfl) (th_leI rfl)
    refine lv_null hx hb dX0_buoyAt_29 ?_
    exact W.aret (v := va_rf (none : Option Nat)) hx hb hr (Or.inl ⟨_, rfl⟩) (va_rf_or _) (fun t ht hW => ⟨⟨(none : Option Nat), (), rfl, ⟨(fun _ h9 => by cases h9), (hF.trans (by simp only [↓reduceIte, F_X0_buoyAt, ← e1, ← e2, hw4.2.2.1, eq_true c5]))⟩, th_Ht ht hH⟩, hS.F ht⟩) hS.2.2 dX0_buoyAt_30
  · skip
    have f7 : rg 1 1 x4 := rg_w (rg_neL hw4.1 rgc_0 c5) (th_leI rfl) (th_leI rfl)
    have g8 := hw4.2.1 c5
    have f9 : rg 0 2147483647 p1 := rg_w (rg_le rgc_0 (rg_any p1) g8.1).2 (th_leI rfl) (th_leI rfl)
    have f10 : rg 0 11 p1 := rg_w (rg_le f9 f2 g8.2).1 (th_leI rfl) (th_leI rfl)
    have f11 : rg 0 11 x2 := rg_w (rg_le f10 f2 g8.2).2 (th_leI rfl) (th_leI rfl)
    have f12 : rg 1 12 x1 := rg_back (rg_dS e2 f1 rgc_1 (th_leI rfl) (th_leI rfl)) f1 f11 (by decide) (by decide)
    refine lv_iload_n hx hb dX0_buoyAt_14 rfl (lv_at hl 1 rfl) ?_
    refine lv_bipush (v := 12) hx hb dX0_buoyAt_15 bp_12 ?_
    refine lv_icmp_ge (tgt := 29) hx hb dX0_buoyAt_17 (th_eqI rfl) (fun c13 => ?_) (fun c13 => ?_)
    · skip
      exact absurd (rg_le rgc_12 f10 c13).1 (rg_no (th_ltI rfl))
    · skip
      refine lv_aload_n hx hb dX0_buoyAt_20 rfl (lv_at hl 0 rfl) ?_
      obtain ⟨q14, r14, t14⟩ : ∃ q, gr h0 0 = some q ∧ τ q = 20 := (thI_1 hH t_h0).1
      refine th_get (ci := 0) (v := .ref q14) (T := TX0) (C := RX0) (N := 9) hx hb hts (fun w h => List.mem_cons_of_mem _ (List.mem_append_right _ h)) hown hK hH t_h0 (th_nz rfl) (thE_1 _ _ _) rfl 0 (th_ltN rfl) (hts (.fieldLink RX0 11 "BayMoorings$Bay" "buoys" "[LBayMoorings$Buoy;") (List.mem_cons_of_mem _ (List.mem_append_left _ (List.mem_of_getElem? (i := 1) rfl)))) (fun _ h9 => h9) (th_fR r14 rfl) dX0_buoyAt_21 ?_
      refine lv_iload_n hx hb dX0_buoyAt_24 rfl (lv_at hl 1 rfl) ?_
      refine th_aald hx hb hK hH t14 (th_nz rfl) 2 (thE_20 _ _ _) rfl (rg_in (n := 12) f10 (th_leI rfl) (th_ltI rfl)) dX0_buoyAt_25 ?_
      refine th_topq (fun r15 e15 => ?_)
      have t15 : ∀ q, r15 = some q → τ q = 3 := by rw [e15]; exact (thI_20 hH t14) _ (rg_cl (n := 12) f10 (th_leI rfl) (th_ltI rfl))
      refine lv_goto (tgt := 30) hx hb dX0_buoyAt_26 (th_eqI rfl) ?_
      exact W.aret (v := va_rf r15) hx hb hr (Or.inl ⟨_, rfl⟩) (va_rf_or _) (fun t ht hW => ⟨⟨r15, (), rfl, ⟨t15, (hF.trans (by simp only [↓reduceIte, F_X0_buoyAt, ← e1, ← e2, hw4.2.2.1, eq_false c5, eq_false c13, r14, Option.getD_some, ← e15]))⟩, th_Ht ht hH⟩, hS.F ht⟩) hS.2.2 dX0_buoyAt_30

noncomputable def F_X0_boatAt (τ : th_t) (Z : th_Zt) (gi : th_i) (gr : th_r) (h0 : Nat) (p1 : Int32) : Option Nat :=
  let x1 : Int32 := gi h0 6
  let x2 : Int32 := x1 - 1
  let x4 : Int32 := F_X11_within τ Z gi gr p1 0 x2
  if x4 = (0 : Int32) then (
    (none : Option Nat)) else (
    if (16 : Int32) ≤ p1 then (
      none) else (
      let q14 : Nat := (gr h0 1).getD 0
      let r15 : Option Nat := gr q14 p1.toNatClampNeg
      r15))
set_option maxHeartbeats 8000000 in
set_option maxRecDepth 100000 in
theorem k_X0_boatAt (l : Launch) (D : va_G) (cA : Nat → ClassId) (Z : th_Zt) (τ : th_t) (gi : th_i) (gr : th_r) (sz : Nat) (h0 : Nat) (t_h0 : τ h0 = 1) (p1 : Int32) : Met l yX0_boatAt wsX0_boatAt ({ frames := 1, cells := 0, slots := 0, locals := 22 }) (va_Pc [.ref h0, .int p1] (th_Pre D cA Z τ gi gr sz)) (va_Qq (fun (r : Option Nat) (_ : Unit) => (∀ q, r = some q → τ q = 8 ∨ τ q = 9 ∨ τ q = 4) ∧ (F_X0_boatAt τ Z gi gr h0 p1 = r)) (fun (_ : Unit) t => th_H D cA τ gi gr t.heap) (th_A τ sz)) 0 0 (th_A τ sz) := by
  refine Met.ofW (cc := cX0_boatAt) (maxL := 2) (ret := (some (.object "BayMoorings$Boat"))) (by decide) rfl ?_
  intro p e s m args below meth c s₁ B hml hv
  obtain ⟨rfl, hsz, hH, hK, hN, hZ⟩ := hv
  have hx := B.exec
  have hb := B.bytes
  have hr := B.returns
  have hts := atoms_spec (ws := wsX0_boatAt) B.pre
  have hown : s.vm.findClass RX0 = some m.cls := findClass_of_methodNamed B.named
  have hlocks := B.notSynchronized
  subst hsz
  have hS : va_S (th_A τ s.heap.size) s.heap s.heap [] := va_S.rf
  have hl := lv_entry ([.ref h0, .int p1]) (n := 2) (Nat.le_of_ble_eq_true rfl)
  rw [lg_entry_eq]
  generalize (lg_sl ([.ref h0, .int p1]) ++ List.replicate (2 - (lg_sl ([.ref h0, .int p1])).length) Slot.unset).toArray = ls at hl ⊢
  have hl : lv_has ls 2 [(0, .ref h0), (1, .int p1)] := hl
  have hF : F_X0_boatAt τ Z gi gr h0 p1 = F_X0_boatAt τ Z gi gr h0 p1 := rfl
  refine lv_iload_n hx hb dX0_boatAt_0 rfl (lv_at hl 1 rfl) ?_
  refine lv_iconst (v := 0) hx hb dX0_boatAt_1 ic_0 ?_
  refine lv_aload_n hx hb dX0_boatAt_2 rfl (lv_at hl 0 rfl) ?_
  obtain ⟨x1, e1⟩ : ∃ y : Int32, y = gi h0 6 := ⟨_, rfl⟩
  refine th_get (ci := 0) (v := .int x1) (T := TX0) (C := RX0) (N := 9) hx hb hts (fun w h => List.mem_cons_of_mem _ (List.mem_append_right _ h)) hown hK hH t_h0 (th_nz rfl) (thE_1 _ _ _) rfl 6 (th_ltN rfl) (hts (.fieldLink RX0 42 "BayMoorings$Bay" "boatCount" "I") (List.mem_cons_of_mem _ (List.mem_append_left _ (List.mem_of_getElem? (i := 0) rfl)))) (fun _ h9 => h9) (th_fI e1 rfl) dX0_boatAt_3 ?_
  have f1 : rg 0 16 x1 := rg_e e1 ((thI_1 hH t_h0).2.2.2.2.2.2)
  refine lv_iconst (v := 1) hx hb dX0_boatAt_6 ic_1 ?_
  refine lv_isub hx hb dX0_boatAt_7 ?_
  refine lv_topi (fun x2 e2 => ?_)
  have f2 : rg (-1) 15 x2 := rg_e e2 (rg_w (rg_sub f1 rgc_1 (th_leI rfl) (th_leI rfl)) (th_leI rfl) (th_leI rfl))
  have hA3 := th_Asub (τ := τ) hS
  refine va_calli (va_runSN (As := [.int p1, .int 0, .int x2]) (rest := []) ⟨hx, hb, hml, hown, hts⟩ (k_X11_within l D cA Z τ gi gr _ p1 0 x2) ⟨va_cnB (host := RX11) 3 hts gX0_boatAt_X11_within_n51 rfl rfl rfl hN.2.1 (hts (.initialized RX11) (List.mem_cons_of_mem _ (List.mem_append_left _ (List.mem_of_getElem? (i := 3) rfl)))) (by decide +kernel) ⟨Nat.le_of_ble_eq_true rfl, Nat.le_of_ble_eq_true rfl⟩, (hts (.static yX11_within) (List.mem_cons_of_mem _ (List.mem_append_left _ (List.mem_of_getElem? (i := 2) rfl)))), trivial⟩ ⟨th_blind, (th_pre hH hK hN hZ hS hA3)⟩ rfl rfl hl.1 rfl (lv_room (Nat.le_of_ble_eq_true rfl)) dX0_boatAt_8 ⟨Nat.le_of_ble_eq_true rfl, Nat.le_of_ble_eq_true rfl⟩) hS (fun q _ h => hA3 q h) hA3 (fun x4 u t H locs ht hvm hw4 hB hz1 hk1 hS => ?_)
  try dsimp only at hw4 hB
  rw [ht] at hB
  have hH := hB
  refine lv_if_eq (tgt := 29) hx hb dX0_boatAt_11 (th_eqI rfl) (fun c5 => ?_) (fun c5 => ?_)
  · skip
    have f6 : rg 0 0 x4 := rg_w (rg_eq hw4.1 rgc_0 c5).1 (th_leI rfl) (th_leI rfl)
    refine lv_null hx hb dX0_boatAt_29 ?_
    exact W.aret (v := va_rf (none : Option Nat)) hx hb hr (Or.inl ⟨_, rfl⟩) (va_rf_or _) (fun t ht hW => ⟨⟨(none : Option Nat), (), rfl, ⟨(fun _ h9 => by cases h9), (hF.trans (by simp only [↓reduceIte, F_X0_boatAt, ← e1, ← e2, hw4.2.2.1, eq_true c5]))⟩, th_Ht ht hH⟩, hS.F ht⟩) hS.2.2 dX0_boatAt_30
  · skip
    have f7 : rg 1 1 x4 := rg_w (rg_neL hw4.1 rgc_0 c5) (th_leI rfl) (th_leI rfl)
    have g8 := hw4.2.1 c5
    have f9 : rg 0 2147483647 p1 := rg_w (rg_le rgc_0 (rg_any p1) g8.1).2 (th_leI rfl) (th_leI rfl)
    have f10 : rg 0 15 p1 := rg_w (rg_le f9 f2 g8.2).1 (th_leI rfl) (th_leI rfl)
    have f11 : rg 0 15 x2 := rg_w (rg_le f10 f2 g8.2).2 (th_leI rfl) (th_leI rfl)
    have f12 : rg 1 16 x1 := rg_back (rg_dS e2 f1 rgc_1 (th_leI rfl) (th_leI rfl)) f1 f11 (by decide) (by decide)
    refine lv_iload_n hx hb dX0_boatAt_14 rfl (lv_at hl 1 rfl) ?_
    refine lv_bipush (v := 16) hx hb dX0_boatAt_15 bp_16 ?_
    refine lv_icmp_ge (tgt := 29) hx hb dX0_boatAt_17 (th_eqI rfl) (fun c13 => ?_) (fun c13 => ?_)
    · skip
      exact absurd (rg_le rgc_16 f10 c13).1 (rg_no (th_ltI rfl))
    · skip
      refine lv_aload_n hx hb dX0_boatAt_20 rfl (lv_at hl 0 rfl) ?_
      obtain ⟨q14, r14, t14⟩ : ∃ q, gr h0 1 = some q ∧ τ q = 21 := (thI_1 hH t_h0).2.1
      refine th_get (ci := 0) (v := .ref q14) (T := TX0) (C := RX0) (N := 9) hx hb hts (fun w h => List.mem_cons_of_mem _ (List.mem_append_right _ h)) hown hK hH t_h0 (th_nz rfl) (thE_1 _ _ _) rfl 1 (th_ltN rfl) (hts (.fieldLink RX0 19 "BayMoorings$Bay" "boats" "[LBayMoorings$Boat;") (List.mem_cons_of_mem _ (List.mem_append_left _ (List.mem_of_getElem? (i := 1) rfl)))) (fun _ h9 => h9) (th_fR r14 rfl) dX0_boatAt_21 ?_
      refine lv_iload_n hx hb dX0_boatAt_24 rfl (lv_at hl 1 rfl) ?_
      refine th_aald hx hb hK hH t14 (th_nz rfl) 3 (thE_21 _ _ _) rfl (rg_in (n := 16) f10 (th_leI rfl) (th_ltI rfl)) dX0_boatAt_25 ?_
      refine th_topq (fun r15 e15 => ?_)
      have t15 : ∀ q, r15 = some q → τ q = 8 ∨ τ q = 9 ∨ τ q = 4 := by rw [e15]; exact (thI_21 hH t14) _ (rg_cl (n := 16) f10 (th_leI rfl) (th_ltI rfl))
      refine lv_goto (tgt := 30) hx hb dX0_boatAt_26 (th_eqI rfl) ?_
      exact W.aret (v := va_rf r15) hx hb hr (Or.inl ⟨_, rfl⟩) (va_rf_or _) (fun t ht hW => ⟨⟨r15, (), rfl, ⟨t15, (hF.trans (by simp only [↓reduceIte, F_X0_boatAt, ← e1, ← e2, hw4.2.2.1, eq_false c5, eq_false c13, r14, Option.getD_some, ← e15]))⟩, th_Ht ht hH⟩, hS.F ht⟩) hS.2.2 dX0_boatAt_30

noncomputable def f_X0_isEarlierTide_2 (τ : th_t) (Z : th_Zt) (gi : th_i) (gr : th_r) (h0 : Nat) (p1 : Int32) : Nat → Int32 → Int32
  | 0, y2_2 => 0
  | n2 + 1, y2_2 =>
    if p1 ≤ y2_2 then (
      0) else (
      let q4 : Nat := (gr h0 2).getD 0
      let x5 : Int32 := gi q4 y2_2.toNatClampNeg
      let x7 : Int32 := gi q4 p1.toNatClampNeg
      if x5 = x7 then (
        1) else (
        let x9 : Int32 := y2_2 + 1
        (f_X0_isEarlierTide_2 τ Z gi gr h0 p1 n2) x9))
noncomputable def F_X0_isEarlierTide (τ : th_t) (Z : th_Zt) (gi : th_i) (gr : th_r) (h0 : Nat) (p1 : Int32) : Int32 :=
  f_X0_isEarlierTide_2 τ Z gi gr h0 p1 ((23 - (0 : Int32).toInt).toNat + 1) 0
set_option maxHeartbeats 8000000 in
set_option maxRecDepth 100000 in
theorem k_X0_isEarlierTide (l : Launch) (D : va_G) (cA : Nat → ClassId) (Z : th_Zt) (τ : th_t) (gi : th_i) (gr : th_r) (sz : Nat) (h0 : Nat) (t_h0 : τ h0 = 1) (p1 : Int32) (f_p1 : rg 0 23 p1) : Met l yX0_isEarlierTide wsX0_isEarlierTide ({ frames := 0, cells := 0, slots := 0, locals := 0 }) (va_Pc [.ref h0, .int p1] (th_Pre D cA Z τ gi gr sz)) (va_Qi (fun (r : Int32) (_ : Unit) => rg 0 1 r ∧ (F_X0_isEarlierTide τ Z gi gr h0 p1 = r)) (fun (_ : Unit) t => th_H D cA τ gi gr t.heap) (th_A τ sz)) 0 0 (th_A τ sz) := by
  refine Met.ofW (cc := cX0_isEarlierTide) (maxL := 3) (ret := (some .boolean)) (by decide) rfl ?_
  intro p e s m args below meth c s₁ B hml hv
  obtain ⟨rfl, hsz, hH, hK, hN, hZ⟩ := hv
  have hx := B.exec
  have hb := B.bytes
  have hr := B.returns
  have hts := atoms_spec (ws := wsX0_isEarlierTide) B.pre
  have hown : s.vm.findClass RX0 = some m.cls := findClass_of_methodNamed B.named
  have hlocks := B.notSynchronized
  subst hsz
  have J2 : ∀ (n2 : Nat) (H : Heap) (locs : List Loc) (ls : Array Slot) (y2_2 : Int32), (23 - y2_2.toInt).toNat < n2 → th_H D cA τ gi gr H → va_S (th_A τ s.heap.size) s.heap H locs → lv_has ls 3 [(0, .ref h0), (1, .int p1), (2, .int y2_2)] → rg 0 23 p1 → rg 0 23 y2_2 → F_X0_isEarlierTide τ Z gi gr h0 p1 = f_X0_isEarlierTide_2 τ Z gi gr h0 p1 n2 y2_2 → W p l e (headSpec wsX0_isEarlierTide ({ frames := 0, cells := 0, slots := 0, locals := 0 })).room s m [.ref h0, .int p1].toArray below meth c H locs 0 0 (MQ below (va_Qi (fun (r : Int32) (_ : Unit) => rg 0 1 r ∧ (F_X0_isEarlierTide τ Z gi gr h0 p1 = r)) (fun (_ : Unit) t => th_H D cA τ gi gr t.heap) (th_A τ s.heap.size)) [.ref h0, .int p1].toArray s 0 0 (th_A τ s.heap.size)) (F0 m 2 ls []) := by
    intro n2
    induction n2 with
    | zero =>
      intro H locs ls y2_2 hn
      exact absurd hn (Nat.not_lt_zero _)
    | succ n2 ih2 =>
      intro H locs ls y2_2 hn2 hH hS hl fy2_1 fy2_2 hF
      refine lv_iload_n hx hb dX0_isEarlierTide_2 rfl (lv_at hl 2 rfl) ?_
      refine lv_iload_n hx hb dX0_isEarlierTide_3 rfl (lv_at hl 1 rfl) ?_
      refine lv_icmp_ge (tgt := 30) hx hb dX0_isEarlierTide_4 (th_eqI rfl) (fun c1 => ?_) (fun c1 => ?_)
      · skip
        refine lv_iconst (v := 0) hx hb dX0_isEarlierTide_30 ic_0 ?_
        exact W.zret (v := 0) hx hb hr (rg_nb (rg_w rgc_0 (th_leI rfl) (th_leI rfl))) (fun t ht hW => ⟨⟨0, (), rfl, ⟨(rg_w rgc_0 (th_leI rfl) (th_leI rfl)), (hF.trans (by simp only [↓reduceIte, f_X0_isEarlierTide_2, eq_true c1]))⟩, th_Ht ht hH⟩, hS.F ht⟩) hS.2.2 dX0_isEarlierTide_31
      · skip
        have f2 : rg 1 23 p1 := rg_w (rg_nle fy2_1 fy2_2 c1).1 (th_leI rfl) (th_leI rfl)
        have f3 : rg 0 22 y2_2 := rg_w (rg_nle fy2_1 fy2_2 c1).2 (th_leI rfl) (th_leI rfl)
        refine lv_aload_n hx hb dX0_isEarlierTide_7 rfl (lv_at hl 0 rfl) ?_
        obtain ⟨q4, r4, t4⟩ : ∃ q, gr h0 2 = some q ∧ τ q = 22 := (thI_1 hH t_h0).2.2.1
        refine th_get (ci := 0) (v := .ref q4) (T := TX0) (C := RX0) (N := 9) hx hb hts (fun w h => List.mem_cons_of_mem _ (List.mem_append_right _ h)) hown hK hH t_h0 (th_nz rfl) (thE_1 _ _ _) rfl 2 (th_ltN rfl) (hts (.fieldLink RX0 23 "BayMoorings$Bay" "tides" "[I") (List.mem_cons_of_mem _ (List.mem_append_left _ (List.mem_of_getElem? (i := 0) rfl)))) (fun _ h9 => h9) (th_fR r4 rfl) dX0_isEarlierTide_8 ?_
        refine lv_iload_n hx hb dX0_isEarlierTide_11 rfl (lv_at hl 2 rfl) ?_
        refine th_iald hx hb hK hH t4 (th_nz rfl) 0 (thE_22 _ _ _) rfl (rg_in (n := 24) f3 (th_leI rfl) (th_ltI rfl)) dX0_isEarlierTide_12 ?_
        refine lv_topi (fun x5 e5 => ?_)
        refine lv_aload_n hx hb dX0_isEarlierTide_13 rfl (lv_at hl 0 rfl) ?_
        refine th_get (ci := 0) (v := .ref q4) (T := TX0) (C := RX0) (N := 9) hx hb hts (fun w h => List.mem_cons_of_mem _ (List.mem_append_right _ h)) hown hK hH t_h0 (th_nz rfl) (thE_1 _ _ _) rfl 2 (th_ltN rfl) (hts (.fieldLink RX0 23 "BayMoorings$Bay" "tides" "[I") (List.mem_cons_of_mem _ (List.mem_append_left _ (List.mem_of_getElem? (i := 0) rfl)))) (fun _ h9 => h9) (th_fR r4 rfl) dX0_isEarlierTide_14 ?_
        refine lv_iload_n hx hb dX0_isEarlierTide_17 rfl (lv_at hl 1 rfl) ?_
        refine th_iald hx hb hK hH t4 (th_nz rfl) 0 (thE_22 _ _ _) rfl (rg_in (n := 24) f2 (th_leI rfl) (th_ltI rfl)) dX0_isEarlierTide_18 ?_
        refine lv_topi (fun x7 e7 => ?_)
        refine lv_icmp_ne (tgt := 24) hx hb dX0_isEarlierTide_19 (th_eqI rfl) (fun c8 => ?_) (fun c8 => ?_)
        · skip
          obtain ⟨x9, e9⟩ : ∃ y : Int32, y = y2_2 + 1 := ⟨_, rfl⟩
          have f9 : rg 1 23 x9 := rg_e e9 (rg_w (rg_add f3 rgc_1 (th_leI rfl) (th_leI rfl)) (th_leI rfl) (th_leI rfl))
          refine lv_iinc (v := x9) (lv' := [(2, .int x9), (0, .ref h0), (1, .int p1)]) hx hb dX0_isEarlierTide_24 hl (k := 2) rfl (by rw [e9]; rfl) (th_ltN rfl) rfl (fun ls hl => ?_)
          refine lv_goto (tgt := 2) hx hb dX0_isEarlierTide_27 (th_eqI rfl) ?_
          exact ih2 _ _ _ x9 (th_up (rg_dA e9 f3 rgc_1 (th_leI rfl) (th_leI rfl)) f3 hn2 (th_ltI rfl)) hH hS (lv_sub hl [1, 2, 0] rfl) (rg_w f2 (th_leI rfl) (th_leI rfl)) (rg_w f9 (th_leI rfl) (th_leI rfl)) (hF.trans (by simp only [↓reduceIte, f_X0_isEarlierTide_2, eq_false c1, r4, Option.getD_some, ← e5, ← e7, eq_false c8, ← e9]))
        · skip
          refine lv_iconst (v := 1) hx hb dX0_isEarlierTide_22 ic_1 ?_
          exact W.zret (v := 1) hx hb hr (rg_nb (rg_w rgc_1 (th_leI rfl) (th_leI rfl))) (fun t ht hW => ⟨⟨1, (), rfl, ⟨(rg_w rgc_1 (th_leI rfl) (th_leI rfl)), (hF.trans (by simp only [↓reduceIte, f_X0_isEarlierTide_2, eq_false c1, r4, Option.getD_some, ← e5, ← e7, eq_true c8]))⟩, th_Ht ht hH⟩, hS.F ht⟩) hS.2.2 dX0_isEarlierTide_23
  have hS : va_S (th_A τ s.heap.size) s.heap s.heap [] := va_S.rf
  have hl := lv_entry ([.ref h0, .int p1]) (n := 3) (Nat.le_of_ble_eq_true rfl)
  rw [lg_entry_eq]
  generalize (lg_sl ([.ref h0, .int p1]) ++ List.replicate (3 - (lg_sl ([.ref h0, .int p1])).length) Slot.unset).toArray = ls at hl ⊢
  have hl : lv_has ls 3 [(0, .ref h0), (1, .int p1)] := hl
  have hF : F_X0_isEarlierTide τ Z gi gr h0 p1 = F_X0_isEarlierTide τ Z gi gr h0 p1 := rfl
  refine lv_iconst (v := 0) hx hb dX0_isEarlierTide_0 ic_0 ?_
  refine lv_istore_n (i := 2) (lv' := [(2, .int 0), (0, .ref h0), (1, .int p1)]) hx hb dX0_isEarlierTide_1 rfl hl (th_ltN rfl) rfl (fun ls hl => ?_)
  exact J2 _ _ _ _ 0 (Nat.lt_add_one _) hH hS (lv_sub hl [1, 2, 0] rfl) f_p1 (rg_w rgc_0 (th_leI rfl) (th_leI rfl)) (hF.trans (by simp only [F_X0_isEarlierTide]))

noncomputable def f_X0_setTide_62 (τ : th_t) (Z : th_Zt) (gi : th_i) (gr : th_r) (h0 : Nat) (p1 : Int32) (p2 : Int32) : Nat → th_i → Int32 → th_i
  | 0, gi_62, y62_3 => (gi_62)
  | n62 + 1, gi_62, y62_3 =>
    let w62_0 : Int32 := gi_62 h0 5
    let w62_1 : Int32 := gi_62 h0 8
    if (24 : Int32) ≤ y62_3 then (
      (gi_62)) else (
      let q5 : Nat := (gr h0 2).getD 0
      let x6 : Int32 := gi_62 q5 y62_3.toNatClampNeg
      let x7 : Int32 := th_mn w62_1 x6
      let gi8 : th_i := va_up gi_62 h0 (upd (gi_62 h0) 8 x7)
      let q12 : Nat := (gr h0 3).getD 0
      let x14 : Int32 := F_X0_isEarlierTide τ Z gi8 gr h0 y62_3
      let gi15 : th_i := va_up gi8 q12 (upd (gi8 q12) y62_3.toNatClampNeg x14)
      let x19 : Int32 := y62_3 + 1
      (f_X0_setTide_62 τ Z gi gr h0 p1 p2 n62) gi15 x19)
noncomputable def f_X0_setTide_44 (τ : th_t) (Z : th_Zt) (gi : th_i) (gr : th_r) (h0 : Nat) (p1 : Int32) (p2 : Int32) (gi_17 : th_i) (y17_3 : Int32) (k_17 : th_i → Int32 → th_i) (gi_44 : th_i) : th_i :=
  let w44_0 : Int32 := gi_44 h0 5
  let x20 : Int32 := y17_3 + 1
  k_17 gi_44 x20
noncomputable def f_X0_setTide_17 (τ : th_t) (Z : th_Zt) (gi : th_i) (gr : th_r) (h0 : Nat) (p1 : Int32) (p2 : Int32) : Nat → th_i → Int32 → th_i
  | 0, gi_17, y17_3 => (gi_17)
  | n17 + 1, gi_17, y17_3 =>
    let x21 : Int32 := gi_17 h0 5
    if x21 ≤ y17_3 then (
      let q23 : Nat := (gr h0 2).getD 0
      let x24 : Int32 := gi_17 q23 (0 : Int32).toNatClampNeg
      let gi25 : th_i := va_up gi_17 h0 (upd (gi_17 h0) 8 x24)
      f_X0_setTide_62 τ Z gi gr h0 p1 p2 ((24 - (0 : Int32).toInt).toNat + 1) gi25 0) else (
      let r31 : Option Nat := F_X0_buoyAt τ Z gi_17 gr h0 y17_3
      Option.elim r31 (
        f_X0_setTide_44 τ Z gi gr h0 p1 p2 gi_17 y17_3 (f_X0_setTide_17 τ Z gi gr h0 p1 p2 n17) gi_17) (fun q32 =>
        let gi34 : th_i := F_X3_flood τ Z gi_17 gr q32 p1 p2
        f_X0_setTide_44 τ Z gi gr h0 p1 p2 gi_17 y17_3 (f_X0_setTide_17 τ Z gi gr h0 p1 p2 n17) gi34))
noncomputable def F_X0_setTide (τ : th_t) (Z : th_Zt) (gi : th_i) (gr : th_r) (h0 : Nat) (p1 : Int32) (p2 : Int32) : th_i :=
  let x37 : Int32 := F_X11_isHour τ Z gi gr p1
  if x37 = (0 : Int32) then (
    (gi)) else (
    let q41 : Nat := (gr h0 2).getD 0
    let gi42 : th_i := va_up gi q41 (upd (gi q41) p1.toNatClampNeg p2)
    f_X0_setTide_17 τ Z gi gr h0 p1 p2 ((12 - (0 : Int32).toInt).toNat + 1) gi42 0)
set_option maxHeartbeats 8000000 in
set_option maxRecDepth 100000 in
theorem k_X0_setTide (l : Launch) (D : va_G) (cA : Nat → ClassId) (Z : th_Zt) (τ : th_t) (gi : th_i) (gr : th_r) (sz : Nat) (h0 : Nat) (t_h0 : τ h0 = 1) (p1 : Int32) (p2 : Int32) : Met l yX0_setTide wsX0_setTide ({ frames := 3, cells := 0, slots := 0, locals := 65 }) (va_Pc [.ref h0, .int p1, .int p2] (th_Pre D cA Z τ gi gr sz)) (va_Qv (fun (u : th_i × th_r) => th_Mod [108, 2200, 2300, 2600] τ gi gr u.1 u.2 ∧ u.2 = gr ∧ (F_X0_setTide τ Z gi gr h0 p1 p2 = u.1)) (fun (u : th_i × th_r) t => th_H D cA τ u.1 u.2 t.heap) (th_A τ sz)) 0 0 (th_A τ sz) := by
  refine Met.ofW (cc := cX0_setTide) (maxL := 5) (ret := none) (by decide) rfl ?_
  intro p e s m args below meth c s₁ B hml hv
  obtain ⟨rfl, hsz, hH, hK, hN, hZ⟩ := hv
  have hx := B.exec
  have hb := B.bytes
  have hr := B.returns
  have hts := atoms_spec (ws := wsX0_setTide) B.pre
  have hown : s.vm.findClass RX0 = some m.cls := findClass_of_methodNamed B.named
  have hlocks := B.notSynchronized
  subst hsz
  have hM : th_Mod [108, 2200, 2300, 2600] τ gi gr gi gr := th_Mod.rf
  have J62 : ∀ (n62 : Nat) (gi_62 : th_i) (H : Heap) (locs : List Loc) (ls : Array Slot) (y62_3 : Int32) (w62_0 : Int32) (w62_1 : Int32), (24 - y62_3.toInt).toNat < n62 → th_H D cA τ gi_62 gr H → va_S (th_A τ s.heap.size) s.heap H locs → th_Mod [108, 2200, 2300, 2600] τ gi gr gi_62 gr → lv_has ls 5 [(0, .ref h0), (3, .int y62_3)] → rg 0 24 y62_3 → w62_0 = gi_62 h0 5 → rg 0 12 w62_0 → w62_1 = gi_62 h0 8 → F_X0_setTide τ Z gi gr h0 p1 p2 = f_X0_setTide_62 τ Z gi gr h0 p1 p2 n62 gi_62 y62_3 → W p l e (headSpec wsX0_setTide ({ frames := 3, cells := 0, slots := 0, locals := 65 })).room s m [.ref h0, .int p1, .int p2].toArray below meth c H locs 0 0 (MQ below (va_Qv (fun (u : th_i × th_r) => th_Mod [108, 2200, 2300, 2600] τ gi gr u.1 u.2 ∧ u.2 = gr ∧ (F_X0_setTide τ Z gi gr h0 p1 p2 = u.1)) (fun (u : th_i × th_r) t => th_H D cA τ u.1 u.2 t.heap) (th_A τ s.heap.size)) [.ref h0, .int p1, .int p2].toArray s 0 0 (th_A τ s.heap.size)) (F0 m 62 ls []) := by
    intro n62
    induction n62 with
    | zero =>
      intro gi_62 H locs ls y62_3 w62_0 w62_1 hn
      exact absurd hn (Nat.not_lt_zero _)
    | succ n62 ih62 =>
      intro gi_62 H locs ls y62_3 w62_0 w62_1 hn62 hH hS hM hl fy62_3 ew62_0 fw62_0 ew62_1 hF
      refine lv_iload_n hx hb dX0_setTide_62 rfl (lv_at hl 1 rfl) ?_
      refine lv_bipush (v := 24) hx hb dX0_setTide_63 bp_24 ?_
      refine lv_icmp_ge (tgt := 102) hx hb dX0_setTide_65 (th_eqI rfl) (fun c1 => ?_) (fun c1 => ?_)
      · skip
        have f2 : rg 24 24 y62_3 := rg_w (rg_le rgc_24 fy62_3 c1).2 (th_leI rfl) (th_leI rfl)
        exact W.vret hx hb hr (fun t ht hW => ⟨⟨(gi_62, gr), rfl, ⟨hM, rfl, (hF.trans (by simp only [↓reduceIte, f_X0_setTide_62, ← ew62_0, ← ew62_1, eq_true c1]))⟩, th_Ht ht hH⟩, hS.F ht⟩) hS.2.2 dX0_setTide_102
      · skip
        have f3 : rg 0 23 y62_3 := rg_w (rg_nle rgc_24 fy62_3 c1).2 (th_leI rfl) (th_leI rfl)
        refine lv_aload_n hx hb dX0_setTide_68 rfl (lv_at hl 0 rfl) ?_
        refine lv_aload_n hx hb dX0_setTide_69 rfl (lv_at hl 0 rfl) ?_
        refine th_get (ci := 0) (v := .int w62_1) (T := TX0) (C := RX0) (N := 9) hx hb hts (fun w h => List.mem_cons_of_mem _ (List.mem_append_left _ (List.mem_append_right _ h))) hown hK hH t_h0 (th_nz rfl) (thE_1 _ _ _) rfl 8 (th_ltN rfl) (hts (.fieldLink RX0 48 "BayMoorings$Bay" "leastTide" "I") (List.mem_cons_of_mem _ (List.mem_append_left _ (List.mem_append_left _ (List.mem_append_left _ (List.mem_of_getElem? (i := 2) rfl)))))) (fun _ h9 => h9) (th_fI ew62_1 rfl) dX0_setTide_70 ?_
        refine lv_aload_n hx hb dX0_setTide_73 rfl (lv_at hl 0 rfl) ?_
        obtain ⟨q5, r5, t5⟩ : ∃ q, gr h0 2 = some q ∧ τ q = 22 := (thI_1 hH t_h0).2.2.1
        refine th_get (ci := 0) (v := .ref q5) (T := TX0) (C := RX0) (N := 9) hx hb hts (fun w h => List.mem_cons_of_mem _ (List.mem_append_left _ (List.mem_append_right _ h))) hown hK hH t_h0 (th_nz rfl) (thE_1 _ _ _) rfl 2 (th_ltN rfl) (hts (.fieldLink RX0 23 "BayMoorings$Bay" "tides" "[I") (List.mem_cons_of_mem _ (List.mem_append_left _ (List.mem_append_left _ (List.mem_append_left _ (List.mem_of_getElem? (i := 0) rfl)))))) (fun _ h9 => h9) (th_fR r5 rfl) dX0_setTide_74 ?_
        refine lv_iload_n hx hb dX0_setTide_77 rfl (lv_at hl 1 rfl) ?_
        refine th_iald hx hb hK hH t5 (th_nz rfl) 0 (thE_22 _ _ _) rfl (rg_in (n := 24) f3 (th_leI rfl) (th_ltI rfl)) dX0_setTide_78 ?_
        refine lv_topi (fun x6 e6 => ?_)
        refine va_mmin hx hb (by rw [hml]; exact hl.1.symm) hown (hts (.methodLink RX0 85 Lib.Math.min.name) (List.mem_cons_of_mem _ (List.mem_append_left _ (List.mem_append_left _ (List.mem_append_left _ (List.mem_of_getElem? (i := 3) rfl)))))) (hts (.static Lib.Math.min.name) (List.mem_cons_of_mem _ (List.mem_append_left _ (List.mem_append_left _ (List.mem_append_left _ (List.mem_of_getElem? (i := 4) rfl)))))) (hts (.initialized "java/lang/Math") (List.mem_cons_of_mem _ (List.mem_append_left _ (List.mem_append_left _ (List.mem_append_left _ (List.mem_of_getElem? (i := 5) rfl)))))) (hts (.code Lib.Math.min.name Lib.Math.min.code 2 (some .int)) (List.mem_cons_of_mem _ (List.mem_append_left _ (List.mem_append_left _ (List.mem_append_left _ (List.mem_of_getElem? (i := 6) rfl)))))) (Nat.le_of_ble_eq_true rfl) (Nat.le_of_ble_eq_true rfl) (Nat.zero_le _) (Nat.zero_le _) dX0_setTide_79 ?_
        refine lv_topi (fun x7 e7 => ?_)
        have em7 : x7 = th_mn w62_1 x6 := e7
        refine th_put (ci := 0) (v := .int x7) (T := TX0) (C := RX0) (N := 9) (ty := .int) (gi' := va_up gi_62 h0 (upd (gi_62 h0) 8 x7)) (gr' := gr) hx hb hts (fun w h => List.mem_cons_of_mem _ (List.mem_append_left _ (List.mem_append_right _ h))) tyX0 tyX0_ok nmX0 hown hK hH hS t_h0 (th_nz rfl) (Or.inl (th_nzE t_h0 rfl)) rfl rfl 8 (th_ltN rfl) (hts (.fieldLink RX0 48 "BayMoorings$Bay" "leastTide" "I") (List.mem_cons_of_mem _ (List.mem_append_left _ (List.mem_append_left _ (List.mem_append_left _ (List.mem_of_getElem? (i := 2) rfl)))))) (fun _ h9 => h9) rfl (by decide +kernel) rfl rfl (Nat.le_of_ble_eq_true rfl) (by rw [va_up_self]; rfl) (by rw [va_up_self]; show (∃ q, gr h0 0 = some q ∧ τ q = 20) ∧ (∃ q, gr h0 1 = some q ∧ τ q = 21) ∧ (∃ q, gr h0 2 = some q ∧ τ q = 22) ∧ (∃ q, gr h0 3 = some q ∧ τ q = 23) ∧ (∃ q, gr h0 4 = some q ∧ τ q = 2) ∧ rg 0 12 (gi_62 h0 5) ∧ rg 0 16 (gi_62 h0 6); exact ⟨(thI_1 hH t_h0).1, (thI_1 hH t_h0).2.1, (thI_1 hH t_h0).2.2.1, (thI_1 hH t_h0).2.2.2.1, (thI_1 hH t_h0).2.2.2.2.1, (thI_1 hH t_h0).2.2.2.2.2.1, (thI_1 hH t_h0).2.2.2.2.2.2⟩) (fun b hb => ⟨va_up_ne _ _ hb, rfl⟩) dX0_setTide_82 (fun H locs hH hS => ?_)
        obtain ⟨gi8, eg8⟩ : ∃ g, g = va_up gi_62 h0 (upd (gi_62 h0) 8 x7) := ⟨_, rfl⟩
        rw [← eg8] at hH
        have hu8 : gi8 h0 8 = x7 := (th_uI eg8).1
        have ho8 : ∀ b j, b ≠ h0 ∨ j ≠ 8 → gi8 b j = gi_62 b j := (th_uI eg8).2
        have e9 : w62_0 = gi8 h0 5 := Eq.trans ew62_0 (Eq.symm (ho8 _ _ (Or.inr (th_nz rfl))))
        have e11 : x6 = gi8 q5 (y62_3.toNatClampNeg) := Eq.trans e6 (Eq.symm (ho8 _ _ (Or.inl (th_ne t5 t_h0 (th_nz rfl)))))
        have hM := hM.i t_h0 (th_mem (a := 108) rfl) ho8
        refine lv_aload_n hx hb dX0_setTide_85 rfl (lv_at hl 0 rfl) ?_
        obtain ⟨q12, r12, t12⟩ : ∃ q, gr h0 3 = some q ∧ τ q = 23 := (thI_1 hH t_h0).2.2.2.1
        refine th_get (ci := 0) (v := .ref q12) (T := TX0) (C := RX0) (N := 9) hx hb hts (fun w h => List.mem_cons_of_mem _ (List.mem_append_left _ (List.mem_append_right _ h))) hown hK hH t_h0 (th_nz rfl) (thE_1 _ _ _) rfl 3 (th_ltN rfl) (hts (.fieldLink RX0 27 "BayMoorings$Bay" "repeated" "[Z") (List.mem_cons_of_mem _ (List.mem_append_left _ (List.mem_append_left _ (List.mem_append_left _ (List.mem_of_getElem? (i := 7) rfl)))))) (fun _ h9 => h9) (th_fR r12 rfl) dX0_setTide_86 ?_
        refine lv_iload_n hx hb dX0_setTide_89 rfl (lv_at hl 1 rfl) ?_
        refine lv_aload_n hx hb dX0_setTide_90 rfl (lv_at hl 0 rfl) ?_
        refine lv_iload_n hx hb dX0_setTide_91 rfl (lv_at hl 1 rfl) ?_
        have hA13 := th_Asub (τ := τ) hS
        refine va_calli (va_runV (As := [.int y62_3]) (rest := [.int y62_3, .ref q12]) ⟨hx, hb, hml, hown, hts⟩ (k_X0_isEarlierTide l D cA Z τ gi8 gr _ h0 t_h0 y62_3 f3) (cwV 1 hts gX0_setTide_X0_isEarlierTide rfl rfl rfl hd_X0_isEarlierTide__1 ⟨Nat.le_of_ble_eq_true rfl, Nat.le_of_ble_eq_true rfl⟩) ⟨th_blind, tr_1 hK hH t_h0, (th_pre hH hK hN hZ hS hA13)⟩ rfl rfl hl.1 rfl (lv_room (Nat.le_of_ble_eq_true rfl)) dX0_setTide_92 ⟨Nat.le_of_ble_eq_true rfl, Nat.le_of_ble_eq_true rfl⟩) hS (fun q _ h => hA13 q h) hA13 (fun x14 u t H locs ht hvm hw14 hB hz1 hk1 hS => ?_)
        try dsimp only at hw14 hB
        rw [ht] at hB
        have hH := hB
        refine th_zast hx hb hK hH hS t12 (th_nz rfl) (Or.inl (th_nzE t12 rfl)) 1 (fun _ => thE_23 _ _ _) rfl hw14.1 (rg_in (n := 24) f3 (th_leI rfl) (th_ltI rfl)) (th_ai (P := rg 0 1) (thI_23 hH t12) hw14.1) dX0_setTide_95 (fun gi15 H locs hu15 ho15 hH hS => ?_)
        have eg15 : gi15 = va_up gi8 q12 (upd (gi8 q12) y62_3.toNatClampNeg x14) := th_upE hu15 ho15
        have e16 : w62_0 = gi15 h0 5 := Eq.trans e9 (Eq.symm (ho15 _ _ (Or.inl (th_ne t_h0 t12 (th_nz rfl)))))
        have e17 : x6 = gi15 q5 (y62_3.toNatClampNeg) := Eq.trans e11 (Eq.symm (ho15 _ _ (Or.inl (th_ne t5 t12 (th_nz rfl)))))
        have e18 : x7 = gi15 h0 8 := Eq.trans hu8.symm (Eq.symm (ho15 _ _ (Or.inl (th_ne t_h0 t12 (th_nz rfl)))))
        have hM := hM.i t12 (th_mem (a := 2300) rfl) ho15
        obtain ⟨x19, e19⟩ : ∃ y : Int32, y = y62_3 + 1 := ⟨_, rfl⟩
        have f19 : rg 1 24 x19 := rg_e e19 (rg_w (rg_add f3 rgc_1 (th_leI rfl) (th_leI rfl)) (th_leI rfl) (th_leI rfl))
        refine lv_iinc (v := x19) (lv' := [(3, .int x19), (0, .ref h0)]) hx hb dX0_setTide_96 hl (k := 1) rfl (by rw [e19]; rfl) (th_ltN rfl) rfl (fun ls hl => ?_)
        refine lv_goto (tgt := 62) hx hb dX0_setTide_99 (th_eqI rfl) ?_
        exact ih62 gi15 _ _ _ x19 w62_0 x7 (th_up (rg_dA e19 f3 rgc_1 (th_leI rfl) (th_leI rfl)) f3 hn62 (th_ltI rfl)) hH hS hM (lv_sub hl [1, 0] rfl) (rg_w f19 (th_leI rfl) (th_leI rfl)) e16 fw62_0 e18 (hF.trans (by simp only [↓reduceIte, f_X0_setTide_62, ← ew62_0, ← ew62_1, eq_false c1, r5, Option.getD_some, ← e6, ← em7, ← eg8, r12, hw14.2, ← eg15, ← e19]))
  have J17 : ∀ (n17 : Nat) (gi_17 : th_i) (H : Heap) (locs : List Loc) (ls : Array Slot) (y17_3 : Int32), (12 - y17_3.toInt).toNat < n17 → th_H D cA τ gi_17 gr H → va_S (th_A τ s.heap.size) s.heap H locs → th_Mod [108, 2200, 2300, 2600] τ gi gr gi_17 gr → lv_has ls 5 [(0, .ref h0), (1, .int p1), (2, .int p2), (3, .int y17_3)] → rg 0 23 p1 → rg 0 12 y17_3 → F_X0_setTide τ Z gi gr h0 p1 p2 = f_X0_setTide_17 τ Z gi gr h0 p1 p2 n17 gi_17 y17_3 → W p l e (headSpec wsX0_setTide ({ frames := 3, cells := 0, slots := 0, locals := 65 })).room s m [.ref h0, .int p1, .int p2].toArray below meth c H locs 0 0 (MQ below (va_Qv (fun (u : th_i × th_r) => th_Mod [108, 2200, 2300, 2600] τ gi gr u.1 u.2 ∧ u.2 = gr ∧ (F_X0_setTide τ Z gi gr h0 p1 p2 = u.1)) (fun (u : th_i × th_r) t => th_H D cA τ u.1 u.2 t.heap) (th_A τ s.heap.size)) [.ref h0, .int p1, .int p2].toArray s 0 0 (th_A τ s.heap.size)) (F0 m 17 ls []) := by
    intro n17
    induction n17 with
    | zero =>
      intro gi_17 H locs ls y17_3 hn
      exact absurd hn (Nat.not_lt_zero _)
    | succ n17 ih17 =>
      intro gi_17 H locs ls y17_3 hn17 hH hS hM hl fy17_1 fy17_3 hF
      have J44 : ∀ (gi_44 : th_i) (H : Heap) (locs : List Loc) (ls : Array Slot) (w44_0 : Int32), th_H D cA τ gi_44 gr H → va_S (th_A τ s.heap.size) s.heap H locs → th_Mod [108, 2200, 2300, 2600] τ gi gr gi_44 gr → lv_has ls 5 [(0, .ref h0), (1, .int p1), (2, .int p2), (3, .int y17_3)] → rg 0 23 p1 → rg 0 11 y17_3 → w44_0 = gi_44 h0 5 → rg 1 12 w44_0 → F_X0_setTide τ Z gi gr h0 p1 p2 = f_X0_setTide_44 τ Z gi gr h0 p1 p2 gi_17 y17_3 (f_X0_setTide_17 τ Z gi gr h0 p1 p2 n17) gi_44 → W p l e (headSpec wsX0_setTide ({ frames := 3, cells := 0, slots := 0, locals := 65 })).room s m [.ref h0, .int p1, .int p2].toArray below meth c H locs 0 0 (MQ below (va_Qv (fun (u : th_i × th_r) => th_Mod [108, 2200, 2300, 2600] τ gi gr u.1 u.2 ∧ u.2 = gr ∧ (F_X0_setTide τ Z gi gr h0 p1 p2 = u.1)) (fun (u : th_i × th_r) t => th_H D cA τ u.1 u.2 t.heap) (th_A τ s.heap.size)) [.ref h0, .int p1, .int p2].toArray s 0 0 (th_A τ s.heap.size)) (F0 m 44 ls []) := by
        intro gi_44 H locs ls w44_0 hH hS hM hl fy44_1 fy44_3 ew44_0 fw44_0 hF
        obtain ⟨x20, e20⟩ : ∃ y : Int32, y = y17_3 + 1 := ⟨_, rfl⟩
        have f20 : rg 1 12 x20 := rg_e e20 (rg_w (rg_add fy44_3 rgc_1 (th_leI rfl) (th_leI rfl)) (th_leI rfl) (th_leI rfl))
        refine lv_iinc (v := x20) (lv' := [(3, .int x20), (0, .ref h0), (1, .int p1), (2, .int p2)]) hx hb dX0_setTide_44 hl (k := 3) rfl (by rw [e20]; rfl) (th_ltN rfl) rfl (fun ls hl => ?_)
        refine lv_goto (tgt := 17) hx hb dX0_setTide_47 (th_eqI rfl) ?_
        exact ih17 gi_44 _ _ _ x20 (th_up (rg_dA e20 fy44_3 rgc_1 (th_leI rfl) (th_leI rfl)) fy44_3 hn17 (th_ltI rfl)) hH hS hM (lv_sub hl [1, 2, 3, 0] rfl) fy44_1 (rg_w f20 (th_leI rfl) (th_leI rfl)) (hF.trans (by simp only [f_X0_setTide_44, ← ew44_0, ← e20]))
      refine lv_iload_n hx hb dX0_setTide_17 rfl (lv_at hl 3 rfl) ?_
      refine lv_aload_n hx hb dX0_setTide_18 rfl (lv_at hl 0 rfl) ?_
      obtain ⟨x21, e21⟩ : ∃ y : Int32, y = gi_17 h0 5 := ⟨_, rfl⟩
      refine th_get (ci := 0) (v := .int x21) (T := TX0) (C := RX0) (N := 9) hx hb hts (fun w h => List.mem_cons_of_mem _ (List.mem_append_left _ (List.mem_append_right _ h))) hown hK hH t_h0 (th_nz rfl) (thE_1 _ _ _) rfl 5 (th_ltN rfl) (hts (.fieldLink RX0 38 "BayMoorings$Bay" "buoyCount" "I") (List.mem_cons_of_mem _ (List.mem_append_left _ (List.mem_append_left _ (List.mem_append_left _ (List.mem_of_getElem? (i := 1) rfl)))))) (fun _ h9 => h9) (th_fI e21 rfl) dX0_setTide_19 ?_
      have f21 : rg 0 12 x21 := rg_e e21 ((thI_1 hH t_h0).2.2.2.2.2.1)
      refine lv_icmp_ge (tgt := 50) hx hb dX0_setTide_22 (th_eqI rfl) (fun c22 => ?_) (fun c22 => ?_)
      · skip
        refine lv_aload_n hx hb dX0_setTide_50 rfl (lv_at hl 0 rfl) ?_
        refine lv_aload_n hx hb dX0_setTide_51 rfl (lv_at hl 0 rfl) ?_
        obtain ⟨q23, r23, t23⟩ : ∃ q, gr h0 2 = some q ∧ τ q = 22 := (thI_1 hH t_h0).2.2.1
        refine th_get (ci := 0) (v := .ref q23) (T := TX0) (C := RX0) (N := 9) hx hb hts (fun w h => List.mem_cons_of_mem _ (List.mem_append_left _ (List.mem_append_right _ h))) hown hK hH t_h0 (th_nz rfl) (thE_1 _ _ _) rfl 2 (th_ltN rfl) (hts (.fieldLink RX0 23 "BayMoorings$Bay" "tides" "[I") (List.mem_cons_of_mem _ (List.mem_append_left _ (List.mem_append_left _ (List.mem_append_left _ (List.mem_of_getElem? (i := 0) rfl)))))) (fun _ h9 => h9) (th_fR r23 rfl) dX0_setTide_52 ?_
        refine lv_iconst (v := 0) hx hb dX0_setTide_55 ic_0 ?_
        refine th_iald hx hb hK hH t23 (th_nz rfl) 0 (thE_22 _ _ _) rfl (rg_in (n := 24) rgc_0 (th_leI rfl) (th_ltI rfl)) dX0_setTide_56 ?_
        refine lv_topi (fun x24 e24 => ?_)
        refine th_put (ci := 0) (v := .int x24) (T := TX0) (C := RX0) (N := 9) (ty := .int) (gi' := va_up gi_17 h0 (upd (gi_17 h0) 8 x24)) (gr' := gr) hx hb hts (fun w h => List.mem_cons_of_mem _ (List.mem_append_left _ (List.mem_append_right _ h))) tyX0 tyX0_ok nmX0 hown hK hH hS t_h0 (th_nz rfl) (Or.inl (th_nzE t_h0 rfl)) rfl rfl 8 (th_ltN rfl) (hts (.fieldLink RX0 48 "BayMoorings$Bay" "leastTide" "I") (List.mem_cons_of_mem _ (List.mem_append_left _ (List.mem_append_left _ (List.mem_append_left _ (List.mem_of_getElem? (i := 2) rfl)))))) (fun _ h9 => h9) rfl (by decide +kernel) rfl rfl (Nat.le_of_ble_eq_true rfl) (by rw [va_up_self]; rfl) (by rw [va_up_self]; show (∃ q, gr h0 0 = some q ∧ τ q = 20) ∧ (∃ q, gr h0 1 = some q ∧ τ q = 21) ∧ (∃ q, gr h0 2 = some q ∧ τ q = 22) ∧ (∃ q, gr h0 3 = some q ∧ τ q = 23) ∧ (∃ q, gr h0 4 = some q ∧ τ q = 2) ∧ rg 0 12 (gi_17 h0 5) ∧ rg 0 16 (gi_17 h0 6); exact ⟨(thI_1 hH t_h0).1, (thI_1 hH t_h0).2.1, (thI_1 hH t_h0).2.2.1, (thI_1 hH t_h0).2.2.2.1, (thI_1 hH t_h0).2.2.2.2.1, (thI_1 hH t_h0).2.2.2.2.2.1, (thI_1 hH t_h0).2.2.2.2.2.2⟩) (fun b hb => ⟨va_up_ne _ _ hb, rfl⟩) dX0_setTide_57 (fun H locs hH hS => ?_)
        obtain ⟨gi25, eg25⟩ : ∃ g, g = va_up gi_17 h0 (upd (gi_17 h0) 8 x24) := ⟨_, rfl⟩
        rw [← eg25] at hH
        have hu25 : gi25 h0 8 = x24 := (th_uI eg25).1
        have ho25 : ∀ b j, b ≠ h0 ∨ j ≠ 8 → gi25 b j = gi_17 b j := (th_uI eg25).2
        have e26 : x21 = gi25 h0 5 := Eq.trans e21 (Eq.symm (ho25 _ _ (Or.inr (th_nz rfl))))
        have e27 : x24 = gi25 q23 ((0 : Int32).toNatClampNeg) := Eq.trans e24 (Eq.symm (ho25 _ _ (Or.inl (th_ne t23 t_h0 (th_nz rfl)))))
        have hM := hM.i t_h0 (th_mem (a := 108) rfl) ho25
        refine lv_iconst (v := 0) hx hb dX0_setTide_60 ic_0 ?_
        refine lv_istore_n (i := 3) (lv' := [(3, .int 0), (0, .ref h0), (1, .int p1), (2, .int p2)]) hx hb dX0_setTide_61 rfl hl (th_ltN rfl) rfl (fun ls hl => ?_)
        exact J62 _ gi25 _ _ _ 0 x21 x24 (Nat.lt_add_one _) hH hS hM (lv_sub hl [1, 0] rfl) (rg_w rgc_0 (th_leI rfl) (th_leI rfl)) e26 f21 hu25.symm (hF.trans (by simp only [↓reduceIte, f_X0_setTide_17, ← e21, eq_true c22, r23, Option.getD_some, ← e24, ← eg25]))
      · skip
        have f28 : rg 1 12 x21 := rg_w (rg_nle f21 fy17_3 c22).1 (th_leI rfl) (th_leI rfl)
        have f29 : rg 0 11 y17_3 := rg_w (rg_nle f21 fy17_3 c22).2 (th_leI rfl) (th_leI rfl)
        refine lv_aload_n hx hb dX0_setTide_25 rfl (lv_at hl 0 rfl) ?_
        refine lv_iload_n hx hb dX0_setTide_26 rfl (lv_at hl 3 rfl) ?_
        have hA30 := th_Asub (τ := τ) hS
        refine va_callq (va_runV (As := [.int y17_3]) (rest := []) ⟨hx, hb, hml, hown, hts⟩ (k_X0_buoyAt l D cA Z τ gi_17 gr _ h0 t_h0 y17_3) (cwV 1 hts gX0_setTide_X0_buoyAt rfl rfl rfl hd_X0_buoyAt__1 ⟨Nat.le_of_ble_eq_true rfl, Nat.le_of_ble_eq_true rfl⟩) ⟨th_blind, tr_1 hK hH t_h0, (th_pre hH hK hN hZ hS hA30)⟩ rfl rfl hl.1 rfl (lv_room (Nat.le_of_ble_eq_true rfl)) dX0_setTide_27 ⟨Nat.le_of_ble_eq_true rfl, Nat.le_of_ble_eq_true rfl⟩) hS (fun q _ h => hA30 q h) hA30 (fun r31 u t H locs ht hvm hw31 hB hz1 hk1 hS => ?_)
        try dsimp only at hw31 hB
        rw [ht] at hB
        have hH := hB
        refine th_astoreq (i := 4) (lv' := [(4, va_rf r31), (0, .ref h0), (1, .int p1), (2, .int p2), (3, .int y17_3)]) hx hb dX0_setTide_30 hl (th_ltN rfl) rfl (fun ls hl => ?_)
        refine th_aloadq hx hb dX0_setTide_32 (lv_at hl 0 rfl) ?_
        refine th_ifnull (tgt := 44) hx hb dX0_setTide_34 (th_eqI rfl) (fun z32 => ?_) (fun q32 z32 => ?_)
        · skip
          subst z32
          have hl : lv_has ls 5 [(4, .null), (0, .ref h0), (1, .int p1), (2, .int p2), (3, .int y17_3)] := hl
          exact J44 gi_17 _ _ _ x21 hH hS hM (lv_sub hl [1, 2, 3, 4] rfl) fy17_1 f29 e21 f28 (hF.trans (by simp only [↓reduceIte, f_X0_setTide_17, ← e21, eq_false c22, hw31.2, Option.elim_none]))
        · skip
          subst z32
          have t32 := hw31.1 q32 rfl
          have hl : lv_has ls 5 [(4, .ref q32), (0, .ref h0), (1, .int p1), (2, .int p2), (3, .int y17_3)] := hl
          refine lv_aload hx hb dX0_setTide_37 (lv_at hl 0 rfl) ?_
          refine lv_iload_n hx hb dX0_setTide_39 rfl (lv_at hl 2 rfl) ?_
          refine lv_iload_n hx hb dX0_setTide_40 rfl (lv_at hl 3 rfl) ?_
          have hA33 := th_Asub (τ := τ) hS
          refine va_callv (va_runV (As := [.int p1, .int p2]) (rest := []) ⟨hx, hb, hml, hown, hts⟩ (k_X3_flood l D cA Z τ gi_17 gr _ q32 t32 p1 p2) (cwV 2 hts gX0_setTide_X3_flood rfl rfl rfl hd_X3_flood__2 ⟨Nat.le_of_ble_eq_true rfl, Nat.le_of_ble_eq_true rfl⟩) ⟨th_blind, tr_3 hK hH t32, (th_pre hH hK hN hZ hS hA33)⟩ rfl rfl hl.1 rfl (lv_room (Nat.le_of_ble_eq_true rfl)) dX0_setTide_41 ⟨Nat.le_of_ble_eq_true rfl, Nat.le_of_ble_eq_true rfl⟩) hS (fun q _ h => hA33 q h) hA33 (fun  u t H locs ht hvm hw34 hB hz1 hk1 hS => ?_)
          try dsimp only at hw34 hB
          rw [ht] at hB
          have hH := hB
          obtain ⟨gi34, gr34⟩ := u
          try dsimp only at hw34 hH
          obtain rfl : gr = gr34 := (hw34.2.1).symm
          have hM := hM.tr hw34.1 (fun _ h => h) (th_sub rfl)
          have e35 : x21 = gi34 h0 5 := Eq.trans e21 (Eq.symm (hw34.1 h0 5 (th_nzE t_h0 rfl) (th_nmE (key := 105) t_h0 rfl rfl)).1)
          exact J44 gi34 _ _ _ x21 hH hS hM (lv_sub hl [1, 2, 3, 4] rfl) fy17_1 f29 e35 f28 (hF.trans (by simp only [↓reduceIte, f_X0_setTide_17, ← e21, eq_false c22, hw31.2, Option.elim_some, hw34.2.2]))
  have hS : va_S (th_A τ s.heap.size) s.heap s.heap [] := va_S.rf
  have hl := lv_entry ([.ref h0, .int p1, .int p2]) (n := 5) (Nat.le_of_ble_eq_true rfl)
  rw [lg_entry_eq]
  generalize (lg_sl ([.ref h0, .int p1, .int p2]) ++ List.replicate (5 - (lg_sl ([.ref h0, .int p1, .int p2])).length) Slot.unset).toArray = ls at hl ⊢
  have hl : lv_has ls 5 [(0, .ref h0), (1, .int p1), (2, .int p2)] := hl
  have hF : F_X0_setTide τ Z gi gr h0 p1 p2 = F_X0_setTide τ Z gi gr h0 p1 p2 := rfl
  refine lv_iload_n hx hb dX0_setTide_0 rfl (lv_at hl 1 rfl) ?_
  have hA36 := th_Asub (τ := τ) hS
  refine va_calli (va_runSN (As := [.int p1]) (rest := []) ⟨hx, hb, hml, hown, hts⟩ (k_X11_isHour l D cA Z τ gi gr _ p1) ⟨va_cnB (host := RX11) 1 hts gX0_setTide_X11_isHour_n77 rfl rfl rfl hN.2.2.1 (hts (.initialized RX11) (List.mem_cons_of_mem _ (List.mem_append_left _ (List.mem_append_left _ (List.mem_append_left _ (List.mem_of_getElem? (i := 9) rfl)))))) (by decide +kernel) ⟨Nat.le_of_ble_eq_true rfl, Nat.le_of_ble_eq_true rfl⟩, (hts (.static yX11_isHour) (List.mem_cons_of_mem _ (List.mem_append_left _ (List.mem_append_left _ (List.mem_append_left _ (List.mem_of_getElem? (i := 8) rfl)))))), trivial⟩ ⟨th_blind, (th_pre hH hK hN hZ hS hA36)⟩ rfl rfl hl.1 rfl (lv_room (Nat.le_of_ble_eq_true rfl)) dX0_setTide_1 ⟨Nat.le_of_ble_eq_true rfl, Nat.le_of_ble_eq_true rfl⟩) hS (fun q _ h => hA36 q h) hA36 (fun x37 u t H locs ht hvm hw37 hB hz1 hk1 hS => ?_)
  try dsimp only at hw37 hB
  rw [ht] at hB
  have hH := hB
  refine lv_if_ne (tgt := 8) hx hb dX0_setTide_4 (th_eqI rfl) (fun c38 => ?_) (fun c38 => ?_)
  · skip
    have f39 : rg 1 1 x37 := rg_w (rg_neL hw37.1 rgc_0 c38) (th_leI rfl) (th_leI rfl)
    have f40 : rg 0 23 p1 := rg_w (hw37.2.1 c38) (th_leI rfl) (th_leI rfl)
    refine lv_aload_n hx hb dX0_setTide_8 rfl (lv_at hl 0 rfl) ?_
    obtain ⟨q41, r41, t41⟩ : ∃ q, gr h0 2 = some q ∧ τ q = 22 := (thI_1 hH t_h0).2.2.1
    refine th_get (ci := 0) (v := .ref q41) (T := TX0) (C := RX0) (N := 9) hx hb hts (fun w h => List.mem_cons_of_mem _ (List.mem_append_left _ (List.mem_append_right _ h))) hown hK hH t_h0 (th_nz rfl) (thE_1 _ _ _) rfl 2 (th_ltN rfl) (hts (.fieldLink RX0 23 "BayMoorings$Bay" "tides" "[I") (List.mem_cons_of_mem _ (List.mem_append_left _ (List.mem_append_left _ (List.mem_append_left _ (List.mem_of_getElem? (i := 0) rfl)))))) (fun _ h9 => h9) (th_fR r41 rfl) dX0_setTide_9 ?_
    refine lv_iload_n hx hb dX0_setTide_12 rfl (lv_at hl 1 rfl) ?_
    refine lv_iload_n hx hb dX0_setTide_13 rfl (lv_at hl 2 rfl) ?_
    refine th_iast hx hb hK hH hS t41 (th_nz rfl) (Or.inl (th_nzE t41 rfl)) 0 (fun _ => thE_22 _ _ _) rfl (rg_in (n := 24) f40 (th_leI rfl) (th_ltI rfl)) (trivial) dX0_setTide_14 (fun gi42 H locs hu42 ho42 hH hS => ?_)
    have eg42 : gi42 = va_up gi q41 (upd (gi q41) p1.toNatClampNeg p2) := th_upE hu42 ho42
    have hM := hM.i t41 (th_mem (a := 2200) rfl) ho42
    refine lv_iconst (v := 0) hx hb dX0_setTide_15 ic_0 ?_
    refine lv_istore_n (i := 3) (lv' := [(3, .int 0), (0, .ref h0), (1, .int p1), (2, .int p2)]) hx hb dX0_setTide_16 rfl hl (th_ltN rfl) rfl (fun ls hl => ?_)
    exact J17 _ gi42 _ _ _ 0 (Nat.lt_add_one _) hH hS hM (lv_sub hl [1, 2, 3, 0] rfl) f40 (rg_w rgc_0 (th_leI rfl) (th_leI rfl)) (hF.trans (by simp only [↓reduceIte, F_X0_setTide, hw37.2.2.1, eq_false c38, r41, Option.getD_some, ← eg42]))
  · skip
    have f43 : rg 0 0 x37 := rg_w (rg_eq hw37.1 rgc_0 c38).1 (th_leI rfl) (th_leI rfl)
    exact W.vret hx hb hr (fun t ht hW => ⟨⟨(gi, gr), rfl, ⟨hM, rfl, (hF.trans (by simp only [↓reduceIte, F_X0_setTide, hw37.2.2.1, eq_true c38]))⟩, th_Ht ht hH⟩, hS.F ht⟩) hS.2.2 dX0_setTide_7

noncomputable def FV_need (τ : th_t) (Z : th_Zt) (gi : th_i) (gr : th_r) (h0 : Nat) : Int32 := if τ h0 = 8 then F_X2_need τ Z gi gr h0 else if τ h0 = 9 then F_X2_need τ Z gi gr h0 else F_X4_need τ Z gi gr h0
theorem FV_need_8 {τ : th_t} {Z : th_Zt} {gi : th_i} {gr : th_r} {h0 : Nat} (t : τ h0 = 8) : FV_need τ Z gi gr h0 = F_X2_need τ Z gi gr h0 := by
  unfold FV_need
  rw [if_pos t]
theorem FV_need_9 {τ : th_t} {Z : th_Zt} {gi : th_i} {gr : th_r} {h0 : Nat} (t : τ h0 = 9) : FV_need τ Z gi gr h0 = F_X2_need τ Z gi gr h0 := by
  unfold FV_need
  rw [if_neg (by rw [t]; decide), if_pos t]
theorem FV_need_4 {τ : th_t} {Z : th_Zt} {gi : th_i} {gr : th_r} {h0 : Nat} (t : τ h0 = 4) : FV_need τ Z gi gr h0 = F_X4_need τ Z gi gr h0 := by
  unfold FV_need
  rw [if_neg (by rw [t]; decide), if_neg (by rw [t]; decide)]
noncomputable def F_X0_suits (τ : th_t) (Z : th_Zt) (gi : th_i) (gr : th_r) (h0 : Nat) (h1 : Nat) (h2 : Nat) : Int32 :=
  let x1 : Int32 := gi h1 1
  let x2 : Int32 := gi h2 4
  if x2 < x1 then (
    0) else (
    let x4 : Int32 := gi h2 3
    let x5 : Int32 := gi h0 8
    let x6 : Int32 := x4 + x5
    let x8 : Int32 := FV_need τ Z gi gr h1
    if x6 < x8 then (
      0) else (
      1))
set_option maxHeartbeats 8000000 in
set_option maxRecDepth 100000 in
theorem k_X0_suits (l : Launch) (D : va_G) (cA : Nat → ClassId) (Z : th_Zt) (τ : th_t) (gi : th_i) (gr : th_r) (sz : Nat) (h0 : Nat) (t_h0 : τ h0 = 1) (h1 : Nat) (t_h1 : τ h1 = 8 ∨ τ h1 = 9 ∨ τ h1 = 4) (h2 : Nat) (t_h2 : τ h2 = 3) : Met l yX0_suits wsX0_suits ({ frames := 1, cells := 0, slots := 0, locals := 20 }) (va_Pc [.ref h0, .ref h1, .ref h2] (th_Pre D cA Z τ gi gr sz)) (va_Qi (fun (r : Int32) (_ : Unit) => rg 0 1 r ∧ (F_X0_suits τ Z gi gr h0 h1 h2 = r)) (fun (_ : Unit) t => th_H D cA τ gi gr t.heap) (th_A τ sz)) 0 0 (th_A τ sz) := by
  refine Met.ofW (cc := cX0_suits) (maxL := 3) (ret := (some .boolean)) (by decide) rfl ?_
  intro p e s m args below meth c s₁ B hml hv
  obtain ⟨rfl, hsz, hH, hK, hN, hZ⟩ := hv
  have hx := B.exec
  have hb := B.bytes
  have hr := B.returns
  have hts := atoms_spec (ws := wsX0_suits) B.pre
  have hown : s.vm.findClass RX0 = some m.cls := findClass_of_methodNamed B.named
  have hlocks := B.notSynchronized
  subst hsz
  have hS : va_S (th_A τ s.heap.size) s.heap s.heap [] := va_S.rf
  have hl := lv_entry ([.ref h0, .ref h1, .ref h2]) (n := 3) (Nat.le_of_ble_eq_true rfl)
  rw [lg_entry_eq]
  generalize (lg_sl ([.ref h0, .ref h1, .ref h2]) ++ List.replicate (3 - (lg_sl ([.ref h0, .ref h1, .ref h2])).length) Slot.unset).toArray = ls at hl ⊢
  have hl : lv_has ls 3 [(0, .ref h0), (1, .ref h1), (2, .ref h2)] := hl
  have hF : F_X0_suits τ Z gi gr h0 h1 h2 = F_X0_suits τ Z gi gr h0 h1 h2 := rfl
  refine lv_aload_n hx hb dX0_suits_0 rfl (lv_at hl 1 rfl) ?_
  obtain ⟨x1, e1⟩ : ∃ y : Int32, y = gi h1 1 := ⟨_, rfl⟩
  refine th_any3 t_h1 (fun t9 k9 => th_get (ci := 7) (v := .int x1) (T := TX8) (C := RX8) (N := 6) hx hb hts (fun w h => List.mem_cons_of_mem _ (List.mem_append_left _ (List.mem_append_left _ (List.mem_append_left _ (List.mem_append_right _ h))))) hown hK hH t9 (th_nz rfl) (thE_8 _ _ _) rfl 1 (th_ltN rfl) (hts (.fieldLink RX0 94 "BayMoorings$Boat" "length" "I") (List.mem_cons_of_mem _ (List.mem_append_left _ (List.mem_append_left _ (List.mem_append_left _ (List.mem_append_left _ (List.mem_append_left _ (List.mem_of_getElem? (i := 0) rfl)))))))) (fun _ h9 => h9) (th_fI e1 rfl) dX0_suits_1 k9) (fun t9 k9 => th_get (ci := 8) (v := .int x1) (T := TX9) (C := RX9) (N := 6) hx hb hts (fun w h => List.mem_cons_of_mem _ (List.mem_append_left _ (List.mem_append_left _ (List.mem_append_right _ h)))) hown hK hH t9 (th_nz rfl) (thE_9 _ _ _) rfl 1 (th_ltN rfl) (hts (.fieldLink RX0 94 "BayMoorings$Boat" "length" "I") (List.mem_cons_of_mem _ (List.mem_append_left _ (List.mem_append_left _ (List.mem_append_left _ (List.mem_append_left _ (List.mem_append_left _ (List.mem_of_getElem? (i := 0) rfl)))))))) (fun _ h9 => h9) (th_fI e1 rfl) dX0_suits_1 k9) (fun t9 k9 => th_get (ci := 3) (v := .int x1) (T := TX4) (C := RX4) (N := 6) hx hb hts (fun w h => List.mem_cons_of_mem _ (List.mem_append_left _ (List.mem_append_left _ (List.mem_append_left _ (List.mem_append_left _ (List.mem_append_right _ h)))))) hown hK hH t9 (th_nz rfl) (thE_4 _ _ _) rfl 1 (th_ltN rfl) (hts (.fieldLink RX0 94 "BayMoorings$Boat" "length" "I") (List.mem_cons_of_mem _ (List.mem_append_left _ (List.mem_append_left _ (List.mem_append_left _ (List.mem_append_left _ (List.mem_append_left _ (List.mem_of_getElem? (i := 0) rfl)))))))) (fun _ h9 => h9) (th_fI e1 rfl) dX0_suits_1 k9) ?_
  refine lv_aload_n hx hb dX0_suits_4 rfl (lv_at hl 2 rfl) ?_
  obtain ⟨x2, e2⟩ : ∃ y : Int32, y = gi h2 4 := ⟨_, rfl⟩
  refine th_get (ci := 2) (v := .int x2) (T := TX3) (C := RX3) (N := 8) hx hb hts (fun w h => List.mem_cons_of_mem _ (List.mem_append_left _ (List.mem_append_right _ h))) hown hK hH t_h2 (th_nz rfl) (thE_3 _ _ _) rfl 4 (th_ltN rfl) (hts (.fieldLink RX0 97 "BayMoorings$Buoy" "chain" "I") (List.mem_cons_of_mem _ (List.mem_append_left _ (List.mem_append_left _ (List.mem_append_left _ (List.mem_append_left _ (List.mem_append_left _ (List.mem_of_getElem? (i := 1) rfl)))))))) (fun _ h9 => h9) (th_fI e2 rfl) dX0_suits_5 ?_
  refine lv_icmp_gt (tgt := 31) hx hb dX0_suits_8 (th_eqI rfl) (fun c3 => ?_) (fun c3 => ?_)
  · skip
    refine lv_iconst (v := 0) hx hb dX0_suits_31 ic_0 ?_
    exact W.zret (v := 0) hx hb hr (rg_nb (rg_w rgc_0 (th_leI rfl) (th_leI rfl))) (fun t ht hW => ⟨⟨0, (), rfl, ⟨(rg_w rgc_0 (th_leI rfl) (th_leI rfl)), (hF.trans (by simp only [↓reduceIte, F_X0_suits, ← e1, ← e2, eq_true c3]))⟩, th_Ht ht hH⟩, hS.F ht⟩) hS.2.2 dX0_suits_32
  · skip
    refine lv_aload_n hx hb dX0_suits_11 rfl (lv_at hl 2 rfl) ?_
    obtain ⟨x4, e4⟩ : ∃ y : Int32, y = gi h2 3 := ⟨_, rfl⟩
    refine th_get (ci := 2) (v := .int x4) (T := TX3) (C := RX3) (N := 8) hx hb hts (fun w h => List.mem_cons_of_mem _ (List.mem_append_left _ (List.mem_append_right _ h))) hown hK hH t_h2 (th_nz rfl) (thE_3 _ _ _) rfl 3 (th_ltN rfl) (hts (.fieldLink RX0 100 "BayMoorings$Buoy" "depth" "I") (List.mem_cons_of_mem _ (List.mem_append_left _ (List.mem_append_left _ (List.mem_append_left _ (List.mem_append_left _ (List.mem_append_left _ (List.mem_of_getElem? (i := 2) rfl)))))))) (fun _ h9 => h9) (th_fI e4 rfl) dX0_suits_12 ?_
    refine lv_aload_n hx hb dX0_suits_15 rfl (lv_at hl 0 rfl) ?_
    obtain ⟨x5, e5⟩ : ∃ y : Int32, y = gi h0 8 := ⟨_, rfl⟩
    refine th_get (ci := 0) (v := .int x5) (T := TX0) (C := RX0) (N := 9) hx hb hts (fun w h => List.mem_cons_of_mem _ (List.mem_append_right _ h)) hown hK hH t_h0 (th_nz rfl) (thE_1 _ _ _) rfl 8 (th_ltN rfl) (hts (.fieldLink RX0 48 "BayMoorings$Bay" "leastTide" "I") (List.mem_cons_of_mem _ (List.mem_append_left _ (List.mem_append_left _ (List.mem_append_left _ (List.mem_append_left _ (List.mem_append_left _ (List.mem_of_getElem? (i := 3) rfl)))))))) (fun _ h9 => h9) (th_fI e5 rfl) dX0_suits_16 ?_
    refine lv_iadd hx hb dX0_suits_19 ?_
    refine lv_topi (fun x6 e6 => ?_)
    refine lv_aload_n hx hb dX0_suits_20 rfl (lv_at hl 1 rfl) ?_
    have hA7 := th_Asub (τ := τ) hS
    refine va_calli (th_or3 t_h1 (fun t9 => th_runi (post' := (fun (r : Int32) (_ : Unit) => (FV_need τ Z gi gr h1 = r))) (va_runU (As := []) (rest := [.int x6]) ⟨hx, hb, hml, hown, hts⟩ (k_X2_need l D cA Z τ gi gr _ h1 (Or.inl t9)) (va_cwU 0 hts gX0_suits_X2_need_u103X8 rfl rfl rfl rfl (by decide +kernel) ⟨Nat.le_of_ble_eq_true rfl, Nat.le_of_ble_eq_true rfl⟩) ⟨th_blind, tr_8 hK hH t9, (th_pre hH hK hN hZ hS hA7)⟩ rfl rfl hl.1 rfl (lv_room (Nat.le_of_ble_eq_true rfl)) dX0_suits_21 ⟨Nat.le_of_ble_eq_true rfl, Nat.le_of_ble_eq_true rfl⟩) (fun _ _ h9 => ((FV_need_8 t9).trans h9))) (fun t9 => th_runi (post' := (fun (r : Int32) (_ : Unit) => (FV_need τ Z gi gr h1 = r))) (va_runU (As := []) (rest := [.int x6]) ⟨hx, hb, hml, hown, hts⟩ (k_X2_need l D cA Z τ gi gr _ h1 (Or.inr (Or.inl t9))) (va_cwU 0 hts gX0_suits_X2_need_u103X9 rfl rfl rfl rfl (by decide +kernel) ⟨Nat.le_of_ble_eq_true rfl, Nat.le_of_ble_eq_true rfl⟩) ⟨th_blind, tr_9 hK hH t9, (th_pre hH hK hN hZ hS hA7)⟩ rfl rfl hl.1 rfl (lv_room (Nat.le_of_ble_eq_true rfl)) dX0_suits_21 ⟨Nat.le_of_ble_eq_true rfl, Nat.le_of_ble_eq_true rfl⟩) (fun _ _ h9 => ((FV_need_9 t9).trans h9))) (fun t9 => th_runi (post' := (fun (r : Int32) (_ : Unit) => (FV_need τ Z gi gr h1 = r))) (va_runU (As := []) (rest := [.int x6]) ⟨hx, hb, hml, hown, hts⟩ (k_X4_need l D cA Z τ gi gr _ h1 t9) (va_cwO 0 hts gX0_suits_X4_need_u103X4 rfl rfl rfl (show Cond.code yX2_need cX2_need 1 (some .int) ∈ wsX0_suits from (List.mem_cons_of_mem _ (List.mem_append_left _ (List.mem_append_left _ (List.mem_append_left _ (List.mem_append_left _ (List.mem_append_left _ (List.mem_of_getElem? (i := 13) rfl)))))))) (by decide +kernel) ⟨Nat.le_of_ble_eq_true rfl, Nat.le_of_ble_eq_true rfl⟩) ⟨th_blind, tr_4 hK hH t9, (th_pre hH hK hN hZ hS hA7)⟩ rfl rfl hl.1 rfl (lv_room (Nat.le_of_ble_eq_true rfl)) dX0_suits_21 ⟨Nat.le_of_ble_eq_true rfl, Nat.le_of_ble_eq_true rfl⟩) (fun _ _ h9 => ((FV_need_4 t9).trans h9)))) hS (fun q _ h => hA7 q h) hA7 (fun x8 u t H locs ht hvm hw8 hB hz1 hk1 hS => ?_)
    try dsimp only at hw8 hB
    rw [ht] at hB
    have hH := hB
    refine lv_icmp_lt (tgt := 31) hx hb dX0_suits_24 (th_eqI rfl) (fun c9 => ?_) (fun c9 => ?_)
    · skip
      refine lv_iconst (v := 0) hx hb dX0_suits_31 ic_0 ?_
      exact W.zret (v := 0) hx hb hr (rg_nb (rg_w rgc_0 (th_leI rfl) (th_leI rfl))) (fun t ht hW => ⟨⟨0, (), rfl, ⟨(rg_w rgc_0 (th_leI rfl) (th_leI rfl)), (hF.trans (by simp only [↓reduceIte, F_X0_suits, ← e1, ← e2, eq_false c3, ← e4, ← e5, ← e6, hw8, eq_true c9]))⟩, th_Ht ht hH⟩, hS.F ht⟩) hS.2.2 dX0_suits_32
    · skip
      refine lv_iconst (v := 1) hx hb dX0_suits_27 ic_1 ?_
      refine lv_goto (tgt := 32) hx hb dX0_suits_28 (th_eqI rfl) ?_
      exact W.zret (v := 1) hx hb hr (rg_nb (rg_w rgc_1 (th_leI rfl) (th_leI rfl))) (fun t ht hW => ⟨⟨1, (), rfl, ⟨(rg_w rgc_1 (th_leI rfl) (th_leI rfl)), (hF.trans (by simp only [↓reduceIte, F_X0_suits, ← e1, ← e2, eq_false c3, ← e4, ← e5, ← e6, hw8, eq_false c9]))⟩, th_Ht ht hH⟩, hS.F ht⟩) hS.2.2 dX0_suits_32

noncomputable def F_X0_blows (τ : th_t) (Z : th_Zt) (gi : th_i) (gr : th_r) (h0 : Nat) (p1 : Int32) : Int32 :=
  let x1 : Int32 := gi h0 7
  let x2 : Int32 := x1 >>> (p1 &&& 31)
  let x3 : Int32 := x2 &&& 1
  if x3 = (0 : Int32) then (
    0) else (
    1)
set_option maxHeartbeats 8000000 in
set_option maxRecDepth 100000 in
theorem k_X0_blows (l : Launch) (D : va_G) (cA : Nat → ClassId) (Z : th_Zt) (τ : th_t) (gi : th_i) (gr : th_r) (sz : Nat) (h0 : Nat) (t_h0 : τ h0 = 1) (p1 : Int32) : Met l yX0_blows wsX0_blows ({ frames := 0, cells := 0, slots := 0, locals := 0 }) (va_Pc [.ref h0, .int p1] (th_Pre D cA Z τ gi gr sz)) (va_Qi (fun (r : Int32) (_ : Unit) => rg 0 1 r ∧ (F_X0_blows τ Z gi gr h0 p1 = r)) (fun (_ : Unit) t => th_H D cA τ gi gr t.heap) (th_A τ sz)) 0 0 (th_A τ sz) := by
  refine Met.ofW (cc := cX0_blows) (maxL := 2) (ret := (some .boolean)) (by decide) rfl ?_
  intro p e s m args below meth c s₁ B hml hv
  obtain ⟨rfl, hsz, hH, hK, hN, hZ⟩ := hv
  have hx := B.exec
  have hb := B.bytes
  have hr := B.returns
  have hts := atoms_spec (ws := wsX0_blows) B.pre
  have hown : s.vm.findClass RX0 = some m.cls := findClass_of_methodNamed B.named
  have hlocks := B.notSynchronized
  subst hsz
  have hS : va_S (th_A τ s.heap.size) s.heap s.heap [] := va_S.rf
  have hl := lv_entry ([.ref h0, .int p1]) (n := 2) (Nat.le_of_ble_eq_true rfl)
  rw [lg_entry_eq]
  generalize (lg_sl ([.ref h0, .int p1]) ++ List.replicate (2 - (lg_sl ([.ref h0, .int p1])).length) Slot.unset).toArray = ls at hl ⊢
  have hl : lv_has ls 2 [(0, .ref h0), (1, .int p1)] := hl
  have hF : F_X0_blows τ Z gi gr h0 p1 = F_X0_blows τ Z gi gr h0 p1 := rfl
  refine lv_aload_n hx hb dX0_blows_0 rfl (lv_at hl 0 rfl) ?_
  obtain ⟨x1, e1⟩ : ∃ y : Int32, y = gi h0 7 := ⟨_, rfl⟩
  refine th_get (ci := 0) (v := .int x1) (T := TX0) (C := RX0) (N := 9) hx hb hts (fun w h => List.mem_cons_of_mem _ (List.mem_append_right _ h)) hown hK hH t_h0 (th_nz rfl) (thE_1 _ _ _) rfl 7 (th_ltN rfl) (hts (.fieldLink RX0 45 "BayMoorings$Bay" "windBits" "I") (List.mem_cons_of_mem _ (List.mem_append_left _ (List.mem_of_getElem? (i := 0) rfl)))) (fun _ h9 => h9) (th_fI e1 rfl) dX0_blows_1 ?_
  refine lv_iload_n hx hb dX0_blows_4 rfl (lv_at hl 1 rfl) ?_
  refine lv_ishr hx hb dX0_blows_5 ?_
  refine lv_topi (fun x2 e2 => ?_)
  refine lv_iconst (v := 1) hx hb dX0_blows_6 ic_1 ?_
  refine lv_iand hx hb dX0_blows_7 ?_
  refine lv_topi (fun x3 e3 => ?_)
  have f3 : rg 0 1 x3 := rg_e e3 (rg_and 1 (by decide) (th_leN rfl) (th_eqI rfl))
  refine lv_if_eq (tgt := 15) hx hb dX0_blows_8 (th_eqI rfl) (fun c4 => ?_) (fun c4 => ?_)
  · skip
    have f5 : rg 0 0 x3 := rg_w (rg_eq f3 rgc_0 c4).1 (th_leI rfl) (th_leI rfl)
    refine lv_iconst (v := 0) hx hb dX0_blows_15 ic_0 ?_
    exact W.zret (v := 0) hx hb hr (rg_nb (rg_w rgc_0 (th_leI rfl) (th_leI rfl))) (fun t ht hW => ⟨⟨0, (), rfl, ⟨(rg_w rgc_0 (th_leI rfl) (th_leI rfl)), (hF.trans (by simp only [↓reduceIte, F_X0_blows, ← e1, ← e2, ← e3, eq_true c4]))⟩, th_Ht ht hH⟩, hS.F ht⟩) hS.2.2 dX0_blows_16
  · skip
    have f6 : rg 1 1 x3 := rg_w (rg_neL f3 rgc_0 c4) (th_leI rfl) (th_leI rfl)
    refine lv_iconst (v := 1) hx hb dX0_blows_11 ic_1 ?_
    refine lv_goto (tgt := 16) hx hb dX0_blows_12 (th_eqI rfl) ?_
    exact W.zret (v := 1) hx hb hr (rg_nb (rg_w rgc_1 (th_leI rfl) (th_leI rfl))) (fun t ht hW => ⟨⟨1, (), rfl, ⟨(rg_w rgc_1 (th_leI rfl) (th_leI rfl)), (hF.trans (by simp only [↓reduceIte, F_X0_blows, ← e1, ← e2, ← e3, eq_false c4]))⟩, th_Ht ht hH⟩, hS.F ht⟩) hS.2.2 dX0_blows_16

noncomputable def f_X0_endsMeet_39 (τ : th_t) (Z : th_Zt) (gi : th_i) (gr : th_r) (p0 : Int32) (p1 : Int32) (p2 : Int32) (p3 : Int32) (p4 : Int32) (p5 : Int32) (y39_6 : Int32) (z39_0 : Int32) : Int32 :=
  let x1 : Int32 := p3 &&& 7
  let x2 : Int32 := p5 &&& 7
  let x3 : Int32 := Z.2.1 x2.toNatClampNeg
  let x4 : Int32 := z39_0 * x3
  let x5 : Int32 := p0 + x4
  let x6 : Int32 := Z.2.1 x1.toNatClampNeg
  let x7 : Int32 := y39_6 * x6
  let x8 : Int32 := x5 - x7
  let x9 : Int32 := Z.2.2 x2.toNatClampNeg
  let x10 : Int32 := z39_0 * x9
  let x11 : Int32 := p1 + x10
  let x12 : Int32 := Z.2.2 x1.toNatClampNeg
  let x13 : Int32 := y39_6 * x12
  let x14 : Int32 := x11 - x13
  if (20 : Int32) ≤ x8 then (
    0) else (
    if x8 ≤ ((-20) : Int32) then (
      0) else (
      if (20 : Int32) ≤ x14 then (
        0) else (
        if x14 ≤ ((-20) : Int32) then (
          0) else (
          1))))
noncomputable def f_X0_endsMeet_17 (τ : th_t) (Z : th_Zt) (gi : th_i) (gr : th_r) (p0 : Int32) (p1 : Int32) (p2 : Int32) (p3 : Int32) (p4 : Int32) (p5 : Int32) (z17_0 : Int32) : Int32 :=
  let x27 : Int32 := p5 &&& 1
  if x27 = (0 : Int32) then (
    f_X0_endsMeet_39 τ Z gi gr p0 p1 p2 p3 p4 p5 z17_0 p4) else (
    let x31 : Int32 := p4 * 7
    let x32 : Int32 := x31 / 10
    f_X0_endsMeet_39 τ Z gi gr p0 p1 p2 p3 p4 p5 z17_0 x32)
noncomputable def F_X0_endsMeet (τ : th_t) (Z : th_Zt) (gi : th_i) (gr : th_r) (p0 : Int32) (p1 : Int32) (p2 : Int32) (p3 : Int32) (p4 : Int32) (p5 : Int32) : Int32 :=
  let x33 : Int32 := p3 &&& 1
  if x33 = (0 : Int32) then (
    f_X0_endsMeet_17 τ Z gi gr p0 p1 p2 p3 p4 p5 p2) else (
    let x37 : Int32 := p2 * 7
    let x38 : Int32 := x37 / 10
    f_X0_endsMeet_17 τ Z gi gr p0 p1 p2 p3 p4 p5 x38)
set_option maxHeartbeats 8000000 in
set_option maxRecDepth 100000 in
theorem k_X0_endsMeet (l : Launch) (D : va_G) (cA : Nat → ClassId) (Z : th_Zt) (τ : th_t) (gi : th_i) (gr : th_r) (sz : Nat) (p0 : Int32) (p1 : Int32) (p2 : Int32) (p3 : Int32) (p4 : Int32) (p5 : Int32) : Met l yX0_endsMeet wsX0_endsMeet ({ frames := 0, cells := 0, slots := 0, locals := 0 }) (va_Pc [.int p0, .int p1, .int p2, .int p3, .int p4, .int p5] (th_Pre D cA Z τ gi gr sz)) (va_Qi (fun (r : Int32) (_ : Unit) => rg 0 1 r ∧ (F_X0_endsMeet τ Z gi gr p0 p1 p2 p3 p4 p5 = r)) (fun (_ : Unit) t => th_H D cA τ gi gr t.heap) (th_A τ sz)) 0 0 (th_A τ sz) := by
  refine Met.ofW (cc := cX0_endsMeet) (maxL := 12) (ret := (some .boolean)) (by decide) rfl ?_
  intro p e s m args below meth c s₁ B hml hv
  obtain ⟨rfl, hsz, hH, hK, hN, hZ⟩ := hv
  have hx := B.exec
  have hb := B.bytes
  have hr := B.returns
  have hts := atoms_spec (ws := wsX0_endsMeet) B.pre
  have hown : s.vm.findClass RX0 = some m.cls := findClass_of_methodNamed B.named
  have hlocks := B.notSynchronized
  subst hsz
  have J39 : ∀ (H : Heap) (locs : List Loc) (ls : Array Slot) (y39_6 : Int32) (z39_0 : Int32), th_H D cA τ gi gr H → va_S (th_A τ s.heap.size) s.heap H locs → lv_has ls 12 [(0, .int p0), (1, .int p1), (3, .int p3), (5, .int p5), (6, .int y39_6)] → F_X0_endsMeet τ Z gi gr p0 p1 p2 p3 p4 p5 = f_X0_endsMeet_39 τ Z gi gr p0 p1 p2 p3 p4 p5 y39_6 z39_0 → W p l e (headSpec wsX0_endsMeet ({ frames := 0, cells := 0, slots := 0, locals := 0 })).room s m [.int p0, .int p1, .int p2, .int p3, .int p4, .int p5].toArray below meth c H locs 0 0 (MQ below (va_Qi (fun (r : Int32) (_ : Unit) => rg 0 1 r ∧ (F_X0_endsMeet τ Z gi gr p0 p1 p2 p3 p4 p5 = r)) (fun (_ : Unit) t => th_H D cA τ gi gr t.heap) (th_A τ s.heap.size)) [.int p0, .int p1, .int p2, .int p3, .int p4, .int p5].toArray s 0 0 (th_A τ s.heap.size)) (F0 m 39 ls [.int z39_0]) := by
    intro H locs ls y39_6 z39_0 hH hS hl hF
    refine lv_istore (i := 7) (lv' := [(7, .int z39_0), (0, .int p0), (1, .int p1), (3, .int p3), (5, .int p5), (6, .int y39_6)]) hx hb dX0_endsMeet_39 hl (th_ltN rfl) rfl (fun ls hl => ?_)
    refine lv_iload_n hx hb dX0_endsMeet_41 rfl (lv_at hl 3 rfl) ?_
    refine lv_bipush (v := 7) hx hb dX0_endsMeet_42 bp_7 ?_
    refine lv_iand hx hb dX0_endsMeet_44 ?_
    refine lv_topi (fun x1 e1 => ?_)
    have f1 : rg 0 7 x1 := rg_e e1 (rg_and 3 (by decide) (th_leN rfl) (th_eqI rfl))
    refine lv_istore (i := 8) (lv' := [(8, .int x1), (7, .int z39_0), (0, .int p0), (1, .int p1), (3, .int p3), (5, .int p5), (6, .int y39_6)]) hx hb dX0_endsMeet_45 hl (th_ltN rfl) rfl (fun ls hl => ?_)
    refine lv_iload hx hb dX0_endsMeet_47 (lv_at hl 5 rfl) ?_
    refine lv_bipush (v := 7) hx hb dX0_endsMeet_49 bp_7 ?_
    refine lv_iand hx hb dX0_endsMeet_51 ?_
    refine lv_topi (fun x2 e2 => ?_)
    have f2 : rg 0 7 x2 := rg_e e2 (rg_and 3 (by decide) (th_leN rfl) (th_eqI rfl))
    refine lv_istore (i := 9) (lv' := [(9, .int x2), (8, .int x1), (7, .int z39_0), (0, .int p0), (1, .int p1), (3, .int p3), (5, .int p5), (6, .int y39_6)]) hx hb dX0_endsMeet_52 hl (th_ltN rfl) rfl (fun ls hl => ?_)
    refine lv_iload_n hx hb dX0_endsMeet_54 rfl (lv_at hl 3 rfl) ?_
    refine lv_iload hx hb dX0_endsMeet_55 (lv_at hl 2 rfl) ?_
    refine va_getsN (v := .ref Z.1.1) hx hb hZ.1 hS hown (va_Nw.use rfl hN.2.2.2.2.2.2.2.2.1) (fun _ h9 => h9) dX0_endsMeet_57 ?_
    refine lv_iload hx hb dX0_endsMeet_60 (lv_at hl 0 rfl) ?_
    refine va_ti hx hb hZ.2.1 hS (rg_in (n := 8) f2 (th_leI rfl) (th_ltI rfl)) rfl dX0_endsMeet_62 ?_
    refine lv_topi (fun x3 e3 => ?_)
    refine lv_imul hx hb dX0_endsMeet_63 ?_
    refine lv_topi (fun x4 e4 => ?_)
    refine lv_iadd hx hb dX0_endsMeet_64 ?_
    refine lv_topi (fun x5 e5 => ?_)
    refine lv_iload hx hb dX0_endsMeet_65 (lv_at hl 7 rfl) ?_
    refine va_getsN (v := .ref Z.1.1) hx hb hZ.1 hS hown (va_Nw.use rfl hN.2.2.2.2.2.2.2.2.1) (fun _ h9 => h9) dX0_endsMeet_67 ?_
    refine lv_iload hx hb dX0_endsMeet_70 (lv_at hl 1 rfl) ?_
    refine va_ti hx hb hZ.2.1 hS (rg_in (n := 8) f1 (th_leI rfl) (th_ltI rfl)) rfl dX0_endsMeet_72 ?_
    refine lv_topi (fun x6 e6 => ?_)
    refine lv_imul hx hb dX0_endsMeet_73 ?_
    refine lv_topi (fun x7 e7 => ?_)
    refine lv_isub hx hb dX0_endsMeet_74 ?_
    refine lv_topi (fun x8 e8 => ?_)
    refine lv_istore (i := 10) (lv' := [(10, .int x8), (9, .int x2), (8, .int x1), (7, .int z39_0), (0, .int p0), (1, .int p1), (3, .int p3), (5, .int p5), (6, .int y39_6)]) hx hb dX0_endsMeet_75 hl (th_ltN rfl) rfl (fun ls hl => ?_)
    refine lv_iload_n hx hb dX0_endsMeet_77 rfl (lv_at hl 5 rfl) ?_
    refine lv_iload hx hb dX0_endsMeet_78 (lv_at hl 3 rfl) ?_
    refine va_getsN (v := .ref Z.1.2) hx hb hZ.2.2.1 hS hown (va_Nw.use rfl hN.2.2.2.2.2.2.2.2.2.1) (fun _ h9 => h9) dX0_endsMeet_80 ?_
    refine lv_iload hx hb dX0_endsMeet_83 (lv_at hl 1 rfl) ?_
    refine va_ti hx hb hZ.2.2.2 hS (rg_in (n := 8) f2 (th_leI rfl) (th_ltI rfl)) rfl dX0_endsMeet_85 ?_
    refine lv_topi (fun x9 e9 => ?_)
    refine lv_imul hx hb dX0_endsMeet_86 ?_
    refine lv_topi (fun x10 e10 => ?_)
    refine lv_iadd hx hb dX0_endsMeet_87 ?_
    refine lv_topi (fun x11 e11 => ?_)
    refine lv_iload hx hb dX0_endsMeet_88 (lv_at hl 8 rfl) ?_
    refine va_getsN (v := .ref Z.1.2) hx hb hZ.2.2.1 hS hown (va_Nw.use rfl hN.2.2.2.2.2.2.2.2.2.1) (fun _ h9 => h9) dX0_endsMeet_90 ?_
    refine lv_iload hx hb dX0_endsMeet_93 (lv_at hl 2 rfl) ?_
    refine va_ti hx hb hZ.2.2.2 hS (rg_in (n := 8) f1 (th_leI rfl) (th_ltI rfl)) rfl dX0_endsMeet_95 ?_
    refine lv_topi (fun x12 e12 => ?_)
    refine lv_imul hx hb dX0_endsMeet_96 ?_
    refine lv_topi (fun x13 e13 => ?_)
    refine lv_isub hx hb dX0_endsMeet_97 ?_
    refine lv_topi (fun x14 e14 => ?_)
    refine lv_istore (i := 11) (lv' := [(11, .int x14), (10, .int x8), (9, .int x2), (8, .int x1), (7, .int z39_0), (0, .int p0), (1, .int p1), (3, .int p3), (5, .int p5), (6, .int y39_6)]) hx hb dX0_endsMeet_98 hl (th_ltN rfl) rfl (fun ls hl => ?_)
    refine lv_iload hx hb dX0_endsMeet_100 (lv_at hl 1 rfl) ?_
    refine lv_bipush (v := 20) hx hb dX0_endsMeet_102 bp_20 ?_
    refine lv_icmp_ge (tgt := 132) hx hb dX0_endsMeet_104 (th_eqI rfl) (fun c15 => ?_) (fun c15 => ?_)
    · skip
      have f16 : rg 20 2147483647 x8 := rg_w (rg_le rgc_20 (rg_any x8) c15).2 (th_leI rfl) (th_leI rfl)
      refine lv_iconst (v := 0) hx hb dX0_endsMeet_132 ic_0 ?_
      exact W.zret (v := 0) hx hb hr (rg_nb (rg_w rgc_0 (th_leI rfl) (th_leI rfl))) (fun t ht hW => ⟨⟨0, (), rfl, ⟨(rg_w rgc_0 (th_leI rfl) (th_leI rfl)), (hF.trans (by simp only [↓reduceIte, f_X0_endsMeet_39, ← e1, ← e2, ← e3, ← e4, ← e5, ← e6, ← e7, ← e8, ← e9, ← e10, ← e11, ← e12, ← e13, ← e14, eq_true c15]))⟩, th_Ht ht hH⟩, hS.F ht⟩) hS.2.2 dX0_endsMeet_133
    · skip
      have f17 : rg (-2147483648) 19 x8 := rg_w (rg_nle rgc_20 (rg_any x8) c15).2 (th_leI rfl) (th_leI rfl)
      refine lv_iload hx hb dX0_endsMeet_107 (lv_at hl 1 rfl) ?_
      refine lv_bipush (v := (-20)) hx hb dX0_endsMeet_109 bp_m20 ?_
      refine lv_icmp_le (tgt := 132) hx hb dX0_endsMeet_111 (th_eqI rfl) (fun c18 => ?_) (fun c18 => ?_)
      · skip
        have f19 : rg (-2147483648) (-20) x8 := rg_w (rg_le f17 rgc_m20 c18).1 (th_leI rfl) (th_leI rfl)
        refine lv_iconst (v := 0) hx hb dX0_endsMeet_132 ic_0 ?_
        exact W.zret (v := 0) hx hb hr (rg_nb (rg_w rgc_0 (th_leI rfl) (th_leI rfl))) (fun t ht hW => ⟨⟨0, (), rfl, ⟨(rg_w rgc_0 (th_leI rfl) (th_leI rfl)), (hF.trans (by simp only [↓reduceIte, f_X0_endsMeet_39, ← e1, ← e2, ← e3, ← e4, ← e5, ← e6, ← e7, ← e8, ← e9, ← e10, ← e11, ← e12, ← e13, ← e14, eq_false c15, eq_true c18]))⟩, th_Ht ht hH⟩, hS.F ht⟩) hS.2.2 dX0_endsMeet_133
      · skip
        have f20 : rg (-19) 19 x8 := rg_w (rg_nle f17 rgc_m20 c18).1 (th_leI rfl) (th_leI rfl)
        refine lv_iload hx hb dX0_endsMeet_114 (lv_at hl 0 rfl) ?_
        refine lv_bipush (v := 20) hx hb dX0_endsMeet_116 bp_20 ?_
        refine lv_icmp_ge (tgt := 132) hx hb dX0_endsMeet_118 (th_eqI rfl) (fun c21 => ?_) (fun c21 => ?_)
        · skip
          have f22 : rg 20 2147483647 x14 := rg_w (rg_le rgc_20 (rg_any x14) c21).2 (th_leI rfl) (th_leI rfl)
          refine lv_iconst (v := 0) hx hb dX0_endsMeet_132 ic_0 ?_
          exact W.zret (v := 0) hx hb hr (rg_nb (rg_w rgc_0 (th_leI rfl) (th_leI rfl))) (fun t ht hW => ⟨⟨0, (), rfl, ⟨(rg_w rgc_0 (th_leI rfl) (th_leI rfl)), (hF.trans (by simp only [↓reduceIte, f_X0_endsMeet_39, ← e1, ← e2, ← e3, ← e4, ← e5, ← e6, ← e7, ← e8, ← e9, ← e10, ← e11, ← e12, ← e13, ← e14, eq_false c15, eq_false c18, eq_true c21]))⟩, th_Ht ht hH⟩, hS.F ht⟩) hS.2.2 dX0_endsMeet_133
        · skip
          have f23 : rg (-2147483648) 19 x14 := rg_w (rg_nle rgc_20 (rg_any x14) c21).2 (th_leI rfl) (th_leI rfl)
          refine lv_iload hx hb dX0_endsMeet_121 (lv_at hl 0 rfl) ?_
          refine lv_bipush (v := (-20)) hx hb dX0_endsMeet_123 bp_m20 ?_
          refine lv_icmp_le (tgt := 132) hx hb dX0_endsMeet_125 (th_eqI rfl) (fun c24 => ?_) (fun c24 => ?_)
          · skip
            have f25 : rg (-2147483648) (-20) x14 := rg_w (rg_le f23 rgc_m20 c24).1 (th_leI rfl) (th_leI rfl)
            refine lv_iconst (v := 0) hx hb dX0_endsMeet_132 ic_0 ?_
            exact W.zret (v := 0) hx hb hr (rg_nb (rg_w rgc_0 (th_leI rfl) (th_leI rfl))) (fun t ht hW => ⟨⟨0, (), rfl, ⟨(rg_w rgc_0 (th_leI rfl) (th_leI rfl)), (hF.trans (by simp only [↓reduceIte, f_X0_endsMeet_39, ← e1, ← e2, ← e3, ← e4, ← e5, ← e6, ← e7, ← e8, ← e9, ← e10, ← e11, ← e12, ← e13, ← e14, eq_false c15, eq_false c18, eq_false c21, eq_true c24]))⟩, th_Ht ht hH⟩, hS.F ht⟩) hS.2.2 dX0_endsMeet_133
          · skip
            have f26 : rg (-19) 19 x14 := rg_w (rg_nle f23 rgc_m20 c24).1 (th_leI rfl) (th_leI rfl)
            refine lv_iconst (v := 1) hx hb dX0_endsMeet_128 ic_1 ?_
            refine lv_goto (tgt := 133) hx hb dX0_endsMeet_129 (th_eqI rfl) ?_
            exact W.zret (v := 1) hx hb hr (rg_nb (rg_w rgc_1 (th_leI rfl) (th_leI rfl))) (fun t ht hW => ⟨⟨1, (), rfl, ⟨(rg_w rgc_1 (th_leI rfl) (th_leI rfl)), (hF.trans (by simp only [↓reduceIte, f_X0_endsMeet_39, ← e1, ← e2, ← e3, ← e4, ← e5, ← e6, ← e7, ← e8, ← e9, ← e10, ← e11, ← e12, ← e13, ← e14, eq_false c15, eq_false c18, eq_false c21, eq_false c24]))⟩, th_Ht ht hH⟩, hS.F ht⟩) hS.2.2 dX0_endsMeet_133
  have J17 : ∀ (H : Heap) (locs : List Loc) (ls : Array Slot) (z17_0 : Int32), th_H D cA τ gi gr H → va_S (th_A τ s.heap.size) s.heap H locs → lv_has ls 12 [(0, .int p0), (1, .int p1), (3, .int p3), (4, .int p4), (5, .int p5)] → F_X0_endsMeet τ Z gi gr p0 p1 p2 p3 p4 p5 = f_X0_endsMeet_17 τ Z gi gr p0 p1 p2 p3 p4 p5 z17_0 → W p l e (headSpec wsX0_endsMeet ({ frames := 0, cells := 0, slots := 0, locals := 0 })).room s m [.int p0, .int p1, .int p2, .int p3, .int p4, .int p5].toArray below meth c H locs 0 0 (MQ below (va_Qi (fun (r : Int32) (_ : Unit) => rg 0 1 r ∧ (F_X0_endsMeet τ Z gi gr p0 p1 p2 p3 p4 p5 = r)) (fun (_ : Unit) t => th_H D cA τ gi gr t.heap) (th_A τ s.heap.size)) [.int p0, .int p1, .int p2, .int p3, .int p4, .int p5].toArray s 0 0 (th_A τ s.heap.size)) (F0 m 17 ls [.int z17_0]) := by
    intro H locs ls z17_0 hH hS hl hF
    refine lv_istore (i := 6) (lv' := [(6, .int z17_0), (0, .int p0), (1, .int p1), (3, .int p3), (4, .int p4), (5, .int p5)]) hx hb dX0_endsMeet_17 hl (th_ltN rfl) rfl (fun ls hl => ?_)
    refine lv_iload hx hb dX0_endsMeet_19 (lv_at hl 5 rfl) ?_
    refine lv_iconst (v := 1) hx hb dX0_endsMeet_21 ic_1 ?_
    refine lv_iand hx hb dX0_endsMeet_22 ?_
    refine lv_topi (fun x27 e27 => ?_)
    have f27 : rg 0 1 x27 := rg_e e27 (rg_and 1 (by decide) (th_leN rfl) (th_eqI rfl))
    refine lv_if_eq (tgt := 37) hx hb dX0_endsMeet_23 (th_eqI rfl) (fun c28 => ?_) (fun c28 => ?_)
    · skip
      have f29 : rg 0 0 x27 := rg_w (rg_eq f27 rgc_0 c28).1 (th_leI rfl) (th_leI rfl)
      refine lv_iload hx hb dX0_endsMeet_37 (lv_at hl 4 rfl) ?_
      exact J39 _ _ _ z17_0 p4 hH hS (lv_sub hl [1, 2, 3, 5, 0] rfl) (hF.trans (by simp only [↓reduceIte, f_X0_endsMeet_17, ← e27, eq_true c28]))
    · skip
      have f30 : rg 1 1 x27 := rg_w (rg_neL f27 rgc_0 c28) (th_leI rfl) (th_leI rfl)
      refine lv_iload hx hb dX0_endsMeet_26 (lv_at hl 4 rfl) ?_
      refine lv_bipush (v := 7) hx hb dX0_endsMeet_28 bp_7 ?_
      refine lv_imul hx hb dX0_endsMeet_30 ?_
      refine lv_topi (fun x31 e31 => ?_)
      refine lv_bipush (v := 10) hx hb dX0_endsMeet_31 bp_10 ?_
      refine lv_idiv hx hb dX0_endsMeet_33 (rg_ne0 rgc_10 (Or.inl (th_ltI rfl))) ?_
      refine lv_topi (fun x32 e32 => ?_)
      refine lv_goto (tgt := 39) hx hb dX0_endsMeet_34 (th_eqI rfl) ?_
      exact J39 _ _ _ z17_0 x32 hH hS (lv_sub hl [1, 2, 3, 5, 0] rfl) (hF.trans (by simp only [↓reduceIte, f_X0_endsMeet_17, ← e27, eq_false c28, ← e31, ← e32]))
  have hS : va_S (th_A τ s.heap.size) s.heap s.heap [] := va_S.rf
  have hl := lv_entry ([.int p0, .int p1, .int p2, .int p3, .int p4, .int p5]) (n := 12) (Nat.le_of_ble_eq_true rfl)
  rw [lg_entry_eq]
  generalize (lg_sl ([.int p0, .int p1, .int p2, .int p3, .int p4, .int p5]) ++ List.replicate (12 - (lg_sl ([.int p0, .int p1, .int p2, .int p3, .int p4, .int p5])).length) Slot.unset).toArray = ls at hl ⊢
  have hl : lv_has ls 12 [(0, .int p0), (1, .int p1), (2, .int p2), (3, .int p3), (4, .int p4), (5, .int p5)] := hl
  have hF : F_X0_endsMeet τ Z gi gr p0 p1 p2 p3 p4 p5 = F_X0_endsMeet τ Z gi gr p0 p1 p2 p3 p4 p5 := rfl
  refine lv_iload_n hx hb dX0_endsMeet_0 rfl (lv_at hl 3 rfl) ?_
  refine lv_iconst (v := 1) hx hb dX0_endsMeet_1 ic_1 ?_
  refine lv_iand hx hb dX0_endsMeet_2 ?_
  refine lv_topi (fun x33 e33 => ?_)
  have f33 : rg 0 1 x33 := rg_e e33 (rg_and 1 (by decide) (th_leN rfl) (th_eqI rfl))
  refine lv_if_eq (tgt := 16) hx hb dX0_endsMeet_3 (th_eqI rfl) (fun c34 => ?_) (fun c34 => ?_)
  · skip
    have f35 : rg 0 0 x33 := rg_w (rg_eq f33 rgc_0 c34).1 (th_leI rfl) (th_leI rfl)
    refine lv_iload_n hx hb dX0_endsMeet_16 rfl (lv_at hl 2 rfl) ?_
    exact J17 _ _ _ p2 hH hS (lv_sub hl [0, 1, 3, 4, 5] rfl) (hF.trans (by simp only [↓reduceIte, F_X0_endsMeet, ← e33, eq_true c34]))
  · skip
    have f36 : rg 1 1 x33 := rg_w (rg_neL f33 rgc_0 c34) (th_leI rfl) (th_leI rfl)
    refine lv_iload_n hx hb dX0_endsMeet_6 rfl (lv_at hl 2 rfl) ?_
    refine lv_bipush (v := 7) hx hb dX0_endsMeet_7 bp_7 ?_
    refine lv_imul hx hb dX0_endsMeet_9 ?_
    refine lv_topi (fun x37 e37 => ?_)
    refine lv_bipush (v := 10) hx hb dX0_endsMeet_10 bp_10 ?_
    refine lv_idiv hx hb dX0_endsMeet_12 (rg_ne0 rgc_10 (Or.inl (th_ltI rfl))) ?_
    refine lv_topi (fun x38 e38 => ?_)
    refine lv_goto (tgt := 17) hx hb dX0_endsMeet_13 (th_eqI rfl) ?_
    exact J17 _ _ _ x38 hH hS (lv_sub hl [0, 1, 3, 4, 5] rfl) (hF.trans (by simp only [↓reduceIte, F_X0_endsMeet, ← e33, eq_false c34, ← e37, ← e38]))

noncomputable def f_X0_mayMeet_106 (τ : th_t) (Z : th_Zt) (gi : th_i) (gr : th_r) (h0 : Nat) (p1 : Int32) (p2 : Int32) (p3 : Int32) (p4 : Int32) (y45_6 : Int32) (y55_7 : Int32) (k_45 : Int32 → Int32) (k_55 : Int32 → Int32) : Int32 :=
  let x1 : Int32 := y55_7 + 1
  k_55 x1
noncomputable def f_X0_mayMeet_55 (τ : th_t) (Z : th_Zt) (gi : th_i) (gr : th_r) (h0 : Nat) (p1 : Int32) (p2 : Int32) (p3 : Int32) (p4 : Int32) (y45_6 : Int32) (k_45 : Int32 → Int32) : Nat → Int32 → Int32
  | 0, y55_7 => 0
  | n55 + 1, y55_7 =>
    if (1 : Int32) < y55_7 then (
      let x4 : Int32 := y45_6 + 1
      k_45 x4) else (
      let x6 : Int32 := y45_6 + y55_7
      let x7 : Int32 := x6 &&& 7
      let x9 : Int32 := F_X0_blows τ Z gi gr h0 y45_6
      if x9 = (0 : Int32) then (
        f_X0_mayMeet_106 τ Z gi gr h0 p1 p2 p3 p4 y45_6 y55_7 k_45 (f_X0_mayMeet_55 τ Z gi gr h0 p1 p2 p3 p4 y45_6 k_45 n55) ) else (
        let x14 : Int32 := F_X0_blows τ Z gi gr h0 x7
        if x14 = (0 : Int32) then (
          f_X0_mayMeet_106 τ Z gi gr h0 p1 p2 p3 p4 y45_6 y55_7 k_45 (f_X0_mayMeet_55 τ Z gi gr h0 p1 p2 p3 p4 y45_6 k_45 n55) ) else (
          let x19 : Int32 := F_X0_endsMeet τ Z gi gr p1 p2 p3 y45_6 p4 x7
          if x19 = (0 : Int32) then (
            f_X0_mayMeet_106 τ Z gi gr h0 p1 p2 p3 p4 y45_6 y55_7 k_45 (f_X0_mayMeet_55 τ Z gi gr h0 p1 p2 p3 p4 y45_6 k_45 n55) ) else (
            1))))
noncomputable def f_X0_mayMeet_45 (τ : th_t) (Z : th_Zt) (gi : th_i) (gr : th_r) (h0 : Nat) (p1 : Int32) (p2 : Int32) (p3 : Int32) (p4 : Int32) : Nat → Int32 → Int32
  | 0, y45_6 => 0
  | n45 + 1, y45_6 =>
    if (7 : Int32) < y45_6 then (
      0) else (
      f_X0_mayMeet_55 τ Z gi gr h0 p1 p2 p3 p4 y45_6 (f_X0_mayMeet_45 τ Z gi gr h0 p1 p2 p3 p4 n45) ((2 - ((-1) : Int32).toInt).toNat + 1) (-1))
noncomputable def F_X0_mayMeet (τ : th_t) (Z : th_Zt) (gi : th_i) (gr : th_r) (h0 : Nat) (p1 : Int32) (p2 : Int32) (p3 : Int32) (p4 : Int32) : Int32 :=
  let x26 : Int32 := th_ab p1
  let x27 : Int32 := th_ab p2
  let x28 : Int32 := th_mx x26 x27
  let x29 : Int32 := th_mn p3 p4
  if x29 ≤ x28 then (
    let x31 : Int32 := th_mx p3 p4
    let x32 : Int32 := x31 + 20
    if x28 < x32 then (
      f_X0_mayMeet_45 τ Z gi gr h0 p1 p2 p3 p4 ((8 - (0 : Int32).toInt).toNat + 1) 0) else (
      0)) else (
    1)
set_option maxHeartbeats 8000000 in
set_option maxRecDepth 100000 in
theorem k_X0_mayMeet (l : Launch) (D : va_G) (cA : Nat → ClassId) (Z : th_Zt) (τ : th_t) (gi : th_i) (gr : th_r) (sz : Nat) (h0 : Nat) (t_h0 : τ h0 = 1) (p1 : Int32) (p2 : Int32) (p3 : Int32) (p4 : Int32) : Met l yX0_mayMeet wsX0_mayMeet ({ frames := 1, cells := 0, slots := 0, locals := 40 }) (va_Pc [.ref h0, .int p1, .int p2, .int p3, .int p4] (th_Pre D cA Z τ gi gr sz)) (va_Qi (fun (r : Int32) (_ : Unit) => rg 0 1 r ∧ (F_X0_mayMeet τ Z gi gr h0 p1 p2 p3 p4 = r)) (fun (_ : Unit) t => th_H D cA τ gi gr t.heap) (th_A τ sz)) 0 0 (th_A τ sz) := by
  refine Met.ofW (cc := cX0_mayMeet) (maxL := 9) (ret := (some .boolean)) (by decide) rfl ?_
  intro p e s m args below meth c s₁ B hml hv
  obtain ⟨rfl, hsz, hH, hK, hN, hZ⟩ := hv
  have hx := B.exec
  have hb := B.bytes
  have hr := B.returns
  have hts := atoms_spec (ws := wsX0_mayMeet) B.pre
  have hown : s.vm.findClass RX0 = some m.cls := findClass_of_methodNamed B.named
  have hlocks := B.notSynchronized
  subst hsz
  have J45 : ∀ (n45 : Nat) (H : Heap) (locs : List Loc) (ls : Array Slot) (y45_6 : Int32), (8 - y45_6.toInt).toNat < n45 → th_H D cA τ gi gr H → va_S (th_A τ s.heap.size) s.heap H locs → lv_has ls 9 [(0, .ref h0), (1, .int p1), (2, .int p2), (3, .int p3), (4, .int p4), (6, .int y45_6)] → rg 0 8 y45_6 → F_X0_mayMeet τ Z gi gr h0 p1 p2 p3 p4 = f_X0_mayMeet_45 τ Z gi gr h0 p1 p2 p3 p4 n45 y45_6 → W p l e (headSpec wsX0_mayMeet ({ frames := 1, cells := 0, slots := 0, locals := 40 })).room s m [.ref h0, .int p1, .int p2, .int p3, .int p4].toArray below meth c H locs 0 0 (MQ below (va_Qi (fun (r : Int32) (_ : Unit) => rg 0 1 r ∧ (F_X0_mayMeet τ Z gi gr h0 p1 p2 p3 p4 = r)) (fun (_ : Unit) t => th_H D cA τ gi gr t.heap) (th_A τ s.heap.size)) [.ref h0, .int p1, .int p2, .int p3, .int p4].toArray s 0 0 (th_A τ s.heap.size)) (F0 m 45 ls []) := by
    intro n45
    induction n45 with
    | zero =>
      intro H locs ls y45_6 hn
      exact absurd hn (Nat.not_lt_zero _)
    | succ n45 ih45 =>
      intro H locs ls y45_6 hn45 hH hS hl fy45_6 hF
      have J55 : ∀ (n55 : Nat) (H : Heap) (locs : List Loc) (ls : Array Slot) (y55_7 : Int32), (2 - y55_7.toInt).toNat < n55 → th_H D cA τ gi gr H → va_S (th_A τ s.heap.size) s.heap H locs → lv_has ls 9 [(0, .ref h0), (1, .int p1), (2, .int p2), (3, .int p3), (4, .int p4), (6, .int y45_6), (7, .int y55_7)] → rg 0 7 y45_6 → rg (-1) 2 y55_7 → F_X0_mayMeet τ Z gi gr h0 p1 p2 p3 p4 = f_X0_mayMeet_55 τ Z gi gr h0 p1 p2 p3 p4 y45_6 (f_X0_mayMeet_45 τ Z gi gr h0 p1 p2 p3 p4 n45) n55 y55_7 → W p l e (headSpec wsX0_mayMeet ({ frames := 1, cells := 0, slots := 0, locals := 40 })).room s m [.ref h0, .int p1, .int p2, .int p3, .int p4].toArray below meth c H locs 0 0 (MQ below (va_Qi (fun (r : Int32) (_ : Unit) => rg 0 1 r ∧ (F_X0_mayMeet τ Z gi gr h0 p1 p2 p3 p4 = r)) (fun (_ : Unit) t => th_H D cA τ gi gr t.heap) (th_A τ s.heap.size)) [.ref h0, .int p1, .int p2, .int p3, .int p4].toArray s 0 0 (th_A τ s.heap.size)) (F0 m 55 ls []) := by
        intro n55
        induction n55 with
        | zero =>
          intro H locs ls y55_7 hn
          exact absurd hn (Nat.not_lt_zero _)
        | succ n55 ih55 =>
          intro H locs ls y55_7 hn55 hH hS hl fy55_6 fy55_7 hF
          have J106 : ∀ (H : Heap) (locs : List Loc) (ls : Array Slot), th_H D cA τ gi gr H → va_S (th_A τ s.heap.size) s.heap H locs → lv_has ls 9 [(0, .ref h0), (1, .int p1), (2, .int p2), (3, .int p3), (4, .int p4), (6, .int y45_6), (7, .int y55_7)] → rg 0 7 y45_6 → rg (-1) 1 y55_7 → F_X0_mayMeet τ Z gi gr h0 p1 p2 p3 p4 = f_X0_mayMeet_106 τ Z gi gr h0 p1 p2 p3 p4 y45_6 y55_7 (f_X0_mayMeet_45 τ Z gi gr h0 p1 p2 p3 p4 n45) (f_X0_mayMeet_55 τ Z gi gr h0 p1 p2 p3 p4 y45_6 (f_X0_mayMeet_45 τ Z gi gr h0 p1 p2 p3 p4 n45) n55) → W p l e (headSpec wsX0_mayMeet ({ frames := 1, cells := 0, slots := 0, locals := 40 })).room s m [.ref h0, .int p1, .int p2, .int p3, .int p4].toArray below meth c H locs 0 0 (MQ below (va_Qi (fun (r : Int32) (_ : Unit) => rg 0 1 r ∧ (F_X0_mayMeet τ Z gi gr h0 p1 p2 p3 p4 = r)) (fun (_ : Unit) t => th_H D cA τ gi gr t.heap) (th_A τ s.heap.size)) [.ref h0, .int p1, .int p2, .int p3, .int p4].toArray s 0 0 (th_A τ s.heap.size)) (F0 m 106 ls []) := by
            intro H locs ls hH hS hl fy106_6 fy106_7 hF
            obtain ⟨x1, e1⟩ : ∃ y : Int32, y = y55_7 + 1 := ⟨_, rfl⟩
            have f1 : rg 0 2 x1 := rg_e e1 (rg_w (rg_add fy106_7 rgc_1 (th_leI rfl) (th_leI rfl)) (th_leI rfl) (th_leI rfl))
            refine lv_iinc (v := x1) (lv' := [(7, .int x1), (0, .ref h0), (1, .int p1), (2, .int p2), (3, .int p3), (4, .int p4), (6, .int y45_6)]) hx hb dX0_mayMeet_106 hl (k := 6) rfl (by rw [e1]; rfl) (th_ltN rfl) rfl (fun ls hl => ?_)
            refine lv_goto (tgt := 55) hx hb dX0_mayMeet_109 (th_eqI rfl) ?_
            exact ih55 _ _ _ x1 (th_up (rg_dA e1 fy106_7 rgc_1 (th_leI rfl) (th_leI rfl)) fy106_7 hn55 (th_ltI rfl)) hH hS (lv_sub hl [1, 2, 3, 4, 5, 6, 0] rfl) fy106_6 (rg_w f1 (th_leI rfl) (th_leI rfl)) (hF.trans (by simp only [f_X0_mayMeet_106, ← e1]))
          refine lv_iload hx hb dX0_mayMeet_55 (lv_at hl 6 rfl) ?_
          refine lv_iconst (v := 1) hx hb dX0_mayMeet_57 ic_1 ?_
          refine lv_icmp_gt (tgt := 112) hx hb dX0_mayMeet_58 (th_eqI rfl) (fun c2 => ?_) (fun c2 => ?_)
          · skip
            have f3 : rg 2 2 y55_7 := rg_w (rg_lt rgc_1 fy55_7 c2).2 (th_leI rfl) (th_leI rfl)
            obtain ⟨x4, e4⟩ : ∃ y : Int32, y = y45_6 + 1 := ⟨_, rfl⟩
            have f4 : rg 1 8 x4 := rg_e e4 (rg_w (rg_add fy55_6 rgc_1 (th_leI rfl) (th_leI rfl)) (th_leI rfl) (th_leI rfl))
            refine lv_iinc (v := x4) (lv' := [(6, .int x4), (0, .ref h0), (1, .int p1), (2, .int p2), (3, .int p3), (4, .int p4), (7, .int y55_7)]) hx hb dX0_mayMeet_112 hl (k := 5) rfl (by rw [e4]; rfl) (th_ltN rfl) rfl (fun ls hl => ?_)
            refine lv_goto (tgt := 45) hx hb dX0_mayMeet_115 (th_eqI rfl) ?_
            exact ih45 _ _ _ x4 (th_up (rg_dA e4 fy55_6 rgc_1 (th_leI rfl) (th_leI rfl)) fy55_6 hn45 (th_ltI rfl)) hH hS (lv_sub hl [1, 2, 3, 4, 5, 0] rfl) (rg_w f4 (th_leI rfl) (th_leI rfl)) (hF.trans (by simp only [↓reduceIte, f_X0_mayMeet_55, eq_true c2, ← e4]))
          · skip
            have f5 : rg (-1) 1 y55_7 := rg_w (rg_nlt rgc_1 fy55_7 c2).2 (th_leI rfl) (th_leI rfl)
            refine lv_iload hx hb dX0_mayMeet_61 (lv_at hl 5 rfl) ?_
            refine lv_iload hx hb dX0_mayMeet_63 (lv_at hl 6 rfl) ?_
            refine lv_iadd hx hb dX0_mayMeet_65 ?_
            refine lv_topi (fun x6 e6 => ?_)
            have f6 : rg (-1) 8 x6 := rg_e e6 (rg_w (rg_add fy55_6 f5 (th_leI rfl) (th_leI rfl)) (th_leI rfl) (th_leI rfl))
            refine lv_bipush (v := 7) hx hb dX0_mayMeet_66 bp_7 ?_
            refine lv_iand hx hb dX0_mayMeet_68 ?_
            refine lv_topi (fun x7 e7 => ?_)
            have f7 : rg 0 7 x7 := rg_e e7 (rg_and 3 (by decide) (th_leN rfl) (th_eqI rfl))
            refine lv_istore (i := 8) (lv' := [(8, .int x7), (0, .ref h0), (1, .int p1), (2, .int p2), (3, .int p3), (4, .int p4), (6, .int y45_6), (7, .int y55_7)]) hx hb dX0_mayMeet_69 hl (th_ltN rfl) rfl (fun ls hl => ?_)
            refine lv_aload_n hx hb dX0_mayMeet_71 rfl (lv_at hl 1 rfl) ?_
            refine lv_iload hx hb dX0_mayMeet_72 (lv_at hl 6 rfl) ?_
            have hA8 := th_Asub (τ := τ) hS
            refine va_calli (va_runV (As := [.int y45_6]) (rest := []) ⟨hx, hb, hml, hown, hts⟩ (k_X0_blows l D cA Z τ gi gr _ h0 t_h0 y45_6) (cwV 1 hts gX0_mayMeet_X0_blows rfl rfl rfl hd_X0_blows__1 ⟨Nat.le_of_ble_eq_true rfl, Nat.le_of_ble_eq_true rfl⟩) ⟨th_blind, tr_1 hK hH t_h0, (th_pre hH hK hN hZ hS hA8)⟩ rfl rfl hl.1 rfl (lv_room (Nat.le_of_ble_eq_true rfl)) dX0_mayMeet_74 ⟨Nat.le_of_ble_eq_true rfl, Nat.le_of_ble_eq_true rfl⟩) hS (fun q _ h => hA8 q h) hA8 (fun x9 u t H locs ht hvm hw9 hB hz1 hk1 hS => ?_)
            try dsimp only at hw9 hB
            rw [ht] at hB
            have hH := hB
            refine lv_if_eq (tgt := 106) hx hb dX0_mayMeet_77 (th_eqI rfl) (fun c10 => ?_) (fun c10 => ?_)
            · skip
              have f11 : rg 0 0 x9 := rg_w (rg_eq hw9.1 rgc_0 c10).1 (th_leI rfl) (th_leI rfl)
              exact J106 _ _ _ hH hS (lv_sub hl [1, 2, 3, 4, 5, 6, 7] rfl) fy55_6 f5 (hF.trans (by simp only [↓reduceIte, f_X0_mayMeet_55, eq_false c2, ← e6, ← e7, hw9.2, eq_true c10]))
            · skip
              have f12 : rg 1 1 x9 := rg_w (rg_neL hw9.1 rgc_0 c10) (th_leI rfl) (th_leI rfl)
              refine lv_aload_n hx hb dX0_mayMeet_80 rfl (lv_at hl 1 rfl) ?_
              refine lv_iload hx hb dX0_mayMeet_81 (lv_at hl 0 rfl) ?_
              have hA13 := th_Asub (τ := τ) hS
              refine va_calli (va_runV (As := [.int x7]) (rest := []) ⟨hx, hb, hml, hown, hts⟩ (k_X0_blows l D cA Z τ gi gr _ h0 t_h0 x7) (cwV 1 hts gX0_mayMeet_X0_blows rfl rfl rfl hd_X0_blows__1 ⟨Nat.le_of_ble_eq_true rfl, Nat.le_of_ble_eq_true rfl⟩) ⟨th_blind, tr_1 hK hH t_h0, (th_pre hH hK hN hZ hS hA13)⟩ rfl rfl hl.1 rfl (lv_room (Nat.le_of_ble_eq_true rfl)) dX0_mayMeet_83 ⟨Nat.le_of_ble_eq_true rfl, Nat.le_of_ble_eq_true rfl⟩) hS (fun q _ h => hA13 q h) hA13 (fun x14 u t H locs ht hvm hw14 hB hz1 hk1 hS => ?_)
              try dsimp only at hw14 hB
              rw [ht] at hB
              have hH := hB
              refine lv_if_eq (tgt := 106) hx hb dX0_mayMeet_86 (th_eqI rfl) (fun c15 => ?_) (fun c15 => ?_)
              · skip
                have f16 : rg 0 0 x14 := rg_w (rg_eq hw14.1 rgc_0 c15).1 (th_leI rfl) (th_leI rfl)
                exact J106 _ _ _ hH hS (lv_sub hl [1, 2, 3, 4, 5, 6, 7] rfl) fy55_6 f5 (hF.trans (by simp only [↓reduceIte, f_X0_mayMeet_55, eq_false c2, ← e6, ← e7, hw9.2, eq_false c10, hw14.2, eq_true c15]))
              · skip
                have f17 : rg 1 1 x14 := rg_w (rg_neL hw14.1 rgc_0 c15) (th_leI rfl) (th_leI rfl)
                refine lv_iload_n hx hb dX0_mayMeet_89 rfl (lv_at hl 2 rfl) ?_
                refine lv_iload_n hx hb dX0_mayMeet_90 rfl (lv_at hl 3 rfl) ?_
                refine lv_iload_n hx hb dX0_mayMeet_91 rfl (lv_at hl 4 rfl) ?_
                refine lv_iload hx hb dX0_mayMeet_92 (lv_at hl 6 rfl) ?_
                refine lv_iload hx hb dX0_mayMeet_94 (lv_at hl 5 rfl) ?_
                refine lv_iload hx hb dX0_mayMeet_96 (lv_at hl 0 rfl) ?_
                have hA18 := th_Asub (τ := τ) hS
                refine va_calli (va_runS (As := [.int p1, .int p2, .int p3, .int y45_6, .int p4, .int x7]) (rest := []) ⟨hx, hb, hml, hown, hts⟩ (k_X0_endsMeet l D cA Z τ gi gr _ p1 p2 p3 y45_6 p4 x7) (va_cwS 6 hts gX0_mayMeet_X0_endsMeet rfl rfl rfl (by decide +kernel) ⟨Nat.le_of_ble_eq_true rfl, Nat.le_of_ble_eq_true rfl⟩) ⟨th_blind, (th_pre hH hK hN hZ hS hA18)⟩ rfl rfl hl.1 rfl (lv_room (Nat.le_of_ble_eq_true rfl)) dX0_mayMeet_98 ⟨Nat.le_of_ble_eq_true rfl, Nat.le_of_ble_eq_true rfl⟩) hS (fun q _ h => hA18 q h) hA18 (fun x19 u t H locs ht hvm hw19 hB hz1 hk1 hS => ?_)
                try dsimp only at hw19 hB
                rw [ht] at hB
                have hH := hB
                refine lv_if_eq (tgt := 106) hx hb dX0_mayMeet_101 (th_eqI rfl) (fun c20 => ?_) (fun c20 => ?_)
                · skip
                  have f21 : rg 0 0 x19 := rg_w (rg_eq hw19.1 rgc_0 c20).1 (th_leI rfl) (th_leI rfl)
                  exact J106 _ _ _ hH hS (lv_sub hl [1, 2, 3, 4, 5, 6, 7] rfl) fy55_6 f5 (hF.trans (by simp only [↓reduceIte, f_X0_mayMeet_55, eq_false c2, ← e6, ← e7, hw9.2, eq_false c10, hw14.2, eq_false c15, hw19.2, eq_true c20]))
                · skip
                  have f22 : rg 1 1 x19 := rg_w (rg_neL hw19.1 rgc_0 c20) (th_leI rfl) (th_leI rfl)
                  refine lv_iconst (v := 1) hx hb dX0_mayMeet_104 ic_1 ?_
                  exact W.zret (v := 1) hx hb hr (rg_nb (rg_w rgc_1 (th_leI rfl) (th_leI rfl))) (fun t ht hW => ⟨⟨1, (), rfl, ⟨(rg_w rgc_1 (th_leI rfl) (th_leI rfl)), (hF.trans (by simp only [↓reduceIte, f_X0_mayMeet_55, eq_false c2, ← e6, ← e7, hw9.2, eq_false c10, hw14.2, eq_false c15, hw19.2, eq_false c20]))⟩, th_Ht ht hH⟩, hS.F ht⟩) hS.2.2 dX0_mayMeet_105
      refine lv_iload hx hb dX0_mayMeet_45 (lv_at hl 5 rfl) ?_
      refine lv_bipush (v := 7) hx hb dX0_mayMeet_47 bp_7 ?_
      refine lv_icmp_gt (tgt := 118) hx hb dX0_mayMeet_49 (th_eqI rfl) (fun c23 => ?_) (fun c23 => ?_)
      · skip
        have f24 : rg 8 8 y45_6 := rg_w (rg_lt rgc_7 fy45_6 c23).2 (th_leI rfl) (th_leI rfl)
        refine lv_iconst (v := 0) hx hb dX0_mayMeet_118 ic_0 ?_
        exact W.zret (v := 0) hx hb hr (rg_nb (rg_w rgc_0 (th_leI rfl) (th_leI rfl))) (fun t ht hW => ⟨⟨0, (), rfl, ⟨(rg_w rgc_0 (th_leI rfl) (th_leI rfl)), (hF.trans (by simp only [↓reduceIte, f_X0_mayMeet_45, eq_true c23]))⟩, th_Ht ht hH⟩, hS.F ht⟩) hS.2.2 dX0_mayMeet_119
      · skip
        have f25 : rg 0 7 y45_6 := rg_w (rg_nlt rgc_7 fy45_6 c23).2 (th_leI rfl) (th_leI rfl)
        refine lv_iconst (v := (-1)) hx hb dX0_mayMeet_52 ic_m1 ?_
        refine lv_istore (i := 7) (lv' := [(7, .int (-1)), (0, .ref h0), (1, .int p1), (2, .int p2), (3, .int p3), (4, .int p4), (6, .int y45_6)]) hx hb dX0_mayMeet_53 hl (th_ltN rfl) rfl (fun ls hl => ?_)
        exact J55 _ _ _ _ (-1) (Nat.lt_add_one _) hH hS (lv_sub hl [1, 2, 3, 4, 5, 6, 0] rfl) f25 (rg_w rgc_m1 (th_leI rfl) (th_leI rfl)) (hF.trans (by simp only [↓reduceIte, f_X0_mayMeet_45, eq_false c23]))
  have hS : va_S (th_A τ s.heap.size) s.heap s.heap [] := va_S.rf
  have hl := lv_entry ([.ref h0, .int p1, .int p2, .int p3, .int p4]) (n := 9) (Nat.le_of_ble_eq_true rfl)
  rw [lg_entry_eq]
  generalize (lg_sl ([.ref h0, .int p1, .int p2, .int p3, .int p4]) ++ List.replicate (9 - (lg_sl ([.ref h0, .int p1, .int p2, .int p3, .int p4])).length) Slot.unset).toArray = ls at hl ⊢
  have hl : lv_has ls 9 [(0, .ref h0), (1, .int p1), (2, .int p2), (3, .int p3), (4, .int p4)] := hl
  have hF : F_X0_mayMeet τ Z gi gr h0 p1 p2 p3 p4 = F_X0_mayMeet τ Z gi gr h0 p1 p2 p3 p4 := rfl
  refine lv_iload_n hx hb dX0_mayMeet_0 rfl (lv_at hl 1 rfl) ?_
  refine va_mabs hx hb (by rw [hml]; exact hl.1.symm) hown (hts (.methodLink RX0 146 Lib.Math.abs.name) (List.mem_cons_of_mem _ (List.mem_append_left _ (List.mem_of_getElem? (i := 0) rfl)))) (hts (.static Lib.Math.abs.name) (List.mem_cons_of_mem _ (List.mem_append_left _ (List.mem_of_getElem? (i := 1) rfl)))) (hts (.initialized "java/lang/Math") (List.mem_cons_of_mem _ (List.mem_append_left _ (List.mem_of_getElem? (i := 2) rfl)))) (hts (.code Lib.Math.abs.name Lib.Math.abs.code 1 (some .int)) (List.mem_cons_of_mem _ (List.mem_append_left _ (List.mem_of_getElem? (i := 3) rfl)))) (Nat.le_of_ble_eq_true rfl) (Nat.le_of_ble_eq_true rfl) (Nat.zero_le _) (Nat.zero_le _) dX0_mayMeet_1 ?_
  refine lv_topi (fun x26 e26 => ?_)
  have em26 : x26 = th_ab p1 := e26
  refine lv_iload_n hx hb dX0_mayMeet_4 rfl (lv_at hl 2 rfl) ?_
  refine va_mabs hx hb (by rw [hml]; exact hl.1.symm) hown (hts (.methodLink RX0 146 Lib.Math.abs.name) (List.mem_cons_of_mem _ (List.mem_append_left _ (List.mem_of_getElem? (i := 0) rfl)))) (hts (.static Lib.Math.abs.name) (List.mem_cons_of_mem _ (List.mem_append_left _ (List.mem_of_getElem? (i := 1) rfl)))) (hts (.initialized "java/lang/Math") (List.mem_cons_of_mem _ (List.mem_append_left _ (List.mem_of_getElem? (i := 2) rfl)))) (hts (.code Lib.Math.abs.name Lib.Math.abs.code 1 (some .int)) (List.mem_cons_of_mem _ (List.mem_append_left _ (List.mem_of_getElem? (i := 3) rfl)))) (Nat.le_of_ble_eq_true rfl) (Nat.le_of_ble_eq_true rfl) (Nat.zero_le _) (Nat.zero_le _) dX0_mayMeet_5 ?_
  refine lv_topi (fun x27 e27 => ?_)
  have em27 : x27 = th_ab p2 := e27
  refine va_mmax hx hb (by rw [hml]; exact hl.1.symm) hown (hts (.methodLink RX0 149 Lib.Math.max.name) (List.mem_cons_of_mem _ (List.mem_append_left _ (List.mem_of_getElem? (i := 4) rfl)))) (hts (.static Lib.Math.max.name) (List.mem_cons_of_mem _ (List.mem_append_left _ (List.mem_of_getElem? (i := 5) rfl)))) (hts (.initialized "java/lang/Math") (List.mem_cons_of_mem _ (List.mem_append_left _ (List.mem_of_getElem? (i := 2) rfl)))) (hts (.code Lib.Math.max.name Lib.Math.max.code 2 (some .int)) (List.mem_cons_of_mem _ (List.mem_append_left _ (List.mem_of_getElem? (i := 6) rfl)))) (Nat.le_of_ble_eq_true rfl) (Nat.le_of_ble_eq_true rfl) (Nat.zero_le _) (Nat.zero_le _) dX0_mayMeet_8 ?_
  refine lv_topi (fun x28 e28 => ?_)
  have em28 : x28 = th_mx x26 x27 := e28
  refine lv_istore (i := 5) (lv' := [(5, .int x28), (0, .ref h0), (1, .int p1), (2, .int p2), (3, .int p3), (4, .int p4)]) hx hb dX0_mayMeet_11 hl (th_ltN rfl) rfl (fun ls hl => ?_)
  refine lv_iload hx hb dX0_mayMeet_13 (lv_at hl 0 rfl) ?_
  refine lv_iload_n hx hb dX0_mayMeet_15 rfl (lv_at hl 4 rfl) ?_
  refine lv_iload hx hb dX0_mayMeet_16 (lv_at hl 5 rfl) ?_
  refine va_mmin hx hb (by rw [hml]; exact hl.1.symm) hown (hts (.methodLink RX0 85 Lib.Math.min.name) (List.mem_cons_of_mem _ (List.mem_append_left _ (List.mem_of_getElem? (i := 7) rfl)))) (hts (.static Lib.Math.min.name) (List.mem_cons_of_mem _ (List.mem_append_left _ (List.mem_of_getElem? (i := 8) rfl)))) (hts (.initialized "java/lang/Math") (List.mem_cons_of_mem _ (List.mem_append_left _ (List.mem_of_getElem? (i := 2) rfl)))) (hts (.code Lib.Math.min.name Lib.Math.min.code 2 (some .int)) (List.mem_cons_of_mem _ (List.mem_append_left _ (List.mem_of_getElem? (i := 9) rfl)))) (Nat.le_of_ble_eq_true rfl) (Nat.le_of_ble_eq_true rfl) (Nat.zero_le _) (Nat.zero_le _) dX0_mayMeet_18 ?_
  refine lv_topi (fun x29 e29 => ?_)
  have em29 : x29 = th_mn p3 p4 := e29
  refine lv_icmp_ge (tgt := 26) hx hb dX0_mayMeet_21 (th_eqI rfl) (fun c30 => ?_) (fun c30 => ?_)
  · skip
    refine lv_iload hx hb dX0_mayMeet_26 (lv_at hl 0 rfl) ?_
    refine lv_iload_n hx hb dX0_mayMeet_28 rfl (lv_at hl 4 rfl) ?_
    refine lv_iload hx hb dX0_mayMeet_29 (lv_at hl 5 rfl) ?_
    refine va_mmax hx hb (by rw [hml]; exact hl.1.symm) hown (hts (.methodLink RX0 149 Lib.Math.max.name) (List.mem_cons_of_mem _ (List.mem_append_left _ (List.mem_of_getElem? (i := 4) rfl)))) (hts (.static Lib.Math.max.name) (List.mem_cons_of_mem _ (List.mem_append_left _ (List.mem_of_getElem? (i := 5) rfl)))) (hts (.initialized "java/lang/Math") (List.mem_cons_of_mem _ (List.mem_append_left _ (List.mem_of_getElem? (i := 2) rfl)))) (hts (.code Lib.Math.max.name Lib.Math.max.code 2 (some .int)) (List.mem_cons_of_mem _ (List.mem_append_left _ (List.mem_of_getElem? (i := 6) rfl)))) (Nat.le_of_ble_eq_true rfl) (Nat.le_of_ble_eq_true rfl) (Nat.zero_le _) (Nat.zero_le _) dX0_mayMeet_31 ?_
    refine lv_topi (fun x31 e31 => ?_)
    have em31 : x31 = th_mx p3 p4 := e31
    refine lv_bipush (v := 20) hx hb dX0_mayMeet_34 bp_20 ?_
    refine lv_iadd hx hb dX0_mayMeet_36 ?_
    refine lv_topi (fun x32 e32 => ?_)
    refine lv_icmp_lt (tgt := 42) hx hb dX0_mayMeet_37 (th_eqI rfl) (fun c33 => ?_) (fun c33 => ?_)
    · skip
      refine lv_iconst (v := 0) hx hb dX0_mayMeet_42 ic_0 ?_
      refine lv_istore (i := 6) (lv' := [(6, .int 0), (5, .int x28), (0, .ref h0), (1, .int p1), (2, .int p2), (3, .int p3), (4, .int p4)]) hx hb dX0_mayMeet_43 hl (th_ltN rfl) rfl (fun ls hl => ?_)
      exact J45 _ _ _ _ 0 (Nat.lt_add_one _) hH hS (lv_sub hl [2, 3, 4, 5, 6, 0] rfl) (rg_w rgc_0 (th_leI rfl) (th_leI rfl)) (hF.trans (by simp only [↓reduceIte, F_X0_mayMeet, ← em26, ← em27, ← em28, ← em29, eq_true c30, ← em31, ← e32, eq_true c33]))
    · skip
      refine lv_iconst (v := 0) hx hb dX0_mayMeet_40 ic_0 ?_
      exact W.zret (v := 0) hx hb hr (rg_nb (rg_w rgc_0 (th_leI rfl) (th_leI rfl))) (fun t ht hW => ⟨⟨0, (), rfl, ⟨(rg_w rgc_0 (th_leI rfl) (th_leI rfl)), (hF.trans (by simp only [↓reduceIte, F_X0_mayMeet, ← em26, ← em27, ← em28, ← em29, eq_true c30, ← em31, ← e32, eq_false c33]))⟩, th_Ht ht hH⟩, hS.F ht⟩) hS.2.2 dX0_mayMeet_41
  · skip
    refine lv_iconst (v := 1) hx hb dX0_mayMeet_24 ic_1 ?_
    exact W.zret (v := 1) hx hb hr (rg_nb (rg_w rgc_1 (th_leI rfl) (th_leI rfl))) (fun t ht hW => ⟨⟨1, (), rfl, ⟨(rg_w rgc_1 (th_leI rfl) (th_leI rfl)), (hF.trans (by simp only [↓reduceIte, F_X0_mayMeet, ← em26, ← em27, ← em28, ← em29, eq_false c30]))⟩, th_Ht ht hH⟩, hS.F ht⟩) hS.2.2 dX0_mayMeet_25
end
