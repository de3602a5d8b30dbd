noncomputable def F_X11_within (τ : th_t) (Z : th_Zt) (gi : th_i) (gr : th_r) (p0 : Int32) (p1 : Int32) (p2 : Int32) : Int32 :=
  if p0 < p1 then (
    0) else (
    if p2 < p0 then (
      0) else (
      1))
set_option maxHeartbeats 8000000 in
set_option maxRecDepth 100000 in
theorem k_X11_within (l : Launch) (D : va_G) (cA : Nat → ClassId) (Z : th_Zt) (τ : th_t) (gi : th_i) (gr : th_r) (sz : Nat) (p0 : Int32) (p1 : Int32) (p2 : Int32) : Met l yX11_within wsX11_within ({ frames := 0, cells := 0, slots := 0, locals := 0 }) (va_Pc [.int p0, .int p1, .int p2] (th_Pre D cA Z τ gi gr sz)) (va_Qi (fun (r : Int32) (_ : Unit) => rg 0 1 r ∧ (¬ r = 0 → p1 ≤ p0 ∧ p0 ≤ p2) ∧ (F_X11_within τ Z gi gr p0 p1 p2 = r) ∧ (r = 0 → ¬ (p1 ≤ p0 ∧ p0 ≤ p2))) (fun (_ : Unit) t => th_H D cA τ gi gr t.heap) (th_A τ sz)) 0 0 (th_A τ sz) := by
  refine Met.ofW (cc := cX11_within) (maxL := 3) (ret := (some .boolean)) (by decide) rfl ?_
  intro p e s m args below meth c s₁ B hml hv
  obtain ⟨rfl, hsz, hH, hK, hN, hZ⟩ := hv
  have hx := B.exec
  have hb := B.bytes
  have hr := B.returns
  have hts := atoms_spec (ws := wsX11_within) B.pre
  have hown : s.vm.findClass RX11 = some m.cls := findClass_of_methodNamed B.named
  have hlocks := B.notSynchronized
  subst hsz
  have hS : va_S (th_A τ s.heap.size) s.heap s.heap [] := va_S.rf
  have hl := lv_entry ([.int p0, .int p1, .int p2]) (n := 3) (Nat.le_of_ble_eq_true rfl)
  rw [lg_entry_eq]
  generalize (lg_sl ([.int p0, .int p1, .int p2]) ++ List.replicate (3 - (lg_sl ([.int p0, .int p1, .int p2])).length) Slot.unset).toArray = ls at hl ⊢
  have hl : lv_has ls 3 [(0, .int p0), (1, .int p1), (2, .int p2)] := hl
  have hF : F_X11_within τ Z gi gr p0 p1 p2 = F_X11_within τ Z gi gr p0 p1 p2 := rfl
  refine lv_iload_n hx hb dX11_within_0 rfl (lv_at hl 0 rfl) ?_
  refine lv_iload_n hx hb dX11_within_1 rfl (lv_at hl 1 rfl) ?_
  refine lv_icmp_lt (tgt := 14) hx hb dX11_within_2 (th_eqI rfl) (fun c1 => ?_) (fun c1 => ?_)
  · skip
    refine lv_iconst (v := 0) hx hb dX11_within_14 ic_0 ?_
    exact W.zret (v := 0) hx hb hr (rg_nb (rg_w rgc_0 (th_leI rfl) (th_leI rfl))) (fun t ht hW => ⟨⟨0, (), rfl, ⟨(rg_w rgc_0 (th_leI rfl) (th_leI rfl)), (fun h9 => absurd rfl h9), (hF.trans (by simp only [↓reduceIte, F_X11_within, eq_true c1])), (fun _ h9 => (Int32.not_lt.mpr h9.1) c1)⟩, th_Ht ht hH⟩, hS.F ht⟩) hS.2.2 dX11_within_15
  · skip
    refine lv_iload_n hx hb dX11_within_5 rfl (lv_at hl 0 rfl) ?_
    refine lv_iload_n hx hb dX11_within_6 rfl (lv_at hl 2 rfl) ?_
    refine lv_icmp_gt (tgt := 14) hx hb dX11_within_7 (th_eqI rfl) (fun c2 => ?_) (fun c2 => ?_)
    · skip
      refine lv_iconst (v := 0) hx hb dX11_within_14 ic_0 ?_
      exact W.zret (v := 0) hx hb hr (rg_nb (rg_w rgc_0 (th_leI rfl) (th_leI rfl))) (fun t ht hW => ⟨⟨0, (), rfl, ⟨(rg_w rgc_0 (th_leI rfl) (th_leI rfl)), (fun h9 => absurd rfl h9), (hF.trans (by simp only [↓reduceIte, F_X11_within, eq_false c1, eq_true c2])), (fun _ h9 => (Int32.not_lt.mpr h9.2) c2)⟩, th_Ht ht hH⟩, hS.F ht⟩) hS.2.2 dX11_within_15
    · skip
      refine lv_iconst (v := 1) hx hb dX11_within_10 ic_1 ?_
      refine lv_goto (tgt := 15) hx hb dX11_within_11 (th_eqI rfl) ?_
      exact W.zret (v := 1) hx hb hr (rg_nb (rg_w rgc_1 (th_leI rfl) (th_leI rfl))) (fun t ht hW => ⟨⟨1, (), rfl, ⟨(rg_w rgc_1 (th_leI rfl) (th_leI rfl)), (fun _ => ⟨Int32.not_lt.mp c1, Int32.not_lt.mp c2⟩), (hF.trans (by simp only [↓reduceIte, F_X11_within, eq_false c1, eq_false c2])), (fun h9 => absurd h9 (by decide))⟩, th_Ht ht hH⟩, hS.F ht⟩) hS.2.2 dX11_within_15

noncomputable def F_X11_isKind (τ : th_t) (Z : th_Zt) (gi : th_i) (gr : th_r) (p0 : Int32) : Int32 :=
  let x2 : Int32 := F_X11_within τ Z gi gr p0 0 2
  x2
set_option maxHeartbeats 8000000 in
set_option maxRecDepth 100000 in
theorem k_X11_isKind (l : Launch) (D : va_G) (cA : Nat → ClassId) (Z : th_Zt) (τ : th_t) (gi : th_i) (gr : th_r) (sz : Nat) (p0 : Int32) : Met l yX11_isKind wsX11_isKind ({ frames := 1, cells := 0, slots := 0, locals := 22 }) (va_Pc [.int p0] (th_Pre D cA Z τ gi gr sz)) (va_Qi (fun (r : Int32) (_ : Unit) => rg 0 1 r ∧ (¬ r = 0 → rg 0 2 p0) ∧ (F_X11_isKind τ Z gi gr p0 = r) ∧ (r = 0 → ¬ rg 0 2 p0)) (fun (_ : Unit) t => th_H D cA τ gi gr t.heap) (th_A τ sz)) 0 0 (th_A τ sz) := by
  refine Met.ofW (cc := cX11_isKind) (maxL := 1) (ret := (some .boolean)) (by decide) rfl ?_
  intro p e s m args below meth c s₁ B hml hv
  obtain ⟨rfl, hsz, hH, hK, hN, hZ⟩ := hv
  have hx := B.exec
  have hb := B.bytes
  have hr := B.returns
  have hts := atoms_spec (ws := wsX11_isKind) B.pre
  have hown : s.vm.findClass RX11 = some m.cls := findClass_of_methodNamed B.named
  have hlocks := B.notSynchronized
  subst hsz
  have hS : va_S (th_A τ s.heap.size) s.heap s.heap [] := va_S.rf
  have hl := lv_entry ([.int p0]) (n := 1) (Nat.le_of_ble_eq_true rfl)
  rw [lg_entry_eq]
  generalize (lg_sl ([.int p0]) ++ List.replicate (1 - (lg_sl ([.int p0])).length) Slot.unset).toArray = ls at hl ⊢
  have hl : lv_has ls 1 [(0, .int p0)] := hl
  have hF : F_X11_isKind τ Z gi gr p0 = F_X11_isKind τ Z gi gr p0 := rfl
  refine lv_iload_n hx hb dX11_isKind_0 rfl (lv_at hl 0 rfl) ?_
  refine lv_iconst (v := 0) hx hb dX11_isKind_1 ic_0 ?_
  refine lv_iconst (v := 2) hx hb dX11_isKind_2 ic_2 ?_
  have hA1 := th_Asub (τ := τ) hS
  refine va_calli (va_runS (As := [.int p0, .int 0, .int 2]) (rest := []) ⟨hx, hb, hml, hown, hts⟩ (k_X11_within l D cA Z τ gi gr _ p0 0 2) (va_cwS 3 hts gX11_isKind_X11_within rfl rfl rfl (by decide +kernel) ⟨Nat.le_of_ble_eq_true rfl, Nat.le_of_ble_eq_true rfl⟩) ⟨th_blind, (th_pre hH hK hN hZ hS hA1)⟩ rfl rfl hl.1 rfl (lv_room (Nat.le_of_ble_eq_true rfl)) dX11_isKind_3 ⟨Nat.le_of_ble_eq_true rfl, Nat.le_of_ble_eq_true rfl⟩) hS (fun q _ h => hA1 q h) hA1 (fun x2 u t H locs ht hvm hw2 hB hz1 hk1 hS => ?_)
  try dsimp only at hw2 hB
  rw [ht] at hB
  have hH := hB
  exact W.zret (v := x2) hx hb hr (rg_nb hw2.1) (fun t ht hW => ⟨⟨x2, (), rfl, ⟨hw2.1, (fun h9 => rg_wi rgc_0 rgc_2 (hw2.2.1 h9)), (hF.trans (by simp only [F_X11_isKind, hw2.2.2.1])), (fun h9 h8 => (hw2.2.2.2 h9) (rg_iw (by decide) (by decide) h8))⟩, th_Ht ht hH⟩, hS.F ht⟩) hS.2.2 dX11_isKind_6

noncomputable def F_X11_isHour (τ : th_t) (Z : th_Zt) (gi : th_i) (gr : th_r) (p0 : Int32) : Int32 :=
  let x2 : Int32 := F_X11_within τ Z gi gr p0 0 23
  x2
set_option maxHeartbeats 8000000 in
set_option maxRecDepth 100000 in
theorem k_X11_isHour (l : Launch) (D : va_G) (cA : Nat → ClassId) (Z : th_Zt) (τ : th_t) (gi : th_i) (gr : th_r) (sz : Nat) (p0 : Int32) : Met l yX11_isHour wsX11_isHour ({ frames := 1, cells := 0, slots := 0, locals := 22 }) (va_Pc [.int p0] (th_Pre D cA Z τ gi gr sz)) (va_Qi (fun (r : Int32) (_ : Unit) => rg 0 1 r ∧ (¬ r = 0 → rg 0 23 p0) ∧ (F_X11_isHour τ Z gi gr p0 = r) ∧ (r = 0 → ¬ rg 0 23 p0)) (fun (_ : Unit) t => th_H D cA τ gi gr t.heap) (th_A τ sz)) 0 0 (th_A τ sz) := by
  refine Met.ofW (cc := cX11_isHour) (maxL := 1) (ret := (some .boolean)) (by decide) rfl ?_
  intro p e s m args below meth c s₁ B hml hv
  obtain ⟨rfl, hsz, hH, hK, hN, hZ⟩ := hv
  have hx := B.exec
  have hb := B.bytes
  have hr := B.returns
  have hts := atoms_spec (ws := wsX11_isHour) B.pre
  have hown : s.vm.findClass RX11 = some m.cls := findClass_of_methodNamed B.named
  have hlocks := B.notSynchronized
  subst hsz
  have hS : va_S (th_A τ s.heap.size) s.heap s.heap [] := va_S.rf
  have hl := lv_entry ([.int p0]) (n := 1) (Nat.le_of_ble_eq_true rfl)
  rw [lg_entry_eq]
  generalize (lg_sl ([.int p0]) ++ List.replicate (1 - (lg_sl ([.int p0])).length) Slot.unset).toArray = ls at hl ⊢
  have hl : lv_has ls 1 [(0, .int p0)] := hl
  have hF : F_X11_isHour τ Z gi gr p0 = F_X11_isHour τ Z gi gr p0 := rfl
  refine lv_iload_n hx hb dX11_isHour_0 rfl (lv_at hl 0 rfl) ?_
  refine lv_iconst (v := 0) hx hb dX11_isHour_1 ic_0 ?_
  refine lv_bipush (v := 23) hx hb dX11_isHour_2 bp_23 ?_
  have hA1 := th_Asub (τ := τ) hS
  refine va_calli (va_runS (As := [.int p0, .int 0, .int 23]) (rest := []) ⟨hx, hb, hml, hown, hts⟩ (k_X11_within l D cA Z τ gi gr _ p0 0 23) (va_cwS 3 hts gX11_isHour_X11_within rfl rfl rfl (by decide +kernel) ⟨Nat.le_of_ble_eq_true rfl, Nat.le_of_ble_eq_true rfl⟩) ⟨th_blind, (th_pre hH hK hN hZ hS hA1)⟩ rfl rfl hl.1 rfl (lv_room (Nat.le_of_ble_eq_true rfl)) dX11_isHour_4 ⟨Nat.le_of_ble_eq_true rfl, Nat.le_of_ble_eq_true rfl⟩) hS (fun q _ h => hA1 q h) hA1 (fun x2 u t H locs ht hvm hw2 hB hz1 hk1 hS => ?_)
  try dsimp only at hw2 hB
  rw [ht] at hB
  have hH := hB
  exact W.zret (v := x2) hx hb hr (rg_nb hw2.1) (fun t ht hW => ⟨⟨x2, (), rfl, ⟨hw2.1, (fun h9 => rg_wi rgc_0 rgc_23 (hw2.2.1 h9)), (hF.trans (by simp only [F_X11_isHour, hw2.2.2.1])), (fun h9 h8 => (hw2.2.2.2 h9) (rg_iw (by decide) (by decide) h8))⟩, th_Ht ht hH⟩, hS.F ht⟩) hS.2.2 dX11_isHour_7

noncomputable def F_X11_isFlag (τ : th_t) (Z : th_Zt) (gi : th_i) (gr : th_r) (p0 : Int32) : Int32 :=
  let x2 : Int32 := F_X11_within τ Z gi gr p0 0 1
  x2
set_option maxHeartbeats 8000000 in
set_option maxRecDepth 100000 in
theorem k_X11_isFlag (l : Launch) (D : va_G) (cA : Nat → ClassId) (Z : th_Zt) (τ : th_t) (gi : th_i) (gr : th_r) (sz : Nat) (p0 : Int32) : Met l yX11_isFlag wsX11_isFlag ({ frames := 1, cells := 0, slots := 0, locals := 22 }) (va_Pc [.int p0] (th_Pre D cA Z τ gi gr sz)) (va_Qi (fun (r : Int32) (_ : Unit) => rg 0 1 r ∧ (¬ r = 0 → rg 0 1 p0) ∧ (F_X11_isFlag τ Z gi gr p0 = r) ∧ (r = 0 → ¬ rg 0 1 p0)) (fun (_ : Unit) t => th_H D cA τ gi gr t.heap) (th_A τ sz)) 0 0 (th_A τ sz) := by
  refine Met.ofW (cc := cX11_isFlag) (maxL := 1) (ret := (some .boolean)) (by decide) rfl ?_
  intro p e s m args below meth c s₁ B hml hv
  obtain ⟨rfl, hsz, hH, hK, hN, hZ⟩ := hv
  have hx := B.exec
  have hb := B.bytes
  have hr := B.returns
  have hts := atoms_spec (ws := wsX11_isFlag) B.pre
  have hown : s.vm.findClass RX11 = some m.cls := findClass_of_methodNamed B.named
  have hlocks := B.notSynchronized
  subst hsz
  have hS : va_S (th_A τ s.heap.size) s.heap s.heap [] := va_S.rf
  have hl := lv_entry ([.int p0]) (n := 1) (Nat.le_of_ble_eq_true rfl)
  rw [lg_entry_eq]
  generalize (lg_sl ([.int p0]) ++ List.replicate (1 - (lg_sl ([.int p0])).length) Slot.unset).toArray = ls at hl ⊢
  have hl : lv_has ls 1 [(0, .int p0)] := hl
  have hF : F_X11_isFlag τ Z gi gr p0 = F_X11_isFlag τ Z gi gr p0 := rfl
  refine lv_iload_n hx hb dX11_isFlag_0 rfl (lv_at hl 0 rfl) ?_
  refine lv_iconst (v := 0) hx hb dX11_isFlag_1 ic_0 ?_
  refine lv_iconst (v := 1) hx hb dX11_isFlag_2 ic_1 ?_
  have hA1 := th_Asub (τ := τ) hS
  refine va_calli (va_runS (As := [.int p0, .int 0, .int 1]) (rest := []) ⟨hx, hb, hml, hown, hts⟩ (k_X11_within l D cA Z τ gi gr _ p0 0 1) (va_cwS 3 hts gX11_isFlag_X11_within rfl rfl rfl (by decide +kernel) ⟨Nat.le_of_ble_eq_true rfl, Nat.le_of_ble_eq_true rfl⟩) ⟨th_blind, (th_pre hH hK hN hZ hS hA1)⟩ rfl rfl hl.1 rfl (lv_room (Nat.le_of_ble_eq_true rfl)) dX11_isFlag_3 ⟨Nat.le_of_ble_eq_true rfl, Nat.le_of_ble_eq_true rfl⟩) hS (fun q _ h => hA1 q h) hA1 (fun x2 u t H locs ht hvm hw2 hB hz1 hk1 hS => ?_)
  try dsimp only at hw2 hB
  rw [ht] at hB
  have hH := hB
  exact W.zret (v := x2) hx hb hr (rg_nb hw2.1) (fun t ht hW => ⟨⟨x2, (), rfl, ⟨hw2.1, (fun h9 => rg_wi rgc_0 rgc_1 (hw2.2.1 h9)), (hF.trans (by simp only [F_X11_isFlag, hw2.2.2.1])), (fun h9 h8 => (hw2.2.2.2 h9) (rg_iw (by decide) (by decide) h8))⟩, th_Ht ht hH⟩, hS.F ht⟩) hS.2.2 dX11_isFlag_6

noncomputable def F_X11_isForce (τ : th_t) (Z : th_Zt) (gi : th_i) (gr : th_r) (p0 : Int32) : Int32 :=
  let x2 : Int32 := F_X11_within τ Z gi gr p0 1 100
  x2
set_option maxHeartbeats 8000000 in
set_option maxRecDepth 100000 in
theorem k_X11_isForce (l : Launch) (D : va_G) (cA : Nat → ClassId) (Z : th_Zt) (τ : th_t) (gi : th_i) (gr : th_r) (sz : Nat) (p0 : Int32) : Met l yX11_isForce wsX11_isForce ({ frames := 1, cells := 0, slots := 0, locals := 22 }) (va_Pc [.int p0] (th_Pre D cA Z τ gi gr sz)) (va_Qi (fun (r : Int32) (_ : Unit) => rg 0 1 r ∧ (¬ r = 0 → rg 1 100 p0) ∧ (F_X11_isForce τ Z gi gr p0 = r) ∧ (r = 0 → ¬ rg 1 100 p0)) (fun (_ : Unit) t => th_H D cA τ gi gr t.heap) (th_A τ sz)) 0 0 (th_A τ sz) := by
  refine Met.ofW (cc := cX11_isForce) (maxL := 1) (ret := (some .boolean)) (by decide) rfl ?_
  intro p e s m args below meth c s₁ B hml hv
  obtain ⟨rfl, hsz, hH, hK, hN, hZ⟩ := hv
  have hx := B.exec
  have hb := B.bytes
  have hr := B.returns
  have hts := atoms_spec (ws := wsX11_isForce) B.pre
  have hown : s.vm.findClass RX11 = some m.cls := findClass_of_methodNamed B.named
  have hlocks := B.notSynchronized
  subst hsz
  have hS : va_S (th_A τ s.heap.size) s.heap s.heap [] := va_S.rf
  have hl := lv_entry ([.int p0]) (n := 1) (Nat.le_of_ble_eq_true rfl)
  rw [lg_entry_eq]
  generalize (lg_sl ([.int p0]) ++ List.replicate (1 - (lg_sl ([.int p0])).length) Slot.unset).toArray = ls at hl ⊢
  have hl : lv_has ls 1 [(0, .int p0)] := hl
  have hF : F_X11_isForce τ Z gi gr p0 = F_X11_isForce τ Z gi gr p0 := rfl
  refine lv_iload_n hx hb dX11_isForce_0 rfl (lv_at hl 0 rfl) ?_
  refine lv_iconst (v := 1) hx hb dX11_isForce_1 ic_1 ?_
  refine lv_bipush (v := 100) hx hb dX11_isForce_2 bp_100 ?_
  have hA1 := th_Asub (τ := τ) hS
  refine va_calli (va_runS (As := [.int p0, .int 1, .int 100]) (rest := []) ⟨hx, hb, hml, hown, hts⟩ (k_X11_within l D cA Z τ gi gr _ p0 1 100) (va_cwS 3 hts gX11_isForce_X11_within rfl rfl rfl (by decide +kernel) ⟨Nat.le_of_ble_eq_true rfl, Nat.le_of_ble_eq_true rfl⟩) ⟨th_blind, (th_pre hH hK hN hZ hS hA1)⟩ rfl rfl hl.1 rfl (lv_room (Nat.le_of_ble_eq_true rfl)) dX11_isForce_4 ⟨Nat.le_of_ble_eq_true rfl, Nat.le_of_ble_eq_true rfl⟩) hS (fun q _ h => hA1 q h) hA1 (fun x2 u t H locs ht hvm hw2 hB hz1 hk1 hS => ?_)
  try dsimp only at hw2 hB
  rw [ht] at hB
  have hH := hB
  exact W.zret (v := x2) hx hb hr (rg_nb hw2.1) (fun t ht hW => ⟨⟨x2, (), rfl, ⟨hw2.1, (fun h9 => rg_wi rgc_1 rgc_100 (hw2.2.1 h9)), (hF.trans (by simp only [F_X11_isForce, hw2.2.2.1])), (fun h9 h8 => (hw2.2.2.2 h9) (rg_iw (by decide) (by decide) h8))⟩, th_Ht ht hH⟩, hS.F ht⟩) hS.2.2 dX11_isForce_7

noncomputable def F_X1_buoyOf (τ : th_t) (Z : th_Zt) (gi : th_i) (gr : th_r) (h0 : Nat) (p1 : Int32) : Int32 :=
  let x2 : Int32 := F_X11_within τ Z gi gr p1 0 15
  if x2 = (0 : Int32) then (
    (-1)) else (
    let q9 : Nat := (gr h0 0).getD 0
    let x10 : Int32 := gi q9 p1.toNatClampNeg
    x10)
set_option maxHeartbeats 8000000 in
set_option maxRecDepth 100000 in
theorem k_X1_buoyOf (l : Launch) (D : va_G) (cA : Nat → ClassId) (Z : th_Zt) (τ : th_t) (gi : th_i) (gr : th_r) (sz : Nat) (h0 : Nat) (t_h0 : τ h0 = 2) (p1 : Int32) : Met l yX1_buoyOf wsX1_buoyOf ({ frames := 1, cells := 0, slots := 0, locals := 22 }) (va_Pc [.ref h0, .int p1] (th_Pre D cA Z τ gi gr sz)) (va_Qi (fun (r : Int32) (_ : Unit) => (F_X1_buoyOf τ Z gi gr h0 p1 = r)) (fun (_ : Unit) t => th_H D cA τ gi gr t.heap) (th_A τ sz)) 0 0 (th_A τ sz) := by
  refine Met.ofW (cc := cX1_buoyOf) (maxL := 2) (ret := (some .int)) (by decide) rfl ?_
  intro p e s m args below meth c s₁ B hml hv
  obtain ⟨rfl, hsz, hH, hK, hN, hZ⟩ := hv
  have hx := B.exec
  have hb := B.bytes
  have hr := B.returns
  have hts := atoms_spec (ws := wsX1_buoyOf) B.pre
  have hown : s.vm.findClass RX1 = some m.cls := findClass_of_methodNamed B.named
  have hlocks := B.notSynchronized
  subst hsz
  have hS : va_S (th_A τ s.heap.size) s.heap s.heap [] := va_S.rf
  have hl := lv_entry ([.ref h0, .int p1]) (n := 2) (Nat.le_of_ble_eq_true rfl)
  rw [lg_entry_eq]
  generalize (lg_sl ([.ref h0, .int p1]) ++ List.replicate (2 - (lg_sl ([.ref h0, .int p1])).length) Slot.unset).toArray = ls at hl ⊢
  have hl : lv_has ls 2 [(0, .ref h0), (1, .int p1)] := hl
  have hF : F_X1_buoyOf τ Z gi gr h0 p1 = F_X1_buoyOf τ Z gi gr h0 p1 := rfl
  refine lv_iload_n hx hb dX1_buoyOf_0 rfl (lv_at hl 1 rfl) ?_
  refine lv_iconst (v := 0) hx hb dX1_buoyOf_1 ic_0 ?_
  refine lv_bipush (v := 15) hx hb dX1_buoyOf_2 bp_15 ?_
  have hA1 := th_Asub (τ := τ) hS
  refine va_calli (va_runSN (As := [.int p1, .int 0, .int 15]) (rest := []) ⟨hx, hb, hml, hown, hts⟩ (k_X11_within l D cA Z τ gi gr _ p1 0 15) ⟨va_cnB (host := RX11) 3 hts gX1_buoyOf_X11_within_n24 rfl rfl rfl hN.2.2.2.1 (hts (.initialized RX11) (List.mem_cons_of_mem _ (List.mem_append_left _ (List.mem_of_getElem? (i := 2) rfl)))) (by decide +kernel) ⟨Nat.le_of_ble_eq_true rfl, Nat.le_of_ble_eq_true rfl⟩, (hts (.static yX11_within) (List.mem_cons_of_mem _ (List.mem_append_left _ (List.mem_of_getElem? (i := 1) rfl)))), trivial⟩ ⟨th_blind, (th_pre hH hK hN hZ hS hA1)⟩ rfl rfl hl.1 rfl (lv_room (Nat.le_of_ble_eq_true rfl)) dX1_buoyOf_4 ⟨Nat.le_of_ble_eq_true rfl, Nat.le_of_ble_eq_true rfl⟩) hS (fun q _ h => hA1 q h) hA1 (fun x2 u t H locs ht hvm hw2 hB hz1 hk1 hS => ?_)
  try dsimp only at hw2 hB
  rw [ht] at hB
  have hH := hB
  refine lv_if_eq (tgt := 19) hx hb dX1_buoyOf_7 (th_eqI rfl) (fun c3 => ?_) (fun c3 => ?_)
  · skip
    have f4 : rg 0 0 x2 := rg_w (rg_eq hw2.1 rgc_0 c3).1 (th_leI rfl) (th_leI rfl)
    refine lv_iconst (v := (-1)) hx hb dX1_buoyOf_19 ic_m1 ?_
    exact W.iret (v := (-1)) hx hb hr (fun t ht hW => ⟨⟨(-1), (), rfl, (hF.trans (by simp only [↓reduceIte, F_X1_buoyOf, hw2.2.2.1, eq_true c3])), th_Ht ht hH⟩, hS.F ht⟩) hS.2.2 dX1_buoyOf_20
  · skip
    have f5 : rg 1 1 x2 := rg_w (rg_neL hw2.1 rgc_0 c3) (th_leI rfl) (th_leI rfl)
    have g6 := hw2.2.1 c3
    have f7 : rg 0 2147483647 p1 := rg_w (rg_le rgc_0 (rg_any p1) g6.1).2 (th_leI rfl) (th_leI rfl)
    have f8 : rg 0 15 p1 := rg_w (rg_le f7 rgc_15 g6.2).1 (th_leI rfl) (th_leI rfl)
    refine lv_aload_n hx hb dX1_buoyOf_10 rfl (lv_at hl 0 rfl) ?_
    obtain ⟨q9, r9, t9⟩ : ∃ q, gr h0 0 = some q ∧ τ q = 24 := (hH.at t_h0 (th_nz rfl)).2.1
    refine th_get (ci := 1) (v := .ref q9) (T := TX1) (C := RX1) (N := 2) hx hb hts (fun w h => List.mem_cons_of_mem _ (List.mem_append_right _ h)) hown hK hH t_h0 (th_nz rfl) rfl rfl 0 (th_ltN rfl) (hts (.fieldLink RX1 9 "BayMoorings$Berths" "buoyOfBoat" "[I") (List.mem_cons_of_mem _ (List.mem_append_left _ (List.mem_of_getElem? (i := 0) rfl)))) (fun _ h9 => h9) (th_fR r9 rfl) dX1_buoyOf_11 ?_
    refine lv_iload_n hx hb dX1_buoyOf_14 rfl (lv_at hl 1 rfl) ?_
    refine th_iald hx hb hK hH t9 (th_nz rfl) 0 rfl rfl (rg_in (n := 16) f8 (th_leI rfl) (th_ltI rfl)) dX1_buoyOf_15 ?_
    refine lv_topi (fun x10 e10 => ?_)
    refine lv_goto (tgt := 20) hx hb dX1_buoyOf_16 (th_eqI rfl) ?_
    exact W.iret (v := x10) hx hb hr (fun t ht hW => ⟨⟨x10, (), rfl, (hF.trans (by simp only [↓reduceIte, F_X1_buoyOf, hw2.2.2.1, eq_false c3, r9, Option.getD_some, ← e10])), th_Ht ht hH⟩, hS.F ht⟩) hS.2.2 dX1_buoyOf_20

noncomputable def F_X1_boatOf (τ : th_t) (Z : th_Zt) (gi : th_i) (gr : th_r) (h0 : Nat) (p1 : Int32) : Int32 :=
  let x2 : Int32 := F_X11_within τ Z gi gr p1 0 11
  if x2 = (0 : Int32) then (
    (-1)) else (
    let q9 : Nat := (gr h0 1).getD 0
    let x10 : Int32 := gi q9 p1.toNatClampNeg
    x10)
set_option maxHeartbeats 8000000 in
set_option maxRecDepth 100000 in
theorem k_X1_boatOf (l : Launch) (D : va_G) (cA : Nat → ClassId) (Z : th_Zt) (τ : th_t) (gi : th_i) (gr : th_r) (sz : Nat) (h0 : Nat) (t_h0 : τ h0 = 2) (p1 : Int32) : Met l yX1_boatOf wsX1_boatOf ({ frames := 1, cells := 0, slots := 0, locals := 22 }) (va_Pc [.ref h0, .int p1] (th_Pre D cA Z τ gi gr sz)) (va_Qi (fun (r : Int32) (_ : Unit) => (F_X1_boatOf τ Z gi gr h0 p1 = r)) (fun (_ : Unit) t => th_H D cA τ gi gr t.heap) (th_A τ sz)) 0 0 (th_A τ sz) := by
  refine Met.ofW (cc := cX1_boatOf) (maxL := 2) (ret := (some .int)) (by decide) rfl ?_
  intro p e s m args below meth c s₁ B hml hv
  obtain ⟨rfl, hsz, hH, hK, hN, hZ⟩ := hv
  have hx := B.exec
  have hb := B.bytes
  have hr := B.returns
  have hts := atoms_spec (ws := wsX1_boatOf) B.pre
  have hown : s.vm.findClass RX1 = some m.cls := findClass_of_methodNamed B.named
  have hlocks := B.notSynchronized
  subst hsz
  have hS : va_S (th_A τ s.heap.size) s.heap s.heap [] := va_S.rf
  have hl := lv_entry ([.ref h0, .int p1]) (n := 2) (Nat.le_of_ble_eq_true rfl)
  rw [lg_entry_eq]
  generalize (lg_sl ([.ref h0, .int p1]) ++ List.replicate (2 - (lg_sl ([.ref h0, .int p1])).length) Slot.unset).toArray = ls at hl ⊢
  have hl : lv_has ls 2 [(0, .ref h0), (1, .int p1)] := hl
  have hF : F_X1_boatOf τ Z gi gr h0 p1 = F_X1_boatOf τ Z gi gr h0 p1 := rfl
  refine lv_iload_n hx hb dX1_boatOf_0 rfl (lv_at hl 1 rfl) ?_
  refine lv_iconst (v := 0) hx hb dX1_boatOf_1 ic_0 ?_
  refine lv_bipush (v := 11) hx hb dX1_boatOf_2 bp_11 ?_
  have hA1 := th_Asub (τ := τ) hS
  refine va_calli (va_runSN (As := [.int p1, .int 0, .int 11]) (rest := []) ⟨hx, hb, hml, hown, hts⟩ (k_X11_within l D cA Z τ gi gr _ p1 0 11) ⟨va_cnB (host := RX11) 3 hts gX1_boatOf_X11_within_n24 rfl rfl rfl hN.2.2.2.1 (hts (.initialized RX11) (List.mem_cons_of_mem _ (List.mem_append_left _ (List.mem_of_getElem? (i := 2) rfl)))) (by decide +kernel) ⟨Nat.le_of_ble_eq_true rfl, Nat.le_of_ble_eq_true rfl⟩, (hts (.static yX11_within) (List.mem_cons_of_mem _ (List.mem_append_left _ (List.mem_of_getElem? (i := 1) rfl)))), trivial⟩ ⟨th_blind, (th_pre hH hK hN hZ hS hA1)⟩ rfl rfl hl.1 rfl (lv_room (Nat.le_of_ble_eq_true rfl)) dX1_boatOf_4 ⟨Nat.le_of_ble_eq_true rfl, Nat.le_of_ble_eq_true rfl⟩) hS (fun q _ h => hA1 q h) hA1 (fun x2 u t H locs ht hvm hw2 hB hz1 hk1 hS => ?_)
  try dsimp only at hw2 hB
  rw [ht] at hB
  have hH := hB
  refine lv_if_eq (tgt := 19) hx hb dX1_boatOf_7 (th_eqI rfl) (fun c3 => ?_) (fun c3 => ?_)
  · skip
    have f4 : rg 0 0 x2 := rg_w (rg_eq hw2.1 rgc_0 c3).1 (th_leI rfl) (th_leI rfl)
    refine lv_iconst (v := (-1)) hx hb dX1_boatOf_19 ic_m1 ?_
    exact W.iret (v := (-1)) hx hb hr (fun t ht hW => ⟨⟨(-1), (), rfl, (hF.trans (by simp only [↓reduceIte, F_X1_boatOf, hw2.2.2.1, eq_true c3])), th_Ht ht hH⟩, hS.F ht⟩) hS.2.2 dX1_boatOf_20
  · skip
    have f5 : rg 1 1 x2 := rg_w (rg_neL hw2.1 rgc_0 c3) (th_leI rfl) (th_leI rfl)
    have g6 := hw2.2.1 c3
    have f7 : rg 0 2147483647 p1 := rg_w (rg_le rgc_0 (rg_any p1) g6.1).2 (th_leI rfl) (th_leI rfl)
    have f8 : rg 0 11 p1 := rg_w (rg_le f7 rgc_11 g6.2).1 (th_leI rfl) (th_leI rfl)
    refine lv_aload_n hx hb dX1_boatOf_10 rfl (lv_at hl 0 rfl) ?_
    obtain ⟨q9, r9, t9⟩ : ∃ q, gr h0 1 = some q ∧ τ q = 25 := (hH.at t_h0 (th_nz rfl)).2.2
    refine th_get (ci := 1) (v := .ref q9) (T := TX1) (C := RX1) (N := 2) hx hb hts (fun w h => List.mem_cons_of_mem _ (List.mem_append_right _ h)) hown hK hH t_h0 (th_nz rfl) rfl rfl 1 (th_ltN rfl) (hts (.fieldLink RX1 15 "BayMoorings$Berths" "boatOfBuoy" "[I") (List.mem_cons_of_mem _ (List.mem_append_left _ (List.mem_of_getElem? (i := 0) rfl)))) (fun _ h9 => h9) (th_fR r9 rfl) dX1_boatOf_11 ?_
    refine lv_iload_n hx hb dX1_boatOf_14 rfl (lv_at hl 1 rfl) ?_
    refine th_iald hx hb hK hH t9 (th_nz rfl) 0 rfl rfl (rg_in (n := 12) f8 (th_leI rfl) (th_ltI rfl)) dX1_boatOf_15 ?_
    refine lv_topi (fun x10 e10 => ?_)
    refine lv_goto (tgt := 20) hx hb dX1_boatOf_16 (th_eqI rfl) ?_
    exact W.iret (v := x10) hx hb hr (fun t ht hW => ⟨⟨x10, (), rfl, (hF.trans (by simp only [↓reduceIte, F_X1_boatOf, hw2.2.2.1, eq_false c3, r9, Option.getD_some, ← e10])), th_Ht ht hH⟩, hS.F ht⟩) hS.2.2 dX1_boatOf_20

noncomputable def F_X1_put (τ : th_t) (Z : th_Zt) (gi : th_i) (gr : th_r) (h0 : Nat) (p1 : Int32) (p2 : Int32) : th_i :=
  let x2 : Int32 := F_X11_within τ Z gi gr p1 0 15
  if x2 = (0 : Int32) then (
    (gi)) else (
    let x10 : Int32 := F_X11_within τ Z gi gr p2 0 11
    if x10 = (0 : Int32) then (
      (gi)) else (
      let q17 : Nat := (gr h0 0).getD 0
      let gi18 : th_i := va_up gi q17 (upd (gi q17) p1.toNatClampNeg p2)
      let q19 : Nat := (gr h0 1).getD 0
      let gi20 : th_i := va_up gi18 q19 (upd (gi18 q19) p2.toNatClampNeg p1)
      (gi20)))
set_option maxHeartbeats 8000000 in
set_option maxRecDepth 100000 in
theorem k_X1_put (l : Launch) (D : va_G) (cA : Nat → ClassId) (Z : th_Zt) (τ : th_t) (gi : th_i) (gr : th_r) (sz : Nat) (h0 : Nat) (t_h0 : τ h0 = 2) (p1 : Int32) (p2 : Int32) : Met l yX1_put wsX1_put ({ frames := 1, cells := 0, slots := 0, locals := 22 }) (va_Pc [.ref h0, .int p1, .int p2] (th_Pre D cA Z τ gi gr sz)) (va_Qv (fun (u : th_i × th_r) => th_Mod [2400, 2500] τ gi gr u.1 u.2 ∧ u.2 = gr ∧ (F_X1_put τ Z gi gr h0 p1 p2 = u.1)) (fun (u : th_i × th_r) t => th_H D cA τ u.1 u.2 t.heap) (th_A τ sz)) 0 0 (th_A τ sz) := by
  refine Met.ofW (cc := cX1_put) (maxL := 3) (ret := none) (by decide) rfl ?_
  intro p e s m args below meth c s₁ B hml hv
  obtain ⟨rfl, hsz, hH, hK, hN, hZ⟩ := hv
  have hx := B.exec
  have hb := B.bytes
  have hr := B.returns
  have hts := atoms_spec (ws := wsX1_put) B.pre
  have hown : s.vm.findClass RX1 = some m.cls := findClass_of_methodNamed B.named
  have hlocks := B.notSynchronized
  subst hsz
  have hM : th_Mod [2400, 2500] τ gi gr gi gr := th_Mod.rf
  have hS : va_S (th_A τ s.heap.size) s.heap s.heap [] := va_S.rf
  have hl := lv_entry ([.ref h0, .int p1, .int p2]) (n := 3) (Nat.le_of_ble_eq_true rfl)
  rw [lg_entry_eq]
  generalize (lg_sl ([.ref h0, .int p1, .int p2]) ++ List.replicate (3 - (lg_sl ([.ref h0, .int p1, .int p2])).length) Slot.unset).toArray = ls at hl ⊢
  have hl : lv_has ls 3 [(0, .ref h0), (1, .int p1), (2, .int p2)] := hl
  have hF : F_X1_put τ Z gi gr h0 p1 p2 = F_X1_put τ Z gi gr h0 p1 p2 := rfl
  refine lv_iload_n hx hb dX1_put_0 rfl (lv_at hl 1 rfl) ?_
  refine lv_iconst (v := 0) hx hb dX1_put_1 ic_0 ?_
  refine lv_bipush (v := 15) hx hb dX1_put_2 bp_15 ?_
  have hA1 := th_Asub (τ := τ) hS
  refine va_calli (va_runSN (As := [.int p1, .int 0, .int 15]) (rest := []) ⟨hx, hb, hml, hown, hts⟩ (k_X11_within l D cA Z τ gi gr _ p1 0 15) ⟨va_cnB (host := RX11) 3 hts gX1_put_X11_within_n24 rfl rfl rfl hN.2.2.2.1 (hts (.initialized RX11) (List.mem_cons_of_mem _ (List.mem_append_left _ (List.mem_of_getElem? (i := 3) rfl)))) (by decide +kernel) ⟨Nat.le_of_ble_eq_true rfl, Nat.le_of_ble_eq_true rfl⟩, (hts (.static yX11_within) (List.mem_cons_of_mem _ (List.mem_append_left _ (List.mem_of_getElem? (i := 2) rfl)))), trivial⟩ ⟨th_blind, (th_pre hH hK hN hZ hS hA1)⟩ rfl rfl hl.1 rfl (lv_room (Nat.le_of_ble_eq_true rfl)) dX1_put_4 ⟨Nat.le_of_ble_eq_true rfl, Nat.le_of_ble_eq_true rfl⟩) hS (fun q _ h => hA1 q h) hA1 (fun x2 u t H locs ht hvm hw2 hB hz1 hk1 hS => ?_)
  try dsimp only at hw2 hB
  rw [ht] at hB
  have hH := hB
  refine lv_if_eq (tgt := 34) hx hb dX1_put_7 (th_eqI rfl) (fun c3 => ?_) (fun c3 => ?_)
  · skip
    have f4 : rg 0 0 x2 := rg_w (rg_eq hw2.1 rgc_0 c3).1 (th_leI rfl) (th_leI rfl)
    exact W.vret hx hb hr (fun t ht hW => ⟨⟨(gi, gr), rfl, ⟨hM, rfl, (hF.trans (by simp only [↓reduceIte, F_X1_put, hw2.2.2.1, eq_true c3]))⟩, th_Ht ht hH⟩, hS.F ht⟩) hS.2.2 dX1_put_34
  · skip
    have f5 : rg 1 1 x2 := rg_w (rg_neL hw2.1 rgc_0 c3) (th_leI rfl) (th_leI rfl)
    have g6 := hw2.2.1 c3
    have f7 : rg 0 2147483647 p1 := rg_w (rg_le rgc_0 (rg_any p1) g6.1).2 (th_leI rfl) (th_leI rfl)
    have f8 : rg 0 15 p1 := rg_w (rg_le f7 rgc_15 g6.2).1 (th_leI rfl) (th_leI rfl)
    refine lv_iload_n hx hb dX1_put_10 rfl (lv_at hl 2 rfl) ?_
    refine lv_iconst (v := 0) hx hb dX1_put_11 ic_0 ?_
    refine lv_bipush (v := 11) hx hb dX1_put_12 bp_11 ?_
    have hA9 := th_Asub (τ := τ) hS
    refine va_calli (va_runSN (As := [.int p2, .int 0, .int 11]) (rest := []) ⟨hx, hb, hml, hown, hts⟩ (k_X11_within l D cA Z τ gi gr _ p2 0 11) ⟨va_cnB (host := RX11) 3 hts gX1_put_X11_within_n24 rfl rfl rfl hN.2.2.2.1 (hts (.initialized RX11) (List.mem_cons_of_mem _ (List.mem_append_left _ (List.mem_of_getElem? (i := 3) rfl)))) (by decide +kernel) ⟨Nat.le_of_ble_eq_true rfl, Nat.le_of_ble_eq_true rfl⟩, (hts (.static yX11_within) (List.mem_cons_of_mem _ (List.mem_append_left _ (List.mem_of_getElem? (i := 2) rfl)))), trivial⟩ ⟨th_blind, (th_pre hH hK hN hZ hS hA9)⟩ rfl rfl hl.1 rfl (lv_room (Nat.le_of_ble_eq_true rfl)) dX1_put_14 ⟨Nat.le_of_ble_eq_true rfl, Nat.le_of_ble_eq_true rfl⟩) hS (fun q _ h => hA9 q h) hA9 (fun x10 u t H locs ht hvm hw10 hB hz1 hk1 hS => ?_)
    try dsimp only at hw10 hB
    rw [ht] at hB
    have hH := hB
    refine lv_if_eq (tgt := 34) hx hb dX1_put_17 (th_eqI rfl) (fun c11 => ?_) (fun c11 => ?_)
    · skip
      have f12 : rg 0 0 x10 := rg_w (rg_eq hw10.1 rgc_0 c11).1 (th_leI rfl) (th_leI rfl)
      exact W.vret hx hb hr (fun t ht hW => ⟨⟨(gi, gr), rfl, ⟨hM, rfl, (hF.trans (by simp only [↓reduceIte, F_X1_put, hw2.2.2.1, eq_false c3, hw10.2.2.1, eq_true c11]))⟩, th_Ht ht hH⟩, hS.F ht⟩) hS.2.2 dX1_put_34
    · skip
      have f13 : rg 1 1 x10 := rg_w (rg_neL hw10.1 rgc_0 c11) (th_leI rfl) (th_leI rfl)
      have g14 := hw10.2.1 c11
      have f15 : rg 0 2147483647 p2 := rg_w (rg_le rgc_0 (rg_any p2) g14.1).2 (th_leI rfl) (th_leI rfl)
      have f16 : rg 0 11 p2 := rg_w (rg_le f15 rgc_11 g14.2).1 (th_leI rfl) (th_leI rfl)
      refine lv_aload_n hx hb dX1_put_20 rfl (lv_at hl 0 rfl) ?_
      obtain ⟨q17, r17, t17⟩ : ∃ q, gr h0 0 = some q ∧ τ q = 24 := (hH.at t_h0 (th_nz rfl)).2.1
      refine th_get (ci := 1) (v := .ref q17) (T := TX1) (C := RX1) (N := 2) hx hb hts (fun w h => List.mem_cons_of_mem _ (List.mem_append_right _ h)) hown hK hH t_h0 (th_nz rfl) rfl rfl 0 (th_ltN rfl) (hts (.fieldLink RX1 9 "BayMoorings$Berths" "buoyOfBoat" "[I") (List.mem_cons_of_mem _ (List.mem_append_left _ (List.mem_of_getElem? (i := 0) rfl)))) (fun _ h9 => h9) (th_fR r17 rfl) dX1_put_21 ?_
      refine lv_iload_n hx hb dX1_put_24 rfl (lv_at hl 1 rfl) ?_
      refine lv_iload_n hx hb dX1_put_25 rfl (lv_at hl 2 rfl) ?_
      refine th_iast hx hb hK hH hS t17 (th_nz rfl) (Or.inl (th_nzE t17 rfl)) 0 (fun _ => rfl) rfl (rg_in (n := 16) f8 (th_leI rfl) (th_ltI rfl)) (trivial) dX1_put_26 (fun gi18 H locs hu18 ho18 hH hS => ?_)
      have eg18 : gi18 = va_up gi q17 (upd (gi q17) p1.toNatClampNeg p2) := th_upE hu18 ho18
      have hM := hM.i t17 (th_mem (a := 2400) rfl) ho18
      refine lv_aload_n hx hb dX1_put_27 rfl (lv_at hl 0 rfl) ?_
      obtain ⟨q19, r19, t19⟩ : ∃ q, gr h0 1 = some q ∧ τ q = 25 := (hH.at t_h0 (th_nz rfl)).2.2
      refine th_get (ci := 1) (v := .ref q19) (T := TX1) (C := RX1) (N := 2) hx hb hts (fun w h => List.mem_cons_of_mem _ (List.mem_append_right _ h)) hown hK hH t_h0 (th_nz rfl) rfl rfl 1 (th_ltN rfl) (hts (.fieldLink RX1 15 "BayMoorings$Berths" "boatOfBuoy" "[I") (List.mem_cons_of_mem _ (List.mem_append_left _ (List.mem_of_getElem? (i := 1) rfl)))) (fun _ h9 => h9) (th_fR r19 rfl) dX1_put_28 ?_
      refine lv_iload_n hx hb dX1_put_31 rfl (lv_at hl 2 rfl) ?_
      refine lv_iload_n hx hb dX1_put_32 rfl (lv_at hl 1 rfl) ?_
      refine th_iast hx hb hK hH hS t19 (th_nz rfl) (Or.inl (th_nzE t19 rfl)) 0 (fun _ => rfl) rfl (rg_in (n := 12) f16 (th_leI rfl) (th_ltI rfl)) (trivial) dX1_put_33 (fun gi20 H locs hu20 ho20 hH hS => ?_)
      have eg20 : gi20 = va_up gi18 q19 (upd (gi18 q19) p2.toNatClampNeg p1) := th_upE hu20 ho20
      have e21 : p2 = gi20 q17 (p1.toNatClampNeg) := Eq.trans hu18.symm (Eq.symm (ho20 _ _ (Or.inl (th_ne t17 t19 (th_nz rfl)))))
      have hM := hM.i t19 (th_mem (a := 2500) rfl) ho20
      exact W.vret hx hb hr (fun t ht hW => ⟨⟨(gi20, gr), rfl, ⟨hM, rfl, (hF.trans (by simp only [↓reduceIte, F_X1_put, hw2.2.2.1, eq_false c3, hw10.2.2.1, eq_false c11, r17, Option.getD_some, ← eg18, r19, ← eg20]))⟩, th_Ht ht hH⟩, hS.F ht⟩) hS.2.2 dX1_put_34

noncomputable def F_X1_lift (τ : th_t) (Z : th_Zt) (gi : th_i) (gr : th_r) (h0 : Nat) (p1 : Int32) : th_i :=
  let x2 : Int32 := F_X1_buoyOf τ Z gi gr h0 p1
  let x4 : Int32 := F_X11_within τ Z gi gr p1 0 15
  if x4 = (0 : Int32) then (
    (gi)) else (
    let x12 : Int32 := F_X11_within τ Z gi gr x2 0 11
    if x12 = (0 : Int32) then (
      (gi)) else (
      let q19 : Nat := (gr h0 1).getD 0
      let gi20 : th_i := va_up gi q19 (upd (gi q19) x2.toNatClampNeg (-1))
      let q21 : Nat := (gr h0 0).getD 0
      let gi22 : th_i := va_up gi20 q21 (upd (gi20 q21) p1.toNatClampNeg (-1))
      (gi22)))
set_option maxHeartbeats 8000000 in
set_option maxRecDepth 100000 in
theorem k_X1_lift (l : Launch) (D : va_G) (cA : Nat → ClassId) (Z : th_Zt) (τ : th_t) (gi : th_i) (gr : th_r) (sz : Nat) (h0 : Nat) (t_h0 : τ h0 = 2) (p1 : Int32) : Met l yX1_lift wsX1_lift ({ frames := 2, cells := 0, slots := 0, locals := 43 }) (va_Pc [.ref h0, .int p1] (th_Pre D cA Z τ gi gr sz)) (va_Qv (fun (u : th_i × th_r) => th_Mod [2400, 2500] τ gi gr u.1 u.2 ∧ u.2 = gr ∧ (F_X1_lift τ Z gi gr h0 p1 = u.1)) (fun (u : th_i × th_r) t => th_H D cA τ u.1 u.2 t.heap) (th_A τ sz)) 0 0 (th_A τ sz) := by
  refine Met.ofW (cc := cX1_lift) (maxL := 3) (ret := none) (by decide) rfl ?_
  intro p e s m args below meth c s₁ B hml hv
  obtain ⟨rfl, hsz, hH, hK, hN, hZ⟩ := hv
  have hx := B.exec
  have hb := B.bytes
  have hr := B.returns
  have hts := atoms_spec (ws := wsX1_lift) B.pre
  have hown : s.vm.findClass RX1 = some m.cls := findClass_of_methodNamed B.named
  have hlocks := B.notSynchronized
  subst hsz
  have hM : th_Mod [2400, 2500] τ gi gr gi gr := th_Mod.rf
  have hS : va_S (th_A τ s.heap.size) s.heap s.heap [] := va_S.rf
  have hl := lv_entry ([.ref h0, .int p1]) (n := 3) (Nat.le_of_ble_eq_true rfl)
  rw [lg_entry_eq]
  generalize (lg_sl ([.ref h0, .int p1]) ++ List.replicate (3 - (lg_sl ([.ref h0, .int p1])).length) Slot.unset).toArray = ls at hl ⊢
  have hl : lv_has ls 3 [(0, .ref h0), (1, .int p1)] := hl
  have hF : F_X1_lift τ Z gi gr h0 p1 = F_X1_lift τ Z gi gr h0 p1 := rfl
  refine lv_aload_n hx hb dX1_lift_0 rfl (lv_at hl 0 rfl) ?_
  refine lv_iload_n hx hb dX1_lift_1 rfl (lv_at hl 1 rfl) ?_
  have hA1 := th_Asub (τ := τ) hS
  refine va_calli (va_runV (As := [.int p1]) (rest := []) ⟨hx, hb, hml, hown, hts⟩ (k_X1_buoyOf l D cA Z τ gi gr _ h0 t_h0 p1) (cwV 1 hts gX1_lift_X1_buoyOf rfl rfl rfl hd_X1_buoyOf__1 ⟨Nat.le_of_ble_eq_true rfl, Nat.le_of_ble_eq_true rfl⟩) ⟨th_blind, th_recv hK hH t_h0 (ci := 1) (th_nz rfl) rfl rfl, (th_pre hH hK hN hZ hS hA1)⟩ rfl rfl hl.1 rfl (lv_room (Nat.le_of_ble_eq_true rfl)) dX1_lift_2 ⟨Nat.le_of_ble_eq_true rfl, Nat.le_of_ble_eq_true rfl⟩) hS (fun q _ h => hA1 q h) hA1 (fun x2 u t H locs ht hvm hw2 hB hz1 hk1 hS => ?_)
  try dsimp only at hw2 hB
  rw [ht] at hB
  have hH := hB
  refine lv_istore_n (i := 2) (lv' := [(2, .int x2), (0, .ref h0), (1, .int p1)]) hx hb dX1_lift_5 rfl hl (th_ltN rfl) rfl (fun ls hl => ?_)
  refine lv_iload_n hx hb dX1_lift_6 rfl (lv_at hl 2 rfl) ?_
  refine lv_iconst (v := 0) hx hb dX1_lift_7 ic_0 ?_
  refine lv_bipush (v := 15) hx hb dX1_lift_8 bp_15 ?_
  have hA3 := th_Asub (τ := τ) hS
  refine va_calli (va_runSN (As := [.int p1, .int 0, .int 15]) (rest := []) ⟨hx, hb, hml, hown, hts⟩ (k_X11_within l D cA Z τ gi gr _ p1 0 15) ⟨va_cnB (host := RX11) 3 hts gX1_lift_X11_within_n24 rfl rfl rfl hN.2.2.2.1 (hts (.initialized RX11) (List.mem_cons_of_mem _ (List.mem_append_left _ (List.mem_of_getElem? (i := 8) rfl)))) (by decide +kernel) ⟨Nat.le_of_ble_eq_true rfl, Nat.le_of_ble_eq_true rfl⟩, (hts (.static yX11_within) (List.mem_cons_of_mem _ (List.mem_append_left _ (List.mem_of_getElem? (i := 7) rfl)))), trivial⟩ ⟨th_blind, (th_pre hH hK hN hZ hS hA3)⟩ rfl rfl hl.1 rfl (lv_room (Nat.le_of_ble_eq_true rfl)) dX1_lift_10 ⟨Nat.le_of_ble_eq_true rfl, Nat.le_of_ble_eq_true rfl⟩) hS (fun q _ h => hA3 q h) hA3 (fun x4 u t H locs ht hvm hw4 hB hz1 hk1 hS => ?_)
  try dsimp only at hw4 hB
  rw [ht] at hB
  have hH := hB
  refine lv_if_eq (tgt := 40) hx hb dX1_lift_13 (th_eqI rfl) (fun c5 => ?_) (fun c5 => ?_)
  · skip
    have f6 : rg 0 0 x4 := rg_w (rg_eq hw4.1 rgc_0 c5).1 (th_leI rfl) (th_leI rfl)
    exact W.vret hx hb hr (fun t ht hW => ⟨⟨(gi, gr), rfl, ⟨hM, rfl, (hF.trans (by simp only [↓reduceIte, F_X1_lift, hw2, hw4.2.2.1, eq_true c5]))⟩, th_Ht ht hH⟩, hS.F ht⟩) hS.2.2 dX1_lift_40
  · skip
    have f7 : rg 1 1 x4 := rg_w (rg_neL hw4.1 rgc_0 c5) (th_leI rfl) (th_leI rfl)
    have g8 := hw4.2.1 c5
    have f9 : rg 0 2147483647 p1 := rg_w (rg_le rgc_0 (rg_any p1) g8.1).2 (th_leI rfl) (th_leI rfl)
    have f10 : rg 0 15 p1 := rg_w (rg_le f9 rgc_15 g8.2).1 (th_leI rfl) (th_leI rfl)
    refine lv_iload_n hx hb dX1_lift_16 rfl (lv_at hl 0 rfl) ?_
    refine lv_iconst (v := 0) hx hb dX1_lift_17 ic_0 ?_
    refine lv_bipush (v := 11) hx hb dX1_lift_18 bp_11 ?_
    have hA11 := th_Asub (τ := τ) hS
    refine va_calli (va_runSN (As := [.int x2, .int 0, .int 11]) (rest := []) ⟨hx, hb, hml, hown, hts⟩ (k_X11_within l D cA Z τ gi gr _ x2 0 11) ⟨va_cnB (host := RX11) 3 hts gX1_lift_X11_within_n24 rfl rfl rfl hN.2.2.2.1 (hts (.initialized RX11) (List.mem_cons_of_mem _ (List.mem_append_left _ (List.mem_of_getElem? (i := 8) rfl)))) (by decide +kernel) ⟨Nat.le_of_ble_eq_true rfl, Nat.le_of_ble_eq_true rfl⟩, (hts (.static yX11_within) (List.mem_cons_of_mem _ (List.mem_append_left _ (List.mem_of_getElem? (i := 7) rfl)))), trivial⟩ ⟨th_blind, (th_pre hH hK hN hZ hS hA11)⟩ rfl rfl hl.1 rfl (lv_room (Nat.le_of_ble_eq_true rfl)) dX1_lift_20 ⟨Nat.le_of_ble_eq_true rfl, Nat.le_of_ble_eq_true rfl⟩) hS (fun q _ h => hA11 q h) hA11 (fun x12 u t H locs ht hvm hw12 hB hz1 hk1 hS => ?_)
    try dsimp only at hw12 hB
    rw [ht] at hB
    have hH := hB
    refine lv_if_eq (tgt := 40) hx hb dX1_lift_23 (th_eqI rfl) (fun c13 => ?_) (fun c13 => ?_)
    · skip
      have f14 : rg 0 0 x12 := rg_w (rg_eq hw12.1 rgc_0 c13).1 (th_leI rfl) (th_leI rfl)
      exact W.vret hx hb hr (fun t ht hW => ⟨⟨(gi, gr), rfl, ⟨hM, rfl, (hF.trans (by simp only [↓reduceIte, F_X1_lift, hw2, hw4.2.2.1, eq_false c5, hw12.2.2.1, eq_true c13]))⟩, th_Ht ht hH⟩, hS.F ht⟩) hS.2.2 dX1_lift_40
    · skip
      have f15 : rg 1 1 x12 := rg_w (rg_neL hw12.1 rgc_0 c13) (th_leI rfl) (th_leI rfl)
      have g16 := hw12.2.1 c13
      have f17 : rg 0 2147483647 x2 := rg_w (rg_le rgc_0 (rg_any x2) g16.1).2 (th_leI rfl) (th_leI rfl)
      have f18 : rg 0 11 x2 := rg_w (rg_le f17 rgc_11 g16.2).1 (th_leI rfl) (th_leI rfl)
      refine lv_aload_n hx hb dX1_lift_26 rfl (lv_at hl 1 rfl) ?_
      obtain ⟨q19, r19, t19⟩ : ∃ q, gr h0 1 = some q ∧ τ q = 25 := (hH.at t_h0 (th_nz rfl)).2.2
      refine th_get (ci := 1) (v := .ref q19) (T := TX1) (C := RX1) (N := 2) hx hb hts (fun w h => List.mem_cons_of_mem _ (List.mem_append_right _ h)) hown hK hH t_h0 (th_nz rfl) rfl rfl 1 (th_ltN rfl) (hts (.fieldLink RX1 15 "BayMoorings$Berths" "boatOfBuoy" "[I") (List.mem_cons_of_mem _ (List.mem_append_left _ (List.mem_of_getElem? (i := 0) rfl)))) (fun _ h9 => h9) (th_fR r19 rfl) dX1_lift_27 ?_
      refine lv_iload_n hx hb dX1_lift_30 rfl (lv_at hl 0 rfl) ?_
      refine lv_iconst (v := (-1)) hx hb dX1_lift_31 ic_m1 ?_
      refine th_iast hx hb hK hH hS t19 (th_nz rfl) (Or.inl (th_nzE t19 rfl)) 0 (fun _ => rfl) rfl (rg_in (n := 12) f18 (th_leI rfl) (th_ltI rfl)) (trivial) dX1_lift_32 (fun gi20 H locs hu20 ho20 hH hS => ?_)
      have eg20 : gi20 = va_up gi q19 (upd (gi q19) x2.toNatClampNeg (-1)) := th_upE hu20 ho20
      have hM := hM.i t19 (th_mem (a := 2500) rfl) ho20
      refine lv_aload_n hx hb dX1_lift_33 rfl (lv_at hl 1 rfl) ?_
      obtain ⟨q21, r21, t21⟩ : ∃ q, gr h0 0 = some q ∧ τ q = 24 := (hH.at t_h0 (th_nz rfl)).2.1
      refine th_get (ci := 1) (v := .ref q21) (T := TX1) (C := RX1) (N := 2) hx hb hts (fun w h => List.mem_cons_of_mem _ (List.mem_append_right _ h)) hown hK hH t_h0 (th_nz rfl) rfl rfl 0 (th_ltN rfl) (hts (.fieldLink RX1 9 "BayMoorings$Berths" "buoyOfBoat" "[I") (List.mem_cons_of_mem _ (List.mem_append_left _ (List.mem_of_getElem? (i := 1) rfl)))) (fun _ h9 => h9) (th_fR r21 rfl) dX1_lift_34 ?_
      refine lv_iload_n hx hb dX1_lift_37 rfl (lv_at hl 2 rfl) ?_
      refine lv_iconst (v := (-1)) hx hb dX1_lift_38 ic_m1 ?_
      refine th_iast hx hb hK hH hS t21 (th_nz rfl) (Or.inl (th_nzE t21 rfl)) 0 (fun _ => rfl) rfl (rg_in (n := 16) f10 (th_leI rfl) (th_ltI rfl)) (trivial) dX1_lift_39 (fun gi22 H locs hu22 ho22 hH hS => ?_)
      have eg22 : gi22 = va_up gi20 q21 (upd (gi20 q21) p1.toNatClampNeg (-1)) := th_upE hu22 ho22
      have e23 : (-1) = gi22 q19 (x2.toNatClampNeg) := Eq.trans hu20.symm (Eq.symm (ho22 _ _ (Or.inl (th_ne t19 t21 (th_nz rfl)))))
      have hM := hM.i t21 (th_mem (a := 2400) rfl) ho22
      exact W.vret hx hb hr (fun t ht hW => ⟨⟨(gi22, gr), rfl, ⟨hM, rfl, (hF.trans (by simp only [↓reduceIte, F_X1_lift, hw2, hw4.2.2.1, eq_false c5, hw12.2.2.1, eq_false c13, r19, Option.getD_some, ← eg20, r21, ← eg22]))⟩, th_Ht ht hH⟩, hS.F ht⟩) hS.2.2 dX1_lift_40
