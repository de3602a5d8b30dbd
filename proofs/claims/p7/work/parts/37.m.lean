section
noncomputable def f_X11_buoy_58 (τ : th_t) (Z : th_Zt) (gi : th_i) (gr : th_r) (h0 : Nat) (p1 : Int32) (p2 : Int32) (p3 : Int32) (p4 : Int32) (rO : Int32) (tO : th_t) (gO : th_i) (qO : th_r) (gi_58 : th_i) (gr_58 : th_r) : Prop :=
  let u2 : Int32 × th_i := F_X11_finding τ Z gi_58 gr_58 h0 1
  let x2 : Int32 := u2.1
  let gi2 : th_i := u2.2
  rO = x2 ∧ tO = τ ∧ gO = gi2 ∧ qO = gr_58
noncomputable def f_X11_buoy_27 (τ : th_t) (Z : th_Zt) (gi : th_i) (gr : th_r) (h0 : Nat) (p1 : Int32) (p2 : Int32) (p3 : Int32) (p4 : Int32) (rO : Int32) (tO : th_t) (gO : th_i) (qO : th_r) (gi_27 : th_i) (gr_27 : th_r) (z27_0 : Int32) : Prop :=
  if z27_0 = (0 : Int32) then (
    f_X11_buoy_58 τ Z gi gr h0 p1 p2 p3 p4 rO tO gO qO gi_27 gr_27) else (
    let x7 : Int32 := F_X11_within τ Z gi_27 gr_27 p3 0 300
    if x7 = (0 : Int32) then (
      f_X11_buoy_58 τ Z gi gr h0 p1 p2 p3 p4 rO tO gO qO gi_27 gr_27) else (
      let x15 : Int32 := F_X11_within τ Z gi_27 gr_27 p4 10 400
      if x15 = (0 : Int32) then (
        f_X11_buoy_58 τ Z gi gr h0 p1 p2 p3 p4 rO tO gO qO gi_27 gr_27) else (
        let q21 : Nat := (gr_27 h0 0).getD 0
        let x22 : Int32 := gi_27 q21 5
        if x22 < (12 : Int32) then (
          ∃ (x26 : Int32) (τ26 : th_t) (gi26 : th_i) (gr26 : th_r), M_X0_addBuoy τ Z gi_27 gr_27 q21 p1 p2 p3 p4 x26 τ26 gi26 gr26 ∧ (
          rO = x26 ∧ tO = τ26 ∧ gO = gi26 ∧ qO = gr26)) else (
          let u32 : Int32 × th_i := F_X11_finding τ Z gi_27 gr_27 h0 4
          let x32 : Int32 := u32.1
          let gi32 : th_i := u32.2
          rO = x32 ∧ tO = τ ∧ gO = gi32 ∧ qO = gr_27))))
noncomputable def f_X11_buoy_26 (τ : th_t) (Z : th_Zt) (gi : th_i) (gr : th_r) (h0 : Nat) (p1 : Int32) (p2 : Int32) (p3 : Int32) (p4 : Int32) (rO : Int32) (tO : th_t) (gO : th_i) (qO : th_r) (gi_26 : th_i) (gr_26 : th_r) : Prop :=
  f_X11_buoy_27 τ Z gi gr h0 p1 p2 p3 p4 rO tO gO qO gi_26 gr_26 0
noncomputable def M_X11_buoy (τ : th_t) (Z : th_Zt) (gi : th_i) (gr : th_r) (h0 : Nat) (p1 : Int32) (p2 : Int32) (p3 : Int32) (p4 : Int32) (rO : Int32) (tO : th_t) (gO : th_i) (qO : th_r) : Prop :=
  let x36 : Int32 := F_X11_within τ Z gi gr p1 0 999
  if x36 = (0 : Int32) then (
    f_X11_buoy_26 τ Z gi gr h0 p1 p2 p3 p4 rO tO gO qO gi gr) else (
    let x44 : Int32 := F_X11_within τ Z gi gr p2 0 999
    if x44 = (0 : Int32) then (
      f_X11_buoy_26 τ Z gi gr h0 p1 p2 p3 p4 rO tO gO qO gi gr) else (
      f_X11_buoy_27 τ Z gi gr h0 p1 p2 p3 p4 rO tO gO qO gi gr 1))
set_option maxHeartbeats 20000000 in
set_option maxRecDepth 100000 in
theorem k_X11_buoy (l : Launch) (D : va_G) (cA : Nat → ClassId) (Z : th_Zt) (τ : th_t) (gi : th_i) (gr : th_r) (sz : Nat) (h0 : Nat) (t_h0 : τ h0 = 11) (p1 : Int32) (p2 : Int32) (p3 : Int32) (p4 : Int32) : Met l yX11_buoy wsX11_buoy ({ frames := 4, cells := 2, slots := 32, locals := 92 }) (va_Pc [.ref h0, .int p1, .int p2, .int p3, .int p4] (th_Pre D cA Z τ gi gr sz)) (va_Qi (fun (r : Int32) (u : th_t × th_i × th_r) => th_Ext [105, 2000, 2600, 3600] τ gi gr sz sz u.1 u.2.1 u.2.2 ∧ (M_X11_buoy τ Z gi gr h0 p1 p2 p3 p4 r u.1 u.2.1 u.2.2)) (fun (u : th_t × th_i × th_r) t => th_H D cA u.1 u.2.1 u.2.2 t.heap) (th_A τ sz)) 2 32 (th_A τ sz) := by
  refine Met.ofW (cc := cX11_buoy) (maxL := 6) (ret := (some .int)) (by decide) rfl ?_
  intro p e s m args below meth c s₁ B hml hv
  obtain ⟨rfl, hsz, hH, hK, hN, hZ⟩ := hv
  have hx := B.exec
  have hb := B.bytes
  have hr := B.returns
  have hts := atoms_spec (ws := wsX11_buoy) B.pre
  have hown : s.vm.findClass RX11 = some m.cls := findClass_of_methodNamed B.named
  have hlocks := B.notSynchronized
  subst hsz
  have hA : ∀ q : Nat, s.heap.size ≤ q → (th_A τ s.heap.size) q := fun q h => Or.inr h
  have hE : th_Ext [105, 2000, 2600, 3600] τ gi gr s.heap.size s.heap.size τ gi gr := th_Ext.rf
  have J58 : ∀ (gi_58 : th_i) (gr_58 : th_r) (H : Heap) (locs : List Loc) (ls : Array Slot), th_H D cA τ gi_58 gr_58 H → va_S (th_A τ s.heap.size) s.heap H locs → th_Ext [105, 2000, 2600, 3600] τ gi gr s.heap.size s.heap.size τ gi_58 gr_58 → lv_has ls 6 [(0, .ref h0)] → (∀ (rO : Int32) (tO : th_t) (gO : th_i) (qO : th_r), f_X11_buoy_58 τ Z gi gr h0 p1 p2 p3 p4 rO tO gO qO gi_58 gr_58 → M_X11_buoy τ Z gi gr h0 p1 p2 p3 p4 rO tO gO qO) → W p l e (headSpec wsX11_buoy ({ frames := 4, cells := 2, slots := 32, locals := 92 })).room s m [.ref h0, .int p1, .int p2, .int p3, .int p4].toArray below meth c H locs 0 0 (MQ below (va_Qi (fun (r : Int32) (u : th_t × th_i × th_r) => th_Ext [105, 2000, 2600, 3600] τ gi gr s.heap.size s.heap.size u.1 u.2.1 u.2.2 ∧ (M_X11_buoy τ Z gi gr h0 p1 p2 p3 p4 r u.1 u.2.1 u.2.2)) (fun (u : th_t × th_i × th_r) t => th_H D cA u.1 u.2.1 u.2.2 t.heap) (th_A τ s.heap.size)) [.ref h0, .int p1, .int p2, .int p3, .int p4].toArray s 2 32 (th_A τ s.heap.size)) (F0 m 58 ls []) := by
    intro gi_58 gr_58 H locs ls hH hS hE hl hF
    refine lv_aload_n hx hb dX11_buoy_58 rfl (lv_at hl 0 rfl) ?_
    refine lv_iconst (v := 1) hx hb dX11_buoy_59 ic_1 ?_
    have hA1 : ∀ q, th_A τ _ q → (th_A τ s.heap.size) q := th_AEa hE hS
    refine va_calli (va_runV (As := [.int 1]) (rest := []) ⟨hx, hb, hml, hown, hts⟩ (k_X11_finding l D cA Z τ gi_58 gr_58 _ h0 t_h0 1) (cwV 1 hts gX11_buoy_X11_finding rfl rfl rfl hd_X11_finding__1 ⟨Nat.le_of_ble_eq_true rfl, Nat.le_of_ble_eq_true rfl⟩) ⟨th_blind, tr_11 hK hH t_h0, (th_pre hH hK hN hZ hS hA1)⟩ rfl rfl hl.1 rfl (lv_room (Nat.le_of_ble_eq_true rfl)) dX11_buoy_60 ⟨Nat.le_of_ble_eq_true rfl, Nat.le_of_ble_eq_true rfl⟩) hS (fun q _ h => hA1 q h) hA1 (fun x2 u t H locs ht hvm hw2 hB hz1 hk1 hS => ?_)
    try dsimp only at hw2 hB
    rw [ht] at hB
    have hH := hB
    obtain ⟨gi2, gr2⟩ := u
    try dsimp only at hw2 hH
    obtain rfl : gr_58 = gr2 := (hw2.2.1).symm
    have hE := hE.mod hw2.1 (by decide)
    refine W.widen (k := 2) (n := 32) (Nat.le_of_ble_eq_true rfl) (Nat.le_of_ble_eq_true rfl) ?_
    exact W.iret (v := x2) hx hb hr (fun t ht hW => ⟨⟨x2, (τ, gi2, gr_58), rfl, ⟨hE, (hF _ _ _ _ (by (try simp only [f_X11_buoy_58, hw2.2.2.1]); first | done | exact ⟨(by first | rfl | trivial), (by first | rfl | trivial), (by first | rfl | trivial), (by first | rfl | trivial)⟩))⟩, th_Ht ht hH⟩, hS.F ht⟩) hS.2.2 dX11_buoy_63
  have J27 : ∀ (gi_27 : th_i) (gr_27 : th_r) (H : Heap) (locs : List Loc) (ls : Array Slot) (z27_0 : Int32), th_H D cA τ gi_27 gr_27 H → va_S (th_A τ s.heap.size) s.heap H locs → th_Ext [105, 2000, 2600, 3600] τ gi gr s.heap.size s.heap.size τ gi_27 gr_27 → lv_has ls 6 [(0, .ref h0), (1, .int p1), (2, .int p2), (3, .int p3), (4, .int p4)] → rg 0 1 z27_0 → (∀ (rO : Int32) (tO : th_t) (gO : th_i) (qO : th_r), f_X11_buoy_27 τ Z gi gr h0 p1 p2 p3 p4 rO tO gO qO gi_27 gr_27 z27_0 → M_X11_buoy τ Z gi gr h0 p1 p2 p3 p4 rO tO gO qO) → W p l e (headSpec wsX11_buoy ({ frames := 4, cells := 2, slots := 32, locals := 92 })).room s m [.ref h0, .int p1, .int p2, .int p3, .int p4].toArray below meth c H locs 0 0 (MQ below (va_Qi (fun (r : Int32) (u : th_t × th_i × th_r) => th_Ext [105, 2000, 2600, 3600] τ gi gr s.heap.size s.heap.size u.1 u.2.1 u.2.2 ∧ (M_X11_buoy τ Z gi gr h0 p1 p2 p3 p4 r u.1 u.2.1 u.2.2)) (fun (u : th_t × th_i × th_r) t => th_H D cA u.1 u.2.1 u.2.2 t.heap) (th_A τ s.heap.size)) [.ref h0, .int p1, .int p2, .int p3, .int p4].toArray s 2 32 (th_A τ s.heap.size)) (F0 m 27 ls [.int z27_0]) := by
    intro gi_27 gr_27 H locs ls z27_0 hH hS hE hl fz27_0 hF
    refine lv_istore (i := 5) (lv' := [(5, .int z27_0), (0, .ref h0), (1, .int p1), (2, .int p2), (3, .int p3), (4, .int p4)]) hx hb dX11_buoy_27 hl (th_ltN rfl) rfl (fun ls hl => ?_)
    refine lv_iload hx hb dX11_buoy_29 (lv_at hl 0 rfl) ?_
    refine lv_if_eq (tgt := 58) hx hb dX11_buoy_31 (th_eqI rfl) (fun c3 => ?_) (fun c3 => ?_)
    · skip
      have f4 : rg 0 0 z27_0 := rg_w (rg_eq fz27_0 rgc_0 c3).1 (th_leI rfl) (th_leI rfl)
      exact J58 gi_27 gr_27 _ _ _ hH hS hE (lv_sub hl [1] rfl) (fun rO tO gO qO h9 => hF rO tO gO qO (by (try simp only [f_X11_buoy_27, if_pos c3]); exact h9))
    · skip
      have f5 : rg 1 1 z27_0 := rg_w (rg_neL fz27_0 rgc_0 c3) (th_leI rfl) (th_leI rfl)
      refine lv_iload_n hx hb dX11_buoy_34 rfl (lv_at hl 4 rfl) ?_
      refine lv_iconst (v := 0) hx hb dX11_buoy_35 ic_0 ?_
      refine lv_sipush (v := 300) hx hb dX11_buoy_36 sp_300 ?_
      have hA6 : ∀ q, th_A τ _ q → (th_A τ s.heap.size) q := th_AEa hE hS
      refine va_calli (va_runS (As := [.int p3, .int 0, .int 300]) (rest := []) ⟨hx, hb, hml, hown, hts⟩ (k_X11_within l D cA Z τ gi_27 gr_27 _ p3 0 300) (va_cwS 3 hts gX11_buoy_X11_within rfl rfl rfl (by decide +kernel) ⟨Nat.le_of_ble_eq_true rfl, Nat.le_of_ble_eq_true rfl⟩) ⟨th_blind, (th_pre hH hK hN hZ hS hA6)⟩ rfl rfl hl.1 rfl (lv_room (Nat.le_of_ble_eq_true rfl)) dX11_buoy_39 ⟨Nat.le_of_ble_eq_true rfl, Nat.le_of_ble_eq_true rfl⟩) hS (fun q _ h => hA6 q h) hA6 (fun x7 u t H locs ht hvm hw7 hB hz1 hk1 hS => ?_)
      try dsimp only at hw7 hB
      rw [ht] at hB
      have hH := hB
      refine lv_if_eq (tgt := 58) hx hb dX11_buoy_42 (th_eqI rfl) (fun c8 => ?_) (fun c8 => ?_)
      · skip
        have f9 : rg 0 0 x7 := rg_w (rg_eq hw7.1 rgc_0 c8).1 (th_leI rfl) (th_leI rfl)
        exact J58 gi_27 gr_27 _ _ _ hH hS hE (lv_sub hl [1] rfl) (fun rO tO gO qO h9 => hF rO tO gO qO (by (try simp only [f_X11_buoy_27, if_neg c3, hw7.2.2.1, if_pos c8]); exact h9))
      · skip
        have f10 : rg 1 1 x7 := rg_w (rg_neL hw7.1 rgc_0 c8) (th_leI rfl) (th_leI rfl)
        have g11 := hw7.2.1 c8
        have f12 : rg 0 2147483647 p3 := rg_w (rg_le rgc_0 (rg_any p3) g11.1).2 (th_leI rfl) (th_leI rfl)
        have f13 : rg 0 300 p3 := rg_w (rg_le f12 rgc_300 g11.2).1 (th_leI rfl) (th_leI rfl)
        refine lv_iload hx hb dX11_buoy_45 (lv_at hl 5 rfl) ?_
        refine lv_bipush (v := 10) hx hb dX11_buoy_47 bp_10 ?_
        refine lv_sipush (v := 400) hx hb dX11_buoy_49 sp_400 ?_
        have hA14 : ∀ q, th_A τ _ q → (th_A τ s.heap.size) q := th_AEa hE hS
        refine va_calli (va_runS (As := [.int p4, .int 10, .int 400]) (rest := []) ⟨hx, hb, hml, hown, hts⟩ (k_X11_within l D cA Z τ gi_27 gr_27 _ p4 10 400) (va_cwS 3 hts gX11_buoy_X11_within rfl rfl rfl (by decide +kernel) ⟨Nat.le_of_ble_eq_true rfl, Nat.le_of_ble_eq_true rfl⟩) ⟨th_blind, (th_pre hH hK hN hZ hS hA14)⟩ rfl rfl hl.1 rfl (lv_room (Nat.le_of_ble_eq_true rfl)) dX11_buoy_52 ⟨Nat.le_of_ble_eq_true rfl, Nat.le_of_ble_eq_true rfl⟩) hS (fun q _ h => hA14 q h) hA14 (fun x15 u t H locs ht hvm hw15 hB hz1 hk1 hS => ?_)
        try dsimp only at hw15 hB
        rw [ht] at hB
        have hH := hB
        refine lv_if_ne (tgt := 64) hx hb dX11_buoy_55 (th_eqI rfl) (fun c16 => ?_) (fun c16 => ?_)
        · skip
          have f17 : rg 1 1 x15 := rg_w (rg_neL hw15.1 rgc_0 c16) (th_leI rfl) (th_leI rfl)
          have g18 := hw15.2.1 c16
          have f19 : rg 10 2147483647 p4 := rg_w (rg_le rgc_10 (rg_any p4) g18.1).2 (th_leI rfl) (th_leI rfl)
          have f20 : rg 10 400 p4 := rg_w (rg_le f19 rgc_400 g18.2).1 (th_leI rfl) (th_leI rfl)
          refine lv_aload_n hx hb dX11_buoy_64 rfl (lv_at hl 1 rfl) ?_
          obtain ⟨q21, r21, t21⟩ : ∃ q, gr_27 h0 0 = some q ∧ τ q = 1 := (thI_11 hH t_h0).1
          refine th_get (ci := 10) (v := .ref q21) (T := TX11) (C := RX11) (N := 10) hx hb hts (fun w h => List.mem_cons_of_mem _ (List.mem_append_left _ (List.mem_append_left _ (List.mem_append_right _ h)))) hown hK hH t_h0 (th_nz rfl) (thE_11 _ _ _) rfl 0 (th_ltN rfl) (hts (.fieldLink RX11 10 "BayMoorings" "bay" "LBayMoorings$Bay;") (List.mem_cons_of_mem _ (List.mem_append_left _ (List.mem_append_left _ (List.mem_append_left _ (List.mem_append_left _ (List.mem_of_getElem? (i := 0) rfl))))))) (fun _ h9 => h9) (th_fR r21 rfl) dX11_buoy_65 ?_
          obtain ⟨x22, e22⟩ : ∃ y : Int32, y = gi_27 q21 5 := ⟨_, rfl⟩
          refine th_get (ci := 0) (v := .int x22) (T := TX0) (C := RX0) (N := 9) hx hb hts (fun w h => List.mem_cons_of_mem _ (List.mem_append_left _ (List.mem_append_right _ h))) hown hK hH t21 (th_nz rfl) (thE_1 _ _ _) rfl 5 (th_ltN rfl) (hts (.fieldLink RX11 72 "BayMoorings$Bay" "buoyCount" "I") (List.mem_cons_of_mem _ (List.mem_append_left _ (List.mem_append_left _ (List.mem_append_left _ (List.mem_append_left _ (List.mem_of_getElem? (i := 1) rfl))))))) (fun _ h9 => h9) (th_fI e22 rfl) dX11_buoy_68 ?_
          have f22 : rg 0 12 x22 := rg_e e22 ((thI_1 hH t21).2.2.2.2.2.1)
          refine lv_bipush (v := 12) hx hb dX11_buoy_71 bp_12 ?_
          refine lv_icmp_lt (tgt := 82) hx hb dX11_buoy_73 (th_eqI rfl) (fun c23 => ?_) (fun c23 => ?_)
          · skip
            have f24 : rg 0 11 x22 := rg_w (rg_lt f22 rgc_12 c23).1 (th_leI rfl) (th_leI rfl)
            refine lv_aload_n hx hb dX11_buoy_82 rfl (lv_at hl 1 rfl) ?_
            refine th_get (ci := 10) (v := .ref q21) (T := TX11) (C := RX11) (N := 10) hx hb hts (fun w h => List.mem_cons_of_mem _ (List.mem_append_left _ (List.mem_append_left _ (List.mem_append_right _ h)))) hown hK hH t_h0 (th_nz rfl) (thE_11 _ _ _) rfl 0 (th_ltN rfl) (hts (.fieldLink RX11 10 "BayMoorings" "bay" "LBayMoorings$Bay;") (List.mem_cons_of_mem _ (List.mem_append_left _ (List.mem_append_left _ (List.mem_append_left _ (List.mem_append_left _ (List.mem_of_getElem? (i := 0) rfl))))))) (fun _ h9 => h9) (th_fR r21 rfl) dX11_buoy_83 ?_
            refine lv_iload_n hx hb dX11_buoy_86 rfl (lv_at hl 2 rfl) ?_
            refine lv_iload_n hx hb dX11_buoy_87 rfl (lv_at hl 3 rfl) ?_
            refine lv_iload_n hx hb dX11_buoy_88 rfl (lv_at hl 4 rfl) ?_
            refine lv_iload hx hb dX11_buoy_89 (lv_at hl 5 rfl) ?_
            have hA26 : ∀ q, th_A τ _ q → (th_A τ s.heap.size) q := th_AEa hE hS
            have hle26 := hS.1
            refine va_calli (va_runV (As := [.int p1, .int p2, .int p3, .int p4]) (rest := []) ⟨hx, hb, hml, hown, hts⟩ (k_X0_addBuoy l D cA Z τ gi_27 gr_27 _ q21 t21 p1 p2 p3 p4) (cwV 4 hts gX11_buoy_X0_addBuoy rfl rfl rfl (by decide +kernel) ⟨Nat.le_of_ble_eq_true rfl, Nat.le_of_ble_eq_true rfl⟩) ⟨th_blind, tr_1 hK hH t21, (th_pre hH hK hN hZ hS hA26)⟩ rfl rfl hl.1 rfl (lv_room (Nat.le_of_ble_eq_true rfl)) dX11_buoy_91 ⟨Nat.le_of_ble_eq_true rfl, Nat.le_of_ble_eq_true rfl⟩) hS (fun q _ h => hA26 q h) hA26 (fun x26 u t H locs ht hvm hw26 hB hz26 hk26 hS => ?_)
            obtain ⟨τ26, gi26, gr26⟩ := u
            try dsimp only at hw26 hB
            rw [ht] at hB
            have hH := hB
            have t27 : τ26 h0 = 11 := ((hw26.1.1 h0 (by rw [t_h0]; decide)).trans t_h0)
            have t28 : τ26 q21 = 1 := ((hw26.1.1 q21 (by rw [t21]; decide)).trans t21)
            have hE := hE.tr hw26.1 (Or.inr hle26) hle26 (by decide)
            have r29 : gr26 h0 0 = some q21 := by rw [(hw26.1.2.2 h0 0 (by rw [t_h0]; decide) (by rw [t_h0]; show (1100 : Nat) ∉ _; decide)).2]; exact r21
            refine W.widen (k := 2) (n := 32) (Nat.le_of_ble_eq_true rfl) (Nat.le_of_ble_eq_true rfl) ?_
            exact W.iret (v := x26) hx hb hr (fun t ht hW => ⟨⟨x26, (τ26, gi26, gr26), rfl, ⟨hE, (hF _ _ _ _ (by (try simp only [f_X11_buoy_27, if_neg c3, hw7.2.2.1, if_neg c8, hw15.2.2.1, if_neg c16, r21, Option.getD_some, ← e22, if_pos c23]); refine ⟨x26, τ26, gi26, gr26, hw26.2, ?_⟩; (try simp only [if_neg c3, hw7.2.2.1, if_neg c8, hw15.2.2.1, if_neg c16, r21, Option.getD_some, ← e22, if_pos c23]); first | done | exact ⟨(by first | rfl | trivial), (by first | rfl | trivial), (by first | rfl | trivial), (by first | rfl | trivial)⟩))⟩, th_Ht ht hH⟩, hS.F ht⟩) hS.2.2 dX11_buoy_94
          · skip
            have f30 : rg 12 12 x22 := rg_w (rg_nlt f22 rgc_12 c23).1 (th_leI rfl) (th_leI rfl)
            refine lv_aload_n hx hb dX11_buoy_76 rfl (lv_at hl 1 rfl) ?_
            refine lv_iconst (v := 4) hx hb dX11_buoy_77 ic_4 ?_
            have hA31 : ∀ q, th_A τ _ q → (th_A τ s.heap.size) q := th_AEa hE hS
            refine va_calli (va_runV (As := [.int 4]) (rest := []) ⟨hx, hb, hml, hown, hts⟩ (k_X11_finding l D cA Z τ gi_27 gr_27 _ h0 t_h0 4) (cwV 1 hts gX11_buoy_X11_finding rfl rfl rfl hd_X11_finding__1 ⟨Nat.le_of_ble_eq_true rfl, Nat.le_of_ble_eq_true rfl⟩) ⟨th_blind, tr_11 hK hH t_h0, (th_pre hH hK hN hZ hS hA31)⟩ rfl rfl hl.1 rfl (lv_room (Nat.le_of_ble_eq_true rfl)) dX11_buoy_78 ⟨Nat.le_of_ble_eq_true rfl, Nat.le_of_ble_eq_true rfl⟩) hS (fun q _ h => hA31 q h) hA31 (fun x32 u t H locs ht hvm hw32 hB hz1 hk1 hS => ?_)
            try dsimp only at hw32 hB
            rw [ht] at hB
            have hH := hB
            obtain ⟨gi32, gr32⟩ := u
            try dsimp only at hw32 hH
            obtain rfl : gr_27 = gr32 := (hw32.2.1).symm
            have hE := hE.mod hw32.1 (by decide)
            have e33 : x22 = gi32 q21 5 := Eq.trans e22 (Eq.symm (hw32.1 q21 5 (th_nzE t21 rfl) (th_nmE (key := 105) t21 rfl rfl)).1)
            refine W.widen (k := 2) (n := 32) (Nat.le_of_ble_eq_true rfl) (Nat.le_of_ble_eq_true rfl) ?_
            exact W.iret (v := x32) hx hb hr (fun t ht hW => ⟨⟨x32, (τ, gi32, gr_27), rfl, ⟨hE, (hF _ _ _ _ (by (try simp only [f_X11_buoy_27, if_neg c3, hw7.2.2.1, if_neg c8, hw15.2.2.1, if_neg c16, r21, Option.getD_some, ← e22, if_neg c23, hw32.2.2.1]); first | done | exact ⟨(by first | rfl | trivial), (by first | rfl | trivial), (by first | rfl | trivial), (by first | rfl | trivial)⟩))⟩, th_Ht ht hH⟩, hS.F ht⟩) hS.2.2 dX11_buoy_81
        · skip
          have f34 : rg 0 0 x15 := rg_w (rg_eq hw15.1 rgc_0 c16).1 (th_leI rfl) (th_leI rfl)
          exact J58 gi_27 gr_27 _ _ _ hH hS hE (lv_sub hl [1] rfl) (fun rO tO gO qO h9 => hF rO tO gO qO (by (try simp only [f_X11_buoy_27, if_neg c3, hw7.2.2.1, if_neg c8, hw15.2.2.1, if_pos c16]); exact h9))
  have J26 : ∀ (gi_26 : th_i) (gr_26 : th_r) (H : Heap) (locs : List Loc) (ls : Array Slot), th_H D cA τ gi_26 gr_26 H → va_S (th_A τ s.heap.size) s.heap H locs → th_Ext [105, 2000, 2600, 3600] τ gi gr s.heap.size s.heap.size τ gi_26 gr_26 → lv_has ls 6 [(0, .ref h0), (1, .int p1), (2, .int p2), (3, .int p3), (4, .int p4)] → (∀ (rO : Int32) (tO : th_t) (gO : th_i) (qO : th_r), f_X11_buoy_26 τ Z gi gr h0 p1 p2 p3 p4 rO tO gO qO gi_26 gr_26 → M_X11_buoy τ Z gi gr h0 p1 p2 p3 p4 rO tO gO qO) → W p l e (headSpec wsX11_buoy ({ frames := 4, cells := 2, slots := 32, locals := 92 })).room s m [.ref h0, .int p1, .int p2, .int p3, .int p4].toArray below meth c H locs 0 0 (MQ below (va_Qi (fun (r : Int32) (u : th_t × th_i × th_r) => th_Ext [105, 2000, 2600, 3600] τ gi gr s.heap.size s.heap.size u.1 u.2.1 u.2.2 ∧ (M_X11_buoy τ Z gi gr h0 p1 p2 p3 p4 r u.1 u.2.1 u.2.2)) (fun (u : th_t × th_i × th_r) t => th_H D cA u.1 u.2.1 u.2.2 t.heap) (th_A τ s.heap.size)) [.ref h0, .int p1, .int p2, .int p3, .int p4].toArray s 2 32 (th_A τ s.heap.size)) (F0 m 26 ls []) := by
    intro gi_26 gr_26 H locs ls hH hS hE hl hF
    refine lv_iconst (v := 0) hx hb dX11_buoy_26 ic_0 ?_
    exact J27 gi_26 gr_26 _ _ _ 0 hH hS hE (lv_sub hl [0, 1, 2, 3, 4] rfl) (rg_w rgc_0 (th_leI rfl) (th_leI rfl)) (fun rO tO gO qO h9 => hF rO tO gO qO (by (try simp only [f_X11_buoy_26]); exact h9))
  have hS : va_S (th_A τ s.heap.size) s.heap s.heap [] := va_S.rf
  have hl := lv_entry ([.ref h0, .int p1, .int p2, .int p3, .int p4]) (n := 6) (Nat.le_of_ble_eq_true rfl)
  rw [lg_entry_eq]
  generalize (lg_sl ([.ref h0, .int p1, .int p2, .int p3, .int p4]) ++ List.replicate (6 - (lg_sl ([.ref h0, .int p1, .int p2, .int p3, .int p4])).length) Slot.unset).toArray = ls at hl ⊢
  have hl : lv_has ls 6 [(0, .ref h0), (1, .int p1), (2, .int p2), (3, .int p3), (4, .int p4)] := hl
  have hF : (∀ (rO : Int32) (tO : th_t) (gO : th_i) (qO : th_r), M_X11_buoy τ Z gi gr h0 p1 p2 p3 p4 rO tO gO qO → M_X11_buoy τ Z gi gr h0 p1 p2 p3 p4 rO tO gO qO) := fun rO tO gO qO h9 => h9
  refine lv_iload_n hx hb dX11_buoy_0 rfl (lv_at hl 1 rfl) ?_
  refine lv_iconst (v := 0) hx hb dX11_buoy_1 ic_0 ?_
  refine lv_sipush (v := 999) hx hb dX11_buoy_2 sp_999 ?_
  have hA35 : ∀ q, th_A τ _ q → (th_A τ s.heap.size) q := th_AEa hE hS
  refine va_calli (va_runS (As := [.int p1, .int 0, .int 999]) (rest := []) ⟨hx, hb, hml, hown, hts⟩ (k_X11_within l D cA Z τ gi gr _ p1 0 999) (va_cwS 3 hts gX11_buoy_X11_within rfl rfl rfl (by decide +kernel) ⟨Nat.le_of_ble_eq_true rfl, Nat.le_of_ble_eq_true rfl⟩) ⟨th_blind, (th_pre hH hK hN hZ hS hA35)⟩ rfl rfl hl.1 rfl (lv_room (Nat.le_of_ble_eq_true rfl)) dX11_buoy_5 ⟨Nat.le_of_ble_eq_true rfl, Nat.le_of_ble_eq_true rfl⟩) hS (fun q _ h => hA35 q h) hA35 (fun x36 u t H locs ht hvm hw36 hB hz1 hk1 hS => ?_)
  try dsimp only at hw36 hB
  rw [ht] at hB
  have hH := hB
  refine lv_if_eq (tgt := 26) hx hb dX11_buoy_8 (th_eqI rfl) (fun c37 => ?_) (fun c37 => ?_)
  · skip
    have f38 : rg 0 0 x36 := rg_w (rg_eq hw36.1 rgc_0 c37).1 (th_leI rfl) (th_leI rfl)
    exact J26 gi gr _ _ _ hH hS hE (lv_sub hl [0, 1, 2, 3, 4] rfl) (fun rO tO gO qO h9 => hF rO tO gO qO (by (try simp only [M_X11_buoy, hw36.2.2.1, if_pos c37]); exact h9))
  · skip
    have f39 : rg 1 1 x36 := rg_w (rg_neL hw36.1 rgc_0 c37) (th_leI rfl) (th_leI rfl)
    have g40 := hw36.2.1 c37
    have f41 : rg 0 2147483647 p1 := rg_w (rg_le rgc_0 (rg_any p1) g40.1).2 (th_leI rfl) (th_leI rfl)
    have f42 : rg 0 999 p1 := rg_w (rg_le f41 rgc_999 g40.2).1 (th_leI rfl) (th_leI rfl)
    refine lv_iload_n hx hb dX11_buoy_11 rfl (lv_at hl 2 rfl) ?_
    refine lv_iconst (v := 0) hx hb dX11_buoy_12 ic_0 ?_
    refine lv_sipush (v := 999) hx hb dX11_buoy_13 sp_999 ?_
    have hA43 : ∀ q, th_A τ _ q → (th_A τ s.heap.size) q := th_AEa hE hS
    refine va_calli (va_runS (As := [.int p2, .int 0, .int 999]) (rest := []) ⟨hx, hb, hml, hown, hts⟩ (k_X11_within l D cA Z τ gi gr _ p2 0 999) (va_cwS 3 hts gX11_buoy_X11_within rfl rfl rfl (by decide +kernel) ⟨Nat.le_of_ble_eq_true rfl, Nat.le_of_ble_eq_true rfl⟩) ⟨th_blind, (th_pre hH hK hN hZ hS hA43)⟩ rfl rfl hl.1 rfl (lv_room (Nat.le_of_ble_eq_true rfl)) dX11_buoy_16 ⟨Nat.le_of_ble_eq_true rfl, Nat.le_of_ble_eq_true rfl⟩) hS (fun q _ h => hA43 q h) hA43 (fun x44 u t H locs ht hvm hw44 hB hz1 hk1 hS => ?_)
    try dsimp only at hw44 hB
    rw [ht] at hB
    have hH := hB
    refine lv_if_eq (tgt := 26) hx hb dX11_buoy_19 (th_eqI rfl) (fun c45 => ?_) (fun c45 => ?_)
    · skip
      have f46 : rg 0 0 x44 := rg_w (rg_eq hw44.1 rgc_0 c45).1 (th_leI rfl) (th_leI rfl)
      exact J26 gi gr _ _ _ hH hS hE (lv_sub hl [0, 1, 2, 3, 4] rfl) (fun rO tO gO qO h9 => hF rO tO gO qO (by (try simp only [M_X11_buoy, hw36.2.2.1, if_neg c37, hw44.2.2.1, if_pos c45]); exact h9))
    · skip
      have f47 : rg 1 1 x44 := rg_w (rg_neL hw44.1 rgc_0 c45) (th_leI rfl) (th_leI rfl)
      have g48 := hw44.2.1 c45
      have f49 : rg 0 2147483647 p2 := rg_w (rg_le rgc_0 (rg_any p2) g48.1).2 (th_leI rfl) (th_leI rfl)
      have f50 : rg 0 999 p2 := rg_w (rg_le f49 rgc_999 g48.2).1 (th_leI rfl) (th_leI rfl)
      refine lv_iconst (v := 1) hx hb dX11_buoy_22 ic_1 ?_
      refine lv_goto (tgt := 27) hx hb dX11_buoy_23 (th_eqI rfl) ?_
      exact J27 gi gr _ _ _ 1 hH hS hE (lv_sub hl [0, 1, 2, 3, 4] rfl) (rg_w rgc_1 (th_leI rfl) (th_leI rfl)) (fun rO tO gO qO h9 => hF rO tO gO qO (by (try simp only [M_X11_buoy, hw36.2.2.1, if_neg c37, hw44.2.2.1, if_neg c45]); exact h9))

noncomputable def f_X11_boat_29 (τ : th_t) (Z : th_Zt) (gi : th_i) (gr : th_r) (h0 : Nat) (p1 : Int32) (p2 : Int32) (p3 : Int32) (rO : Int32) (tO : th_t) (gO : th_i) (qO : th_r) (gi_29 : th_i) (gr_29 : th_r) : Prop :=
  let u2 : Int32 × th_i := F_X11_finding τ Z gi_29 gr_29 h0 1
  let x2 : Int32 := u2.1
  let gi2 : th_i := u2.2
  rO = x2 ∧ tO = τ ∧ gO = gi2 ∧ qO = gr_29
noncomputable def M_X11_boat (τ : th_t) (Z : th_Zt) (gi : th_i) (gr : th_r) (h0 : Nat) (p1 : Int32) (p2 : Int32) (p3 : Int32) (rO : Int32) (tO : th_t) (gO : th_i) (qO : th_r) : Prop :=
  let x4 : Int32 := F_X11_isKind τ Z gi gr p1
  if x4 = (0 : Int32) then (
    f_X11_boat_29 τ Z gi gr h0 p1 p2 p3 rO tO gO qO gi gr) else (
    let x10 : Int32 := F_X11_within τ Z gi gr p2 10 300
    if x10 = (0 : Int32) then (
      f_X11_boat_29 τ Z gi gr h0 p1 p2 p3 rO tO gO qO gi gr) else (
      let x18 : Int32 := F_X11_within τ Z gi gr p3 0 100
      if x18 = (0 : Int32) then (
        f_X11_boat_29 τ Z gi gr h0 p1 p2 p3 rO tO gO qO gi gr) else (
        let q24 : Nat := (gr h0 0).getD 0
        let x25 : Int32 := gi q24 6
        if x25 < (16 : Int32) then (
          ∃ (x29 : Int32) (τ29 : th_t) (gi29 : th_i) (gr29 : th_r), M_X0_addBoat τ Z gi gr q24 p1 p2 p3 x29 τ29 gi29 gr29 ∧ (
          rO = x29 ∧ tO = τ29 ∧ gO = gi29 ∧ qO = gr29)) else (
          let u35 : Int32 × th_i := F_X11_finding τ Z gi gr h0 4
          let x35 : Int32 := u35.1
          let gi35 : th_i := u35.2
          rO = x35 ∧ tO = τ ∧ gO = gi35 ∧ qO = gr))))
set_option maxHeartbeats 20000000 in
set_option maxRecDepth 100000 in
theorem k_X11_boat (l : Launch) (D : va_G) (cA : Nat → ClassId) (Z : th_Zt) (τ : th_t) (gi : th_i) (gr : th_r) (sz : Nat) (h0 : Nat) (t_h0 : τ h0 = 11) (p1 : Int32) (p2 : Int32) (p3 : Int32) : Met l yX11_boat wsX11_boat ({ frames := 5, cells := 2, slots := 10, locals := 123 }) (va_Pc [.ref h0, .int p1, .int p2, .int p3] (th_Pre D cA Z τ gi gr sz)) (va_Qi (fun (r : Int32) (u : th_t × th_i × th_r) => th_Ext [106, 2100, 3600] τ gi gr sz sz u.1 u.2.1 u.2.2 ∧ (M_X11_boat τ Z gi gr h0 p1 p2 p3 r u.1 u.2.1 u.2.2)) (fun (u : th_t × th_i × th_r) t => th_H D cA u.1 u.2.1 u.2.2 t.heap) (th_A τ sz)) 2 10 (th_A τ sz) := by
  refine Met.ofW (cc := cX11_boat) (maxL := 4) (ret := (some .int)) (by decide) rfl ?_
  intro p e s m args below meth c s₁ B hml hv
  obtain ⟨rfl, hsz, hH, hK, hN, hZ⟩ := hv
  have hx := B.exec
  have hb := B.bytes
  have hr := B.returns
  have hts := atoms_spec (ws := wsX11_boat) B.pre
  have hown : s.vm.findClass RX11 = some m.cls := findClass_of_methodNamed B.named
  have hlocks := B.notSynchronized
  subst hsz
  have hA : ∀ q : Nat, s.heap.size ≤ q → (th_A τ s.heap.size) q := fun q h => Or.inr h
  have hE : th_Ext [106, 2100, 3600] τ gi gr s.heap.size s.heap.size τ gi gr := th_Ext.rf
  have J29 : ∀ (gi_29 : th_i) (gr_29 : th_r) (H : Heap) (locs : List Loc) (ls : Array Slot), th_H D cA τ gi_29 gr_29 H → va_S (th_A τ s.heap.size) s.heap H locs → th_Ext [106, 2100, 3600] τ gi gr s.heap.size s.heap.size τ gi_29 gr_29 → lv_has ls 4 [(0, .ref h0)] → (∀ (rO : Int32) (tO : th_t) (gO : th_i) (qO : th_r), f_X11_boat_29 τ Z gi gr h0 p1 p2 p3 rO tO gO qO gi_29 gr_29 → M_X11_boat τ Z gi gr h0 p1 p2 p3 rO tO gO qO) → W p l e (headSpec wsX11_boat ({ frames := 5, cells := 2, slots := 10, locals := 123 })).room s m [.ref h0, .int p1, .int p2, .int p3].toArray below meth c H locs 0 0 (MQ below (va_Qi (fun (r : Int32) (u : th_t × th_i × th_r) => th_Ext [106, 2100, 3600] τ gi gr s.heap.size s.heap.size u.1 u.2.1 u.2.2 ∧ (M_X11_boat τ Z gi gr h0 p1 p2 p3 r u.1 u.2.1 u.2.2)) (fun (u : th_t × th_i × th_r) t => th_H D cA u.1 u.2.1 u.2.2 t.heap) (th_A τ s.heap.size)) [.ref h0, .int p1, .int p2, .int p3].toArray s 2 10 (th_A τ s.heap.size)) (F0 m 29 ls []) := by
    intro gi_29 gr_29 H locs ls hH hS hE hl hF
    refine lv_aload_n hx hb dX11_boat_29 rfl (lv_at hl 0 rfl) ?_
    refine lv_iconst (v := 1) hx hb dX11_boat_30 ic_1 ?_
    have hA1 : ∀ q, th_A τ _ q → (th_A τ s.heap.size) q := th_AEa hE hS
    refine va_calli (va_runV (As := [.int 1]) (rest := []) ⟨hx, hb, hml, hown, hts⟩ (k_X11_finding l D cA Z τ gi_29 gr_29 _ h0 t_h0 1) (cwV 1 hts gX11_boat_X11_finding rfl rfl rfl hd_X11_finding__1 ⟨Nat.le_of_ble_eq_true rfl, Nat.le_of_ble_eq_true rfl⟩) ⟨th_blind, tr_11 hK hH t_h0, (th_pre hH hK hN hZ hS hA1)⟩ rfl rfl hl.1 rfl (lv_room (Nat.le_of_ble_eq_true rfl)) dX11_boat_31 ⟨Nat.le_of_ble_eq_true rfl, Nat.le_of_ble_eq_true rfl⟩) hS (fun q _ h => hA1 q h) hA1 (fun x2 u t H locs ht hvm hw2 hB hz1 hk1 hS => ?_)
    try dsimp only at hw2 hB
    rw [ht] at hB
    have hH := hB
    obtain ⟨gi2, gr2⟩ := u
    try dsimp only at hw2 hH
    obtain rfl : gr_29 = gr2 := (hw2.2.1).symm
    have hE := hE.mod hw2.1 (by decide)
    refine W.widen (k := 2) (n := 10) (Nat.le_of_ble_eq_true rfl) (Nat.le_of_ble_eq_true rfl) ?_
    exact W.iret (v := x2) hx hb hr (fun t ht hW => ⟨⟨x2, (τ, gi2, gr_29), rfl, ⟨hE, (hF _ _ _ _ (by (try simp only [f_X11_boat_29, hw2.2.2.1]); first | done | exact ⟨(by first | rfl | trivial), (by first | rfl | trivial), (by first | rfl | trivial), (by first | rfl | trivial)⟩))⟩, th_Ht ht hH⟩, hS.F ht⟩) hS.2.2 dX11_boat_34
  have hS : va_S (th_A τ s.heap.size) s.heap s.heap [] := va_S.rf
  have hl := lv_entry ([.ref h0, .int p1, .int p2, .int p3]) (n := 4) (Nat.le_of_ble_eq_true rfl)
  rw [lg_entry_eq]
  generalize (lg_sl ([.ref h0, .int p1, .int p2, .int p3]) ++ List.replicate (4 - (lg_sl ([.ref h0, .int p1, .int p2, .int p3])).length) Slot.unset).toArray = ls at hl ⊢
  have hl : lv_has ls 4 [(0, .ref h0), (1, .int p1), (2, .int p2), (3, .int p3)] := hl
  have hF : (∀ (rO : Int32) (tO : th_t) (gO : th_i) (qO : th_r), M_X11_boat τ Z gi gr h0 p1 p2 p3 rO tO gO qO → M_X11_boat τ Z gi gr h0 p1 p2 p3 rO tO gO qO) := fun rO tO gO qO h9 => h9
  refine lv_iload_n hx hb dX11_boat_0 rfl (lv_at hl 1 rfl) ?_
  have hA3 : ∀ q, th_A τ _ q → (th_A τ s.heap.size) q := th_AEa hE hS
  refine va_calli (va_runS (As := [.int p1]) (rest := []) ⟨hx, hb, hml, hown, hts⟩ (k_X11_isKind l D cA Z τ gi gr _ p1) (va_cwS 1 hts gX11_boat_X11_isKind rfl rfl rfl (by decide +kernel) ⟨Nat.le_of_ble_eq_true rfl, Nat.le_of_ble_eq_true rfl⟩) ⟨th_blind, (th_pre hH hK hN hZ hS hA3)⟩ rfl rfl hl.1 rfl (lv_room (Nat.le_of_ble_eq_true rfl)) dX11_boat_1 ⟨Nat.le_of_ble_eq_true rfl, Nat.le_of_ble_eq_true rfl⟩) hS (fun q _ h => hA3 q h) hA3 (fun x4 u t H locs ht hvm hw4 hB hz1 hk1 hS => ?_)
  try dsimp only at hw4 hB
  rw [ht] at hB
  have hH := hB
  refine lv_if_eq (tgt := 29) hx hb dX11_boat_4 (th_eqI rfl) (fun c5 => ?_) (fun c5 => ?_)
  · skip
    have f6 : rg 0 0 x4 := rg_w (rg_eq hw4.1 rgc_0 c5).1 (th_leI rfl) (th_leI rfl)
    exact J29 gi gr _ _ _ hH hS hE (lv_sub hl [0] rfl) (fun rO tO gO qO h9 => hF rO tO gO qO (by (try simp only [M_X11_boat, hw4.2.2.1, if_pos c5]); exact h9))
  · skip
    have f7 : rg 1 1 x4 := rg_w (rg_neL hw4.1 rgc_0 c5) (th_leI rfl) (th_leI rfl)
    have f8 : rg 0 2 p1 := rg_w (hw4.2.1 c5) (th_leI rfl) (th_leI rfl)
    refine lv_iload_n hx hb dX11_boat_7 rfl (lv_at hl 2 rfl) ?_
    refine lv_bipush (v := 10) hx hb dX11_boat_8 bp_10 ?_
    refine lv_sipush (v := 300) hx hb dX11_boat_10 sp_300 ?_
    have hA9 : ∀ q, th_A τ _ q → (th_A τ s.heap.size) q := th_AEa hE hS
    refine va_calli (va_runS (As := [.int p2, .int 10, .int 300]) (rest := []) ⟨hx, hb, hml, hown, hts⟩ (k_X11_within l D cA Z τ gi gr _ p2 10 300) (va_cwS 3 hts gX11_boat_X11_within rfl rfl rfl (by decide +kernel) ⟨Nat.le_of_ble_eq_true rfl, Nat.le_of_ble_eq_true rfl⟩) ⟨th_blind, (th_pre hH hK hN hZ hS hA9)⟩ rfl rfl hl.1 rfl (lv_room (Nat.le_of_ble_eq_true rfl)) dX11_boat_13 ⟨Nat.le_of_ble_eq_true rfl, Nat.le_of_ble_eq_true rfl⟩) hS (fun q _ h => hA9 q h) hA9 (fun x10 u t H locs ht hvm hw10 hB hz1 hk1 hS => ?_)
    try dsimp only at hw10 hB
    rw [ht] at hB
    have hH := hB
    refine lv_if_eq (tgt := 29) hx hb dX11_boat_16 (th_eqI rfl) (fun c11 => ?_) (fun c11 => ?_)
    · skip
      have f12 : rg 0 0 x10 := rg_w (rg_eq hw10.1 rgc_0 c11).1 (th_leI rfl) (th_leI rfl)
      exact J29 gi gr _ _ _ hH hS hE (lv_sub hl [0] rfl) (fun rO tO gO qO h9 => hF rO tO gO qO (by (try simp only [M_X11_boat, hw4.2.2.1, if_neg c5, hw10.2.2.1, if_pos c11]); exact h9))
    · skip
      have f13 : rg 1 1 x10 := rg_w (rg_neL hw10.1 rgc_0 c11) (th_leI rfl) (th_leI rfl)
      have g14 := hw10.2.1 c11
      have f15 : rg 10 2147483647 p2 := rg_w (rg_le rgc_10 (rg_any p2) g14.1).2 (th_leI rfl) (th_leI rfl)
      have f16 : rg 10 300 p2 := rg_w (rg_le f15 rgc_300 g14.2).1 (th_leI rfl) (th_leI rfl)
      refine lv_iload_n hx hb dX11_boat_19 rfl (lv_at hl 3 rfl) ?_
      refine lv_iconst (v := 0) hx hb dX11_boat_20 ic_0 ?_
      refine lv_bipush (v := 100) hx hb dX11_boat_21 bp_100 ?_
      have hA17 : ∀ q, th_A τ _ q → (th_A τ s.heap.size) q := th_AEa hE hS
      refine va_calli (va_runS (As := [.int p3, .int 0, .int 100]) (rest := []) ⟨hx, hb, hml, hown, hts⟩ (k_X11_within l D cA Z τ gi gr _ p3 0 100) (va_cwS 3 hts gX11_boat_X11_within rfl rfl rfl (by decide +kernel) ⟨Nat.le_of_ble_eq_true rfl, Nat.le_of_ble_eq_true rfl⟩) ⟨th_blind, (th_pre hH hK hN hZ hS hA17)⟩ rfl rfl hl.1 rfl (lv_room (Nat.le_of_ble_eq_true rfl)) dX11_boat_23 ⟨Nat.le_of_ble_eq_true rfl, Nat.le_of_ble_eq_true rfl⟩) hS (fun q _ h => hA17 q h) hA17 (fun x18 u t H locs ht hvm hw18 hB hz1 hk1 hS => ?_)
      try dsimp only at hw18 hB
      rw [ht] at hB
      have hH := hB
      refine lv_if_ne (tgt := 35) hx hb dX11_boat_26 (th_eqI rfl) (fun c19 => ?_) (fun c19 => ?_)
      · skip
        have f20 : rg 1 1 x18 := rg_w (rg_neL hw18.1 rgc_0 c19) (th_leI rfl) (th_leI rfl)
        have g21 := hw18.2.1 c19
        have f22 : rg 0 2147483647 p3 := rg_w (rg_le rgc_0 (rg_any p3) g21.1).2 (th_leI rfl) (th_leI rfl)
        have f23 : rg 0 100 p3 := rg_w (rg_le f22 rgc_100 g21.2).1 (th_leI rfl) (th_leI rfl)
        refine lv_aload_n hx hb dX11_boat_35 rfl (lv_at hl 0 rfl) ?_
        obtain ⟨q24, r24, t24⟩ : ∃ q, gr h0 0 = some q ∧ τ q = 1 := (thI_11 hH t_h0).1
        refine th_get (ci := 10) (v := .ref q24) (T := TX11) (C := RX11) (N := 10) hx hb hts (fun w h => List.mem_cons_of_mem _ (List.mem_append_left _ (List.mem_append_left _ (List.mem_append_left _ (List.mem_append_left _ (List.mem_append_right _ h)))))) hown hK hH t_h0 (th_nz rfl) (thE_11 _ _ _) rfl 0 (th_ltN rfl) (hts (.fieldLink RX11 10 "BayMoorings" "bay" "LBayMoorings$Bay;") (List.mem_cons_of_mem _ (List.mem_append_left _ (List.mem_append_left _ (List.mem_append_left _ (List.mem_append_left _ (List.mem_append_left _ (List.mem_append_left _ (List.mem_of_getElem? (i := 0) rfl))))))))) (fun _ h9 => h9) (th_fR r24 rfl) dX11_boat_36 ?_
        obtain ⟨x25, e25⟩ : ∃ y : Int32, y = gi q24 6 := ⟨_, rfl⟩
        refine th_get (ci := 0) (v := .int x25) (T := TX0) (C := RX0) (N := 9) hx hb hts (fun w h => List.mem_cons_of_mem _ (List.mem_append_left _ (List.mem_append_left _ (List.mem_append_left _ (List.mem_append_right _ h))))) hown hK hH t24 (th_nz rfl) (thE_1 _ _ _) rfl 6 (th_ltN rfl) (hts (.fieldLink RX11 83 "BayMoorings$Bay" "boatCount" "I") (List.mem_cons_of_mem _ (List.mem_append_left _ (List.mem_append_left _ (List.mem_append_left _ (List.mem_append_left _ (List.mem_append_left _ (List.mem_append_left _ (List.mem_of_getElem? (i := 1) rfl))))))))) (fun _ h9 => h9) (th_fI e25 rfl) dX11_boat_39 ?_
        have f25 : rg 0 16 x25 := rg_e e25 ((thI_1 hH t24).2.2.2.2.2.2)
        refine lv_bipush (v := 16) hx hb dX11_boat_42 bp_16 ?_
        refine lv_icmp_lt (tgt := 53) hx hb dX11_boat_44 (th_eqI rfl) (fun c26 => ?_) (fun c26 => ?_)
        · skip
          have f27 : rg 0 15 x25 := rg_w (rg_lt f25 rgc_16 c26).1 (th_leI rfl) (th_leI rfl)
          refine lv_aload_n hx hb dX11_boat_53 rfl (lv_at hl 0 rfl) ?_
          refine th_get (ci := 10) (v := .ref q24) (T := TX11) (C := RX11) (N := 10) hx hb hts (fun w h => List.mem_cons_of_mem _ (List.mem_append_left _ (List.mem_append_left _ (List.mem_append_left _ (List.mem_append_left _ (List.mem_append_right _ h)))))) hown hK hH t_h0 (th_nz rfl) (thE_11 _ _ _) rfl 0 (th_ltN rfl) (hts (.fieldLink RX11 10 "BayMoorings" "bay" "LBayMoorings$Bay;") (List.mem_cons_of_mem _ (List.mem_append_left _ (List.mem_append_left _ (List.mem_append_left _ (List.mem_append_left _ (List.mem_append_left _ (List.mem_append_left _ (List.mem_of_getElem? (i := 0) rfl))))))))) (fun _ h9 => h9) (th_fR r24 rfl) dX11_boat_54 ?_
          refine lv_iload_n hx hb dX11_boat_57 rfl (lv_at hl 1 rfl) ?_
          refine lv_iload_n hx hb dX11_boat_58 rfl (lv_at hl 2 rfl) ?_
          refine lv_iload_n hx hb dX11_boat_59 rfl (lv_at hl 3 rfl) ?_
          have hA29 : ∀ q, th_A τ _ q → (th_A τ s.heap.size) q := th_AEa hE hS
          have hle29 := hS.1
          refine va_calli (va_runV (As := [.int p1, .int p2, .int p3]) (rest := []) ⟨hx, hb, hml, hown, hts⟩ (k_X0_addBoat l D cA Z τ gi gr _ q24 t24 p1 p2 p3) (cwV 3 hts gX11_boat_X0_addBoat rfl rfl rfl (by decide +kernel) ⟨Nat.le_of_ble_eq_true rfl, Nat.le_of_ble_eq_true rfl⟩) ⟨th_blind, tr_1 hK hH t24, (th_pre hH hK hN hZ hS hA29)⟩ rfl rfl hl.1 rfl (lv_room (Nat.le_of_ble_eq_true rfl)) dX11_boat_60 ⟨Nat.le_of_ble_eq_true rfl, Nat.le_of_ble_eq_true rfl⟩) hS (fun q _ h => hA29 q h) hA29 (fun x29 u t H locs ht hvm hw29 hB hz29 hk29 hS => ?_)
          obtain ⟨τ29, gi29, gr29⟩ := u
          try dsimp only at hw29 hB
          rw [ht] at hB
          have hH := hB
          have t30 : τ29 h0 = 11 := ((hw29.1.1 h0 (by rw [t_h0]; decide)).trans t_h0)
          have t31 : τ29 q24 = 1 := ((hw29.1.1 q24 (by rw [t24]; decide)).trans t24)
          have hE := hE.tr hw29.1 (Or.inr hle29) hle29 (by decide)
          have r32 : gr29 h0 0 = some q24 := by rw [(hw29.1.2.2 h0 0 (by rw [t_h0]; decide) (by rw [t_h0]; show (1100 : Nat) ∉ _; decide)).2]; exact r24
          refine W.widen (k := 2) (n := 10) (Nat.le_of_ble_eq_true rfl) (Nat.le_of_ble_eq_true rfl) ?_
          exact W.iret (v := x29) hx hb hr (fun t ht hW => ⟨⟨x29, (τ29, gi29, gr29), rfl, ⟨hE, (hF _ _ _ _ (by (try simp only [M_X11_boat, hw4.2.2.1, if_neg c5, hw10.2.2.1, if_neg c11, hw18.2.2.1, if_neg c19, r24, Option.getD_some, ← e25, if_pos c26]); refine ⟨x29, τ29, gi29, gr29, hw29.2, ?_⟩; (try simp only [hw4.2.2.1, if_neg c5, hw10.2.2.1, if_neg c11, hw18.2.2.1, if_neg c19, r24, Option.getD_some, ← e25, if_pos c26]); first | done | exact ⟨(by first | rfl | trivial), (by first | rfl | trivial), (by first | rfl | trivial), (by first | rfl | trivial)⟩))⟩, th_Ht ht hH⟩, hS.F ht⟩) hS.2.2 dX11_boat_63
        · skip
          have f33 : rg 16 16 x25 := rg_w (rg_nlt f25 rgc_16 c26).1 (th_leI rfl) (th_leI rfl)
          refine lv_aload_n hx hb dX11_boat_47 rfl (lv_at hl 0 rfl) ?_
          refine lv_iconst (v := 4) hx hb dX11_boat_48 ic_4 ?_
          have hA34 : ∀ q, th_A τ _ q → (th_A τ s.heap.size) q := th_AEa hE hS
          refine va_calli (va_runV (As := [.int 4]) (rest := []) ⟨hx, hb, hml, hown, hts⟩ (k_X11_finding l D cA Z τ gi gr _ h0 t_h0 4) (cwV 1 hts gX11_boat_X11_finding rfl rfl rfl hd_X11_finding__1 ⟨Nat.le_of_ble_eq_true rfl, Nat.le_of_ble_eq_true rfl⟩) ⟨th_blind, tr_11 hK hH t_h0, (th_pre hH hK hN hZ hS hA34)⟩ rfl rfl hl.1 rfl (lv_room (Nat.le_of_ble_eq_true rfl)) dX11_boat_49 ⟨Nat.le_of_ble_eq_true rfl, Nat.le_of_ble_eq_true rfl⟩) hS (fun q _ h => hA34 q h) hA34 (fun x35 u t H locs ht hvm hw35 hB hz1 hk1 hS => ?_)
          try dsimp only at hw35 hB
          rw [ht] at hB
          have hH := hB
          obtain ⟨gi35, gr35⟩ := u
          try dsimp only at hw35 hH
          obtain rfl : gr = gr35 := (hw35.2.1).symm
          have hE := hE.mod hw35.1 (by decide)
          have e36 : x25 = gi35 q24 6 := Eq.trans e25 (Eq.symm (hw35.1 q24 6 (th_nzE t24 rfl) (th_nmE (key := 106) t24 rfl rfl)).1)
          refine W.widen (k := 2) (n := 10) (Nat.le_of_ble_eq_true rfl) (Nat.le_of_ble_eq_true rfl) ?_
          exact W.iret (v := x35) hx hb hr (fun t ht hW => ⟨⟨x35, (τ, gi35, gr), rfl, ⟨hE, (hF _ _ _ _ (by (try simp only [M_X11_boat, hw4.2.2.1, if_neg c5, hw10.2.2.1, if_neg c11, hw18.2.2.1, if_neg c19, r24, Option.getD_some, ← e25, if_neg c26, hw35.2.2.1]); first | done | exact ⟨(by first | rfl | trivial), (by first | rfl | trivial), (by first | rfl | trivial), (by first | rfl | trivial)⟩))⟩, th_Ht ht hH⟩, hS.F ht⟩) hS.2.2 dX11_boat_52
      · skip
        have f37 : rg 0 0 x18 := rg_w (rg_eq hw18.1 rgc_0 c19).1 (th_leI rfl) (th_leI rfl)
        exact J29 gi gr _ _ _ hH hS hE (lv_sub hl [0] rfl) (fun rO tO gO qO h9 => hF rO tO gO qO (by (try simp only [M_X11_boat, hw4.2.2.1, if_neg c5, hw10.2.2.1, if_neg c11, hw18.2.2.1, if_pos c19]); exact h9))
end
section
/-! ===== what the reference's loops rest on ===== -/
theorem th_root {lo : Int} {y a b m x : Int32} (ea : a.toInt = y.toInt + 1) (eb : b.toInt = y.toInt + 1) (em : m = a * b) (fy : rg 0 400 y) (fm : rg lo 160000 m) (ex : x.toInt = y.toInt + 1) : rg 0 400 x := by
  obtain ⟨p1, p2⟩ := fy
  obtain ⟨q1, q2⟩ := fm
  have h : y.toInt ≠ 400 := by
    intro h
    rw [em, Int32.toInt_mul, ea, eb, h, rg_bm (by decide) (by decide)] at q2
    exact absurd q2 (by decide)
  exact ⟨by omega, by omega⟩
def pl_no (gi : th_i) (gr : th_r) (h0 : Nat) (k : Int) (b : Int32) : Prop := ∀ j : Nat, (j : Int) < k → ∀ q, gr h0 18 = some q → ¬ gi q j = b
def pl_post (gi : th_i) (gr : th_r) (h0 : Nat) (b r : Int32) : Prop := (r = -1 → pl_no gi gr h0 (gi h0 17).toInt b) ∧ (¬ r = -1 → 0 ≤ r.toInt ∧ r.toInt < (gi h0 17).toInt ∧ ∃ q, gr h0 18 = some q ∧ gi q r.toNatClampNeg = b)
theorem pl_0 {gi : th_i} {gr : th_r} {h0 : Nat} {k : Int} {b : Int32} (h : k = 0) : pl_no gi gr h0 k b := fun j hj => by omega
theorem th_clamp {x : Int32} (h : 0 ≤ x.toInt) : (x.toNatClampNeg : Int) = x.toInt := by
  show ((x.toInt.toNat : Nat) : Int) = x.toInt
  omega
theorem pl_s {gi : th_i} {gr : th_r} {h0 q : Nat} {x y v b : Int32} {lo hi : Int} (h : pl_no gi gr h0 y.toInt b) (e : x.toInt = y.toInt + 1) (fy : rg lo hi y) (r : gr h0 18 = some q) (ev : v = gi q y.toNatClampNeg) (ne : ¬ v = b) (hl : 0 ≤ lo) : pl_no gi gr h0 x.toInt b := fun j hj q' hq' => by
  obtain ⟨p1, p2⟩ := fy
  have hc := th_clamp (x := y) (by omega)
  by_cases hjy : (j : Int) < y.toInt
  · exact h j hjy q' hq'
  · have hj2 : j = y.toNatClampNeg := by omega
    rw [r] at hq'
    cases hq'
    rw [hj2, ← ev]
    exact ne
theorem pl_end {gi : th_i} {gr : th_r} {h0 : Nat} {y w b : Int32} (h : pl_no gi gr h0 y.toInt b) (eq : w = gi h0 17) (c : w ≤ y) : pl_post gi gr h0 b (-1) := by
  refine ⟨fun _ j hj => h j ?_, fun q => absurd rfl q⟩
  rw [← eq] at hj
  have := Int32.le_iff_toInt_le.mp c
  omega
theorem pl_hit {gi : th_i} {gr : th_r} {h0 q : Nat} {y w v b : Int32} {lo hi : Int} (fy : rg lo hi y) (eq : w = gi h0 17) (c : ¬ w ≤ y) (r : gr h0 18 = some q) (ev : v = gi q y.toNatClampNeg) (hv : v = b) (hl : 0 ≤ lo) : pl_post gi gr h0 b y := by
  obtain ⟨p1, p2⟩ := fy
  have c2 := Int32.lt_iff_toInt_lt.mp (Int32.not_le.mp c)
  rw [eq] at c2
  refine ⟨fun e => ?_, fun _ => ⟨by omega, c2, q, r, by rw [← ev]; exact hv⟩⟩
  rw [e] at p1
  have : (-1 : Int32).toInt = -1 := by decide
  omega
theorem pl_nm {lo hi : Int} {r : Int32} (f : rg lo hi r) (hl : 0 ≤ lo) : ¬ r = -1 := fun e => by
  obtain ⟨p1, p2⟩ := f
  rw [e] at p1
  have : (-1 : Int32).toInt = -1 := by decide
  omega
theorem pl_again {gi : th_i} {gr : th_r} {h0 : Nat} {b r1 r2 : Int32} {lo hi : Int} (h1 : pl_post gi gr h0 b r1) (f1 : rg lo hi r1) (h2 : pl_post gi gr h0 b r2) (f2 : rg (-1) 9 r2) (hl : 0 ≤ lo) : rg 0 9 r2 := by
  obtain ⟨a1, a2, q, hq, hb⟩ := h1.2 (pl_nm f1 hl)
  have hne : ¬ r2 = -1 := fun e => h2.1 e r1.toNatClampNeg (by rw [th_clamp a1]; exact a2) q hq hb
  exact ⟨(h2.2 hne).1, f2.2⟩
theorem pl_wait {gi : th_i} {gr : th_r} {h0 : Nat} {b r : Int32} {lo hi : Int} (h : pl_post gi gr h0 b r) (f : rg lo hi r) (g : rg 0 10 (gi h0 17)) (hl : 0 ≤ lo) : rg 1 10 (gi h0 17) := by
  obtain ⟨a1, a2, -⟩ := h.2 (pl_nm f hl)
  exact ⟨by omega, g.2⟩
theorem of_lt {gi : th_i} {h0 : Nat} {y w : Int32} (eq : w = gi h0 17) (c : ¬ w ≤ y) : y.toInt < (gi h0 17).toInt := by
  rw [← eq]
  exact Int32.lt_iff_toInt_lt.mp (Int32.not_le.mp c)
theorem of_wait {gi : th_i} {h0 : Nat} {r : Int32} {lo hi : Int} (h : 0 ≤ r.toInt → r.toInt < (gi h0 17).toInt) (f : rg lo hi r) (g : rg 0 10 (gi h0 17)) (hl : 0 ≤ lo) : rg 1 10 (gi h0 17) := by
  obtain ⟨p1, p2⟩ := f
  have := h (by omega)
  exact ⟨by omega, g.2⟩
end
section
/-! ===== findMost: an odometer of tried[0 .. i] ===== -/
def mo_T (gi : th_i) (gr : th_r) (h0 j : Nat) : Int := (gr h0 30).elim 0 (fun q => (gi q j).toInt)
theorem mo_Ti {gi : th_i} {gr : th_r} {h0 q j : Nat} (r : gr h0 30 = some q) : mo_T gi gr h0 j = (gi q j).toInt := by unfold mo_T; rw [r]; rfl
def mo_w (T : Nat → Int) (i : Int) (j w : Nat) : Nat := if (j : Int) ≤ i then (14 - T j).toNat * w else 0
def mo_m (T : Nat → Int) (i : Int) : Nat := mo_w T i 0 1048576 + mo_w T i 1 65536 + mo_w T i 2 4096 + mo_w T i 3 256 + mo_w T i 4 16 + mo_w T i 5 1
theorem mo_dec1 {T T' : Nat → Int} {i i' : Int} (h0 : 0 ≤ i) (h5 : i ≤ 5) (hi : i' = i - 1) (he : ∀ j : Nat, (j : Int) < i → T' j = T j) (ht : ∀ j : Nat, (j : Int) = i → T j ≤ 13) : mo_m T' i' < mo_m T i := by
  subst hi
  rcases (show i = 0 ∨ i = 1 ∨ i = 2 ∨ i = 3 ∨ i = 4 ∨ i = 5 by omega) with rfl | rfl | rfl | rfl | rfl | rfl
  · have t := ht 0 (by decide)
    simp [mo_m, mo_w]
    omega
  · have t := ht 1 (by decide)
    simp [mo_m, mo_w, he 0 (by decide)]
    omega
  · have t := ht 2 (by decide)
    simp [mo_m, mo_w, he 0 (by decide), he 1 (by decide)]
    omega
  · have t := ht 3 (by decide)
    simp [mo_m, mo_w, he 0 (by decide), he 1 (by decide), he 2 (by decide)]
    omega
  · have t := ht 4 (by decide)
    simp [mo_m, mo_w, he 0 (by decide), he 1 (by decide), he 2 (by decide), he 3 (by decide)]
    omega
  · have t := ht 5 (by decide)
    simp [mo_m, mo_w, he 0 (by decide), he 1 (by decide), he 2 (by decide), he 3 (by decide), he 4 (by decide)]
    omega
theorem mo_dec2 {T T' : Nat → Int} {i i' : Int} (h0 : 0 ≤ i) (h4 : i ≤ 4) (hi : i' = i + 1) (he : ∀ j : Nat, (j : Int) < i → T' j = T j) (hu : ∀ j : Nat, (j : Int) = i → T j + 1 ≤ T' j ∧ T' j ≤ 12) (hm : ∀ j : Nat, (j : Int) = i + 1 → T' j = -1) : mo_m T' i' < mo_m T i := by
  subst hi
  rcases (show i = 0 ∨ i = 1 ∨ i = 2 ∨ i = 3 ∨ i = 4 by omega) with rfl | rfl | rfl | rfl | rfl
  · have t := hu 0 (by decide)
    simp [mo_m, mo_w, hm 1 (by decide)]
    omega
  · have t := hu 1 (by decide)
    simp [mo_m, mo_w, he 0 (by decide), hm 2 (by decide)]
    omega
  · have t := hu 2 (by decide)
    simp [mo_m, mo_w, he 0 (by decide), he 1 (by decide), hm 3 (by decide)]
    omega
  · have t := hu 3 (by decide)
    simp [mo_m, mo_w, he 0 (by decide), he 1 (by decide), he 2 (by decide), hm 4 (by decide)]
    omega
  · have t := hu 4 (by decide)
    simp [mo_m, mo_w, he 0 (by decide), he 1 (by decide), he 2 (by decide), he 3 (by decide), hm 5 (by decide)]
    omega
def mo_eq (gi : th_i) (gr : th_r) (g : th_i) (r : th_r) (h0 : Nat) (i : Int) : Prop := g h0 27 = gi h0 27 ∧ ∀ j : Nat, (j : Int) ≤ i → mo_T g r h0 j = mo_T gi gr h0 j
def mo_up (gi : th_i) (gr : th_r) (g : th_i) (r : th_r) (h0 : Nat) (i : Int) : Prop := g h0 27 = gi h0 27 ∧ (∀ j : Nat, (j : Int) < i → mo_T g r h0 j = mo_T gi gr h0 j) ∧ ∀ j : Nat, (j : Int) = i → mo_T gi gr h0 j + 1 ≤ mo_T g r h0 j
theorem mo_rf {gi : th_i} {gr : th_r} {h0 : Nat} {i : Int} : mo_eq gi gr gi gr h0 i := ⟨rfl, fun _ _ => rfl⟩
/-- a store elsewhere -/
theorem mo_kT {g g2 : th_i} {r : th_r} {h0 a k : Nat} (hq : ∀ q, r h0 30 = some q → q ≠ a) (ho : ∀ b j, b ≠ a ∨ j ≠ k → g2 b j = g b j) (j : Nat) : mo_T g2 r h0 j = mo_T g r h0 j := by
  cases h : r h0 30 with
  | none => simp [mo_T, h]
  | some q => rw [mo_Ti h, mo_Ti h, ho q j (Or.inl (hq q h))]
theorem mo_eq.k {gi : th_i} {gr : th_r} {g g2 : th_i} {r : th_r} {h0 a k : Nat} {i : Int} (h : mo_eq gi gr g r h0 i) (hq : ∀ q, r h0 30 = some q → q ≠ a) (hs : h0 ≠ a ∨ 27 ≠ k) (ho : ∀ b j, b ≠ a ∨ j ≠ k → g2 b j = g b j) : mo_eq gi gr g2 r h0 i := ⟨(ho h0 27 hs).trans h.1, fun j hj => (mo_kT hq ho j).trans (h.2 j hj)⟩
theorem mo_inc {gi : th_i} {gr : th_r} {g g2 : th_i} {r : th_r} {h0 q : Nat} {y v x : Int32} (h : mo_eq gi gr g r h0 y.toInt) (hr : r h0 30 = some q) (hne : h0 ≠ q) (fy : 0 ≤ y.toInt) (ev : v = g q y.toNatClampNeg) (ex : x.toInt = v.toInt + 1) (hu : g2 q y.toNatClampNeg = x) (ho : ∀ b j, b ≠ q ∨ j ≠ y.toNatClampNeg → g2 b j = g b j) : mo_up gi gr g2 r h0 y.toInt := by
  have hc := th_clamp fy
  refine ⟨(ho h0 27 (Or.inl hne)).trans h.1, fun j hj => ?_, fun j hj => ?_⟩
  · rw [← h.2 j (by omega), mo_Ti hr, mo_Ti hr, ho q j (Or.inr (by omega))]
  · have hj2 : j = y.toNatClampNeg := by omega
    rw [← h.2 j (by omega), mo_Ti hr, mo_Ti hr, hj2, hu, ← ev, ex]
    omega
theorem mo_inc2 {gi : th_i} {gr : th_r} {g g2 : th_i} {r : th_r} {h0 q : Nat} {y v x : Int32} (h : mo_up gi gr g r h0 y.toInt) (hr : r h0 30 = some q) (hne : h0 ≠ q) (fy : 0 ≤ y.toInt) (ev : v = g q y.toNatClampNeg) (ex : x.toInt = v.toInt + 1) (hu : g2 q y.toNatClampNeg = x) (ho : ∀ b j, b ≠ q ∨ j ≠ y.toNatClampNeg → g2 b j = g b j) : mo_up gi gr g2 r h0 y.toInt := by
  have hc := th_clamp fy
  refine ⟨(ho h0 27 (Or.inl hne)).trans h.1, fun j hj => ?_, fun j hj => ?_⟩
  · rw [← h.2.1 j (by omega), mo_Ti hr, mo_Ti hr, ho q j (Or.inr (by omega))]
  · have hj2 : j = y.toNatClampNeg := by omega
    have h3 := h.2.2 j hj
    rw [mo_Ti hr, hj2, ← ev] at h3
    rw [mo_Ti hr, hj2, hu, ex]
    rw [← hj2] at *
    omega
theorem mo_low {gi : th_i} {gr : th_r} {g : th_i} {r : th_r} {h0 : Nat} {y : Int32} (h : mo_up gi gr g r h0 y.toInt) (fy : 0 ≤ y.toInt) (hl : -1 ≤ mo_T gi gr h0 y.toNatClampNeg) : 0 ≤ mo_T g r h0 y.toNatClampNeg := by
  have := h.2.2 y.toNatClampNeg (th_clamp fy)
  omega
theorem mo_lt {gi : th_i} {h0 : Nat} {y w : Int32} (h : y.toInt ≤ (gi h0 27).toInt) (ew : w = gi h0 27) (c : ¬ y = w) : y.toInt < (gi h0 27).toInt := by
  rw [← ew] at h ⊢
  have := rg_neI c
  omega
/-- back by one, over an unchanged or a grown place -/
theorem mo_b1 {gi g : th_i} {h0 : Nat} {x y : Int32} (h : y.toInt ≤ (gi h0 27).toInt) (e : g h0 27 = gi h0 27) (ex : x.toInt = y.toInt + -1) : x.toInt ≤ (g h0 27).toInt := by
  rw [e]
  omega
theorem mo_b2 {gi : th_i} {gr : th_r} {g : th_i} {r : th_r} {h0 : Nat} {x y : Int32} (h : ∀ j : Nat, (j : Int) ≤ y.toInt → mo_T gi gr h0 j ≤ 12) (he : ∀ j : Nat, (j : Int) < y.toInt → mo_T g r h0 j = mo_T gi gr h0 j) (ex : x.toInt = y.toInt + -1) : ∀ j : Nat, (j : Int) ≤ x.toInt → mo_T g r h0 j ≤ 12 := fun j hj => by
  rw [he j (by omega)]
  exact h j (by omega)
theorem mo_b3 {gi : th_i} {gr : th_r} {g : th_i} {r : th_r} {h0 k : Nat} {x y : Int32} {hi : Int} (fy : rg 0 hi y) (h5 : hi ≤ 5) (h : ∀ j : Nat, (j : Int) ≤ y.toInt → mo_T gi gr h0 j ≤ 12) (he : ∀ j : Nat, (j : Int) < y.toInt → mo_T g r h0 j = mo_T gi gr h0 j) (ex : x.toInt = y.toInt + -1) (hn : mo_m (mo_T gi gr h0) y.toInt < k + 1) : mo_m (mo_T g r h0) x.toInt < k := by
  obtain ⟨p1, p2⟩ := fy
  have := mo_dec1 (T := mo_T gi gr h0) (T' := mo_T g r h0) (i := y.toInt) (i' := x.toInt) p1 (by omega) (by omega) he (fun j hj => by have := h j (by omega); omega)
  omega
theorem mo_eqlt {gi : th_i} {gr : th_r} {g : th_i} {r : th_r} {h0 : Nat} {i : Int} (h : mo_eq gi gr g r h0 i) : ∀ j : Nat, (j : Int) < i → mo_T g r h0 j = mo_T gi gr h0 j := fun j hj => h.2 j (by omega)
/-- on by one: g has grown at y, g2 has -1 behind it -/
theorem mo_f1 {gi g : th_i} {h0 : Nat} {x y : Int32} (h : y.toInt < (gi h0 27).toInt) (e : g h0 27 = gi h0 27) (ex : x.toInt = y.toInt + 1) : x.toInt ≤ (g h0 27).toInt := by
  rw [e]
  omega
theorem mo_T2 {g g2 : th_i} {r : th_r} {h0 q : Nat} {x y : Int32} (hr : r h0 30 = some q) (fy : 0 ≤ y.toInt) (ex : x.toInt = y.toInt + 1) (hu : g2 q x.toNatClampNeg = -1) (ho : ∀ b j, b ≠ q ∨ j ≠ x.toNatClampNeg → g2 b j = g b j) : (∀ j : Nat, (j : Int) ≤ y.toInt → mo_T g2 r h0 j = mo_T g r h0 j) ∧ ∀ j : Nat, (j : Int) = y.toInt + 1 → mo_T g2 r h0 j = -1 := by
  have hc := th_clamp (x := x) (by omega)
  refine ⟨fun j hj => ?_, fun j hj => ?_⟩
  · rw [mo_Ti hr, mo_Ti hr, ho q j (Or.inr (by omega))]
  · rw [mo_Ti hr, show j = x.toNatClampNeg by omega, hu]
    decide
theorem mo_f2 {gi : th_i} {gr : th_r} {g g2 : th_i} {r : th_r} {h0 q : Nat} {x y : Int32} (h : ∀ j : Nat, (j : Int) ≤ y.toInt → mo_T gi gr h0 j ≤ 12) (hp : mo_up gi gr g r h0 y.toInt) (h12 : mo_T g r h0 y.toNatClampNeg ≤ 12) (hr : r h0 30 = some q) (fy : 0 ≤ y.toInt) (ex : x.toInt = y.toInt + 1) (hu : g2 q x.toNatClampNeg = -1) (ho : ∀ b j, b ≠ q ∨ j ≠ x.toNatClampNeg → g2 b j = g b j) : ∀ j : Nat, (j : Int) ≤ x.toInt → mo_T g2 r h0 j ≤ 12 := fun j hj => by
  obtain ⟨a1, a2⟩ := mo_T2 hr fy ex hu ho
  have hc := th_clamp fy
  rcases (show (j : Int) < y.toInt ∨ (j : Int) = y.toInt ∨ (j : Int) = y.toInt + 1 by omega) with h1 | h1 | h1
  · rw [a1 j (by omega), hp.2.1 j h1]
    exact h j (by omega)
  · rw [a1 j (by omega), show j = y.toNatClampNeg by omega]
    exact h12
  · rw [a2 j h1]
    decide
theorem mo_f3 {gi : th_i} {gr : th_r} {g g2 : th_i} {r : th_r} {h0 q k : Nat} {x y : Int32} {hi : Int} (fy : rg 0 hi y) (h4 : hi ≤ 4) (hp : mo_up gi gr g r h0 y.toInt) (h12 : mo_T g r h0 y.toNatClampNeg ≤ 12) (hr : r h0 30 = some q) (ex : x.toInt = y.toInt + 1) (hu : g2 q x.toNatClampNeg = -1) (ho : ∀ b j, b ≠ q ∨ j ≠ x.toNatClampNeg → g2 b j = g b j) (hn : mo_m (mo_T gi gr h0) y.toInt < k + 1) : mo_m (mo_T g2 r h0) x.toInt < k := by
  obtain ⟨p1, p2⟩ := fy
  obtain ⟨a1, a2⟩ := mo_T2 hr p1 ex hu ho
  have hc := th_clamp p1
  have := mo_dec2 (T := mo_T gi gr h0) (T' := mo_T g2 r h0) (i := y.toInt) (i' := x.toInt) p1 (by omega) ex (fun j hj => (a1 j (by omega)).trans (hp.2.1 j hj)) (fun j hj => by
    rw [a1 j (by omega)]
    refine ⟨hp.2.2 j hj, ?_⟩
    rw [show j = y.toNatClampNeg by omega]
    exact h12) a2
  omega
theorem mo_i0 {g g2 : th_i} {r : th_r} {h0 q : Nat} (hr : r h0 30 = some q) (hu : g2 q (0 : Int32).toNatClampNeg = -1) : ∀ j : Nat, (j : Int) ≤ (0 : Int32).toInt → mo_T g2 r h0 j ≤ 12 := fun j hj => by
  have h0 : (0 : Int32).toInt = 0 := by decide
  have hc : (0 : Int32).toNatClampNeg = 0 := by decide
  rw [mo_Ti hr, show j = (0 : Int32).toNatClampNeg by omega, hu]
  decide
theorem mo_le {v : Int32} {t : Int} {lo : Int} {g : th_i} {r : th_r} {h0 q j : Nat} (hr : r h0 30 = some q) (ev : v = g q j) (h : mo_T g r h0 j ≤ t) (f : rg lo 13 v) : rg lo t v := by
  rw [mo_Ti hr, ← ev] at h
  exact ⟨f.1, h⟩
theorem mo_ge {v : Int32} {t : Int} {hi : Int} {g : th_i} {r : th_r} {h0 q j : Nat} (hr : r h0 30 = some q) (ev : v = g q j) (h : t ≤ mo_T g r h0 j) (f : rg (-1) hi v) : rg t hi v := by
  rw [mo_Ti hr, ← ev] at h
  exact ⟨h, f.2⟩
theorem th_q62 {τ : th_t} {r : th_r} {h0 q : Nat} (h : ∃ q, r h0 30 = some q ∧ τ q = 62) (hq : r h0 30 = some q) : τ q = 62 := by
  obtain ⟨q', h1, h2⟩ := h
  rw [hq] at h1
  cases h1
  exact h2
theorem mo_in {g g2 : th_i} {r : th_r} {h0 q j k : Nat} {v x : Int32} {lo : Int} (hr : r h0 30 = some q) (ev : v = g q j) (hu : g2 q j = x) (ex : x.toInt = v.toInt + 1) (f : rg lo 11 v) (hn : (13 - mo_T g r h0 j).toNat < k + 1) : (13 - mo_T g2 r h0 j).toNat < k := by
  rw [mo_Ti hr, ← ev] at hn
  rw [mo_Ti hr, hu, ex]
  have := f.2
  omega
end
section
/-! ===== findRings: who points at whom ===== -/
def fr_R (τ : th_t) (g : th_i) (r : th_r) (h0 s j : Nat) : Int32 := (r h0 s).elim 0 (fun q => if τ q = 65 ∨ τ q = 67 then 0 else g q j)
theorem fr_at {τ : th_t} {g : th_i} {r : th_r} {h0 s q j c : Nat} {x : Int32} (hr : r h0 s = some q) (ht : τ q = c) (hc : ¬ (c = 65 ∨ c = 67)) (e : x = g q j) : fr_R τ g r h0 s j = x := by
  subst ht
  simp only [fr_R, hr, Option.elim_some, if_neg hc, e]
theorem fr_k {τ : th_t} {g g2 : th_i} {r : th_r} {h0 a k c : Nat} (ta : τ a = c) (hc : c = 65 ∨ c = 67) (ho : ∀ b j, b ≠ a ∨ j ≠ k → g2 b j = g b j) : fr_R τ g2 r h0 = fr_R τ g r h0 := by
  subst ta
  funext s j
  cases h : r h0 s with
  | none => simp only [fr_R, h, Option.elim_none]
  | some q =>
    simp only [fr_R, h, Option.elim_some]
    by_cases hq : q = a
    · subst hq
      rw [if_pos hc, if_pos hc]
    · rw [ho q j (Or.inl hq)]
/-- canFit -/
def cf_nd (R : Nat → Nat → Int32) (b : Int32) : Int32 := if R 9 b.toNatClampNeg = 2 then R 11 b.toNatClampNeg / 2 else R 11 b.toNatClampNeg
def cf_l (R : Nat → Nat → Int32) (b p : Int32) : Prop := R 10 b.toNatClampNeg ≤ R 4 p.toNatClampNeg
def cf_u (R : Nat → Nat → Int32) (b p : Int32) (n : Int) : Prop := cf_l R b p ∧ ∀ j : Nat, (j : Int) < n → cf_nd R b ≤ R 3 p.toNatClampNeg + R 13 j
theorem cf_n1 {R : Nat → Nat → Int32} {b x z : Int32} (e9 : R 9 b.toNatClampNeg = x) (c : ¬ x = 2) (e11 : R 11 b.toNatClampNeg = z) : z = cf_nd R b := by
  unfold cf_nd
  rw [e9, if_neg c, e11]
theorem cf_n2 {R : Nat → Nat → Int32} {b x w z : Int32} (e9 : R 9 b.toNatClampNeg = x) (c : x = 2) (e11 : R 11 b.toNatClampNeg = w) (ed : z = w / 2) : z = cf_nd R b := by
  unfold cf_nd
  rw [e9, if_pos c, e11, ed]
theorem cf_l0 {R : Nat → Nat → Int32} {b p x y : Int32} (e10 : R 10 b.toNatClampNeg = x) (e4 : R 4 p.toNatClampNeg = y) (c : y < x) : (¬ (0 : Int32) = 0 ↔ cf_l R b p) := by
  unfold cf_l
  rw [e10, e4]
  exact ⟨fun h => absurd rfl h, fun h => absurd h (Int32.not_le.mpr c)⟩
theorem cf_l1 {R : Nat → Nat → Int32} {b p x y : Int32} (e10 : R 10 b.toNatClampNeg = x) (e4 : R 4 p.toNatClampNeg = y) (c : ¬ y < x) : (¬ (1 : Int32) = 0 ↔ cf_l R b p) := by
  unfold cf_l
  rw [e10, e4]
  exact ⟨fun _ => Int32.not_lt.mp c, fun _ => by decide⟩
theorem cf_z {R : Nat → Nat → Int32} {b p z : Int32} (h : ¬ z = 0 ↔ cf_l R b p) : (¬ z = 0 ↔ cf_u R b p (0 : Int32).toInt) :=
  ⟨fun hz => ⟨h.mp hz, fun j hj => by have h0 : (0 : Int32).toInt = 0 := (by decide); omega⟩, fun hu => h.mpr hu.1⟩
theorem cf_87a {R : Nat → Nat → Int32} {b p y4 y5 : Int32} (h : ¬ y4 = 0 ↔ cf_u R b p y5.toInt) (c : y4 = 0) : ¬ cf_u R b p (y5.toInt + 1) := fun hu => (h.mpr ⟨hu.1, fun j hj => hu.2 j (by omega)⟩) c
theorem cf_87b {R : Nat → Nat → Int32} {b p y5 s u v nd : Int32} {lo hi : Int} (en : nd = cf_nd R b) (fy : rg lo hi y5) (hl : 0 ≤ lo) (e3 : R 3 p.toNatClampNeg = u) (e13 : R 13 y5.toNatClampNeg = v) (es : s = u + v) (c : s < nd) : ¬ cf_u R b p (y5.toInt + 1) := fun hu => by
  have hc := th_clamp (x := y5) (by have := fy.1; omega)
  have h := hu.2 y5.toNatClampNeg (by omega)
  rw [e3, e13, ← es, ← en] at h
  exact absurd h (Int32.not_le.mpr c)
theorem cf_88a {R : Nat → Nat → Int32} {b p : Int32} {n : Int} (h : ¬ cf_u R b p n) : (¬ (0 : Int32) = 0 ↔ cf_u R b p n) := ⟨fun z => absurd rfl z, fun u => absurd u h⟩
theorem cf_88b {R : Nat → Nat → Int32} {b p y4 y5 s u v nd : Int32} {lo hi : Int} (h : ¬ y4 = 0 ↔ cf_u R b p y5.toInt) (c4 : ¬ y4 = 0) (en : nd = cf_nd R b) (fy : rg lo hi y5) (hl : 0 ≤ lo) (e3 : R 3 p.toNatClampNeg = u) (e13 : R 13 y5.toNatClampNeg = v) (es : s = u + v) (c : ¬ s < nd) : (¬ (1 : Int32) = 0 ↔ cf_u R b p (y5.toInt + 1)) :=
  ⟨fun _ => ⟨(h.mp c4).1, fun j hj => by
    have hc := th_clamp (x := y5) (by have := fy.1; omega)
    by_cases hj2 : (j : Int) < y5.toInt
    · exact (h.mp c4).2 j hj2
    · rw [show j = y5.toNatClampNeg by omega, e3, e13, ← es, ← en]
      exact Int32.not_lt.mp c⟩, fun _ => by decide⟩
theorem cf_53 {R : Nat → Nat → Int32} {b p z x y5 : Int32} (h : ¬ z = 0 ↔ cf_u R b p (y5.toInt + 1)) (ex : x.toInt = y5.toInt + 1) : (¬ z = 0 ↔ cf_u R b p x.toInt) := by
  rw [ex]
  exact h
theorem cf_end {R : Nat → Nat → Int32} {b p y4 y5 : Int32} (h : ¬ y4 = 0 ↔ cf_u R b p y5.toInt) (f : rg 24 24 y5) : (¬ y4 = 0 ↔ cf_u R b p 24) := by
  have h1 : y5.toInt = 24 := by
    have := f.1
    have := f.2
    omega
  rw [h1] at h
  exact h
/-- pointed -/
def pt_p (R : Nat → Nat → Int32) (b k : Int32) : Int32 := R 22 (4 * b + k).toNatClampNeg
def pt_hit (R : Nat → Nat → Int32) (b k : Int32) : Prop := ¬ R 7 (pt_p R b k).toNatClampNeg < 0 ∧ R 35 (R 7 (pt_p R b k).toNatClampNeg).toNatClampNeg = 0 ∧ cf_u R b (pt_p R b k) 24
def pt_no (R : Nat → Nat → Int32) (b : Int32) (n : Int) : Prop := ∀ k : Int32, 0 ≤ k.toInt → k.toInt < n → ¬ pt_hit R b k
def pt_post (R : Nat → Nat → Int32) (b r : Int32) : Prop := (∃ k : Int32, 0 ≤ k.toInt ∧ k.toInt < (R 21 b.toNatClampNeg).toInt ∧ pt_no R b k.toInt ∧ pt_hit R b k ∧ r = R 7 (pt_p R b k).toNatClampNeg) ∨ (pt_no R b (R 21 b.toNatClampNeg).toInt ∧ r = b)
theorem pt_one {R : Nat → Nat → Int32} {b r1 r2 : Int32} (h1 : pt_post R b r1) (h2 : pt_post R b r2) : r1 = r2 := by
  rcases h1 with ⟨k1, a1, b1, c1, d1, e1⟩ | ⟨c1, e1⟩
  · rcases h2 with ⟨k2, a2, b2, c2, d2, e2⟩ | ⟨c2, e2⟩
    · have h : k1.toInt = k2.toInt := by
        rcases (show k1.toInt < k2.toInt ∨ k2.toInt < k1.toInt ∨ k1.toInt = k2.toInt by omega) with h | h | h
        · exact absurd d1 (c2 k1 a1 h)
        · exact absurd d2 (c1 k2 a2 h)
        · exact h
      rw [e1, e2, Int32.toInt_inj.mp h]
    · exact absurd d1 (c2 k1 a1 b1)
  · rcases h2 with ⟨k2, a2, b2, c2, d2, e2⟩ | ⟨c2, e2⟩
    · exact absurd d2 (c1 k2 a2 b2)
    · rw [e1, e2]
noncomputable def pt_F (R : Nat → Nat → Int32) (b : Int32) : Int32 := Classical.epsilon (pt_post R b)
theorem pt_eq {R : Nat → Nat → Int32} {b r : Int32} (h : pt_post R b r) : r = pt_F R b := pt_one h (Classical.epsilon_spec ⟨r, h⟩)
theorem pt_0 {R : Nat → Nat → Int32} {b : Int32} : pt_no R b (0 : Int32).toInt := fun k h1 h2 => by
  have h0 : (0 : Int32).toInt = 0 := by decide
  omega
theorem pt_s {R : Nat → Nat → Int32} {b x y : Int32} (h : pt_no R b y.toInt) (hn : ¬ pt_hit R b y) (ex : x.toInt = y.toInt + 1) : pt_no R b x.toInt := fun k h1 h2 => by
  by_cases hk : k.toInt < y.toInt
  · exact h k h1 hk
  · have : k = y := Int32.toInt_inj.mp (by omega)
    rw [this]
    exact hn
theorem pt_px {R : Nat → Nat → Int32} {b y u v x : Int32} (eu : u = 4 * b) (ev : v = u + y) (e22 : R 22 v.toNatClampNeg = x) : pt_p R b y = x := by
  unfold pt_p
  rw [← eu, ← ev, e22]
theorem pt_n1 {R : Nat → Nat → Int32} {b y p a : Int32} (ep : pt_p R b y = p) (e7 : R 7 p.toNatClampNeg = a) (c : a < 0) : ¬ pt_hit R b y := fun h => by
  have h1 := h.1
  rw [ep, e7] at h1
  exact h1 c
theorem pt_n2 {R : Nat → Nat → Int32} {b y p a w : Int32} (ep : pt_p R b y = p) (e7 : R 7 p.toNatClampNeg = a) (e35 : R 35 a.toNatClampNeg = w) (c : ¬ w = 0) : ¬ pt_hit R b y := fun h => by
  have h1 := h.2.1
  rw [ep, e7, e35] at h1
  exact c h1
theorem pt_n3 {R : Nat → Nat → Int32} {b y p z : Int32} (ep : pt_p R b y = p) (hc : ¬ z = 0 ↔ cf_u R b p 24) (c : z = 0) : ¬ pt_hit R b y := fun h => by
  have h1 := h.2.2
  rw [ep] at h1
  exact hc.mpr h1 c
theorem pt_r1 {R : Nat → Nat → Int32} {b y p a w z n : Int32} {lo hi : Int} (h : pt_no R b y.toInt) (fy : rg lo hi y) (hl : 0 ≤ lo) (e21 : R 21 b.toNatClampNeg = n) (cn : ¬ n ≤ y) (ep : pt_p R b y = p) (e7 : R 7 p.toNatClampNeg = a) (ca : ¬ a < 0) (e35 : R 35 a.toNatClampNeg = w) (cw : w = 0) (hc : ¬ z = 0 ↔ cf_u R b p 24) (cz : ¬ z = 0) : pt_post R b a := by
  refine Or.inl ⟨y, by have := fy.1; omega, ?_, h, ⟨?_, ?_, ?_⟩, ?_⟩
  · rw [e21]
    exact Int32.lt_iff_toInt_lt.mp (Int32.not_le.mp cn)
  · rw [ep, e7]
    exact ca
  · rw [ep, e7, e35]
    exact cw
  · rw [ep]
    exact hc.mp cz
  · rw [ep, e7]
theorem pt_r2 {R : Nat → Nat → Int32} {b y n : Int32} (h : pt_no R b y.toInt) (e21 : R 21 b.toNatClampNeg = n) (cn : n ≤ y) : pt_post R b b := by
  refine Or.inr ⟨fun k h1 h2 => h k h1 ?_, rfl⟩
  rw [e21] at h2
  have := Int32.le_iff_toInt_le.mp cn
  omega
/-- isRound -/
def fr_it (F : Int32 → Int32) (b : Int32) : Nat → Int32
  | 0 => b
  | n + 1 => F (fr_it F b n)
def fr_w (R : Nat → Nat → Int32) (b y : Int32) (t : Nat) : Prop := y = fr_it (pt_F R) b (t + 1) ∧ ∀ j, j ≤ t → rg 0 15 (fr_it (pt_F R) b (j + 1))
def fr_x (R : Nat → Nat → Int32) (b y : Int32) : Prop := ∃ t, t ≤ 16 ∧ fr_w R b y t
def fr_rnd (R : Nat → Nat → Int32) (b : Int32) : Prop := fr_x R b b
theorem fr_w0 {R : Nat → Nat → Int32} {b x : Int32} (h : pt_post R b x) (f : rg 0 15 x) : fr_w R b x (0 : Int32).toInt.toNat := by
  have h0 : (0 : Int32).toInt.toNat = 0 := by decide
  rw [h0]
  refine ⟨pt_eq h, fun j hj => ?_⟩
  rw [show j = 0 by omega]
  show rg 0 15 (pt_F R b)
  rw [← pt_eq h]
  exact f
theorem fr_ws {R : Nat → Nat → Int32} {b x y k k2 : Int32} {lo hi : Int} (hw : fr_w R b y k.toInt.toNat) (h : pt_post R y x) (f : rg 0 15 x) (fk : rg lo hi k) (hl : 0 ≤ lo) (ek : k2.toInt = k.toInt + 1) : fr_w R b x k2.toInt.toNat := by
  have hk : k2.toInt.toNat = k.toInt.toNat + 1 := by
    have := fk.1
    omega
  rw [hk]
  obtain ⟨h1, h2⟩ := hw
  have h3 : x = fr_it (pt_F R) b (k.toInt.toNat + 1 + 1) := by
    show x = pt_F R (fr_it (pt_F R) b (k.toInt.toNat + 1))
    rw [← h1]
    exact pt_eq h
  refine ⟨h3, fun j hj => ?_⟩
  by_cases hj2 : j ≤ k.toInt.toNat
  · exact h2 j hj2
  · rw [show j = k.toInt.toNat + 1 by omega, ← h3]
    exact f
theorem fr_we {R : Nat → Nat → Int32} {b y k : Int32} {lo hi : Int} (hw : fr_w R b y k.toInt.toNat) (fk : rg lo hi k) (hh : hi ≤ 16) : fr_x R b y := ⟨k.toInt.toNat, by have := fk.2; omega, hw⟩
theorem fr_wr {R : Nat → Nat → Int32} {b y : Int32} (h : fr_x R b y) (e : y = b) : fr_rnd R b := by
  rw [e] at h
  exact h
/-- at most as many things apart as there are places -/
theorem fr_pig : ∀ (N n : Nat) (f : Nat → Nat), (∀ i, i < n → f i < N) → (∀ i j, i < j → j < n → f i ≠ f j) → n ≤ N := by
  intro N
  induction N with
  | zero =>
    intro n f h _
    by_cases hn : n = 0
    · omega
    · exact absurd (h 0 (by omega)) (Nat.not_lt_zero _)
  | succ N ih =>
    intro n f h1 h2
    by_cases hx : ∃ i, i < n ∧ f i = N
    · obtain ⟨i, hi, hf⟩ := hx
      have := ih (n - 1) (fun j => if j < i then f j else f (j + 1)) (fun j hj => by
        show (if j < i then f j else f (j + 1)) < N
        by_cases hji : j < i
        · rw [if_pos hji]
          have a := h1 j (by omega)
          have b := h2 j i hji hi
          omega
        · rw [if_neg hji]
          have a := h1 (j + 1) (by omega)
          have b := h2 i (j + 1) (by omega) (by omega)
          omega) (fun j k hjk hk => by
        show (if j < i then f j else f (j + 1)) ≠ (if k < i then f k else f (k + 1))
        by_cases hji : j < i
        · rw [if_pos hji]
          by_cases hki : k < i
          · rw [if_pos hki]
            exact h2 j k hjk (by omega)
          · rw [if_neg hki]
            exact h2 j (k + 1) (by omega) (by omega)
        · rw [if_neg hji, if_neg (by omega)]
          exact h2 (j + 1) (k + 1) (by omega) (by omega))
      omega
    · have := ih n f (fun i hi => by
        have a := h1 i hi
        have b : f i ≠ N := fun hf => hx ⟨i, hi, hf⟩
        omega) h2
      omega
theorem fr_add (F : Int32 → Int32) (b : Int32) (m : Nat) : ∀ n, fr_it F b (m + n) = fr_it F (fr_it F b m) n := by
  intro n
  induction n with
  | zero => rfl
  | succ n ih =>
    show F (fr_it F b (m + n)) = F (fr_it F (fr_it F b m) n)
    rw [ih]
/-- the least way round -/
theorem fr_least {P : Nat → Prop} : ∀ n, P n → ∃ m, P m ∧ m ≤ n ∧ ∀ j, j < m → ¬ P j := by
  intro n
  induction n using Nat.strongRecOn with
  | _ n ih =>
    intro h
    by_cases hx : ∃ j, j < n ∧ P j
    · obtain ⟨j, hj, hp⟩ := hx
      obtain ⟨m, a, b, c⟩ := ih j hj hp
      exact ⟨m, a, by omega, c⟩
    · exact ⟨n, h, Nat.le_refl _, fun j hj hp => hx ⟨j, hj, hp⟩⟩
theorem fr_T {R : Nat → Nat → Int32} {b : Int32} (f : rg 0 15 b) (h : fr_rnd R b) : ∃ T, 1 ≤ T ∧ T ≤ 16 ∧ fr_it (pt_F R) b T = b := by
  obtain ⟨t, ht, h1, h2⟩ := h
  obtain ⟨m, a1, a2, a3⟩ := fr_least (P := fun n => fr_it (pt_F R) b (n + 1) = b) t h1.symm
  refine ⟨m + 1, by omega, ?_, a1⟩
  have hr : ∀ i, i < m + 1 → rg 0 15 (fr_it (pt_F R) b i) := fun i hi => by
    cases i with
    | zero => exact f
    | succ i => exact h2 i (by omega)
  refine fr_pig 16 (m + 1) (fun i => (fr_it (pt_F R) b i).toInt.toNat) (fun i hi => ?_) (fun i j hij hj he => ?_)
  · have := (hr i hi).1
    have := (hr i hi).2
    show (fr_it (pt_F R) b i).toInt.toNat < 16
    omega
  · have he2 : (fr_it (pt_F R) b i).toInt.toNat = (fr_it (pt_F R) b j).toInt.toNat := he
    have h3 := (hr i (by omega)).1
    have h4 := (hr j hj).1
    have h5 : fr_it (pt_F R) b i = fr_it (pt_F R) b j := Int32.toInt_inj.mp (by omega)
    have h6 : fr_it (pt_F R) b (i + (m + 1 - j)) = b := by
      rw [fr_add, h5, ← fr_add, show j + (m + 1 - j) = m + 1 by omega]
      exact a1
    refine a3 (i + (m - j)) (by omega) ?_
    show fr_it (pt_F R) b (i + (m - j) + 1) = b
    rw [show i + (m - j) + 1 = i + (m + 1 - j) by omega]
    exact h6
/-- the walk round: at is the many-th, none of 1 .. many is b -/
def fr_o (g : th_i) (r : th_r) (h0 : Nat) : Int32 := (r h0 36).elim 0 (fun q => g q 0)
def fr_80 (R R' : Nat → Nat → Int32) (b at' many o : Int32) : Prop := R' = R ∧ R 35 b.toNatClampNeg = 0 ∧ fr_rnd R b ∧ at' = fr_it (pt_F R) b many.toInt.toNat ∧ (∀ j : Nat, 1 ≤ j → (j : Int) ≤ many.toInt → fr_it (pt_F R) b j ≠ b) ∧ (0 < many.toInt → o = b)
theorem fr_80i {R : Nat → Nat → Int32} {b o x : Int32} (hz : R 35 b.toNatClampNeg = x) (hx : x = 0) (hr : fr_rnd R b) : fr_80 R R b b 0 o := by
  have h0 : (0 : Int32).toInt = 0 := by decide
  refine ⟨rfl, hz.trans hx, hr, rfl, fun j h1 h2 => ?_, fun h => ?_⟩ <;> omega
theorem fr_80l {R R' : Nat → Nat → Int32} {b a m o : Int32} {lo hi : Int} (h : fr_80 R R' b a m o) (f : rg 0 15 b) (fm : rg lo hi m) : rg lo 15 m := by
  obtain ⟨-, -, hr, -, hn, -⟩ := h
  obtain ⟨T, t1, t2, t3⟩ := fr_T f hr
  refine ⟨fm.1, ?_⟩
  by_cases hm : m.toInt ≤ 15
  · exact hm
  · exact absurd t3 (hn T t1 (by omega))
/-- what the store ring[many] = at leaves at ring[0] -/
theorem fr_os {g g2 : th_i} {r : th_r} {h0 q : Nat} {m v : Int32} {lo hi : Int} {b : Int32} (hr : r h0 36 = some q) (fm : rg lo hi m) (hl : 0 ≤ lo) (hu : g2 q m.toNatClampNeg = v) (ho : ∀ b j, b ≠ q ∨ j ≠ m.toNatClampNeg → g2 b j = g b j) (hv : m.toInt = 0 → v = b) (h : 0 < m.toInt → fr_o g r h0 = b) : fr_o g2 r h0 = b := by
  have hc := th_clamp (x := m) (by have := fm.1; omega)
  simp only [fr_o, hr, Option.elim_some] at h ⊢
  by_cases hm : m.toInt = 0
  · rw [← hv hm, ← hu, show m.toNatClampNeg = 0 by omega]
  · rw [ho q 0 (Or.inr (by omega))]
    exact h (by have := fm.1; omega)
theorem fr_80s {R R' R2 : Nat → Nat → Int32} {b a x m m2 : Int32} {lo hi : Int} {g g2 : th_i} {r : th_r} {h0 q : Nat} (h : fr_80 R R' b a m (fr_o g r h0)) (fm : rg lo hi m) (hl : 0 ≤ lo) (hr : r h0 36 = some q) (hu : g2 q m.toNatClampNeg = a) (ho : ∀ b j, b ≠ q ∨ j ≠ m.toNatClampNeg → g2 b j = g b j) (e2 : R2 = R') (hp : pt_post R2 a x) (em : m2.toInt = m.toInt + 1) (c : ¬ x = b) : fr_80 R R2 b x m2 (fr_o g2 r h0) := by
  obtain ⟨h1, h2, h3, h4, h5, h6⟩ := h
  subst e2
  subst h1
  have hm := fm.1
  have hx : x = fr_it (pt_F R2) b m2.toInt.toNat := by
    rw [show m2.toInt.toNat = m.toInt.toNat + 1 by omega]
    show x = pt_F R2 (fr_it (pt_F R2) b m.toInt.toNat)
    rw [← h4]
    exact pt_eq hp
  refine ⟨rfl, h2, h3, hx, fun j j1 j2 => ?_, fun _ => fr_os hr fm hl hu ho (fun h0 => ?_) h6⟩
  · by_cases hj : (j : Int) ≤ m.toInt
    · exact h5 j j1 hj
    · rw [show j = m2.toInt.toNat by omega, ← hx]
      exact c
  · rw [h4, show m.toInt.toNat = 0 by omega]
    rfl
/-- a ring is laid: its first is b, b was not in a ring -/
def fr_104 (R R' : Nat → Nat → Int32) (b o : Int32) : Prop := R' = R ∧ R 35 b.toNatClampNeg = 0 ∧ o = b
theorem fr_104i {R R' R2 : Nat → Nat → Int32} {b a m : Int32} {lo hi : Int} {g g2 : th_i} {r : th_r} {h0 q : Nat} (h : fr_80 R R' b a m (fr_o g r h0)) (fm : rg lo hi m) (hl : 0 ≤ lo) (hr : r h0 36 = some q) (hu : g2 q m.toNatClampNeg = a) (ho : ∀ b j, b ≠ q ∨ j ≠ m.toNatClampNeg → g2 b j = g b j) (e2 : R2 = R') : fr_104 R R2 b (fr_o g2 r h0) := by
  obtain ⟨h1, h2, h3, h4, h5, h6⟩ := h
  have hm := fm.1
  refine ⟨e2.trans h1, h2, fr_os hr fm hl hu ho (fun h0 => ?_) h6⟩
  rw [h4, show m.toInt.toNat = 0 by omega]
  rfl
theorem fr_ok {g g2 : th_i} {r : th_r} {h0 a k q : Nat} (hr : r h0 36 = some q) (hq : q ≠ a) (ho : ∀ b j, b ≠ a ∨ j ≠ k → g2 b j = g b j) : fr_o g2 r h0 = fr_o g r h0 := by
  simp only [fr_o, hr, Option.elim_some]
  exact ho q 0 (Or.inl hq)
theorem fr_104s {R R' R2 : Nat → Nat → Int32} {b o o2 : Int32} (h : fr_104 R R' b o) (e2 : R2 = R') (eo : o2 = o) : fr_104 R R2 b o2 := ⟨e2.trans h.1, h.2.1, eo.trans h.2.2⟩
/-- its members are marked -/
def fr_147 (R R' : Nat → Nat → Int32) (b o k : Int32) : Prop := (∀ j, ¬ R 35 j = 0 → ¬ R' 35 j = 0) ∧ R 35 b.toNatClampNeg = 0 ∧ o = b ∧ (0 < k.toInt → ¬ R' 35 b.toNatClampNeg = 0)
theorem fr_147i {R R' : Nat → Nat → Int32} {b o : Int32} (h : fr_104 R R' b o) : fr_147 R R' b o 0 := by
  obtain ⟨h1, h2, h3⟩ := h
  have h0 : (0 : Int32).toInt = 0 := by decide
  subst h1
  exact ⟨fun j hj => hj, h2, h3, fun h => by omega⟩
theorem fr_147s {R : Nat → Nat → Int32} {τ : th_t} {b x k k2 : Int32} {lo hi : Int} {g g2 : th_i} {r : th_r} {h0 q w : Nat} (h : fr_147 R (fr_R τ g r h0) b (fr_o g r h0) k) (fk : rg lo hi k) (hl : 0 ≤ lo) (hr : r h0 36 = some q) (hw : r h0 35 = some w) (tq : τ q = 67) (tw : τ w = 66) (ex : x = g q k.toNatClampNeg) (hu : g2 w x.toNatClampNeg = 1) (ho : ∀ b j, b ≠ w ∨ j ≠ x.toNatClampNeg → g2 b j = g b j) (ek : k2.toInt = k.toInt + 1) : fr_147 R (fr_R τ g2 r h0) b (fr_o g2 r h0) k2 := by
  obtain ⟨h1, h2, h3, h4⟩ := h
  have hne : q ≠ w := fun e => by rw [e, tw] at tq; exact absurd tq (by decide)
  have hk := fk.1
  have hc := th_clamp (x := k) (by omega)
  have hR : ∀ j, fr_R τ g2 r h0 35 j = g2 w j := fun j => fr_at hw tw (by decide) rfl
  have hR1 : ∀ j, fr_R τ g r h0 35 j = g w j := fun j => fr_at hw tw (by decide) rfl
  have hm : ∀ j, ¬ g w j = 0 → ¬ g2 w j = 0 := fun j hj => by
    by_cases e : j = x.toNatClampNeg
    · rw [e, hu]
      decide
    · rw [ho w j (Or.inr e)]
      exact hj
  refine ⟨fun j hj => ?_, h2, (fr_ok hr hne ho).trans h3, fun _ => ?_⟩
  · rw [hR]
    refine hm j ?_
    rw [← hR1]
    exact h1 j hj
  · rw [hR]
    by_cases h0 : 0 < k.toInt
    · refine hm _ ?_
      rw [← hR1]
      exact h4 h0
    · have hb : x = b := by
        rw [ex, ← h3]
        simp only [fr_o, hr, Option.elim_some]
        rw [show k.toNatClampNeg = 0 by omega]
      rw [← hb, hu]
      decide
/-- how many are not in a ring yet -/
def fr_c (f : Nat → Int32) : Nat → Nat
  | 0 => 0
  | n + 1 => fr_c f n + if f n = 0 then 1 else 0
theorem fr_cle {f f' : Nat → Int32} (h : ∀ j, ¬ f j = 0 → ¬ f' j = 0) : ∀ n, fr_c f' n ≤ fr_c f n := by
  intro n
  induction n with
  | zero => exact Nat.le_refl _
  | succ n ih =>
    show fr_c f' n + (if f' n = 0 then 1 else 0) ≤ fr_c f n + (if f n = 0 then 1 else 0)
    by_cases h1 : f n = 0
    · rw [if_pos h1]
      split <;> omega
    · rw [if_neg h1, if_neg (h n h1)]
      omega
theorem fr_clt {f f' : Nat → Int32} (h : ∀ j, ¬ f j = 0 → ¬ f' j = 0) {j : Nat} (hj : f j = 0) (hj' : ¬ f' j = 0) : ∀ n, j < n → fr_c f' n < fr_c f n := by
  intro n
  induction n with
  | zero => intro h0; exact absurd h0 (Nat.not_lt_zero _)
  | succ n ih =>
    intro hn
    show fr_c f' n + (if f' n = 0 then 1 else 0) < fr_c f n + (if f n = 0 then 1 else 0)
    by_cases he : j = n
    · subst he
      rw [if_pos hj, if_neg hj']
      have := fr_cle h j
      omega
    · have := ih (by omega)
      by_cases h1 : f n = 0
      · rw [if_pos h1]
        split <;> omega
      · rw [if_neg h1, if_neg (h n h1)]
        omega
def fr_m (R : Nat → Nat → Int32) (b : Int32) : Nat := 17 * fr_c (R 35) 16 + (16 - b.toInt).toNat
theorem fr_m1 {R R' : Nat → Nat → Int32} {b x : Int32} {n : Nat} {lo hi : Int} (hm : fr_m R b < n + 1) (e : R' = R) (fb : rg lo hi b) (hh : hi ≤ 15) (ex : x.toInt = b.toInt + 1) : fr_m R' x < n := by
  subst e
  have := fb.2
  unfold fr_m at hm ⊢
  omega
theorem fr_m2 {R R' : Nat → Nat → Int32} {b o k m : Int32} {n : Nat} {lo hi lo2 hi2 : Int} (hm : fr_m R b < n + 1) (h : fr_147 R R' b o k) (fb : rg lo hi b) (hl : 0 ≤ lo) (hh : hi ≤ 15) (fm : rg lo2 hi2 m) (hl2 : 1 ≤ lo2) (c : m ≤ k) : fr_m R' 0 < n := by
  obtain ⟨h1, h2, h3, h4⟩ := h
  have c2 := Int32.le_iff_toInt_le.mp c
  have := fm.1
  have := fb.1
  have := fb.2
  have hc := th_clamp (x := b) (by omega)
  have := fr_clt h1 h2 (h4 (by omega)) 16 (by omega)
  have h0 : (0 : Int32).toInt = 0 := by decide
  unfold fr_m at hm ⊢
  rw [h0]
  omega
end
