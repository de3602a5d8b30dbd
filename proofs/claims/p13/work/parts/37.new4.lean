noncomputable def f_X11_buoy_58 (τ : th_t) (Z : th_Zt) (gi : th_i) (gr : th_r) (h0 : Nat) (p1 : Int32) (p2 : Int32) (p3 : Int32) (p4 : Int32) (rO : Int32) (tO : th_t) (gO : th_i) (qO : th_r) (gi_58 : th_i) (gr_58 : th_r) : Prop :=
  let u2 : Int32 × th_i := F_X11_finding τ Z gi_58 gr_58 h0 1
  let x2 : Int32 := u2.1
  let gi2 : th_i := u2.2
  rO = x2 ∧ tO = τ ∧ gO = gi2 ∧ qO = gr_58
noncomputable def f_X11_buoy_27 (τ : th_t) (Z : th_Zt) (gi : th_i) (gr : th_r) (h0 : Nat) (p1 : Int32) (p2 : Int32) (p3 : Int32) (p4 : Int32) (rO : Int32) (tO : th_t) (gO : th_i) (qO : th_r) (gi_27 : th_i) (gr_27 : th_r) (z27_0 : Int32) : Prop :=
  if z27_0 = (0 : Int32) then (
    f_X11_buoy_58 τ Z gi gr h0 p1 p2 p3 p4 rO tO gO qO gi_27 gr_27) else (
    let x7 : Int32 := F_X11_within τ Z gi_27 gr_27 p3 0 300
    if x7 = (0 : Int32) then (
      f_X11_buoy_58 τ Z gi gr h0 p1 p2 p3 p4 rO tO gO qO gi_27 gr_27) else (
      let x15 : Int32 := F_X11_within τ Z gi_27 gr_27 p4 10 400
      if x15 = (0 : Int32) then (
        f_X11_buoy_58 τ Z gi gr h0 p1 p2 p3 p4 rO tO gO qO gi_27 gr_27) else (
        let q21 : Nat := (gr_27 h0 0).getD 0
        let x22 : Int32 := gi_27 q21 5
        if x22 < (12 : Int32) then (
          ∃ (x26 : Int32) (τ26 : th_t) (gi26 : th_i) (gr26 : th_r), M_X0_addBuoy τ Z gi_27 gr_27 q21 p1 p2 p3 p4 x26 τ26 gi26 gr26 ∧ (
          rO = x26 ∧ tO = τ26 ∧ gO = gi26 ∧ qO = gr26)) else (
          let u32 : Int32 × th_i := F_X11_finding τ Z gi_27 gr_27 h0 4
          let x32 : Int32 := u32.1
          let gi32 : th_i := u32.2
          rO = x32 ∧ tO = τ ∧ gO = gi32 ∧ qO = gr_27))))
noncomputable def f_X11_buoy_26 (τ : th_t) (Z : th_Zt) (gi : th_i) (gr : th_r) (h0 : Nat) (p1 : Int32) (p2 : Int32) (p3 : Int32) (p4 : Int32) (rO : Int32) (tO : th_t) (gO : th_i) (qO : th_r) (gi_26 : th_i) (gr_26 : th_r) : Prop :=
  f_X11_buoy_27 τ Z gi gr h0 p1 p2 p3 p4 rO tO gO qO gi_26 gr_26 0
noncomputable def M_X11_buoy (τ : th_t) (Z : th_Zt) (gi : th_i) (gr : th_r) (h0 : Nat) (p1 : Int32) (p2 : Int32) (p3 : Int32) (p4 : Int32) (rO : Int32) (tO : th_t) (gO : th_i) (qO : th_r) : Prop :=
  let x36 : Int32 := F_X11_within τ Z gi gr p1 0 999
  if x36 = (0 : Int32) then (
    f_X11_buoy_26 τ Z gi gr h0 p1 p2 p3 p4 rO tO gO qO gi gr) else (
    let x44 : Int32 := F_X11_within τ Z gi gr p2 0 999
    if x44 = (0 : Int32) then (
      f_X11_buoy_26 τ Z gi gr h0 p1 p2 p3 p4 rO tO gO qO gi gr) else (
      f_X11_buoy_27 τ Z gi gr h0 p1 p2 p3 p4 rO tO gO qO gi gr 1))
set_option maxHeartbeats 20000000 in
set_option maxRecDepth 100000 in
theorem k_X11_buoy (l : Launch) (D : va_G) (cA : Nat → ClassId) (Z : th_Zt) (τ : th_t) (gi : th_i) (gr : th_r) (sz : Nat) (h0 : Nat) (t_h0 : τ h0 = 11) (p1 : Int32) (p2 : Int32) (p3 : Int32) (p4 : Int32) : Met l yX11_buoy wsX11_buoy ({ frames := 4, cells := 2, slots := 32, locals := 92 }) (va_Pc [.ref h0, .int p1, .int p2, .int p3, .int p4] (th_Pre D cA Z τ gi gr sz)) (va_Qi (fun (r : Int32) (u : th_t × th_i × th_r) => th_Ext [105, 2000, 2600, 3600] τ gi gr sz sz u.1 u.2.1 u.2.2 ∧ (M_X11_buoy τ Z gi gr h0 p1 p2 p3 p4 r u.1 u.2.1 u.2.2)) (fun (u : th_t × th_i × th_r) t => th_H D cA u.1 u.2.1 u.2.2 t.heap) (th_A τ sz)) 2 32 (th_A τ sz) := by
  refine Met.ofW (cc := cX11_buoy) (maxL := 6) (ret := (some .int)) (by decide) rfl ?_
  intro p e s m args below meth c s₁ B hml hv
  obtain ⟨rfl, hsz, hH, hK, hN, hZ⟩ := hv
  have hx := B.exec
  have hb := B.bytes
  have hr := B.returns
  have hts := atoms_spec (ws := wsX11_buoy) B.pre
  have hown : s.vm.findClass RX11 = some m.cls := findClass_of_methodNamed B.named
  have hlocks := B.notSynchronized
  subst hsz
  have hA : ∀ q : Nat, s.heap.size ≤ q → (th_A τ s.heap.size) q := fun q h => Or.inr h
  have hE : th_Ext [105, 2000, 2600, 3600] τ gi gr s.heap.size s.heap.size τ gi gr := th_Ext.rf
  have J58 : ∀ (gi_58 : th_i) (gr_58 : th_r) (H : Heap) (locs : List Loc) (ls : Array Slot), th_H D cA τ gi_58 gr_58 H → va_S (th_A τ s.heap.size) s.heap H locs → th_Ext [105, 2000, 2600, 3600] τ gi gr s.heap.size s.heap.size τ gi_58 gr_58 → lv_has ls 6 [(0, .ref h0)] → (∀ (rO : Int32) (tO : th_t) (gO : th_i) (qO : th_r), f_X11_buoy_58 τ Z gi gr h0 p1 p2 p3 p4 rO tO gO qO gi_58 gr_58 → M_X11_buoy τ Z gi gr h0 p1 p2 p3 p4 rO tO gO qO) → W p l e (headSpec wsX11_buoy ({ frames := 4, cells := 2, slots := 32, locals := 92 })).room s m [.ref h0, .int p1, .int p2, .int p3, .int p4].toArray below meth c H locs 0 0 (MQ below (va_Qi (fun (r : Int32) (u : th_t × th_i × th_r) => th_Ext [105, 2000, 2600, 3600] τ gi gr s.heap.size s.heap.size u.1 u.2.1 u.2.2 ∧ (M_X11_buoy τ Z gi gr h0 p1 p2 p3 p4 r u.1 u.2.1 u.2.2)) (fun (u : th_t × th_i × th_r) t => th_H D cA u.1 u.2.1 u.2.2 t.heap) (th_A τ s.heap.size)) [.ref h0, .int p1, .int p2, .int p3, .int p4].toArray s 2 32 (th_A τ s.heap.size)) (F0 m 58 ls []) := by
    intro gi_58 gr_58 H locs ls hH hS hE hl hF
    refine lv_aload_n hx hb dX11_buoy_58 rfl (lv_at hl 0 rfl) ?_
    refine lv_iconst (v := 1) hx hb dX11_buoy_59 ic_1 ?_
    have hA1 : ∀ q, th_A τ _ q → (th_A τ s.heap.size) q := th_AEa hE hS
    refine va_calli (va_runV (As := [.int 1]) (rest := []) ⟨hx, hb, hml, hown, hts⟩ (k_X11_finding l D cA Z τ gi_58 gr_58 _ h0 t_h0 1) (cwV 1 hts gX11_buoy_X11_finding rfl rfl rfl hd_X11_finding__1 ⟨Nat.le_of_ble_eq_true rfl, Nat.le_of_ble_eq_true rfl⟩) ⟨th_blind, th_recv hK hH t_h0 (ci := 10) (th_nz rfl) rfl rfl, (th_pre hH hK hN hZ hS hA1)⟩ rfl rfl hl.1 rfl (lv_room (Nat.le_of_ble_eq_true rfl)) dX11_buoy_60 ⟨Nat.le_of_ble_eq_true rfl, Nat.le_of_ble_eq_true rfl⟩) hS (fun q _ h => hA1 q h) hA1 (fun x2 u t H locs ht hvm hw2 hB hz1 hk1 hS => ?_)
    try dsimp only at hw2 hB
    rw [ht] at hB
    have hH := hB
    obtain ⟨gi2, gr2⟩ := u
    try dsimp only at hw2 hH
    obtain rfl : gr_58 = gr2 := (hw2.2.1).symm
    have hE := hE.mod hw2.1 (by decide)
    refine W.widen (k := 2) (n := 32) (Nat.le_of_ble_eq_true rfl) (Nat.le_of_ble_eq_true rfl) ?_
    exact W.iret (v := x2) hx hb hr (fun t ht hW => ⟨⟨x2, (τ, gi2, gr_58), rfl, ⟨hE, (hF _ _ _ _ (by (try simp only [f_X11_buoy_58, hw2.2.2.1]); first | done | exact ⟨(by first | rfl | trivial), (by first | rfl | trivial), (by first | rfl | trivial), (by first | rfl | trivial)⟩))⟩, th_Ht ht hH⟩, hS.F ht⟩) hS.2.2 dX11_buoy_63
  have J27 : ∀ (gi_27 : th_i) (gr_27 : th_r) (H : Heap) (locs : List Loc) (ls : Array Slot) (z27_0 : Int32), th_H D cA τ gi_27 gr_27 H → va_S (th_A τ s.heap.size) s.heap H locs → th_Ext [105, 2000, 2600, 3600] τ gi gr s.heap.size s.heap.size τ gi_27 gr_27 → lv_has ls 6 [(0, .ref h0), (1, .int p1), (2, .int p2), (3, .int p3), (4, .int p4)] → rg 0 1 z27_0 → (∀ (rO : Int32) (tO : th_t) (gO : th_i) (qO : th_r), f_X11_buoy_27 τ Z gi gr h0 p1 p2 p3 p4 rO tO gO qO gi_27 gr_27 z27_0 → M_X11_buoy τ Z gi gr h0 p1 p2 p3 p4 rO tO gO qO) → W p l e (headSpec wsX11_buoy ({ frames := 4, cells := 2, slots := 32, locals := 92 })).room s m [.ref h0, .int p1, .int p2, .int p3, .int p4].toArray below meth c H locs 0 0 (MQ below (va_Qi (fun (r : Int32) (u : th_t × th_i × th_r) => th_Ext [105, 2000, 2600, 3600] τ gi gr s.heap.size s.heap.size u.1 u.2.1 u.2.2 ∧ (M_X11_buoy τ Z gi gr h0 p1 p2 p3 p4 r u.1 u.2.1 u.2.2)) (fun (u : th_t × th_i × th_r) t => th_H D cA u.1 u.2.1 u.2.2 t.heap) (th_A τ s.heap.size)) [.ref h0, .int p1, .int p2, .int p3, .int p4].toArray s 2 32 (th_A τ s.heap.size)) (F0 m 27 ls [.int z27_0]) := by
    intro gi_27 gr_27 H locs ls z27_0 hH hS hE hl fz27_0 hF
    refine lv_istore (i := 5) (lv' := [(5, .int z27_0), (0, .ref h0), (1, .int p1), (2, .int p2), (3, .int p3), (4, .int p4)]) hx hb dX11_buoy_27 hl (th_ltN rfl) rfl (fun ls hl => ?_)
    refine lv_iload hx hb dX11_buoy_29 (lv_at hl 0 rfl) ?_
    refine lv_if_eq (tgt := 58) hx hb dX11_buoy_31 (th_eqI rfl) (fun c3 => ?_) (fun c3 => ?_)
    · skip
      have f4 : rg 0 0 z27_0 := rg_w (rg_eq fz27_0 rgc_0 c3).1 (th_leI rfl) (th_leI rfl)
      exact J58 gi_27 gr_27 _ _ _ hH hS hE (lv_sub hl [1] rfl) (fun rO tO gO qO h9 => hF rO tO gO qO (by (try simp only [f_X11_buoy_27, if_pos c3]); exact h9))
    · skip
      have f5 : rg 1 1 z27_0 := rg_w (rg_neL fz27_0 rgc_0 c3) (th_leI rfl) (th_leI rfl)
      refine lv_iload_n hx hb dX11_buoy_34 rfl (lv_at hl 4 rfl) ?_
      refine lv_iconst (v := 0) hx hb dX11_buoy_35 ic_0 ?_
      refine lv_sipush (v := 300) hx hb dX11_buoy_36 sp_300 ?_
      have hA6 : ∀ q, th_A τ _ q → (th_A τ s.heap.size) q := th_AEa hE hS
      refine va_calli (va_runS (As := [.int p3, .int 0, .int 300]) (rest := []) ⟨hx, hb, hml, hown, hts⟩ (k_X11_within l D cA Z τ gi_27 gr_27 _ p3 0 300) (va_cwS 3 hts gX11_buoy_X11_within rfl rfl rfl (by decide +kernel) ⟨Nat.le_of_ble_eq_true rfl, Nat.le_of_ble_eq_true rfl⟩) ⟨th_blind, (th_pre hH hK hN hZ hS hA6)⟩ rfl rfl hl.1 rfl (lv_room (Nat.le_of_ble_eq_true rfl)) dX11_buoy_39 ⟨Nat.le_of_ble_eq_true rfl, Nat.le_of_ble_eq_true rfl⟩) hS (fun q _ h => hA6 q h) hA6 (fun x7 u t H locs ht hvm hw7 hB hz1 hk1 hS => ?_)
      try dsimp only at hw7 hB
      rw [ht] at hB
      have hH := hB
      refine lv_if_eq (tgt := 58) hx hb dX11_buoy_42 (th_eqI rfl) (fun c8 => ?_) (fun c8 => ?_)
      · skip
        have f9 : rg 0 0 x7 := rg_w (rg_eq hw7.1 rgc_0 c8).1 (th_leI rfl) (th_leI rfl)
        exact J58 gi_27 gr_27 _ _ _ hH hS hE (lv_sub hl [1] rfl) (fun rO tO gO qO h9 => hF rO tO gO qO (by (try simp only [f_X11_buoy_27, if_neg c3, hw7.2.2.1, if_pos c8]); exact h9))
      · skip
        have f10 : rg 1 1 x7 := rg_w (rg_neL hw7.1 rgc_0 c8) (th_leI rfl) (th_leI rfl)
        have g11 := hw7.2.1 c8
        have f12 : rg 0 2147483647 p3 := rg_w (rg_le rgc_0 (rg_any p3) g11.1).2 (th_leI rfl) (th_leI rfl)
        have f13 : rg 0 300 p3 := rg_w (rg_le f12 rgc_300 g11.2).1 (th_leI rfl) (th_leI rfl)
        refine lv_iload hx hb dX11_buoy_45 (lv_at hl 5 rfl) ?_
        refine lv_bipush (v := 10) hx hb dX11_buoy_47 bp_10 ?_
        refine lv_sipush (v := 400) hx hb dX11_buoy_49 sp_400 ?_
        have hA14 : ∀ q, th_A τ _ q → (th_A τ s.heap.size) q := th_AEa hE hS
        refine va_calli (va_runS (As := [.int p4, .int 10, .int 400]) (rest := []) ⟨hx, hb, hml, hown, hts⟩ (k_X11_within l D cA Z τ gi_27 gr_27 _ p4 10 400) (va_cwS 3 hts gX11_buoy_X11_within rfl rfl rfl (by decide +kernel) ⟨Nat.le_of_ble_eq_true rfl, Nat.le_of_ble_eq_true rfl⟩) ⟨th_blind, (th_pre hH hK hN hZ hS hA14)⟩ rfl rfl hl.1 rfl (lv_room (Nat.le_of_ble_eq_true rfl)) dX11_buoy_52 ⟨Nat.le_of_ble_eq_true rfl, Nat.le_of_ble_eq_true rfl⟩) hS (fun q _ h => hA14 q h) hA14 (fun x15 u t H locs ht hvm hw15 hB hz1 hk1 hS => ?_)
        try dsimp only at hw15 hB
        rw [ht] at hB
        have hH := hB
        refine lv_if_ne (tgt := 64) hx hb dX11_buoy_55 (th_eqI rfl) (fun c16 => ?_) (fun c16 => ?_)
        · skip
          have f17 : rg 1 1 x15 := rg_w (rg_neL hw15.1 rgc_0 c16) (th_leI rfl) (th_leI rfl)
          have g18 := hw15.2.1 c16
          have f19 : rg 10 2147483647 p4 := rg_w (rg_le rgc_10 (rg_any p4) g18.1).2 (th_leI rfl) (th_leI rfl)
          have f20 : rg 10 400 p4 := rg_w (rg_le f19 rgc_400 g18.2).1 (th_leI rfl) (th_leI rfl)
          refine lv_aload_n hx hb dX11_buoy_64 rfl (lv_at hl 1 rfl) ?_
          obtain ⟨q21, r21, t21⟩ : ∃ q, gr_27 h0 0 = some q ∧ τ q = 1 := (hH.at t_h0 (th_nz rfl)).2.1
          refine th_get (ci := 10) (v := .ref q21) (T := TX11) (C := RX11) (N := 10) hx hb hts (fun w h => List.mem_cons_of_mem _ (List.mem_append_left _ (List.mem_append_left _ (List.mem_append_right _ h)))) hown hK hH t_h0 (th_nz rfl) rfl rfl 0 (th_ltN rfl) (hts (.fieldLink RX11 10 "BayMoorings" "bay" "LBayMoorings$Bay;") (List.mem_cons_of_mem _ (List.mem_append_left _ (List.mem_append_left _ (List.mem_append_left _ (List.mem_append_left _ (List.mem_of_getElem? (i := 0) rfl))))))) (fun _ h9 => h9) (th_fR r21 rfl) dX11_buoy_65 ?_
          obtain ⟨x22, e22⟩ : ∃ y : Int32, y = gi_27 q21 5 := ⟨_, rfl⟩
          refine th_get (ci := 0) (v := .int x22) (T := TX0) (C := RX0) (N := 9) hx hb hts (fun w h => List.mem_cons_of_mem _ (List.mem_append_left _ (List.mem_append_right _ h))) hown hK hH t21 (th_nz rfl) rfl rfl 5 (th_ltN rfl) (hts (.fieldLink RX11 72 "BayMoorings$Bay" "buoyCount" "I") (List.mem_cons_of_mem _ (List.mem_append_left _ (List.mem_append_left _ (List.mem_append_left _ (List.mem_append_left _ (List.mem_of_getElem? (i := 1) rfl))))))) (fun _ h9 => h9) (th_fI e22 rfl) dX11_buoy_68 ?_
          have f22 : rg 0 12 x22 := rg_e e22 ((hH.at t21 (th_nz rfl)).2.2.2.2.2.2.1)
          refine lv_bipush (v := 12) hx hb dX11_buoy_71 bp_12 ?_
          refine lv_icmp_lt (tgt := 82) hx hb dX11_buoy_73 (th_eqI rfl) (fun c23 => ?_) (fun c23 => ?_)
          · skip
            have f24 : rg 0 11 x22 := rg_w (rg_lt f22 rgc_12 c23).1 (th_leI rfl) (th_leI rfl)
            refine lv_aload_n hx hb dX11_buoy_82 rfl (lv_at hl 1 rfl) ?_
            refine th_get (ci := 10) (v := .ref q21) (T := TX11) (C := RX11) (N := 10) hx hb hts (fun w h => List.mem_cons_of_mem _ (List.mem_append_left _ (List.mem_append_left _ (List.mem_append_right _ h)))) hown hK hH t_h0 (th_nz rfl) rfl rfl 0 (th_ltN rfl) (hts (.fieldLink RX11 10 "BayMoorings" "bay" "LBayMoorings$Bay;") (List.mem_cons_of_mem _ (List.mem_append_left _ (List.mem_append_left _ (List.mem_append_left _ (List.mem_append_left _ (List.mem_of_getElem? (i := 0) rfl))))))) (fun _ h9 => h9) (th_fR r21 rfl) dX11_buoy_83 ?_
            refine lv_iload_n hx hb dX11_buoy_86 rfl (lv_at hl 2 rfl) ?_
            refine lv_iload_n hx hb dX11_buoy_87 rfl (lv_at hl 3 rfl) ?_
            refine lv_iload_n hx hb dX11_buoy_88 rfl (lv_at hl 4 rfl) ?_
            refine lv_iload hx hb dX11_buoy_89 (lv_at hl 5 rfl) ?_
            have hA26 : ∀ q, th_A τ _ q → (th_A τ s.heap.size) q := th_AEa hE hS
            have hle26 := hS.1
            refine va_calli (va_runV (As := [.int p1, .int p2, .int p3, .int p4]) (rest := []) ⟨hx, hb, hml, hown, hts⟩ (k_X0_addBuoy l D cA Z τ gi_27 gr_27 _ q21 t21 p1 p2 p3 p4) (cwV 4 hts gX11_buoy_X0_addBuoy rfl rfl rfl (by decide +kernel) ⟨Nat.le_of_ble_eq_true rfl, Nat.le_of_ble_eq_true rfl⟩) ⟨th_blind, th_recv hK hH t21 (ci := 0) (by decide) rfl rfl, (th_pre hH hK hN hZ hS hA26)⟩ rfl rfl hl.1 rfl (lv_room (Nat.le_of_ble_eq_true rfl)) dX11_buoy_91 ⟨Nat.le_of_ble_eq_true rfl, Nat.le_of_ble_eq_true rfl⟩) hS (fun q _ h => hA26 q h) hA26 (fun x26 u t H locs ht hvm hw26 hB hz26 hk26 hS => ?_)
            obtain ⟨τ26, gi26, gr26⟩ := u
            try dsimp only at hw26 hB
            rw [ht] at hB
            have hH := hB
            have t27 : τ26 h0 = 11 := ((hw26.1.1 h0 (by rw [t_h0]; decide)).trans t_h0)
            have t28 : τ26 q21 = 1 := ((hw26.1.1 q21 (by rw [t21]; decide)).trans t21)
            have hE := hE.tr hw26.1 (Or.inr hle26) hle26 (by decide)
            have r29 : gr26 h0 0 = some q21 := by rw [(hw26.1.2.2 h0 0 (by rw [t_h0]; decide) (by rw [t_h0]; show (1100 : Nat) ∉ _; decide)).2]; exact r21
            refine W.widen (k := 2) (n := 32) (Nat.le_of_ble_eq_true rfl) (Nat.le_of_ble_eq_true rfl) ?_
            exact W.iret (v := x26) hx hb hr (fun t ht hW => ⟨⟨x26, (τ26, gi26, gr26), rfl, ⟨hE, (hF _ _ _ _ (by (try simp only [f_X11_buoy_27, if_neg c3, hw7.2.2.1, if_neg c8, hw15.2.2.1, if_neg c16, r21, Option.getD_some, ← e22, if_pos c23]); refine ⟨x26, τ26, gi26, gr26, hw26.2, ?_⟩; (try simp only [if_neg c3, hw7.2.2.1, if_neg c8, hw15.2.2.1, if_neg c16, r21, Option.getD_some, ← e22, if_pos c23]); first | done | exact ⟨(by first | rfl | trivial), (by first | rfl | trivial), (by first | rfl | trivial), (by first | rfl | trivial)⟩))⟩, th_Ht ht hH⟩, hS.F ht⟩) hS.2.2 dX11_buoy_94
          · skip
            have f30 : rg 12 12 x22 := rg_w (rg_nlt f22 rgc_12 c23).1 (th_leI rfl) (th_leI rfl)
            refine lv_aload_n hx hb dX11_buoy_76 rfl (lv_at hl 1 rfl) ?_
            refine lv_iconst (v := 4) hx hb dX11_buoy_77 ic_4 ?_
            have hA31 : ∀ q, th_A τ _ q → (th_A τ s.heap.size) q := th_AEa hE hS
            refine va_calli (va_runV (As := [.int 4]) (rest := []) ⟨hx, hb, hml, hown, hts⟩ (k_X11_finding l D cA Z τ gi_27 gr_27 _ h0 t_h0 4) (cwV 1 hts gX11_buoy_X11_finding rfl rfl rfl hd_X11_finding__1 ⟨Nat.le_of_ble_eq_true rfl, Nat.le_of_ble_eq_true rfl⟩) ⟨th_blind, th_recv hK hH t_h0 (ci := 10) (th_nz rfl) rfl rfl, (th_pre hH hK hN hZ hS hA31)⟩ rfl rfl hl.1 rfl (lv_room (Nat.le_of_ble_eq_true rfl)) dX11_buoy_78 ⟨Nat.le_of_ble_eq_true rfl, Nat.le_of_ble_eq_true rfl⟩) hS (fun q _ h => hA31 q h) hA31 (fun x32 u t H locs ht hvm hw32 hB hz1 hk1 hS => ?_)
            try dsimp only at hw32 hB
            rw [ht] at hB
            have hH := hB
            obtain ⟨gi32, gr32⟩ := u
            try dsimp only at hw32 hH
            obtain rfl : gr_27 = gr32 := (hw32.2.1).symm
            have hE := hE.mod hw32.1 (by decide)
            have e33 : x22 = gi32 q21 5 := Eq.trans e22 (Eq.symm (hw32.1 q21 5 (th_nzE t21 rfl) (th_nmE (key := 105) t21 rfl rfl)).1)
            refine W.widen (k := 2) (n := 32) (Nat.le_of_ble_eq_true rfl) (Nat.le_of_ble_eq_true rfl) ?_
            exact W.iret (v := x32) hx hb hr (fun t ht hW => ⟨⟨x32, (τ, gi32, gr_27), rfl, ⟨hE, (hF _ _ _ _ (by (try simp only [f_X11_buoy_27, if_neg c3, hw7.2.2.1, if_neg c8, hw15.2.2.1, if_neg c16, r21, Option.getD_some, ← e22, if_neg c23, hw32.2.2.1]); first | done | exact ⟨(by first | rfl | trivial), (by first | rfl | trivial), (by first | rfl | trivial), (by first | rfl | trivial)⟩))⟩, th_Ht ht hH⟩, hS.F ht⟩) hS.2.2 dX11_buoy_81
        · skip
          have f34 : rg 0 0 x15 := rg_w (rg_eq hw15.1 rgc_0 c16).1 (th_leI rfl) (th_leI rfl)
          exact J58 gi_27 gr_27 _ _ _ hH hS hE (lv_sub hl [1] rfl) (fun rO tO gO qO h9 => hF rO tO gO qO (by (try simp only [f_X11_buoy_27, if_neg c3, hw7.2.2.1, if_neg c8, hw15.2.2.1, if_pos c16]); exact h9))
  have J26 : ∀ (gi_26 : th_i) (gr_26 : th_r) (H : Heap) (locs : List Loc) (ls : Array Slot), th_H D cA τ gi_26 gr_26 H → va_S (th_A τ s.heap.size) s.heap H locs → th_Ext [105, 2000, 2600, 3600] τ gi gr s.heap.size s.heap.size τ gi_26 gr_26 → lv_has ls 6 [(0, .ref h0), (1, .int p1), (2, .int p2), (3, .int p3), (4, .int p4)] → (∀ (rO : Int32) (tO : th_t) (gO : th_i) (qO : th_r), f_X11_buoy_26 τ Z gi gr h0 p1 p2 p3 p4 rO tO gO qO gi_26 gr_26 → M_X11_buoy τ Z gi gr h0 p1 p2 p3 p4 rO tO gO qO) → W p l e (headSpec wsX11_buoy ({ frames := 4, cells := 2, slots := 32, locals := 92 })).room s m [.ref h0, .int p1, .int p2, .int p3, .int p4].toArray below meth c H locs 0 0 (MQ below (va_Qi (fun (r : Int32) (u : th_t × th_i × th_r) => th_Ext [105, 2000, 2600, 3600] τ gi gr s.heap.size s.heap.size u.1 u.2.1 u.2.2 ∧ (M_X11_buoy τ Z gi gr h0 p1 p2 p3 p4 r u.1 u.2.1 u.2.2)) (fun (u : th_t × th_i × th_r) t => th_H D cA u.1 u.2.1 u.2.2 t.heap) (th_A τ s.heap.size)) [.ref h0, .int p1, .int p2, .int p3, .int p4].toArray s 2 32 (th_A τ s.heap.size)) (F0 m 26 ls []) := by
    intro gi_26 gr_26 H locs ls hH hS hE hl hF
    refine lv_iconst (v := 0) hx hb dX11_buoy_26 ic_0 ?_
    exact J27 gi_26 gr_26 _ _ _ 0 hH hS hE (lv_sub hl [0, 1, 2, 3, 4] rfl) (rg_w rgc_0 (th_leI rfl) (th_leI rfl)) (fun rO tO gO qO h9 => hF rO tO gO qO (by (try simp only [f_X11_buoy_26]); exact h9))
  have hS : va_S (th_A τ s.heap.size) s.heap s.heap [] := va_S.rf
  have hl := lv_entry ([.ref h0, .int p1, .int p2, .int p3, .int p4]) (n := 6) (Nat.le_of_ble_eq_true rfl)
  rw [lg_entry_eq]
  generalize (lg_sl ([.ref h0, .int p1, .int p2, .int p3, .int p4]) ++ List.replicate (6 - (lg_sl ([.ref h0, .int p1, .int p2, .int p3, .int p4])).length) Slot.unset).toArray = ls at hl ⊢
  have hl : lv_has ls 6 [(0, .ref h0), (1, .int p1), (2, .int p2), (3, .int p3), (4, .int p4)] := hl
  have hF : (∀ (rO : Int32) (tO : th_t) (gO : th_i) (qO : th_r), M_X11_buoy τ Z gi gr h0 p1 p2 p3 p4 rO tO gO qO → M_X11_buoy τ Z gi gr h0 p1 p2 p3 p4 rO tO gO qO) := fun rO tO gO qO h9 => h9
  refine lv_iload_n hx hb dX11_buoy_0 rfl (lv_at hl 1 rfl) ?_
  refine lv_iconst (v := 0) hx hb dX11_buoy_1 ic_0 ?_
  refine lv_sipush (v := 999) hx hb dX11_buoy_2 sp_999 ?_
  have hA35 : ∀ q, th_A τ _ q → (th_A τ s.heap.size) q := th_AEa hE hS
  refine va_calli (va_runS (As := [.int p1, .int 0, .int 999]) (rest := []) ⟨hx, hb, hml, hown, hts⟩ (k_X11_within l D cA Z τ gi gr _ p1 0 999) (va_cwS 3 hts gX11_buoy_X11_within rfl rfl rfl (by decide +kernel) ⟨Nat.le_of_ble_eq_true rfl, Nat.le_of_ble_eq_true rfl⟩) ⟨th_blind, (th_pre hH hK hN hZ hS hA35)⟩ rfl rfl hl.1 rfl (lv_room (Nat.le_of_ble_eq_true rfl)) dX11_buoy_5 ⟨Nat.le_of_ble_eq_true rfl, Nat.le_of_ble_eq_true rfl⟩) hS (fun q _ h => hA35 q h) hA35 (fun x36 u t H locs ht hvm hw36 hB hz1 hk1 hS => ?_)
  try dsimp only at hw36 hB
  rw [ht] at hB
  have hH := hB
  refine lv_if_eq (tgt := 26) hx hb dX11_buoy_8 (th_eqI rfl) (fun c37 => ?_) (fun c37 => ?_)
  · skip
    have f38 : rg 0 0 x36 := rg_w (rg_eq hw36.1 rgc_0 c37).1 (th_leI rfl) (th_leI rfl)
    exact J26 gi gr _ _ _ hH hS hE (lv_sub hl [0, 1, 2, 3, 4] rfl) (fun rO tO gO qO h9 => hF rO tO gO qO (by (try simp only [M_X11_buoy, hw36.2.2.1, if_pos c37]); exact h9))
  · skip
    have f39 : rg 1 1 x36 := rg_w (rg_neL hw36.1 rgc_0 c37) (th_leI rfl) (th_leI rfl)
    have g40 := hw36.2.1 c37
    have f41 : rg 0 2147483647 p1 := rg_w (rg_le rgc_0 (rg_any p1) g40.1).2 (th_leI rfl) (th_leI rfl)
    have f42 : rg 0 999 p1 := rg_w (rg_le f41 rgc_999 g40.2).1 (th_leI rfl) (th_leI rfl)
    refine lv_iload_n hx hb dX11_buoy_11 rfl (lv_at hl 2 rfl) ?_
    refine lv_iconst (v := 0) hx hb dX11_buoy_12 ic_0 ?_
    refine lv_sipush (v := 999) hx hb dX11_buoy_13 sp_999 ?_
    have hA43 : ∀ q, th_A τ _ q → (th_A τ s.heap.size) q := th_AEa hE hS
    refine va_calli (va_runS (As := [.int p2, .int 0, .int 999]) (rest := []) ⟨hx, hb, hml, hown, hts⟩ (k_X11_within l D cA Z τ gi gr _ p2 0 999) (va_cwS 3 hts gX11_buoy_X11_within rfl rfl rfl (by decide +kernel) ⟨Nat.le_of_ble_eq_true rfl, Nat.le_of_ble_eq_true rfl⟩) ⟨th_blind, (th_pre hH hK hN hZ hS hA43)⟩ rfl rfl hl.1 rfl (lv_room (Nat.le_of_ble_eq_true rfl)) dX11_buoy_16 ⟨Nat.le_of_ble_eq_true rfl, Nat.le_of_ble_eq_true rfl⟩) hS (fun q _ h => hA43 q h) hA43 (fun x44 u t H locs ht hvm hw44 hB hz1 hk1 hS => ?_)
    try dsimp only at hw44 hB
    rw [ht] at hB
    have hH := hB
    refine lv_if_eq (tgt := 26) hx hb dX11_buoy_19 (th_eqI rfl) (fun c45 => ?_) (fun c45 => ?_)
    · skip
      have f46 : rg 0 0 x44 := rg_w (rg_eq hw44.1 rgc_0 c45).1 (th_leI rfl) (th_leI rfl)
      exact J26 gi gr _ _ _ hH hS hE (lv_sub hl [0, 1, 2, 3, 4] rfl) (fun rO tO gO qO h9 => hF rO tO gO qO (by (try simp only [M_X11_buoy, hw36.2.2.1, if_neg c37, hw44.2.2.1, if_pos c45]); exact h9))
    · skip
      have f47 : rg 1 1 x44 := rg_w (rg_neL hw44.1 rgc_0 c45) (th_leI rfl) (th_leI rfl)
      have g48 := hw44.2.1 c45
      have f49 : rg 0 2147483647 p2 := rg_w (rg_le rgc_0 (rg_any p2) g48.1).2 (th_leI rfl) (th_leI rfl)
      have f50 : rg 0 999 p2 := rg_w (rg_le f49 rgc_999 g48.2).1 (th_leI rfl) (th_leI rfl)
      refine lv_iconst (v := 1) hx hb dX11_buoy_22 ic_1 ?_
      refine lv_goto (tgt := 27) hx hb dX11_buoy_23 (th_eqI rfl) ?_
      exact J27 gi gr _ _ _ 1 hH hS hE (lv_sub hl [0, 1, 2, 3, 4] rfl) (rg_w rgc_1 (th_leI rfl) (th_leI rfl)) (fun rO tO gO qO h9 => hF rO tO gO qO (by (try simp only [M_X11_buoy, hw36.2.2.1, if_neg c37, hw44.2.2.1, if_neg c45]); exact h9))

noncomputable def f_X11_boat_29 (τ : th_t) (Z : th_Zt) (gi : th_i) (gr : th_r) (h0 : Nat) (p1 : Int32) (p2 : Int32) (p3 : Int32) (rO : Int32) (tO : th_t) (gO : th_i) (qO : th_r) (gi_29 : th_i) (gr_29 : th_r) : Prop :=
  let u2 : Int32 × th_i := F_X11_finding τ Z gi_29 gr_29 h0 1
  let x2 : Int32 := u2.1
  let gi2 : th_i := u2.2
  rO = x2 ∧ tO = τ ∧ gO = gi2 ∧ qO = gr_29
noncomputable def M_X11_boat (τ : th_t) (Z : th_Zt) (gi : th_i) (gr : th_r) (h0 : Nat) (p1 : Int32) (p2 : Int32) (p3 : Int32) (rO : Int32) (tO : th_t) (gO : th_i) (qO : th_r) : Prop :=
  let x4 : Int32 := F_X11_isKind τ Z gi gr p1
  if x4 = (0 : Int32) then (
    f_X11_boat_29 τ Z gi gr h0 p1 p2 p3 rO tO gO qO gi gr) else (
    let x10 : Int32 := F_X11_within τ Z gi gr p2 10 300
    if x10 = (0 : Int32) then (
      f_X11_boat_29 τ Z gi gr h0 p1 p2 p3 rO tO gO qO gi gr) else (
      let x18 : Int32 := F_X11_within τ Z gi gr p3 0 100
      if x18 = (0 : Int32) then (
        f_X11_boat_29 τ Z gi gr h0 p1 p2 p3 rO tO gO qO gi gr) else (
        let q24 : Nat := (gr h0 0).getD 0
        let x25 : Int32 := gi q24 6
        if x25 < (16 : Int32) then (
          ∃ (x29 : Int32) (τ29 : th_t) (gi29 : th_i) (gr29 : th_r), M_X0_addBoat τ Z gi gr q24 p1 p2 p3 x29 τ29 gi29 gr29 ∧ (
          rO = x29 ∧ tO = τ29 ∧ gO = gi29 ∧ qO = gr29)) else (
          let u35 : Int32 × th_i := F_X11_finding τ Z gi gr h0 4
          let x35 : Int32 := u35.1
          let gi35 : th_i := u35.2
          rO = x35 ∧ tO = τ ∧ gO = gi35 ∧ qO = gr))))
set_option maxHeartbeats 20000000 in
set_option maxRecDepth 100000 in
theorem k_X11_boat (l : Launch) (D : va_G) (cA : Nat → ClassId) (Z : th_Zt) (τ : th_t) (gi : th_i) (gr : th_r) (sz : Nat) (h0 : Nat) (t_h0 : τ h0 = 11) (p1 : Int32) (p2 : Int32) (p3 : Int32) : Met l yX11_boat wsX11_boat ({ frames := 5, cells := 2, slots := 10, locals := 123 }) (va_Pc [.ref h0, .int p1, .int p2, .int p3] (th_Pre D cA Z τ gi gr sz)) (va_Qi (fun (r : Int32) (u : th_t × th_i × th_r) => th_Ext [106, 2100, 3600] τ gi gr sz sz u.1 u.2.1 u.2.2 ∧ (M_X11_boat τ Z gi gr h0 p1 p2 p3 r u.1 u.2.1 u.2.2)) (fun (u : th_t × th_i × th_r) t => th_H D cA u.1 u.2.1 u.2.2 t.heap) (th_A τ sz)) 2 10 (th_A τ sz) := by
  refine Met.ofW (cc := cX11_boat) (maxL := 4) (ret := (some .int)) (by decide) rfl ?_
  intro p e s m args below meth c s₁ B hml hv
  obtain ⟨rfl, hsz, hH, hK, hN, hZ⟩ := hv
  have hx := B.exec
  have hb := B.bytes
  have hr := B.returns
  have hts := atoms_spec (ws := wsX11_boat) B.pre
  have hown : s.vm.findClass RX11 = some m.cls := findClass_of_methodNamed B.named
  have hlocks := B.notSynchronized
  subst hsz
  have hA : ∀ q : Nat, s.heap.size ≤ q → (th_A τ s.heap.size) q := fun q h => Or.inr h
  have hE : th_Ext [106, 2100, 3600] τ gi gr s.heap.size s.heap.size τ gi gr := th_Ext.rf
  have J29 : ∀ (gi_29 : th_i) (gr_29 : th_r) (H : Heap) (locs : List Loc) (ls : Array Slot), th_H D cA τ gi_29 gr_29 H → va_S (th_A τ s.heap.size) s.heap H locs → th_Ext [106, 2100, 3600] τ gi gr s.heap.size s.heap.size τ gi_29 gr_29 → lv_has ls 4 [(0, .ref h0)] → (∀ (rO : Int32) (tO : th_t) (gO : th_i) (qO : th_r), f_X11_boat_29 τ Z gi gr h0 p1 p2 p3 rO tO gO qO gi_29 gr_29 → M_X11_boat τ Z gi gr h0 p1 p2 p3 rO tO gO qO) → W p l e (headSpec wsX11_boat ({ frames := 5, cells := 2, slots := 10, locals := 123 })).room s m [.ref h0, .int p1, .int p2, .int p3].toArray below meth c H locs 0 0 (MQ below (va_Qi (fun (r : Int32) (u : th_t × th_i × th_r) => th_Ext [106, 2100, 3600] τ gi gr s.heap.size s.heap.size u.1 u.2.1 u.2.2 ∧ (M_X11_boat τ Z gi gr h0 p1 p2 p3 r u.1 u.2.1 u.2.2)) (fun (u : th_t × th_i × th_r) t => th_H D cA u.1 u.2.1 u.2.2 t.heap) (th_A τ s.heap.size)) [.ref h0, .int p1, .int p2, .int p3].toArray s 2 10 (th_A τ s.heap.size)) (F0 m 29 ls []) := by
    intro gi_29 gr_29 H locs ls hH hS hE hl hF
    refine lv_aload_n hx hb dX11_boat_29 rfl (lv_at hl 0 rfl) ?_
    refine lv_iconst (v := 1) hx hb dX11_boat_30 ic_1 ?_
    have hA1 : ∀ q, th_A τ _ q → (th_A τ s.heap.size) q := th_AEa hE hS
    refine va_calli (va_runV (As := [.int 1]) (rest := []) ⟨hx, hb, hml, hown, hts⟩ (k_X11_finding l D cA Z τ gi_29 gr_29 _ h0 t_h0 1) (cwV 1 hts gX11_boat_X11_finding rfl rfl rfl hd_X11_finding__1 ⟨Nat.le_of_ble_eq_true rfl, Nat.le_of_ble_eq_true rfl⟩) ⟨th_blind, th_recv hK hH t_h0 (ci := 10) (th_nz rfl) rfl rfl, (th_pre hH hK hN hZ hS hA1)⟩ rfl rfl hl.1 rfl (lv_room (Nat.le_of_ble_eq_true rfl)) dX11_boat_31 ⟨Nat.le_of_ble_eq_true rfl, Nat.le_of_ble_eq_true rfl⟩) hS (fun q _ h => hA1 q h) hA1 (fun x2 u t H locs ht hvm hw2 hB hz1 hk1 hS => ?_)
    try dsimp only at hw2 hB
    rw [ht] at hB
    have hH := hB
    obtain ⟨gi2, gr2⟩ := u
    try dsimp only at hw2 hH
    obtain rfl : gr_29 = gr2 := (hw2.2.1).symm
    have hE := hE.mod hw2.1 (by decide)
    refine W.widen (k := 2) (n := 10) (Nat.le_of_ble_eq_true rfl) (Nat.le_of_ble_eq_true rfl) ?_
    exact W.iret (v := x2) hx hb hr (fun t ht hW => ⟨⟨x2, (τ, gi2, gr_29), rfl, ⟨hE, (hF _ _ _ _ (by (try simp only [f_X11_boat_29, hw2.2.2.1]); first | done | exact ⟨(by first | rfl | trivial), (by first | rfl | trivial), (by first | rfl | trivial), (by first | rfl | trivial)⟩))⟩, th_Ht ht hH⟩, hS.F ht⟩) hS.2.2 dX11_boat_34
  have hS : va_S (th_A τ s.heap.size) s.heap s.heap [] := va_S.rf
  have hl := lv_entry ([.ref h0, .int p1, .int p2, .int p3]) (n := 4) (Nat.le_of_ble_eq_true rfl)
  rw [lg_entry_eq]
  generalize (lg_sl ([.ref h0, .int p1, .int p2, .int p3]) ++ List.replicate (4 - (lg_sl ([.ref h0, .int p1, .int p2, .int p3])).length) Slot.unset).toArray = ls at hl ⊢
  have hl : lv_has ls 4 [(0, .ref h0), (1, .int p1), (2, .int p2), (3, .int p3)] := hl
  have hF : (∀ (rO : Int32) (tO : th_t) (gO : th_i) (qO : th_r), M_X11_boat τ Z gi gr h0 p1 p2 p3 rO tO gO qO → M_X11_boat τ Z gi gr h0 p1 p2 p3 rO tO gO qO) := fun rO tO gO qO h9 => h9
  refine lv_iload_n hx hb dX11_boat_0 rfl (lv_at hl 1 rfl) ?_
  have hA3 : ∀ q, th_A τ _ q → (th_A τ s.heap.size) q := th_AEa hE hS
  refine va_calli (va_runS (As := [.int p1]) (rest := []) ⟨hx, hb, hml, hown, hts⟩ (k_X11_isKind l D cA Z τ gi gr _ p1) (va_cwS 1 hts gX11_boat_X11_isKind rfl rfl rfl (by decide +kernel) ⟨Nat.le_of_ble_eq_true rfl, Nat.le_of_ble_eq_true rfl⟩) ⟨th_blind, (th_pre hH hK hN hZ hS hA3)⟩ rfl rfl hl.1 rfl (lv_room (Nat.le_of_ble_eq_true rfl)) dX11_boat_1 ⟨Nat.le_of_ble_eq_true rfl, Nat.le_of_ble_eq_true rfl⟩) hS (fun q _ h => hA3 q h) hA3 (fun x4 u t H locs ht hvm hw4 hB hz1 hk1 hS => ?_)
  try dsimp only at hw4 hB
  rw [ht] at hB
  have hH := hB
  refine lv_if_eq (tgt := 29) hx hb dX11_boat_4 (th_eqI rfl) (fun c5 => ?_) (fun c5 => ?_)
  · skip
    have f6 : rg 0 0 x4 := rg_w (rg_eq hw4.1 rgc_0 c5).1 (th_leI rfl) (th_leI rfl)
    exact J29 gi gr _ _ _ hH hS hE (lv_sub hl [0] rfl) (fun rO tO gO qO h9 => hF rO tO gO qO (by (try simp only [M_X11_boat, hw4.2.2.1, if_pos c5]); exact h9))
  · skip
    have f7 : rg 1 1 x4 := rg_w (rg_neL hw4.1 rgc_0 c5) (th_leI rfl) (th_leI rfl)
    have f8 : rg 0 2 p1 := rg_w (hw4.2.1 c5) (th_leI rfl) (th_leI rfl)
    refine lv_iload_n hx hb dX11_boat_7 rfl (lv_at hl 2 rfl) ?_
    refine lv_bipush (v := 10) hx hb dX11_boat_8 bp_10 ?_
    refine lv_sipush (v := 300) hx hb dX11_boat_10 sp_300 ?_
    have hA9 : ∀ q, th_A τ _ q → (th_A τ s.heap.size) q := th_AEa hE hS
    refine va_calli (va_runS (As := [.int p2, .int 10, .int 300]) (rest := []) ⟨hx, hb, hml, hown, hts⟩ (k_X11_within l D cA Z τ gi gr _ p2 10 300) (va_cwS 3 hts gX11_boat_X11_within rfl rfl rfl (by decide +kernel) ⟨Nat.le_of_ble_eq_true rfl, Nat.le_of_ble_eq_true rfl⟩) ⟨th_blind, (th_pre hH hK hN hZ hS hA9)⟩ rfl rfl hl.1 rfl (lv_room (Nat.le_of_ble_eq_true rfl)) dX11_boat_13 ⟨Nat.le_of_ble_eq_true rfl, Nat.le_of_ble_eq_true rfl⟩) hS (fun q _ h => hA9 q h) hA9 (fun x10 u t H locs ht hvm hw10 hB hz1 hk1 hS => ?_)
    try dsimp only at hw10 hB
    rw [ht] at hB
    have hH := hB
    refine lv_if_eq (tgt := 29) hx hb dX11_boat_16 (th_eqI rfl) (fun c11 => ?_) (fun c11 => ?_)
    · skip
      have f12 : rg 0 0 x10 := rg_w (rg_eq hw10.1 rgc_0 c11).1 (th_leI rfl) (th_leI rfl)
      exact J29 gi gr _ _ _ hH hS hE (lv_sub hl [0] rfl) (fun rO tO gO qO h9 => hF rO tO gO qO (by (try simp only [M_X11_boat, hw4.2.2.1, if_neg c5, hw10.2.2.1, if_pos c11]); exact h9))
    · skip
      have f13 : rg 1 1 x10 := rg_w (rg_neL hw10.1 rgc_0 c11) (th_leI rfl) (th_leI rfl)
      have g14 := hw10.2.1 c11
      have f15 : rg 10 2147483647 p2 := rg_w (rg_le rgc_10 (rg_any p2) g14.1).2 (th_leI rfl) (th_leI rfl)
      have f16 : rg 10 300 p2 := rg_w (rg_le f15 rgc_300 g14.2).1 (th_leI rfl) (th_leI rfl)
      refine lv_iload_n hx hb dX11_boat_19 rfl (lv_at hl 3 rfl) ?_
      refine lv_iconst (v := 0) hx hb dX11_boat_20 ic_0 ?_
      refine lv_bipush (v := 100) hx hb dX11_boat_21 bp_100 ?_
      have hA17 : ∀ q, th_A τ _ q → (th_A τ s.heap.size) q := th_AEa hE hS
      refine va_calli (va_runS (As := [.int p3, .int 0, .int 100]) (rest := []) ⟨hx, hb, hml, hown, hts⟩ (k_X11_within l D cA Z τ gi gr _ p3 0 100) (va_cwS 3 hts gX11_boat_X11_within rfl rfl rfl (by decide +kernel) ⟨Nat.le_of_ble_eq_true rfl, Nat.le_of_ble_eq_true rfl⟩) ⟨th_blind, (th_pre hH hK hN hZ hS hA17)⟩ rfl rfl hl.1 rfl (lv_room (Nat.le_of_ble_eq_true rfl)) dX11_boat_23 ⟨Nat.le_of_ble_eq_true rfl, Nat.le_of_ble_eq_true rfl⟩) hS (fun q _ h => hA17 q h) hA17 (fun x18 u t H locs ht hvm hw18 hB hz1 hk1 hS => ?_)
      try dsimp only at hw18 hB
      rw [ht] at hB
      have hH := hB
      refine lv_if_ne (tgt := 35) hx hb dX11_boat_26 (th_eqI rfl) (fun c19 => ?_) (fun c19 => ?_)
      · skip
        have f20 : rg 1 1 x18 := rg_w (rg_neL hw18.1 rgc_0 c19) (th_leI rfl) (th_leI rfl)
        have g21 := hw18.2.1 c19
        have f22 : rg 0 2147483647 p3 := rg_w (rg_le rgc_0 (rg_any p3) g21.1).2 (th_leI rfl) (th_leI rfl)
        have f23 : rg 0 100 p3 := rg_w (rg_le f22 rgc_100 g21.2).1 (th_leI rfl) (th_leI rfl)
        refine lv_aload_n hx hb dX11_boat_35 rfl (lv_at hl 0 rfl) ?_
        obtain ⟨q24, r24, t24⟩ : ∃ q, gr h0 0 = some q ∧ τ q = 1 := (hH.at t_h0 (th_nz rfl)).2.1
        refine th_get (ci := 10) (v := .ref q24) (T := TX11) (C := RX11) (N := 10) hx hb hts (fun w h => List.mem_cons_of_mem _ (List.mem_append_left _ (List.mem_append_left _ (List.mem_append_left _ (List.mem_append_left _ (List.mem_append_right _ h)))))) hown hK hH t_h0 (th_nz rfl) rfl rfl 0 (th_ltN rfl) (hts (.fieldLink RX11 10 "BayMoorings" "bay" "LBayMoorings$Bay;") (List.mem_cons_of_mem _ (List.mem_append_left _ (List.mem_append_left _ (List.mem_append_left _ (List.mem_append_left _ (List.mem_append_left _ (List.mem_append_left _ (List.mem_of_getElem? (i := 0) rfl))))))))) (fun _ h9 => h9) (th_fR r24 rfl) dX11_boat_36 ?_
        obtain ⟨x25, e25⟩ : ∃ y : Int32, y = gi q24 6 := ⟨_, rfl⟩
        refine th_get (ci := 0) (v := .int x25) (T := TX0) (C := RX0) (N := 9) hx hb hts (fun w h => List.mem_cons_of_mem _ (List.mem_append_left _ (List.mem_append_left _ (List.mem_append_left _ (List.mem_append_right _ h))))) hown hK hH t24 (th_nz rfl) rfl rfl 6 (th_ltN rfl) (hts (.fieldLink RX11 83 "BayMoorings$Bay" "boatCount" "I") (List.mem_cons_of_mem _ (List.mem_append_left _ (List.mem_append_left _ (List.mem_append_left _ (List.mem_append_left _ (List.mem_append_left _ (List.mem_append_left _ (List.mem_of_getElem? (i := 1) rfl))))))))) (fun _ h9 => h9) (th_fI e25 rfl) dX11_boat_39 ?_
        have f25 : rg 0 16 x25 := rg_e e25 ((hH.at t24 (th_nz rfl)).2.2.2.2.2.2.2)
        refine lv_bipush (v := 16) hx hb dX11_boat_42 bp_16 ?_
        refine lv_icmp_lt (tgt := 53) hx hb dX11_boat_44 (th_eqI rfl) (fun c26 => ?_) (fun c26 => ?_)
        · skip
          have f27 : rg 0 15 x25 := rg_w (rg_lt f25 rgc_16 c26).1 (th_leI rfl) (th_leI rfl)
          refine lv_aload_n hx hb dX11_boat_53 rfl (lv_at hl 0 rfl) ?_
          refine th_get (ci := 10) (v := .ref q24) (T := TX11) (C := RX11) (N := 10) hx hb hts (fun w h => List.mem_cons_of_mem _ (List.mem_append_left _ (List.mem_append_left _ (List.mem_append_left _ (List.mem_append_left _ (List.mem_append_right _ h)))))) hown hK hH t_h0 (th_nz rfl) rfl rfl 0 (th_ltN rfl) (hts (.fieldLink RX11 10 "BayMoorings" "bay" "LBayMoorings$Bay;") (List.mem_cons_of_mem _ (List.mem_append_left _ (List.mem_append_left _ (List.mem_append_left _ (List.mem_append_left _ (List.mem_append_left _ (List.mem_append_left _ (List.mem_of_getElem? (i := 0) rfl))))))))) (fun _ h9 => h9) (th_fR r24 rfl) dX11_boat_54 ?_
          refine lv_iload_n hx hb dX11_boat_57 rfl (lv_at hl 1 rfl) ?_
          refine lv_iload_n hx hb dX11_boat_58 rfl (lv_at hl 2 rfl) ?_
          refine lv_iload_n hx hb dX11_boat_59 rfl (lv_at hl 3 rfl) ?_
          have hA29 : ∀ q, th_A τ _ q → (th_A τ s.heap.size) q := th_AEa hE hS
          have hle29 := hS.1
          refine va_calli (va_runV (As := [.int p1, .int p2, .int p3]) (rest := []) ⟨hx, hb, hml, hown, hts⟩ (k_X0_addBoat l D cA Z τ gi gr _ q24 t24 p1 p2 p3) (cwV 3 hts gX11_boat_X0_addBoat rfl rfl rfl (by decide +kernel) ⟨Nat.le_of_ble_eq_true rfl, Nat.le_of_ble_eq_true rfl⟩) ⟨th_blind, th_recv hK hH t24 (ci := 0) (by decide) rfl rfl, (th_pre hH hK hN hZ hS hA29)⟩ rfl rfl hl.1 rfl (lv_room (Nat.le_of_ble_eq_true rfl)) dX11_boat_60 ⟨Nat.le_of_ble_eq_true rfl, Nat.le_of_ble_eq_true rfl⟩) hS (fun q _ h => hA29 q h) hA29 (fun x29 u t H locs ht hvm hw29 hB hz29 hk29 hS => ?_)
          obtain ⟨τ29, gi29, gr29⟩ := u
          try dsimp only at hw29 hB
          rw [ht] at hB
          have hH := hB
          have t30 : τ29 h0 = 11 := ((hw29.1.1 h0 (by rw [t_h0]; decide)).trans t_h0)
          have t31 : τ29 q24 = 1 := ((hw29.1.1 q24 (by rw [t24]; decide)).trans t24)
          have hE := hE.tr hw29.1 (Or.inr hle29) hle29 (by decide)
          have r32 : gr29 h0 0 = some q24 := by rw [(hw29.1.2.2 h0 0 (by rw [t_h0]; decide) (by rw [t_h0]; show (1100 : Nat) ∉ _; decide)).2]; exact r24
          refine W.widen (k := 2) (n := 10) (Nat.le_of_ble_eq_true rfl) (Nat.le_of_ble_eq_true rfl) ?_
          exact W.iret (v := x29) hx hb hr (fun t ht hW => ⟨⟨x29, (τ29, gi29, gr29), rfl, ⟨hE, (hF _ _ _ _ (by (try simp only [M_X11_boat, hw4.2.2.1, if_neg c5, hw10.2.2.1, if_neg c11, hw18.2.2.1, if_neg c19, r24, Option.getD_some, ← e25, if_pos c26]); refine ⟨x29, τ29, gi29, gr29, hw29.2, ?_⟩; (try simp only [hw4.2.2.1, if_neg c5, hw10.2.2.1, if_neg c11, hw18.2.2.1, if_neg c19, r24, Option.getD_some, ← e25, if_pos c26]); first | done | exact ⟨(by first | rfl | trivial), (by first | rfl | trivial), (by first | rfl | trivial), (by first | rfl | trivial)⟩))⟩, th_Ht ht hH⟩, hS.F ht⟩) hS.2.2 dX11_boat_63
        · skip
          have f33 : rg 16 16 x25 := rg_w (rg_nlt f25 rgc_16 c26).1 (th_leI rfl) (th_leI rfl)
          refine lv_aload_n hx hb dX11_boat_47 rfl (lv_at hl 0 rfl) ?_
          refine lv_iconst (v := 4) hx hb dX11_boat_48 ic_4 ?_
          have hA34 : ∀ q, th_A τ _ q → (th_A τ s.heap.size) q := th_AEa hE hS
          refine va_calli (va_runV (As := [.int 4]) (rest := []) ⟨hx, hb, hml, hown, hts⟩ (k_X11_finding l D cA Z τ gi gr _ h0 t_h0 4) (cwV 1 hts gX11_boat_X11_finding rfl rfl rfl hd_X11_finding__1 ⟨Nat.le_of_ble_eq_true rfl, Nat.le_of_ble_eq_true rfl⟩) ⟨th_blind, th_recv hK hH t_h0 (ci := 10) (th_nz rfl) rfl rfl, (th_pre hH hK hN hZ hS hA34)⟩ rfl rfl hl.1 rfl (lv_room (Nat.le_of_ble_eq_true rfl)) dX11_boat_49 ⟨Nat.le_of_ble_eq_true rfl, Nat.le_of_ble_eq_true rfl⟩) hS (fun q _ h => hA34 q h) hA34 (fun x35 u t H locs ht hvm hw35 hB hz1 hk1 hS => ?_)
          try dsimp only at hw35 hB
          rw [ht] at hB
          have hH := hB
          obtain ⟨gi35, gr35⟩ := u
          try dsimp only at hw35 hH
          obtain rfl : gr = gr35 := (hw35.2.1).symm
          have hE := hE.mod hw35.1 (by decide)
          have e36 : x25 = gi35 q24 6 := Eq.trans e25 (Eq.symm (hw35.1 q24 6 (th_nzE t24 rfl) (th_nmE (key := 106) t24 rfl rfl)).1)
          refine W.widen (k := 2) (n := 10) (Nat.le_of_ble_eq_true rfl) (Nat.le_of_ble_eq_true rfl) ?_
          exact W.iret (v := x35) hx hb hr (fun t ht hW => ⟨⟨x35, (τ, gi35, gr), rfl, ⟨hE, (hF _ _ _ _ (by (try simp only [M_X11_boat, hw4.2.2.1, if_neg c5, hw10.2.2.1, if_neg c11, hw18.2.2.1, if_neg c19, r24, Option.getD_some, ← e25, if_neg c26, hw35.2.2.1]); first | done | exact ⟨(by first | rfl | trivial), (by first | rfl | trivial), (by first | rfl | trivial), (by first | rfl | trivial)⟩))⟩, th_Ht ht hH⟩, hS.F ht⟩) hS.2.2 dX11_boat_52
      · skip
        have f37 : rg 0 0 x18 := rg_w (rg_eq hw18.1 rgc_0 c19).1 (th_leI rfl) (th_leI rfl)
        exact J29 gi gr _ _ _ hH hS hE (lv_sub hl [0] rfl) (fun rO tO gO qO h9 => hF rO tO gO qO (by (try simp only [M_X11_boat, hw4.2.2.1, if_neg c5, hw10.2.2.1, if_neg c11, hw18.2.2.1, if_pos c19]); exact h9))
