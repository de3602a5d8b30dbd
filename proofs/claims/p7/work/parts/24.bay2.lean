noncomputable def FV_reach (τ : th_t) (Z : th_Zt) (gi : th_i) (gr : th_r) (h0 : Nat) : Int32 := if τ h0 = 8 then F_X2_reach τ Z gi gr h0 else if τ h0 = 9 then F_X9_reach τ Z gi gr h0 else F_X2_reach τ Z gi gr h0
theorem FV_reach_8 {τ : th_t} {Z : th_Zt} {gi : th_i} {gr : th_r} {h0 : Nat} (t : τ h0 = 8) : FV_reach τ Z gi gr h0 = F_X2_reach τ Z gi gr h0 := by
  unfold FV_reach
  rw [if_pos t]
theorem FV_reach_9 {τ : th_t} {Z : th_Zt} {gi : th_i} {gr : th_r} {h0 : Nat} (t : τ h0 = 9) : FV_reach τ Z gi gr h0 = F_X9_reach τ Z gi gr h0 := by
  unfold FV_reach
  rw [if_neg (by rw [t]; decide), if_pos t]
theorem FV_reach_4 {τ : th_t} {Z : th_Zt} {gi : th_i} {gr : th_r} {h0 : Nat} (t : τ h0 = 4) : FV_reach τ Z gi gr h0 = F_X2_reach τ Z gi gr h0 := by
  unfold FV_reach
  rw [if_neg (by rw [t]; decide), if_neg (by rw [t]; decide)]
noncomputable def f_X0_firstTouch_89 (τ : th_t) (Z : th_Zt) (gi : th_i) (gr : th_r) (h0 : Nat) (h1 : Nat) (h2 : Nat) (h3 : Nat) (h4 : Nat) (y39_5 : Int32) (y39_6 : Int32) (y39_7 : Int32) (y39_8 : Int32) (y39_9 : Int32) (k_39 : Int32 → Int32 → Int32 → Int32 → Int32 → Int32) : Int32 :=
  let w89_0 : Int32 := gi h2 1
  let w89_1 : Int32 := gi h2 2
  let w89_2 : Int32 := gi h4 1
  let w89_3 : Int32 := gi h4 2
  let x1 : Int32 := y39_9 + 1
  k_39 y39_5 y39_6 y39_7 y39_8 x1
noncomputable def f_X0_firstTouch_39 (τ : th_t) (Z : th_Zt) (gi : th_i) (gr : th_r) (h0 : Nat) (h1 : Nat) (h2 : Nat) (h3 : Nat) (h4 : Nat) : Nat → Int32 → Int32 → Int32 → Int32 → Int32 → Int32
  | 0, y39_5, y39_6, y39_7, y39_8, y39_9 => 0
  | n39 + 1, y39_5, y39_6, y39_7, y39_8, y39_9 =>
    let w39_0 : Int32 := gi h2 1
    let w39_1 : Int32 := gi h2 2
    let w39_2 : Int32 := gi h4 1
    let w39_3 : Int32 := gi h4 2
    if (24 : Int32) ≤ y39_9 then (
      (-1)) else (
      let q5 : Nat := (gr h0 3).getD 0
      let x6 : Int32 := gi q5 y39_9.toNatClampNeg
      if x6 = (0 : Int32) then (
        let x11 : Int32 := F_X3_slackAt τ Z gi gr h2 y39_9
        let x12 : Int32 := x11 + y39_7
        let x14 : Int32 := F_X3_slackAt τ Z gi gr h4 y39_9
        let x15 : Int32 := x14 + y39_8
        let x17 : Int32 := F_X0_mayMeet τ Z gi gr h0 y39_5 y39_6 x12 x15
        if x17 = (0 : Int32) then (
          f_X0_firstTouch_89 τ Z gi gr h0 h1 h2 h3 h4 y39_5 y39_6 y39_7 y39_8 y39_9 (f_X0_firstTouch_39 τ Z gi gr h0 h1 h2 h3 h4 n39) ) else (
          y39_9)) else (
        f_X0_firstTouch_89 τ Z gi gr h0 h1 h2 h3 h4 y39_5 y39_6 y39_7 y39_8 y39_9 (f_X0_firstTouch_39 τ Z gi gr h0 h1 h2 h3 h4 n39) ))
noncomputable def F_X0_firstTouch (τ : th_t) (Z : th_Zt) (gi : th_i) (gr : th_r) (h0 : Nat) (h1 : Nat) (h2 : Nat) (h3 : Nat) (h4 : Nat) : Int32 :=
  let x21 : Int32 := gi h4 1
  let x22 : Int32 := gi h2 1
  let x23 : Int32 := x21 - x22
  let x24 : Int32 := gi h4 2
  let x25 : Int32 := gi h2 2
  let x26 : Int32 := x24 - x25
  let x28 : Int32 := FV_reach τ Z gi gr h1
  let x30 : Int32 := FV_reach τ Z gi gr h3
  f_X0_firstTouch_39 τ Z gi gr h0 h1 h2 h3 h4 ((24 - (0 : Int32).toInt).toNat + 1) x23 x26 x28 x30 0
set_option maxHeartbeats 8000000 in
set_option maxRecDepth 100000 in
theorem k_X0_firstTouch (l : Launch) (D : va_G) (cA : Nat → ClassId) (Z : th_Zt) (τ : th_t) (gi : th_i) (gr : th_r) (sz : Nat) (h0 : Nat) (t_h0 : τ h0 = 1) (h1 : Nat) (t_h1 : τ h1 = 8 ∨ τ h1 = 9 ∨ τ h1 = 4) (h2 : Nat) (t_h2 : τ h2 = 3) (h3 : Nat) (t_h3 : τ h3 = 8 ∨ τ h3 = 9 ∨ τ h3 = 4) (h4 : Nat) (t_h4 : τ h4 = 3) : Met l yX0_firstTouch wsX0_firstTouch ({ frames := 2, cells := 0, slots := 0, locals := 68 }) (va_Pc [.ref h0, .ref h1, .ref h2, .ref h3, .ref h4] (th_Pre D cA Z τ gi gr sz)) (va_Qi (fun (r : Int32) (_ : Unit) => (F_X0_firstTouch τ Z gi gr h0 h1 h2 h3 h4 = r)) (fun (_ : Unit) t => th_H D cA τ gi gr t.heap) (th_A τ sz)) 0 0 (th_A τ sz) := by
  refine Met.ofW (cc := cX0_firstTouch) (maxL := 10) (ret := (some .int)) (by decide) rfl ?_
  intro p e s m args below meth c s₁ B hml hv
  obtain ⟨rfl, hsz, hH, hK, hN, hZ⟩ := hv
  have hx := B.exec
  have hb := B.bytes
  have hr := B.returns
  have hts := atoms_spec (ws := wsX0_firstTouch) B.pre
  have hown : s.vm.findClass RX0 = some m.cls := findClass_of_methodNamed B.named
  have hlocks := B.notSynchronized
  subst hsz
  have J39 : ∀ (n39 : Nat) (H : Heap) (locs : List Loc) (ls : Array Slot) (y39_5 : Int32) (y39_6 : Int32) (y39_7 : Int32) (y39_8 : Int32) (y39_9 : Int32) (w39_0 : Int32) (w39_1 : Int32) (w39_2 : Int32) (w39_3 : Int32), (24 - y39_9.toInt).toNat < n39 → th_H D cA τ gi gr H → va_S (th_A τ s.heap.size) s.heap H locs → lv_has ls 10 [(0, .ref h0), (2, .ref h2), (4, .ref h4), (5, .int y39_5), (6, .int y39_6), (7, .int y39_7), (8, .int y39_8), (9, .int y39_9)] → rg 0 24 y39_9 → w39_0 = gi h2 1 → w39_1 = gi h2 2 → w39_2 = gi h4 1 → w39_3 = gi h4 2 → F_X0_firstTouch τ Z gi gr h0 h1 h2 h3 h4 = f_X0_firstTouch_39 τ Z gi gr h0 h1 h2 h3 h4 n39 y39_5 y39_6 y39_7 y39_8 y39_9 → W p l e (headSpec wsX0_firstTouch ({ frames := 2, cells := 0, slots := 0, locals := 68 })).room s m [.ref h0, .ref h1, .ref h2, .ref h3, .ref h4].toArray below meth c H locs 0 0 (MQ below (va_Qi (fun (r : Int32) (_ : Unit) => (F_X0_firstTouch τ Z gi gr h0 h1 h2 h3 h4 = r)) (fun (_ : Unit) t => th_H D cA τ gi gr t.heap) (th_A τ s.heap.size)) [.ref h0, .ref h1, .ref h2, .ref h3, .ref h4].toArray s 0 0 (th_A τ s.heap.size)) (F0 m 39 ls []) := by
    intro n39
    induction n39 with
    | zero =>
      intro H locs ls y39_5 y39_6 y39_7 y39_8 y39_9 w39_0 w39_1 w39_2 w39_3 hn
      exact absurd hn (Nat.not_lt_zero _)
    | succ n39 ih39 =>
      intro H locs ls y39_5 y39_6 y39_7 y39_8 y39_9 w39_0 w39_1 w39_2 w39_3 hn39 hH hS hl fy39_9 ew39_0 ew39_1 ew39_2 ew39_3 hF
      have J89 : ∀ (H : Heap) (locs : List Loc) (ls : Array Slot) (w89_0 : Int32) (w89_1 : Int32) (w89_2 : Int32) (w89_3 : Int32), th_H D cA τ gi gr H → va_S (th_A τ s.heap.size) s.heap H locs → lv_has ls 10 [(0, .ref h0), (2, .ref h2), (4, .ref h4), (5, .int y39_5), (6, .int y39_6), (7, .int y39_7), (8, .int y39_8), (9, .int y39_9)] → rg 0 23 y39_9 → w89_0 = gi h2 1 → w89_1 = gi h2 2 → w89_2 = gi h4 1 → w89_3 = gi h4 2 → F_X0_firstTouch τ Z gi gr h0 h1 h2 h3 h4 = f_X0_firstTouch_89 τ Z gi gr h0 h1 h2 h3 h4 y39_5 y39_6 y39_7 y39_8 y39_9 (f_X0_firstTouch_39 τ Z gi gr h0 h1 h2 h3 h4 n39) → W p l e (headSpec wsX0_firstTouch ({ frames := 2, cells := 0, slots := 0, locals := 68 })).room s m [.ref h0, .ref h1, .ref h2, .ref h3, .ref h4].toArray below meth c H locs 0 0 (MQ below (va_Qi (fun (r : Int32) (_ : Unit) => (F_X0_firstTouch τ Z gi gr h0 h1 h2 h3 h4 = r)) (fun (_ : Unit) t => th_H D cA τ gi gr t.heap) (th_A τ s.heap.size)) [.ref h0, .ref h1, .ref h2, .ref h3, .ref h4].toArray s 0 0 (th_A τ s.heap.size)) (F0 m 89 ls []) := by
        intro H locs ls w89_0 w89_1 w89_2 w89_3 hH hS hl fy89_9 ew89_0 ew89_1 ew89_2 ew89_3 hF
        obtain ⟨x1, e1⟩ : ∃ y : Int32, y = y39_9 + 1 := ⟨_, rfl⟩
        have f1 : rg 1 24 x1 := rg_e e1 (rg_w (rg_add fy89_9 rgc_1 (th_leI rfl) (th_leI rfl)) (th_leI rfl) (th_leI rfl))
        refine lv_iinc (v := x1) (lv' := [(9, .int x1), (0, .ref h0), (2, .ref h2), (4, .ref h4), (5, .int y39_5), (6, .int y39_6), (7, .int y39_7), (8, .int y39_8)]) hx hb dX0_firstTouch_89 hl (k := 7) rfl (by rw [e1]; rfl) (th_ltN rfl) rfl (fun ls hl => ?_)
        refine lv_goto (tgt := 39) hx hb dX0_firstTouch_92 (th_eqI rfl) ?_
        exact ih39 _ _ _ y39_5 y39_6 y39_7 y39_8 x1 w89_0 w89_1 w89_2 w89_3 (th_up (rg_dA e1 fy89_9 rgc_1 (th_leI rfl) (th_leI rfl)) fy89_9 hn39 (th_ltI rfl)) hH hS (lv_sub hl [1, 2, 3, 4, 5, 6, 7, 0] rfl) (rg_w f1 (th_leI rfl) (th_leI rfl)) ew89_0 ew89_1 ew89_2 ew89_3 (hF.trans (by simp only [f_X0_firstTouch_89, ← ew89_0, ← ew89_1, ← ew89_2, ← ew89_3, ← e1]))
      refine lv_iload hx hb dX0_firstTouch_39 (lv_at hl 7 rfl) ?_
      refine lv_bipush (v := 24) hx hb dX0_firstTouch_41 bp_24 ?_
      refine lv_icmp_ge (tgt := 95) hx hb dX0_firstTouch_43 (th_eqI rfl) (fun c2 => ?_) (fun c2 => ?_)
      · skip
        have f3 : rg 24 24 y39_9 := rg_w (rg_le rgc_24 fy39_9 c2).2 (th_leI rfl) (th_leI rfl)
        refine lv_iconst (v := (-1)) hx hb dX0_firstTouch_95 ic_m1 ?_
        exact W.iret (v := (-1)) hx hb hr (fun t ht hW => ⟨⟨(-1), (), rfl, (hF.trans (by simp only [↓reduceIte, f_X0_firstTouch_39, ← ew39_0, ← ew39_1, ← ew39_2, ← ew39_3, eq_true c2])), th_Ht ht hH⟩, hS.F ht⟩) hS.2.2 dX0_firstTouch_96
      · skip
        have f4 : rg 0 23 y39_9 := rg_w (rg_nle rgc_24 fy39_9 c2).2 (th_leI rfl) (th_leI rfl)
        refine lv_aload_n hx hb dX0_firstTouch_46 rfl (lv_at hl 0 rfl) ?_
        obtain ⟨q5, r5, t5⟩ : ∃ q, gr h0 3 = some q ∧ τ q = 23 := (thI_1 hH t_h0).2.2.2.1
        refine th_get (ci := 0) (v := .ref q5) (T := TX0) (C := RX0) (N := 9) hx hb hts (fun w h => List.mem_cons_of_mem _ (List.mem_append_left _ (List.mem_append_left _ (List.mem_append_left _ (List.mem_append_right _ h))))) hown hK hH t_h0 (th_nz rfl) (thE_1 _ _ _) rfl 3 (th_ltN rfl) (hts (.fieldLink RX0 27 "BayMoorings$Bay" "repeated" "[Z") (List.mem_cons_of_mem _ (List.mem_append_left _ (List.mem_append_left _ (List.mem_append_left _ (List.mem_append_left _ (List.mem_append_left _ (List.mem_append_left _ (List.mem_of_getElem? (i := 2) rfl))))))))) (fun _ h9 => h9) (th_fR r5 rfl) dX0_firstTouch_47 ?_
        refine lv_iload hx hb dX0_firstTouch_50 (lv_at hl 7 rfl) ?_
        refine th_zald hx hb hK hH t5 (th_nz rfl) 1 (thE_23 _ _ _) rfl (rg_in (n := 24) f4 (th_leI rfl) (th_ltI rfl)) dX0_firstTouch_52 ?_
        refine lv_topi (fun x6 e6 => ?_)
        have f6 : rg 0 1 x6 := rg_e e6 ((thI_23 hH t5) _ (rg_cl (n := 24) f4 (th_leI rfl) (th_ltI rfl)))
        refine lv_if_ne (tgt := 89) hx hb dX0_firstTouch_53 (th_eqI rfl) (fun c7 => ?_) (fun c7 => ?_)
        · skip
          have f8 : rg 1 1 x6 := rg_w (rg_neL f6 rgc_0 c7) (th_leI rfl) (th_leI rfl)
          exact J89 _ _ _ w39_0 w39_1 w39_2 w39_3 hH hS (lv_sub hl [0, 1, 2, 3, 4, 5, 6, 7] rfl) f4 ew39_0 ew39_1 ew39_2 ew39_3 (hF.trans (by simp only [↓reduceIte, f_X0_firstTouch_39, ← ew39_0, ← ew39_1, ← ew39_2, ← ew39_3, eq_false c2, r5, Option.getD_some, ← e6, eq_false c7]))
        · skip
          have f9 : rg 0 0 x6 := rg_w (rg_eq f6 rgc_0 c7).1 (th_leI rfl) (th_leI rfl)
          refine lv_aload_n hx hb dX0_firstTouch_56 rfl (lv_at hl 0 rfl) ?_
          refine lv_iload hx hb dX0_firstTouch_57 (lv_at hl 3 rfl) ?_
          refine lv_iload hx hb dX0_firstTouch_59 (lv_at hl 4 rfl) ?_
          refine lv_aload_n hx hb dX0_firstTouch_61 rfl (lv_at hl 1 rfl) ?_
          refine lv_iload hx hb dX0_firstTouch_62 (lv_at hl 7 rfl) ?_
          have hA10 := th_Asub (τ := τ) hS
          refine va_calli (va_runV (As := [.int y39_9]) (rest := [.int y39_6, .int y39_5, .ref h0]) ⟨hx, hb, hml, hown, hts⟩ (k_X3_slackAt l D cA Z τ gi gr _ h2 t_h2 y39_9) (cwV 1 hts gX0_firstTouch_X3_slackAt rfl rfl rfl hd_X3_slackAt__1 ⟨Nat.le_of_ble_eq_true rfl, Nat.le_of_ble_eq_true rfl⟩) ⟨th_blind, tr_3 hK hH t_h2, (th_pre hH hK hN hZ hS hA10)⟩ rfl rfl hl.1 rfl (lv_room (Nat.le_of_ble_eq_true rfl)) dX0_firstTouch_64 ⟨Nat.le_of_ble_eq_true rfl, Nat.le_of_ble_eq_true rfl⟩) hS (fun q _ h => hA10 q h) hA10 (fun x11 u t H locs ht hvm hw11 hB hz1 hk1 hS => ?_)
          try dsimp only at hw11 hB
          rw [ht] at hB
          have hH := hB
          refine lv_iload hx hb dX0_firstTouch_67 (lv_at hl 5 rfl) ?_
          refine lv_iadd hx hb dX0_firstTouch_69 ?_
          refine lv_topi (fun x12 e12 => ?_)
          refine lv_aload hx hb dX0_firstTouch_70 (lv_at hl 2 rfl) ?_
          refine lv_iload hx hb dX0_firstTouch_72 (lv_at hl 7 rfl) ?_
          have hA13 := th_Asub (τ := τ) hS
          refine va_calli (va_runV (As := [.int y39_9]) (rest := [.int x12, .int y39_6, .int y39_5, .ref h0]) ⟨hx, hb, hml, hown, hts⟩ (k_X3_slackAt l D cA Z τ gi gr _ h4 t_h4 y39_9) (cwV 1 hts gX0_firstTouch_X3_slackAt rfl rfl rfl hd_X3_slackAt__1 ⟨Nat.le_of_ble_eq_true rfl, Nat.le_of_ble_eq_true rfl⟩) ⟨th_blind, tr_3 hK hH t_h4, (th_pre hH hK hN hZ hS hA13)⟩ rfl rfl hl.1 rfl (lv_room (Nat.le_of_ble_eq_true rfl)) dX0_firstTouch_74 ⟨Nat.le_of_ble_eq_true rfl, Nat.le_of_ble_eq_true rfl⟩) hS (fun q _ h => hA13 q h) hA13 (fun x14 u t H locs ht hvm hw14 hB hz1 hk1 hS => ?_)
          try dsimp only at hw14 hB
          rw [ht] at hB
          have hH := hB
          refine lv_iload hx hb dX0_firstTouch_77 (lv_at hl 6 rfl) ?_
          refine lv_iadd hx hb dX0_firstTouch_79 ?_
          refine lv_topi (fun x15 e15 => ?_)
          have hA16 := th_Asub (τ := τ) hS
          refine va_calli (va_runV (As := [.int y39_5, .int y39_6, .int x12, .int x15]) (rest := []) ⟨hx, hb, hml, hown, hts⟩ (k_X0_mayMeet l D cA Z τ gi gr _ h0 t_h0 y39_5 y39_6 x12 x15) (cwV 4 hts gX0_firstTouch_X0_mayMeet rfl rfl rfl hd_X0_mayMeet__4 ⟨Nat.le_of_ble_eq_true rfl, Nat.le_of_ble_eq_true rfl⟩) ⟨th_blind, tr_1 hK hH t_h0, (th_pre hH hK hN hZ hS hA16)⟩ rfl rfl hl.1 rfl (lv_room (Nat.le_of_ble_eq_true rfl)) dX0_firstTouch_80 ⟨Nat.le_of_ble_eq_true rfl, Nat.le_of_ble_eq_true rfl⟩) hS (fun q _ h => hA16 q h) hA16 (fun x17 u t H locs ht hvm hw17 hB hz1 hk1 hS => ?_)
          try dsimp only at hw17 hB
          rw [ht] at hB
          have hH := hB
          refine lv_if_eq (tgt := 89) hx hb dX0_firstTouch_83 (th_eqI rfl) (fun c18 => ?_) (fun c18 => ?_)
          · skip
            have f19 : rg 0 0 x17 := rg_w (rg_eq hw17.1 rgc_0 c18).1 (th_leI rfl) (th_leI rfl)
            exact J89 _ _ _ w39_0 w39_1 w39_2 w39_3 hH hS (lv_sub hl [0, 1, 2, 3, 4, 5, 6, 7] rfl) f4 ew39_0 ew39_1 ew39_2 ew39_3 (hF.trans (by simp only [↓reduceIte, f_X0_firstTouch_39, ← ew39_0, ← ew39_1, ← ew39_2, ← ew39_3, eq_false c2, r5, Option.getD_some, ← e6, eq_true c7, hw11, ← e12, hw14, ← e15, hw17.2, eq_true c18]))
          · skip
            have f20 : rg 1 1 x17 := rg_w (rg_neL hw17.1 rgc_0 c18) (th_leI rfl) (th_leI rfl)
            refine lv_iload hx hb dX0_firstTouch_86 (lv_at hl 7 rfl) ?_
            exact W.iret (v := y39_9) hx hb hr (fun t ht hW => ⟨⟨y39_9, (), rfl, (hF.trans (by simp only [↓reduceIte, f_X0_firstTouch_39, ← ew39_0, ← ew39_1, ← ew39_2, ← ew39_3, eq_false c2, r5, Option.getD_some, ← e6, eq_true c7, hw11, ← e12, hw14, ← e15, hw17.2, eq_false c18])), th_Ht ht hH⟩, hS.F ht⟩) hS.2.2 dX0_firstTouch_88
  have hS : va_S (th_A τ s.heap.size) s.heap s.heap [] := va_S.rf
  have hl := lv_entry ([.ref h0, .ref h1, .ref h2, .ref h3, .ref h4]) (n := 10) (Nat.le_of_ble_eq_true rfl)
  rw [lg_entry_eq]
  generalize (lg_sl ([.ref h0, .ref h1, .ref h2, .ref h3, .ref h4]) ++ List.replicate (10 - (lg_sl ([.ref h0, .ref h1, .ref h2, .ref h3, .ref h4])).length) Slot.unset).toArray = ls at hl ⊢
  have hl : lv_has ls 10 [(0, .ref h0), (1, .ref h1), (2, .ref h2), (3, .ref h3), (4, .ref h4)] := hl
  have hF : F_X0_firstTouch τ Z gi gr h0 h1 h2 h3 h4 = F_X0_firstTouch τ Z gi gr h0 h1 h2 h3 h4 := rfl
  refine lv_aload hx hb dX0_firstTouch_0 (lv_at hl 4 rfl) ?_
  obtain ⟨x21, e21⟩ : ∃ y : Int32, y = gi h4 1 := ⟨_, rfl⟩
  refine th_get (ci := 2) (v := .int x21) (T := TX3) (C := RX3) (N := 8) hx hb hts (fun w h => List.mem_cons_of_mem _ (List.mem_append_left _ (List.mem_append_left _ (List.mem_append_left _ (List.mem_append_left _ (List.mem_append_right _ h)))))) hown hK hH t_h4 (th_nz rfl) (thE_3 _ _ _) rfl 1 (th_ltN rfl) (hts (.fieldLink RX0 130 "BayMoorings$Buoy" "x" "I") (List.mem_cons_of_mem _ (List.mem_append_left _ (List.mem_append_left _ (List.mem_append_left _ (List.mem_append_left _ (List.mem_append_left _ (List.mem_append_left _ (List.mem_of_getElem? (i := 0) rfl))))))))) (fun _ h9 => h9) (th_fI e21 rfl) dX0_firstTouch_2 ?_
  refine lv_aload_n hx hb dX0_firstTouch_5 rfl (lv_at hl 2 rfl) ?_
  obtain ⟨x22, e22⟩ : ∃ y : Int32, y = gi h2 1 := ⟨_, rfl⟩
  refine th_get (ci := 2) (v := .int x22) (T := TX3) (C := RX3) (N := 8) hx hb hts (fun w h => List.mem_cons_of_mem _ (List.mem_append_left _ (List.mem_append_left _ (List.mem_append_left _ (List.mem_append_left _ (List.mem_append_right _ h)))))) hown hK hH t_h2 (th_nz rfl) (thE_3 _ _ _) rfl 1 (th_ltN rfl) (hts (.fieldLink RX0 130 "BayMoorings$Buoy" "x" "I") (List.mem_cons_of_mem _ (List.mem_append_left _ (List.mem_append_left _ (List.mem_append_left _ (List.mem_append_left _ (List.mem_append_left _ (List.mem_append_left _ (List.mem_of_getElem? (i := 0) rfl))))))))) (fun _ h9 => h9) (th_fI e22 rfl) dX0_firstTouch_6 ?_
  refine lv_isub hx hb dX0_firstTouch_9 ?_
  refine lv_topi (fun x23 e23 => ?_)
  refine lv_istore (i := 5) (lv' := [(5, .int x23), (0, .ref h0), (1, .ref h1), (2, .ref h2), (3, .ref h3), (4, .ref h4)]) hx hb dX0_firstTouch_10 hl (th_ltN rfl) rfl (fun ls hl => ?_)
  refine lv_aload hx hb dX0_firstTouch_12 (lv_at hl 5 rfl) ?_
  obtain ⟨x24, e24⟩ : ∃ y : Int32, y = gi h4 2 := ⟨_, rfl⟩
  refine th_get (ci := 2) (v := .int x24) (T := TX3) (C := RX3) (N := 8) hx hb hts (fun w h => List.mem_cons_of_mem _ (List.mem_append_left _ (List.mem_append_left _ (List.mem_append_left _ (List.mem_append_left _ (List.mem_append_right _ h)))))) hown hK hH t_h4 (th_nz rfl) (thE_3 _ _ _) rfl 2 (th_ltN rfl) (hts (.fieldLink RX0 133 "BayMoorings$Buoy" "y" "I") (List.mem_cons_of_mem _ (List.mem_append_left _ (List.mem_append_left _ (List.mem_append_left _ (List.mem_append_left _ (List.mem_append_left _ (List.mem_append_left _ (List.mem_of_getElem? (i := 1) rfl))))))))) (fun _ h9 => h9) (th_fI e24 rfl) dX0_firstTouch_14 ?_
  refine lv_aload_n hx hb dX0_firstTouch_17 rfl (lv_at hl 3 rfl) ?_
  obtain ⟨x25, e25⟩ : ∃ y : Int32, y = gi h2 2 := ⟨_, rfl⟩
  refine th_get (ci := 2) (v := .int x25) (T := TX3) (C := RX3) (N := 8) hx hb hts (fun w h => List.mem_cons_of_mem _ (List.mem_append_left _ (List.mem_append_left _ (List.mem_append_left _ (List.mem_append_left _ (List.mem_append_right _ h)))))) hown hK hH t_h2 (th_nz rfl) (thE_3 _ _ _) rfl 2 (th_ltN rfl) (hts (.fieldLink RX0 133 "BayMoorings$Buoy" "y" "I") (List.mem_cons_of_mem _ (List.mem_append_left _ (List.mem_append_left _ (List.mem_append_left _ (List.mem_append_left _ (List.mem_append_left _ (List.mem_append_left _ (List.mem_of_getElem? (i := 1) rfl))))))))) (fun _ h9 => h9) (th_fI e25 rfl) dX0_firstTouch_18 ?_
  refine lv_isub hx hb dX0_firstTouch_21 ?_
  refine lv_topi (fun x26 e26 => ?_)
  refine lv_istore (i := 6) (lv' := [(6, .int x26), (5, .int x23), (0, .ref h0), (1, .ref h1), (2, .ref h2), (3, .ref h3), (4, .ref h4)]) hx hb dX0_firstTouch_22 hl (th_ltN rfl) rfl (fun ls hl => ?_)
  refine lv_aload_n hx hb dX0_firstTouch_24 rfl (lv_at hl 3 rfl) ?_
  have hA27 := th_Asub (τ := τ) hS
  refine va_calli (th_or3 t_h1 (fun t9 => th_runi (post' := (fun (r : Int32) (_ : Unit) => (FV_reach τ Z gi gr h1 = r))) (va_runU (As := []) (rest := []) ⟨hx, hb, hml, hown, hts⟩ (k_X2_reach l D cA Z τ gi gr _ h1 (Or.inl t9)) (va_cwU 0 hts gX0_firstTouch_X2_reach_u136X8 rfl rfl rfl rfl (by decide +kernel) ⟨Nat.le_of_ble_eq_true rfl, Nat.le_of_ble_eq_true rfl⟩) ⟨th_blind, tr_8 hK hH t9, (th_pre hH hK hN hZ hS hA27)⟩ rfl rfl hl.1 rfl (lv_room (Nat.le_of_ble_eq_true rfl)) dX0_firstTouch_25 ⟨Nat.le_of_ble_eq_true rfl, Nat.le_of_ble_eq_true rfl⟩) (fun _ _ h9 => ((FV_reach_8 t9).trans h9))) (fun t9 => th_runi (post' := (fun (r : Int32) (_ : Unit) => (FV_reach τ Z gi gr h1 = r))) (va_runU (As := []) (rest := []) ⟨hx, hb, hml, hown, hts⟩ (k_X9_reach l D cA Z τ gi gr _ h1 t9) (va_cwO 0 hts gX0_firstTouch_X9_reach_u136X9 rfl rfl rfl (show Cond.code yX2_reach cX2_reach 1 (some .int) ∈ wsX0_firstTouch from (List.mem_cons_of_mem _ (List.mem_append_left _ (List.mem_append_left _ (List.mem_append_left _ (List.mem_append_left _ (List.mem_append_left _ (List.mem_append_left _ (List.mem_of_getElem? (i := 8) rfl))))))))) (by decide +kernel) ⟨Nat.le_of_ble_eq_true rfl, Nat.le_of_ble_eq_true rfl⟩) ⟨th_blind, tr_9 hK hH t9, (th_pre hH hK hN hZ hS hA27)⟩ rfl rfl hl.1 rfl (lv_room (Nat.le_of_ble_eq_true rfl)) dX0_firstTouch_25 ⟨Nat.le_of_ble_eq_true rfl, Nat.le_of_ble_eq_true rfl⟩) (fun _ _ h9 => ((FV_reach_9 t9).trans h9))) (fun t9 => th_runi (post' := (fun (r : Int32) (_ : Unit) => (FV_reach τ Z gi gr h1 = r))) (va_runU (As := []) (rest := []) ⟨hx, hb, hml, hown, hts⟩ (k_X2_reach l D cA Z τ gi gr _ h1 (Or.inr (Or.inr t9))) (va_cwU 0 hts gX0_firstTouch_X2_reach_u136X4 rfl rfl rfl rfl (by decide +kernel) ⟨Nat.le_of_ble_eq_true rfl, Nat.le_of_ble_eq_true rfl⟩) ⟨th_blind, tr_4 hK hH t9, (th_pre hH hK hN hZ hS hA27)⟩ rfl rfl hl.1 rfl (lv_room (Nat.le_of_ble_eq_true rfl)) dX0_firstTouch_25 ⟨Nat.le_of_ble_eq_true rfl, Nat.le_of_ble_eq_true rfl⟩) (fun _ _ h9 => ((FV_reach_4 t9).trans h9)))) hS (fun q _ h => hA27 q h) hA27 (fun x28 u t H locs ht hvm hw28 hB hz1 hk1 hS => ?_)
  try dsimp only at hw28 hB
  rw [ht] at hB
  have hH := hB
  refine lv_istore (i := 7) (lv' := [(7, .int x28), (6, .int x26), (5, .int x23), (0, .ref h0), (1, .ref h1), (2, .ref h2), (3, .ref h3), (4, .ref h4)]) hx hb dX0_firstTouch_28 hl (th_ltN rfl) rfl (fun ls hl => ?_)
  refine lv_aload_n hx hb dX0_firstTouch_30 rfl (lv_at hl 6 rfl) ?_
  have hA29 := th_Asub (τ := τ) hS
  refine va_calli (th_or3 t_h3 (fun t9 => th_runi (post' := (fun (r : Int32) (_ : Unit) => (FV_reach τ Z gi gr h3 = r))) (va_runU (As := []) (rest := []) ⟨hx, hb, hml, hown, hts⟩ (k_X2_reach l D cA Z τ gi gr _ h3 (Or.inl t9)) (va_cwU 0 hts gX0_firstTouch_X2_reach_u136X8 rfl rfl rfl rfl (by decide +kernel) ⟨Nat.le_of_ble_eq_true rfl, Nat.le_of_ble_eq_true rfl⟩) ⟨th_blind, tr_8 hK hH t9, (th_pre hH hK hN hZ hS hA29)⟩ rfl rfl hl.1 rfl (lv_room (Nat.le_of_ble_eq_true rfl)) dX0_firstTouch_31 ⟨Nat.le_of_ble_eq_true rfl, Nat.le_of_ble_eq_true rfl⟩) (fun _ _ h9 => ((FV_reach_8 t9).trans h9))) (fun t9 => th_runi (post' := (fun (r : Int32) (_ : Unit) => (FV_reach τ Z gi gr h3 = r))) (va_runU (As := []) (rest := []) ⟨hx, hb, hml, hown, hts⟩ (k_X9_reach l D cA Z τ gi gr _ h3 t9) (va_cwO 0 hts gX0_firstTouch_X9_reach_u136X9 rfl rfl rfl (show Cond.code yX2_reach cX2_reach 1 (some .int) ∈ wsX0_firstTouch from (List.mem_cons_of_mem _ (List.mem_append_left _ (List.mem_append_left _ (List.mem_append_left _ (List.mem_append_left _ (List.mem_append_left _ (List.mem_append_left _ (List.mem_of_getElem? (i := 8) rfl))))))))) (by decide +kernel) ⟨Nat.le_of_ble_eq_true rfl, Nat.le_of_ble_eq_true rfl⟩) ⟨th_blind, tr_9 hK hH t9, (th_pre hH hK hN hZ hS hA29)⟩ rfl rfl hl.1 rfl (lv_room (Nat.le_of_ble_eq_true rfl)) dX0_firstTouch_31 ⟨Nat.le_of_ble_eq_true rfl, Nat.le_of_ble_eq_true rfl⟩) (fun _ _ h9 => ((FV_reach_9 t9).trans h9))) (fun t9 => th_runi (post' := (fun (r : Int32) (_ : Unit) => (FV_reach τ Z gi gr h3 = r))) (va_runU (As := []) (rest := []) ⟨hx, hb, hml, hown, hts⟩ (k_X2_reach l D cA Z τ gi gr _ h3 (Or.inr (Or.inr t9))) (va_cwU 0 hts gX0_firstTouch_X2_reach_u136X4 rfl rfl rfl rfl (by decide +kernel) ⟨Nat.le_of_ble_eq_true rfl, Nat.le_of_ble_eq_true rfl⟩) ⟨th_blind, tr_4 hK hH t9, (th_pre hH hK hN hZ hS hA29)⟩ rfl rfl hl.1 rfl (lv_room (Nat.le_of_ble_eq_true rfl)) dX0_firstTouch_31 ⟨Nat.le_of_ble_eq_true rfl, Nat.le_of_ble_eq_true rfl⟩) (fun _ _ h9 => ((FV_reach_4 t9).trans h9)))) hS (fun q _ h => hA29 q h) hA29 (fun x30 u t H locs ht hvm hw30 hB hz1 hk1 hS => ?_)
  try dsimp only at hw30 hB
  rw [ht] at hB
  have hH := hB
  refine lv_istore (i := 8) (lv' := [(8, .int x30), (7, .int x28), (6, .int x26), (5, .int x23), (0, .ref h0), (1, .ref h1), (2, .ref h2), (3, .ref h3), (4, .ref h4)]) hx hb dX0_firstTouch_34 hl (th_ltN rfl) rfl (fun ls hl => ?_)
  refine lv_iconst (v := 0) hx hb dX0_firstTouch_36 ic_0 ?_
  refine lv_istore (i := 9) (lv' := [(9, .int 0), (8, .int x30), (7, .int x28), (6, .int x26), (5, .int x23), (0, .ref h0), (1, .ref h1), (2, .ref h2), (3, .ref h3), (4, .ref h4)]) hx hb dX0_firstTouch_37 hl (th_ltN rfl) rfl (fun ls hl => ?_)
  exact J39 _ _ _ _ x23 x26 x28 x30 0 x22 x25 x21 x24 (Nat.lt_add_one _) hH hS (lv_sub hl [5, 7, 9, 4, 3, 2, 1, 0] rfl) (rg_w rgc_0 (th_leI rfl) (th_leI rfl)) e22 e25 e21 e24 (hF.trans (by simp only [F_X0_firstTouch, ← e21, ← e22, ← e23, ← e24, ← e25, ← e26, hw28, hw30]))

noncomputable def f_X0_mayLie_94 (τ : th_t) (Z : th_Zt) (gi : th_i) (gr : th_r) (h0 : Nat) (h1 : Nat) (h2 : Nat) (h3 : Nat) (y26_4 : Int32) (k_26 : Int32 → Int32) : Int32 :=
  let w94_0 : Int32 := gi h0 6
  let w94_1 : Int32 := gi h2 0
  let x1 : Int32 := y26_4 + 1
  k_26 x1
noncomputable def f_X0_mayLie_54 (τ : th_t) (Z : th_Zt) (gi : th_i) (gr : th_r) (h0 : Nat) (h1 : Nat) (h2 : Nat) (h3 : Nat) (y26_4 : Int32) (k_26 : Int32 → Int32) (z54_0 : Option Nat) : Int32 :=
  let w54_0 : Int32 := gi h0 6
  let w54_1 : Int32 := gi h2 0
  let x3 : Int32 := F_X1_buoyOf τ Z gi gr h3 y26_4
  let r5 : Option Nat := F_X0_buoyAt τ Z gi gr h0 x3
  Option.elim z54_0 (
    f_X0_mayLie_94 τ Z gi gr h0 h1 h2 h3 y26_4 k_26 ) (fun q6 =>
    Option.elim r5 (
      f_X0_mayLie_94 τ Z gi gr h0 h1 h2 h3 y26_4 k_26 ) (fun q7 =>
      let x9 : Int32 := F_X0_firstTouch τ Z gi gr h0 h1 h2 q6 q7
      if x9 = ((-1) : Int32) then (
        f_X0_mayLie_94 τ Z gi gr h0 h1 h2 h3 y26_4 k_26 ) else (
        0)))
noncomputable def f_X0_mayLie_26 (τ : th_t) (Z : th_Zt) (gi : th_i) (gr : th_r) (h0 : Nat) (h1 : Nat) (h2 : Nat) (h3 : Nat) : Nat → Int32 → Int32
  | 0, y26_4 => 0
  | n26 + 1, y26_4 =>
    let w26_0 : Int32 := gi h2 0
    let x12 : Int32 := gi h0 6
    if x12 ≤ y26_4 then (
      1) else (
      let x16 : Int32 := gi h1 0
      if y26_4 = x16 then (
        f_X0_mayLie_54 τ Z gi gr h0 h1 h2 h3 y26_4 (f_X0_mayLie_26 τ Z gi gr h0 h1 h2 h3 n26) none) else (
        let r19 : Option Nat := F_X0_boatAt τ Z gi gr h0 y26_4
        f_X0_mayLie_54 τ Z gi gr h0 h1 h2 h3 y26_4 (f_X0_mayLie_26 τ Z gi gr h0 h1 h2 h3 n26) r19))
noncomputable def F_X0_mayLie (τ : th_t) (Z : th_Zt) (gi : th_i) (gr : th_r) (h0 : Nat) (h1 : Nat) (h2 : Nat) (h3 : Nat) : Int32 :=
  let x21 : Int32 := gi h2 0
  let x23 : Int32 := F_X1_boatOf τ Z gi gr h3 x21
  if x23 = ((-1) : Int32) then (
    let x27 : Int32 := F_X0_suits τ Z gi gr h0 h1 h2
    if x27 = (0 : Int32) then (
      0) else (
      f_X0_mayLie_26 τ Z gi gr h0 h1 h2 h3 ((16 - (0 : Int32).toInt).toNat + 1) 0)) else (
    0)
set_option maxHeartbeats 8000000 in
set_option maxRecDepth 100000 in
theorem k_X0_mayLie (l : Launch) (D : va_G) (cA : Nat → ClassId) (Z : th_Zt) (τ : th_t) (gi : th_i) (gr : th_r) (sz : Nat) (h0 : Nat) (t_h0 : τ h0 = 1) (h1 : Nat) (t_h1 : τ h1 = 8 ∨ τ h1 = 9 ∨ τ h1 = 4) (h2 : Nat) (t_h2 : τ h2 = 3) (h3 : Nat) (t_h3 : τ h3 = 2) : Met l yX0_mayLie wsX0_mayLie ({ frames := 3, cells := 0, slots := 0, locals := 97 }) (va_Pc [.ref h0, .ref h1, .ref h2, .ref h3] (th_Pre D cA Z τ gi gr sz)) (va_Qi (fun (r : Int32) (_ : Unit) => rg 0 1 r ∧ (F_X0_mayLie τ Z gi gr h0 h1 h2 h3 = r)) (fun (_ : Unit) t => th_H D cA τ gi gr t.heap) (th_A τ sz)) 0 0 (th_A τ sz) := by
  refine Met.ofW (cc := cX0_mayLie) (maxL := 7) (ret := (some .boolean)) (by decide) rfl ?_
  intro p e s m args below meth c s₁ B hml hv
  obtain ⟨rfl, hsz, hH, hK, hN, hZ⟩ := hv
  have hx := B.exec
  have hb := B.bytes
  have hr := B.returns
  have hts := atoms_spec (ws := wsX0_mayLie) B.pre
  have hown : s.vm.findClass RX0 = some m.cls := findClass_of_methodNamed B.named
  have hlocks := B.notSynchronized
  subst hsz
  have J26 : ∀ (n26 : Nat) (H : Heap) (locs : List Loc) (ls : Array Slot) (y26_4 : Int32) (w26_0 : Int32), (16 - y26_4.toInt).toNat < n26 → th_H D cA τ gi gr H → va_S (th_A τ s.heap.size) s.heap H locs → lv_has ls 7 [(0, .ref h0), (1, .ref h1), (2, .ref h2), (3, .ref h3), (4, .int y26_4)] → rg 0 16 y26_4 → w26_0 = gi h2 0 → F_X0_mayLie τ Z gi gr h0 h1 h2 h3 = f_X0_mayLie_26 τ Z gi gr h0 h1 h2 h3 n26 y26_4 → W p l e (headSpec wsX0_mayLie ({ frames := 3, cells := 0, slots := 0, locals := 97 })).room s m [.ref h0, .ref h1, .ref h2, .ref h3].toArray below meth c H locs 0 0 (MQ below (va_Qi (fun (r : Int32) (_ : Unit) => rg 0 1 r ∧ (F_X0_mayLie τ Z gi gr h0 h1 h2 h3 = r)) (fun (_ : Unit) t => th_H D cA τ gi gr t.heap) (th_A τ s.heap.size)) [.ref h0, .ref h1, .ref h2, .ref h3].toArray s 0 0 (th_A τ s.heap.size)) (F0 m 26 ls []) := by
    intro n26
    induction n26 with
    | zero =>
      intro H locs ls y26_4 w26_0 hn
      exact absurd hn (Nat.not_lt_zero _)
    | succ n26 ih26 =>
      intro H locs ls y26_4 w26_0 hn26 hH hS hl fy26_4 ew26_0 hF
      have J94 : ∀ (H : Heap) (locs : List Loc) (ls : Array Slot) (w94_0 : Int32) (w94_1 : Int32), th_H D cA τ gi gr H → va_S (th_A τ s.heap.size) s.heap H locs → lv_has ls 7 [(0, .ref h0), (1, .ref h1), (2, .ref h2), (3, .ref h3), (4, .int y26_4)] → rg 0 15 y26_4 → w94_0 = gi h0 6 → rg 1 16 w94_0 → w94_1 = gi h2 0 → F_X0_mayLie τ Z gi gr h0 h1 h2 h3 = f_X0_mayLie_94 τ Z gi gr h0 h1 h2 h3 y26_4 (f_X0_mayLie_26 τ Z gi gr h0 h1 h2 h3 n26) → W p l e (headSpec wsX0_mayLie ({ frames := 3, cells := 0, slots := 0, locals := 97 })).room s m [.ref h0, .ref h1, .ref h2, .ref h3].toArray below meth c H locs 0 0 (MQ below (va_Qi (fun (r : Int32) (_ : Unit) => rg 0 1 r ∧ (F_X0_mayLie τ Z gi gr h0 h1 h2 h3 = r)) (fun (_ : Unit) t => th_H D cA τ gi gr t.heap) (th_A τ s.heap.size)) [.ref h0, .ref h1, .ref h2, .ref h3].toArray s 0 0 (th_A τ s.heap.size)) (F0 m 94 ls []) := by
        intro H locs ls w94_0 w94_1 hH hS hl fy94_4 ew94_0 fw94_0 ew94_1 hF
        obtain ⟨x1, e1⟩ : ∃ y : Int32, y = y26_4 + 1 := ⟨_, rfl⟩
        have f1 : rg 1 16 x1 := rg_e e1 (rg_w (rg_add fy94_4 rgc_1 (th_leI rfl) (th_leI rfl)) (th_leI rfl) (th_leI rfl))
        refine lv_iinc (v := x1) (lv' := [(4, .int x1), (0, .ref h0), (1, .ref h1), (2, .ref h2), (3, .ref h3)]) hx hb dX0_mayLie_94 hl (k := 4) rfl (by rw [e1]; rfl) (th_ltN rfl) rfl (fun ls hl => ?_)
        refine lv_goto (tgt := 26) hx hb dX0_mayLie_97 (th_eqI rfl) ?_
        exact ih26 _ _ _ x1 w94_1 (th_up (rg_dA e1 fy94_4 rgc_1 (th_leI rfl) (th_leI rfl)) fy94_4 hn26 (th_ltI rfl)) hH hS (lv_sub hl [1, 2, 3, 4, 0] rfl) (rg_w f1 (th_leI rfl) (th_leI rfl)) ew94_1 (hF.trans (by simp only [f_X0_mayLie_94, ← ew94_0, ← ew94_1, ← e1]))
      have J54 : ∀ (H : Heap) (locs : List Loc) (ls : Array Slot) (z54_0 : Option Nat) (w54_0 : Int32) (w54_1 : Int32), th_H D cA τ gi gr H → va_S (th_A τ s.heap.size) s.heap H locs → lv_has ls 7 [(0, .ref h0), (1, .ref h1), (2, .ref h2), (3, .ref h3), (4, .int y26_4)] → rg 0 15 y26_4 → (∀ q, z54_0 = some q → τ q = 8 ∨ τ q = 9 ∨ τ q = 4) → w54_0 = gi h0 6 → rg 1 16 w54_0 → w54_1 = gi h2 0 → F_X0_mayLie τ Z gi gr h0 h1 h2 h3 = f_X0_mayLie_54 τ Z gi gr h0 h1 h2 h3 y26_4 (f_X0_mayLie_26 τ Z gi gr h0 h1 h2 h3 n26) z54_0 → W p l e (headSpec wsX0_mayLie ({ frames := 3, cells := 0, slots := 0, locals := 97 })).room s m [.ref h0, .ref h1, .ref h2, .ref h3].toArray below meth c H locs 0 0 (MQ below (va_Qi (fun (r : Int32) (_ : Unit) => rg 0 1 r ∧ (F_X0_mayLie τ Z gi gr h0 h1 h2 h3 = r)) (fun (_ : Unit) t => th_H D cA τ gi gr t.heap) (th_A τ s.heap.size)) [.ref h0, .ref h1, .ref h2, .ref h3].toArray s 0 0 (th_A τ s.heap.size)) (F0 m 54 ls [va_rf z54_0]) := by
        intro H locs ls z54_0 w54_0 w54_1 hH hS hl fy54_4 tz54_0 ew54_0 fw54_0 ew54_1 hF
        refine th_astoreq (i := 5) (lv' := [(5, va_rf z54_0), (0, .ref h0), (1, .ref h1), (2, .ref h2), (3, .ref h3), (4, .int y26_4)]) hx hb dX0_mayLie_54 hl (th_ltN rfl) rfl (fun ls hl => ?_)
        refine lv_aload_n hx hb dX0_mayLie_56 rfl (lv_at hl 1 rfl) ?_
        refine lv_aload_n hx hb dX0_mayLie_57 rfl (lv_at hl 4 rfl) ?_
        refine lv_iload hx hb dX0_mayLie_58 (lv_at hl 5 rfl) ?_
        have hA2 := th_Asub (τ := τ) hS
        refine va_calli (va_runV (As := [.int y26_4]) (rest := [.ref h0]) ⟨hx, hb, hml, hown, hts⟩ (k_X1_buoyOf l D cA Z τ gi gr _ h3 t_h3 y26_4) (cwV 1 hts gX0_mayLie_X1_buoyOf rfl rfl rfl hd_X1_buoyOf__1 ⟨Nat.le_of_ble_eq_true rfl, Nat.le_of_ble_eq_true rfl⟩) ⟨th_blind, tr_2 hK hH t_h3, (th_pre hH hK hN hZ hS hA2)⟩ rfl rfl hl.1 rfl (lv_room (Nat.le_of_ble_eq_true rfl)) dX0_mayLie_60 ⟨Nat.le_of_ble_eq_true rfl, Nat.le_of_ble_eq_true rfl⟩) hS (fun q _ h => hA2 q h) hA2 (fun x3 u t H locs ht hvm hw3 hB hz1 hk1 hS => ?_)
        try dsimp only at hw3 hB
        rw [ht] at hB
        have hH := hB
        have hA4 := th_Asub (τ := τ) hS
        refine va_callq (va_runV (As := [.int x3]) (rest := []) ⟨hx, hb, hml, hown, hts⟩ (k_X0_buoyAt l D cA Z τ gi gr _ h0 t_h0 x3) (cwV 1 hts gX0_mayLie_X0_buoyAt rfl rfl rfl hd_X0_buoyAt__1 ⟨Nat.le_of_ble_eq_true rfl, Nat.le_of_ble_eq_true rfl⟩) ⟨th_blind, tr_1 hK hH t_h0, (th_pre hH hK hN hZ hS hA4)⟩ rfl rfl hl.1 rfl (lv_room (Nat.le_of_ble_eq_true rfl)) dX0_mayLie_63 ⟨Nat.le_of_ble_eq_true rfl, Nat.le_of_ble_eq_true rfl⟩) hS (fun q _ h => hA4 q h) hA4 (fun r5 u t H locs ht hvm hw5 hB hz1 hk1 hS => ?_)
        try dsimp only at hw5 hB
        rw [ht] at hB
        have hH := hB
        refine th_astoreq (i := 6) (lv' := [(6, va_rf r5), (5, va_rf z54_0), (0, .ref h0), (1, .ref h1), (2, .ref h2), (3, .ref h3), (4, .int y26_4)]) hx hb dX0_mayLie_66 hl (th_ltN rfl) (by simp [th_cat]) (fun ls hl => ?_)
        refine th_aloadq hx hb dX0_mayLie_68 (lv_at hl 1 rfl) ?_
        refine th_ifnull (tgt := 94) hx hb dX0_mayLie_70 (th_eqI rfl) (fun z6 => ?_) (fun q6 z6 => ?_)
        · skip
          subst z6
          have hl : lv_has ls 7 [(6, va_rf r5), (5, .null), (0, .ref h0), (1, .ref h1), (2, .ref h2), (3, .ref h3), (4, .int y26_4)] := hl
          exact J94 _ _ _ w54_0 w54_1 hH hS (lv_sub hl [2, 3, 4, 5, 6] rfl) fy54_4 ew54_0 fw54_0 ew54_1 (hF.trans (by simp only [f_X0_mayLie_54, ← ew54_0, ← ew54_1, hw3, hw5.2, Option.elim_none]))
        · skip
          subst z6
          have t6 := tz54_0 q6 rfl
          have hl : lv_has ls 7 [(6, va_rf r5), (5, .ref q6), (0, .ref h0), (1, .ref h1), (2, .ref h2), (3, .ref h3), (4, .int y26_4)] := hl
          refine th_aloadq hx hb dX0_mayLie_73 (lv_at hl 0 rfl) ?_
          refine th_ifnull (tgt := 94) hx hb dX0_mayLie_75 (th_eqI rfl) (fun z7 => ?_) (fun q7 z7 => ?_)
          · skip
            subst z7
            have hl : lv_has ls 7 [(6, .null), (5, .ref q6), (0, .ref h0), (1, .ref h1), (2, .ref h2), (3, .ref h3), (4, .int y26_4)] := hl
            exact J94 _ _ _ w54_0 w54_1 hH hS (lv_sub hl [2, 3, 4, 5, 6] rfl) fy54_4 ew54_0 fw54_0 ew54_1 (hF.trans (by simp only [f_X0_mayLie_54, ← ew54_0, ← ew54_1, hw3, hw5.2, Option.elim_some, Option.elim_none]))
          · skip
            subst z7
            have t7 := hw5.1 q7 rfl
            have hl : lv_has ls 7 [(6, .ref q7), (5, .ref q6), (0, .ref h0), (1, .ref h1), (2, .ref h2), (3, .ref h3), (4, .int y26_4)] := hl
            refine lv_aload_n hx hb dX0_mayLie_78 rfl (lv_at hl 2 rfl) ?_
            refine lv_aload_n hx hb dX0_mayLie_79 rfl (lv_at hl 3 rfl) ?_
            refine lv_aload_n hx hb dX0_mayLie_80 rfl (lv_at hl 4 rfl) ?_
            refine lv_aload hx hb dX0_mayLie_81 (lv_at hl 1 rfl) ?_
            refine lv_aload hx hb dX0_mayLie_83 (lv_at hl 0 rfl) ?_
            have hA8 := th_Asub (τ := τ) hS
            refine va_calli (va_runV (As := [.ref h1, .ref h2, .ref q6, .ref q7]) (rest := []) ⟨hx, hb, hml, hown, hts⟩ (k_X0_firstTouch l D cA Z τ gi gr _ h0 t_h0 h1 t_h1 h2 t_h2 q6 t6 q7 t7) (cwV 4 hts gX0_mayLie_X0_firstTouch rfl rfl rfl hd_X0_firstTouch__4 ⟨Nat.le_of_ble_eq_true rfl, Nat.le_of_ble_eq_true rfl⟩) ⟨th_blind, tr_1 hK hH t_h0, (th_pre hH hK hN hZ hS hA8)⟩ rfl rfl hl.1 rfl (lv_room (Nat.le_of_ble_eq_true rfl)) dX0_mayLie_85 ⟨Nat.le_of_ble_eq_true rfl, Nat.le_of_ble_eq_true rfl⟩) hS (fun q _ h => hA8 q h) hA8 (fun x9 u t H locs ht hvm hw9 hB hz1 hk1 hS => ?_)
            try dsimp only at hw9 hB
            rw [ht] at hB
            have hH := hB
            refine lv_iconst (v := (-1)) hx hb dX0_mayLie_88 ic_m1 ?_
            refine lv_icmp_eq (tgt := 94) hx hb dX0_mayLie_89 (th_eqI rfl) (fun c10 => ?_) (fun c10 => ?_)
            · skip
              have f11 : rg (-1) (-1) x9 := rg_w (rg_eq (rg_any x9) rgc_m1 c10).1 (th_leI rfl) (th_leI rfl)
              exact J94 _ _ _ w54_0 w54_1 hH hS (lv_sub hl [2, 3, 4, 5, 6] rfl) fy54_4 ew54_0 fw54_0 ew54_1 (hF.trans (by simp only [↓reduceIte, f_X0_mayLie_54, ← ew54_0, ← ew54_1, hw3, hw5.2, Option.elim_some, hw9, eq_true c10]))
            · skip
              refine lv_iconst (v := 0) hx hb dX0_mayLie_92 ic_0 ?_
              exact W.zret (v := 0) hx hb hr (rg_nb (rg_w rgc_0 (th_leI rfl) (th_leI rfl))) (fun t ht hW => ⟨⟨0, (), rfl, ⟨(rg_w rgc_0 (th_leI rfl) (th_leI rfl)), (hF.trans (by simp only [↓reduceIte, f_X0_mayLie_54, ← ew54_0, ← ew54_1, hw3, hw5.2, Option.elim_some, hw9, eq_false c10]))⟩, th_Ht ht hH⟩, hS.F ht⟩) hS.2.2 dX0_mayLie_93
      refine lv_iload hx hb dX0_mayLie_26 (lv_at hl 4 rfl) ?_
      refine lv_aload_n hx hb dX0_mayLie_28 rfl (lv_at hl 0 rfl) ?_
      obtain ⟨x12, e12⟩ : ∃ y : Int32, y = gi h0 6 := ⟨_, rfl⟩
      refine th_get (ci := 0) (v := .int x12) (T := TX0) (C := RX0) (N := 9) hx hb hts (fun w h => List.mem_cons_of_mem _ (List.mem_append_left _ (List.mem_append_left _ (List.mem_append_left _ (List.mem_append_left _ (List.mem_append_right _ h)))))) hown hK hH t_h0 (th_nz rfl) (thE_1 _ _ _) rfl 6 (th_ltN rfl) (hts (.fieldLink RX0 42 "BayMoorings$Bay" "boatCount" "I") (List.mem_cons_of_mem _ (List.mem_append_left _ (List.mem_append_left _ (List.mem_append_left _ (List.mem_append_left _ (List.mem_append_left _ (List.mem_append_left _ (List.mem_append_left _ (List.mem_of_getElem? (i := 1) rfl)))))))))) (fun _ h9 => h9) (th_fI e12 rfl) dX0_mayLie_29 ?_
      have f12 : rg 0 16 x12 := rg_e e12 ((thI_1 hH t_h0).2.2.2.2.2.2)
      refine lv_icmp_ge (tgt := 100) hx hb dX0_mayLie_32 (th_eqI rfl) (fun c13 => ?_) (fun c13 => ?_)
      · skip
        refine lv_iconst (v := 1) hx hb dX0_mayLie_100 ic_1 ?_
        exact W.zret (v := 1) hx hb hr (rg_nb (rg_w rgc_1 (th_leI rfl) (th_leI rfl))) (fun t ht hW => ⟨⟨1, (), rfl, ⟨(rg_w rgc_1 (th_leI rfl) (th_leI rfl)), (hF.trans (by simp only [↓reduceIte, f_X0_mayLie_26, ← ew26_0, ← e12, eq_true c13]))⟩, th_Ht ht hH⟩, hS.F ht⟩) hS.2.2 dX0_mayLie_101
      · skip
        have f14 : rg 1 16 x12 := rg_w (rg_nle f12 fy26_4 c13).1 (th_leI rfl) (th_leI rfl)
        have f15 : rg 0 15 y26_4 := rg_w (rg_nle f12 fy26_4 c13).2 (th_leI rfl) (th_leI rfl)
        refine lv_iload hx hb dX0_mayLie_35 (lv_at hl 4 rfl) ?_
        refine lv_aload_n hx hb dX0_mayLie_37 rfl (lv_at hl 1 rfl) ?_
        obtain ⟨x16, e16⟩ : ∃ y : Int32, y = gi h1 0 := ⟨_, rfl⟩
        refine th_any3 t_h1 (fun t9 k9 => th_get (ci := 7) (v := .int x16) (T := TX8) (C := RX8) (N := 6) hx hb hts (fun w h => List.mem_cons_of_mem _ (List.mem_append_left _ (List.mem_append_left _ (List.mem_append_right _ h)))) hown hK hH t9 (th_nz rfl) (thE_8 _ _ _) rfl 0 (th_ltN rfl) (hts (.fieldLink RX0 118 "BayMoorings$Boat" "number" "I") (List.mem_cons_of_mem _ (List.mem_append_left _ (List.mem_append_left _ (List.mem_append_left _ (List.mem_append_left _ (List.mem_append_left _ (List.mem_append_left _ (List.mem_append_left _ (List.mem_of_getElem? (i := 2) rfl)))))))))) (fun _ h9 => h9) (th_fI e16 rfl) dX0_mayLie_38 k9) (fun t9 k9 => th_get (ci := 8) (v := .int x16) (T := TX9) (C := RX9) (N := 6) hx hb hts (fun w h => List.mem_cons_of_mem _ (List.mem_append_left _ (List.mem_append_right _ h))) hown hK hH t9 (th_nz rfl) (thE_9 _ _ _) rfl 0 (th_ltN rfl) (hts (.fieldLink RX0 118 "BayMoorings$Boat" "number" "I") (List.mem_cons_of_mem _ (List.mem_append_left _ (List.mem_append_left _ (List.mem_append_left _ (List.mem_append_left _ (List.mem_append_left _ (List.mem_append_left _ (List.mem_append_left _ (List.mem_of_getElem? (i := 2) rfl)))))))))) (fun _ h9 => h9) (th_fI e16 rfl) dX0_mayLie_38 k9) (fun t9 k9 => th_get (ci := 3) (v := .int x16) (T := TX4) (C := RX4) (N := 6) hx hb hts (fun w h => List.mem_cons_of_mem _ (List.mem_append_left _ (List.mem_append_left _ (List.mem_append_left _ (List.mem_append_right _ h))))) hown hK hH t9 (th_nz rfl) (thE_4 _ _ _) rfl 0 (th_ltN rfl) (hts (.fieldLink RX0 118 "BayMoorings$Boat" "number" "I") (List.mem_cons_of_mem _ (List.mem_append_left _ (List.mem_append_left _ (List.mem_append_left _ (List.mem_append_left _ (List.mem_append_left _ (List.mem_append_left _ (List.mem_append_left _ (List.mem_of_getElem? (i := 2) rfl)))))))))) (fun _ h9 => h9) (th_fI e16 rfl) dX0_mayLie_38 k9) ?_
        refine lv_icmp_ne (tgt := 48) hx hb dX0_mayLie_41 (th_eqI rfl) (fun c17 => ?_) (fun c17 => ?_)
        · skip
          refine lv_aload_n hx hb dX0_mayLie_48 rfl (lv_at hl 0 rfl) ?_
          refine lv_iload hx hb dX0_mayLie_49 (lv_at hl 4 rfl) ?_
          have hA18 := th_Asub (τ := τ) hS
          refine va_callq (va_runV (As := [.int y26_4]) (rest := []) ⟨hx, hb, hml, hown, hts⟩ (k_X0_boatAt l D cA Z τ gi gr _ h0 t_h0 y26_4) (cwV 1 hts gX0_mayLie_X0_boatAt rfl rfl rfl hd_X0_boatAt__1 ⟨Nat.le_of_ble_eq_true rfl, Nat.le_of_ble_eq_true rfl⟩) ⟨th_blind, tr_1 hK hH t_h0, (th_pre hH hK hN hZ hS hA18)⟩ rfl rfl hl.1 rfl (lv_room (Nat.le_of_ble_eq_true rfl)) dX0_mayLie_51 ⟨Nat.le_of_ble_eq_true rfl, Nat.le_of_ble_eq_true rfl⟩) hS (fun q _ h => hA18 q h) hA18 (fun r19 u t H locs ht hvm hw19 hB hz1 hk1 hS => ?_)
          try dsimp only at hw19 hB
          rw [ht] at hB
          have hH := hB
          exact J54 _ _ _ r19 x12 w26_0 hH hS (lv_sub hl [0, 1, 2, 3, 4] rfl) f15 hw19.1 e12 f14 ew26_0 (hF.trans (by simp only [↓reduceIte, f_X0_mayLie_26, ← ew26_0, ← e12, eq_false c13, ← e16, eq_false c17, hw19.2]))
        · skip
          have f20 : rg 0 15 x16 := rg_w (rg_eq f15 (rg_any x16) c17).2 (th_leI rfl) (th_leI rfl)
          refine lv_null hx hb dX0_mayLie_44 ?_
          refine lv_goto (tgt := 54) hx hb dX0_mayLie_45 (th_eqI rfl) ?_
          exact J54 _ _ _ none x12 w26_0 hH hS (lv_sub hl [0, 1, 2, 3, 4] rfl) f15 (fun _ h9 => by cases h9) e12 f14 ew26_0 (hF.trans (by simp only [↓reduceIte, f_X0_mayLie_26, ← ew26_0, ← e12, eq_false c13, ← e16, eq_true c17]))
  have hS : va_S (th_A τ s.heap.size) s.heap s.heap [] := va_S.rf
  have hl := lv_entry ([.ref h0, .ref h1, .ref h2, .ref h3]) (n := 7) (Nat.le_of_ble_eq_true rfl)
  rw [lg_entry_eq]
  generalize (lg_sl ([.ref h0, .ref h1, .ref h2, .ref h3]) ++ List.replicate (7 - (lg_sl ([.ref h0, .ref h1, .ref h2, .ref h3])).length) Slot.unset).toArray = ls at hl ⊢
  have hl : lv_has ls 7 [(0, .ref h0), (1, .ref h1), (2, .ref h2), (3, .ref h3)] := hl
  have hF : F_X0_mayLie τ Z gi gr h0 h1 h2 h3 = F_X0_mayLie τ Z gi gr h0 h1 h2 h3 := rfl
  refine lv_aload_n hx hb dX0_mayLie_0 rfl (lv_at hl 3 rfl) ?_
  refine lv_aload_n hx hb dX0_mayLie_1 rfl (lv_at hl 2 rfl) ?_
  obtain ⟨x21, e21⟩ : ∃ y : Int32, y = gi h2 0 := ⟨_, rfl⟩
  refine th_get (ci := 2) (v := .int x21) (T := TX3) (C := RX3) (N := 8) hx hb hts (fun w h => List.mem_cons_of_mem _ (List.mem_append_left _ (List.mem_append_left _ (List.mem_append_left _ (List.mem_append_left _ (List.mem_append_left _ (List.mem_append_right _ h))))))) hown hK hH t_h2 (th_nz rfl) (thE_3 _ _ _) rfl 0 (th_ltN rfl) (hts (.fieldLink RX0 107 "BayMoorings$Buoy" "number" "I") (List.mem_cons_of_mem _ (List.mem_append_left _ (List.mem_append_left _ (List.mem_append_left _ (List.mem_append_left _ (List.mem_append_left _ (List.mem_append_left _ (List.mem_append_left _ (List.mem_of_getElem? (i := 0) rfl)))))))))) (fun _ h9 => h9) (th_fI e21 rfl) dX0_mayLie_2 ?_
  have hA22 := th_Asub (τ := τ) hS
  refine va_calli (va_runV (As := [.int x21]) (rest := []) ⟨hx, hb, hml, hown, hts⟩ (k_X1_boatOf l D cA Z τ gi gr _ h3 t_h3 x21) (cwV 1 hts gX0_mayLie_X1_boatOf rfl rfl rfl hd_X1_boatOf__1 ⟨Nat.le_of_ble_eq_true rfl, Nat.le_of_ble_eq_true rfl⟩) ⟨th_blind, tr_2 hK hH t_h3, (th_pre hH hK hN hZ hS hA22)⟩ rfl rfl hl.1 rfl (lv_room (Nat.le_of_ble_eq_true rfl)) dX0_mayLie_5 ⟨Nat.le_of_ble_eq_true rfl, Nat.le_of_ble_eq_true rfl⟩) hS (fun q _ h => hA22 q h) hA22 (fun x23 u t H locs ht hvm hw23 hB hz1 hk1 hS => ?_)
  try dsimp only at hw23 hB
  rw [ht] at hB
  have hH := hB
  refine lv_iconst (v := (-1)) hx hb dX0_mayLie_8 ic_m1 ?_
  refine lv_icmp_ne (tgt := 21) hx hb dX0_mayLie_9 (th_eqI rfl) (fun c24 => ?_) (fun c24 => ?_)
  · skip
    refine lv_iconst (v := 0) hx hb dX0_mayLie_21 ic_0 ?_
    exact W.zret (v := 0) hx hb hr (rg_nb (rg_w rgc_0 (th_leI rfl) (th_leI rfl))) (fun t ht hW => ⟨⟨0, (), rfl, ⟨(rg_w rgc_0 (th_leI rfl) (th_leI rfl)), (hF.trans (by simp only [↓reduceIte, F_X0_mayLie, ← e21, hw23, eq_false c24]))⟩, th_Ht ht hH⟩, hS.F ht⟩) hS.2.2 dX0_mayLie_22
  · skip
    have f25 : rg (-1) (-1) x23 := rg_w (rg_eq (rg_any x23) rgc_m1 c24).1 (th_leI rfl) (th_leI rfl)
    refine lv_aload_n hx hb dX0_mayLie_12 rfl (lv_at hl 0 rfl) ?_
    refine lv_aload_n hx hb dX0_mayLie_13 rfl (lv_at hl 1 rfl) ?_
    refine lv_aload_n hx hb dX0_mayLie_14 rfl (lv_at hl 2 rfl) ?_
    have hA26 := th_Asub (τ := τ) hS
    refine va_calli (va_runV (As := [.ref h1, .ref h2]) (rest := []) ⟨hx, hb, hml, hown, hts⟩ (k_X0_suits l D cA Z τ gi gr _ h0 t_h0 h1 t_h1 h2 t_h2) (cwV 2 hts gX0_mayLie_X0_suits rfl rfl rfl hd_X0_suits__2 ⟨Nat.le_of_ble_eq_true rfl, Nat.le_of_ble_eq_true rfl⟩) ⟨th_blind, tr_1 hK hH t_h0, (th_pre hH hK hN hZ hS hA26)⟩ rfl rfl hl.1 rfl (lv_room (Nat.le_of_ble_eq_true rfl)) dX0_mayLie_15 ⟨Nat.le_of_ble_eq_true rfl, Nat.le_of_ble_eq_true rfl⟩) hS (fun q _ h => hA26 q h) hA26 (fun x27 u t H locs ht hvm hw27 hB hz1 hk1 hS => ?_)
    try dsimp only at hw27 hB
    rw [ht] at hB
    have hH := hB
    refine lv_if_ne (tgt := 23) hx hb dX0_mayLie_18 (th_eqI rfl) (fun c28 => ?_) (fun c28 => ?_)
    · skip
      have f29 : rg 1 1 x27 := rg_w (rg_neL hw27.1 rgc_0 c28) (th_leI rfl) (th_leI rfl)
      refine lv_iconst (v := 0) hx hb dX0_mayLie_23 ic_0 ?_
      refine lv_istore (i := 4) (lv' := [(4, .int 0), (0, .ref h0), (1, .ref h1), (2, .ref h2), (3, .ref h3)]) hx hb dX0_mayLie_24 hl (th_ltN rfl) rfl (fun ls hl => ?_)
      exact J26 _ _ _ _ 0 x21 (Nat.lt_add_one _) hH hS (lv_sub hl [1, 2, 3, 4, 0] rfl) (rg_w rgc_0 (th_leI rfl) (th_leI rfl)) e21 (hF.trans (by simp only [↓reduceIte, F_X0_mayLie, ← e21, hw23, eq_true c24, hw27.2, eq_false c28]))
    · skip
      have f30 : rg 0 0 x27 := rg_w (rg_eq hw27.1 rgc_0 c28).1 (th_leI rfl) (th_leI rfl)
      refine lv_iconst (v := 0) hx hb dX0_mayLie_21 ic_0 ?_
      exact W.zret (v := 0) hx hb hr (rg_nb (rg_w rgc_0 (th_leI rfl) (th_leI rfl))) (fun t ht hW => ⟨⟨0, (), rfl, ⟨(rg_w rgc_0 (th_leI rfl) (th_leI rfl)), (hF.trans (by simp only [↓reduceIte, F_X0_mayLie, ← e21, hw23, eq_true c24, hw27.2, eq_true c28]))⟩, th_Ht ht hH⟩, hS.F ht⟩) hS.2.2 dX0_mayLie_22

noncomputable def f_X0_anyLies_32 (τ : th_t) (Z : th_Zt) (gi : th_i) (gr : th_r) (h0 : Nat) (p1 : Int32) (y2_2 : Int32) (k_2 : Int32 → Int32) : Int32 :=
  let w32_0 : Int32 := gi h0 6
  let x1 : Int32 := y2_2 + 1
  k_2 x1
noncomputable def f_X0_anyLies_2 (τ : th_t) (Z : th_Zt) (gi : th_i) (gr : th_r) (h0 : Nat) (p1 : Int32) : Nat → Int32 → Int32
  | 0, y2_2 => 0
  | n2 + 1, y2_2 =>
    let x2 : Int32 := gi h0 6
    if x2 ≤ y2_2 then (
      0) else (
      let x6 : Int32 := p1 >>> (y2_2 &&& 31)
      let x7 : Int32 := x6 &&& 1
      if x7 = (0 : Int32) then (
        f_X0_anyLies_32 τ Z gi gr h0 p1 y2_2 (f_X0_anyLies_2 τ Z gi gr h0 p1 n2) ) else (
        let q11 : Nat := (gr h0 4).getD 0
        let x13 : Int32 := F_X1_buoyOf τ Z gi gr q11 y2_2
        if x13 = ((-1) : Int32) then (
          f_X0_anyLies_32 τ Z gi gr h0 p1 y2_2 (f_X0_anyLies_2 τ Z gi gr h0 p1 n2) ) else (
          1)))
noncomputable def F_X0_anyLies (τ : th_t) (Z : th_Zt) (gi : th_i) (gr : th_r) (h0 : Nat) (p1 : Int32) : Int32 :=
  f_X0_anyLies_2 τ Z gi gr h0 p1 ((16 - (0 : Int32).toInt).toNat + 1) 0
set_option maxHeartbeats 8000000 in
set_option maxRecDepth 100000 in
theorem k_X0_anyLies (l : Launch) (D : va_G) (cA : Nat → ClassId) (Z : th_Zt) (τ : th_t) (gi : th_i) (gr : th_r) (sz : Nat) (h0 : Nat) (t_h0 : τ h0 = 1) (p1 : Int32) : Met l yX0_anyLies wsX0_anyLies ({ frames := 2, cells := 0, slots := 0, locals := 43 }) (va_Pc [.ref h0, .int p1] (th_Pre D cA Z τ gi gr sz)) (va_Qi (fun (r : Int32) (_ : Unit) => rg 0 1 r ∧ (F_X0_anyLies τ Z gi gr h0 p1 = r)) (fun (_ : Unit) t => th_H D cA τ gi gr t.heap) (th_A τ sz)) 0 0 (th_A τ sz) := by
  refine Met.ofW (cc := cX0_anyLies) (maxL := 3) (ret := (some .boolean)) (by decide) rfl ?_
  intro p e s m args below meth c s₁ B hml hv
  obtain ⟨rfl, hsz, hH, hK, hN, hZ⟩ := hv
  have hx := B.exec
  have hb := B.bytes
  have hr := B.returns
  have hts := atoms_spec (ws := wsX0_anyLies) B.pre
  have hown : s.vm.findClass RX0 = some m.cls := findClass_of_methodNamed B.named
  have hlocks := B.notSynchronized
  subst hsz
  have J2 : ∀ (n2 : Nat) (H : Heap) (locs : List Loc) (ls : Array Slot) (y2_2 : Int32), (16 - y2_2.toInt).toNat < n2 → th_H D cA τ gi gr H → va_S (th_A τ s.heap.size) s.heap H locs → lv_has ls 3 [(0, .ref h0), (1, .int p1), (2, .int y2_2)] → rg 0 16 y2_2 → F_X0_anyLies τ Z gi gr h0 p1 = f_X0_anyLies_2 τ Z gi gr h0 p1 n2 y2_2 → W p l e (headSpec wsX0_anyLies ({ frames := 2, cells := 0, slots := 0, locals := 43 })).room s m [.ref h0, .int p1].toArray below meth c H locs 0 0 (MQ below (va_Qi (fun (r : Int32) (_ : Unit) => rg 0 1 r ∧ (F_X0_anyLies τ Z gi gr h0 p1 = r)) (fun (_ : Unit) t => th_H D cA τ gi gr t.heap) (th_A τ s.heap.size)) [.ref h0, .int p1].toArray s 0 0 (th_A τ s.heap.size)) (F0 m 2 ls []) := by
    intro n2
    induction n2 with
    | zero =>
      intro H locs ls y2_2 hn
      exact absurd hn (Nat.not_lt_zero _)
    | succ n2 ih2 =>
      intro H locs ls y2_2 hn2 hH hS hl fy2_2 hF
      have J32 : ∀ (H : Heap) (locs : List Loc) (ls : Array Slot) (w32_0 : Int32), th_H D cA τ gi gr H → va_S (th_A τ s.heap.size) s.heap H locs → lv_has ls 3 [(0, .ref h0), (1, .int p1), (2, .int y2_2)] → rg 0 15 y2_2 → w32_0 = gi h0 6 → rg 1 16 w32_0 → F_X0_anyLies τ Z gi gr h0 p1 = f_X0_anyLies_32 τ Z gi gr h0 p1 y2_2 (f_X0_anyLies_2 τ Z gi gr h0 p1 n2) → W p l e (headSpec wsX0_anyLies ({ frames := 2, cells := 0, slots := 0, locals := 43 })).room s m [.ref h0, .int p1].toArray below meth c H locs 0 0 (MQ below (va_Qi (fun (r : Int32) (_ : Unit) => rg 0 1 r ∧ (F_X0_anyLies τ Z gi gr h0 p1 = r)) (fun (_ : Unit) t => th_H D cA τ gi gr t.heap) (th_A τ s.heap.size)) [.ref h0, .int p1].toArray s 0 0 (th_A τ s.heap.size)) (F0 m 32 ls []) := by
        intro H locs ls w32_0 hH hS hl fy32_2 ew32_0 fw32_0 hF
        obtain ⟨x1, e1⟩ : ∃ y : Int32, y = y2_2 + 1 := ⟨_, rfl⟩
        have f1 : rg 1 16 x1 := rg_e e1 (rg_w (rg_add fy32_2 rgc_1 (th_leI rfl) (th_leI rfl)) (th_leI rfl) (th_leI rfl))
        refine lv_iinc (v := x1) (lv' := [(2, .int x1), (0, .ref h0), (1, .int p1)]) hx hb dX0_anyLies_32 hl (k := 2) rfl (by rw [e1]; rfl) (th_ltN rfl) rfl (fun ls hl => ?_)
        refine lv_goto (tgt := 2) hx hb dX0_anyLies_35 (th_eqI rfl) ?_
        exact ih2 _ _ _ x1 (th_up (rg_dA e1 fy32_2 rgc_1 (th_leI rfl) (th_leI rfl)) fy32_2 hn2 (th_ltI rfl)) hH hS (lv_sub hl [1, 2, 0] rfl) (rg_w f1 (th_leI rfl) (th_leI rfl)) (hF.trans (by simp only [f_X0_anyLies_32, ← ew32_0, ← e1]))
      refine lv_iload_n hx hb dX0_anyLies_2 rfl (lv_at hl 2 rfl) ?_
      refine lv_aload_n hx hb dX0_anyLies_3 rfl (lv_at hl 0 rfl) ?_
      obtain ⟨x2, e2⟩ : ∃ y : Int32, y = gi h0 6 := ⟨_, rfl⟩
      refine th_get (ci := 0) (v := .int x2) (T := TX0) (C := RX0) (N := 9) hx hb hts (fun w h => List.mem_cons_of_mem _ (List.mem_append_left _ (List.mem_append_right _ h))) hown hK hH t_h0 (th_nz rfl) (thE_1 _ _ _) rfl 6 (th_ltN rfl) (hts (.fieldLink RX0 42 "BayMoorings$Bay" "boatCount" "I") (List.mem_cons_of_mem _ (List.mem_append_left _ (List.mem_append_left _ (List.mem_of_getElem? (i := 0) rfl))))) (fun _ h9 => h9) (th_fI e2 rfl) dX0_anyLies_4 ?_
      have f2 : rg 0 16 x2 := rg_e e2 ((thI_1 hH t_h0).2.2.2.2.2.2)
      refine lv_icmp_ge (tgt := 38) hx hb dX0_anyLies_7 (th_eqI rfl) (fun c3 => ?_) (fun c3 => ?_)
      · skip
        refine lv_iconst (v := 0) hx hb dX0_anyLies_38 ic_0 ?_
        exact W.zret (v := 0) hx hb hr (rg_nb (rg_w rgc_0 (th_leI rfl) (th_leI rfl))) (fun t ht hW => ⟨⟨0, (), rfl, ⟨(rg_w rgc_0 (th_leI rfl) (th_leI rfl)), (hF.trans (by simp only [↓reduceIte, f_X0_anyLies_2, ← e2, eq_true c3]))⟩, th_Ht ht hH⟩, hS.F ht⟩) hS.2.2 dX0_anyLies_39
      · skip
        have f4 : rg 1 16 x2 := rg_w (rg_nle f2 fy2_2 c3).1 (th_leI rfl) (th_leI rfl)
        have f5 : rg 0 15 y2_2 := rg_w (rg_nle f2 fy2_2 c3).2 (th_leI rfl) (th_leI rfl)
        refine lv_iload_n hx hb dX0_anyLies_10 rfl (lv_at hl 1 rfl) ?_
        refine lv_iload_n hx hb dX0_anyLies_11 rfl (lv_at hl 2 rfl) ?_
        refine lv_ishr hx hb dX0_anyLies_12 ?_
        refine lv_topi (fun x6 e6 => ?_)
        refine lv_iconst (v := 1) hx hb dX0_anyLies_13 ic_1 ?_
        refine lv_iand hx hb dX0_anyLies_14 ?_
        refine lv_topi (fun x7 e7 => ?_)
        have f7 : rg 0 1 x7 := rg_e e7 (rg_and 1 (by decide) (th_leN rfl) (th_eqI rfl))
        refine lv_if_eq (tgt := 32) hx hb dX0_anyLies_15 (th_eqI rfl) (fun c8 => ?_) (fun c8 => ?_)
        · skip
          have f9 : rg 0 0 x7 := rg_w (rg_eq f7 rgc_0 c8).1 (th_leI rfl) (th_leI rfl)
          exact J32 _ _ _ x2 hH hS (lv_sub hl [0, 1, 2] rfl) f5 e2 f4 (hF.trans (by simp only [↓reduceIte, f_X0_anyLies_2, ← e2, eq_false c3, ← e6, ← e7, eq_true c8]))
        · skip
          have f10 : rg 1 1 x7 := rg_w (rg_neL f7 rgc_0 c8) (th_leI rfl) (th_leI rfl)
          refine lv_aload_n hx hb dX0_anyLies_18 rfl (lv_at hl 0 rfl) ?_
          obtain ⟨q11, r11, t11⟩ : ∃ q, gr h0 4 = some q ∧ τ q = 2 := (thI_1 hH t_h0).2.2.2.2.1
          refine th_get (ci := 0) (v := .ref q11) (T := TX0) (C := RX0) (N := 9) hx hb hts (fun w h => List.mem_cons_of_mem _ (List.mem_append_left _ (List.mem_append_right _ h))) hown hK hH t_h0 (th_nz rfl) (thE_1 _ _ _) rfl 4 (th_ltN rfl) (hts (.fieldLink RX0 34 "BayMoorings$Bay" "berths" "LBayMoorings$Berths;") (List.mem_cons_of_mem _ (List.mem_append_left _ (List.mem_append_left _ (List.mem_of_getElem? (i := 1) rfl))))) (fun _ h9 => h9) (th_fR r11 rfl) dX0_anyLies_19 ?_
          refine lv_iload_n hx hb dX0_anyLies_22 rfl (lv_at hl 2 rfl) ?_
          have hA12 := th_Asub (τ := τ) hS
          refine va_calli (va_runV (As := [.int y2_2]) (rest := []) ⟨hx, hb, hml, hown, hts⟩ (k_X1_buoyOf l D cA Z τ gi gr _ q11 t11 y2_2) (cwV 1 hts gX0_anyLies_X1_buoyOf rfl rfl rfl hd_X1_buoyOf__1 ⟨Nat.le_of_ble_eq_true rfl, Nat.le_of_ble_eq_true rfl⟩) ⟨th_blind, tr_2 hK hH t11, (th_pre hH hK hN hZ hS hA12)⟩ rfl rfl hl.1 rfl (lv_room (Nat.le_of_ble_eq_true rfl)) dX0_anyLies_23 ⟨Nat.le_of_ble_eq_true rfl, Nat.le_of_ble_eq_true rfl⟩) hS (fun q _ h => hA12 q h) hA12 (fun x13 u t H locs ht hvm hw13 hB hz1 hk1 hS => ?_)
          try dsimp only at hw13 hB
          rw [ht] at hB
          have hH := hB
          refine lv_iconst (v := (-1)) hx hb dX0_anyLies_26 ic_m1 ?_
          refine lv_icmp_eq (tgt := 32) hx hb dX0_anyLies_27 (th_eqI rfl) (fun c14 => ?_) (fun c14 => ?_)
          · skip
            have f15 : rg (-1) (-1) x13 := rg_w (rg_eq (rg_any x13) rgc_m1 c14).1 (th_leI rfl) (th_leI rfl)
            exact J32 _ _ _ x2 hH hS (lv_sub hl [0, 1, 2] rfl) f5 e2 f4 (hF.trans (by simp only [↓reduceIte, f_X0_anyLies_2, ← e2, eq_false c3, ← e6, ← e7, eq_false c8, r11, Option.getD_some, hw13, eq_true c14]))
          · skip
            refine lv_iconst (v := 1) hx hb dX0_anyLies_30 ic_1 ?_
            exact W.zret (v := 1) hx hb hr (rg_nb (rg_w rgc_1 (th_leI rfl) (th_leI rfl))) (fun t ht hW => ⟨⟨1, (), rfl, ⟨(rg_w rgc_1 (th_leI rfl) (th_leI rfl)), (hF.trans (by simp only [↓reduceIte, f_X0_anyLies_2, ← e2, eq_false c3, ← e6, ← e7, eq_false c8, r11, Option.getD_some, hw13, eq_false c14]))⟩, th_Ht ht hH⟩, hS.F ht⟩) hS.2.2 dX0_anyLies_31
  have hS : va_S (th_A τ s.heap.size) s.heap s.heap [] := va_S.rf
  have hl := lv_entry ([.ref h0, .int p1]) (n := 3) (Nat.le_of_ble_eq_true rfl)
  rw [lg_entry_eq]
  generalize (lg_sl ([.ref h0, .int p1]) ++ List.replicate (3 - (lg_sl ([.ref h0, .int p1])).length) Slot.unset).toArray = ls at hl ⊢
  have hl : lv_has ls 3 [(0, .ref h0), (1, .int p1)] := hl
  have hF : F_X0_anyLies τ Z gi gr h0 p1 = F_X0_anyLies τ Z gi gr h0 p1 := rfl
  refine lv_iconst (v := 0) hx hb dX0_anyLies_0 ic_0 ?_
  refine lv_istore_n (i := 2) (lv' := [(2, .int 0), (0, .ref h0), (1, .int p1)]) hx hb dX0_anyLies_1 rfl hl (th_ltN rfl) rfl (fun ls hl => ?_)
  exact J2 _ _ _ _ 0 (Nat.lt_add_one _) hH hS (lv_sub hl [1, 2, 0] rfl) (rg_w rgc_0 (th_leI rfl) (th_leI rfl)) (hF.trans (by simp only [F_X0_anyLies]))

noncomputable def f_X0_lyingBoats_27 (τ : th_t) (Z : th_Zt) (gi : th_i) (gr : th_r) (h0 : Nat) (y4_1 : Int32) (y4_2 : Int32) (k_4 : Int32 → Int32 → Int32) (y27_1 : Int32) : Int32 :=
  let w27_0 : Int32 := gi h0 6
  let x1 : Int32 := y4_2 + 1
  k_4 y27_1 x1
noncomputable def f_X0_lyingBoats_4 (τ : th_t) (Z : th_Zt) (gi : th_i) (gr : th_r) (h0 : Nat) : Nat → Int32 → Int32 → Int32
  | 0, y4_1, y4_2 => 0
  | n4 + 1, y4_1, y4_2 =>
    let x2 : Int32 := gi h0 6
    if x2 ≤ y4_2 then (
      y4_1) else (
      let q6 : Nat := (gr h0 4).getD 0
      let x8 : Int32 := F_X1_buoyOf τ Z gi gr q6 y4_2
      if x8 = ((-1) : Int32) then (
        f_X0_lyingBoats_27 τ Z gi gr h0 y4_1 y4_2 (f_X0_lyingBoats_4 τ Z gi gr h0 n4) y4_1) else (
        let x11 : Int32 := y4_1 + 1
        f_X0_lyingBoats_27 τ Z gi gr h0 y4_1 y4_2 (f_X0_lyingBoats_4 τ Z gi gr h0 n4) x11))
noncomputable def F_X0_lyingBoats (τ : th_t) (Z : th_Zt) (gi : th_i) (gr : th_r) (h0 : Nat) : Int32 :=
  f_X0_lyingBoats_4 τ Z gi gr h0 ((16 - (0 : Int32).toInt).toNat + 1) 0 0
set_option maxHeartbeats 8000000 in
set_option maxRecDepth 100000 in
theorem k_X0_lyingBoats (l : Launch) (D : va_G) (cA : Nat → ClassId) (Z : th_Zt) (τ : th_t) (gi : th_i) (gr : th_r) (sz : Nat) (h0 : Nat) (t_h0 : τ h0 = 1) : Met l yX0_lyingBoats wsX0_lyingBoats ({ frames := 2, cells := 0, slots := 0, locals := 43 }) (va_Pc [.ref h0] (th_Pre D cA Z τ gi gr sz)) (va_Qi (fun (r : Int32) (_ : Unit) => (F_X0_lyingBoats τ Z gi gr h0 = r)) (fun (_ : Unit) t => th_H D cA τ gi gr t.heap) (th_A τ sz)) 0 0 (th_A τ sz) := by
  refine Met.ofW (cc := cX0_lyingBoats) (maxL := 3) (ret := (some .int)) (by decide) rfl ?_
  intro p e s m args below meth c s₁ B hml hv
  obtain ⟨rfl, hsz, hH, hK, hN, hZ⟩ := hv
  have hx := B.exec
  have hb := B.bytes
  have hr := B.returns
  have hts := atoms_spec (ws := wsX0_lyingBoats) B.pre
  have hown : s.vm.findClass RX0 = some m.cls := findClass_of_methodNamed B.named
  have hlocks := B.notSynchronized
  subst hsz
  have J4 : ∀ (n4 : Nat) (H : Heap) (locs : List Loc) (ls : Array Slot) (y4_1 : Int32) (y4_2 : Int32), (16 - y4_2.toInt).toNat < n4 → th_H D cA τ gi gr H → va_S (th_A τ s.heap.size) s.heap H locs → lv_has ls 3 [(0, .ref h0), (1, .int y4_1), (2, .int y4_2)] → rg 0 16 y4_2 → F_X0_lyingBoats τ Z gi gr h0 = f_X0_lyingBoats_4 τ Z gi gr h0 n4 y4_1 y4_2 → W p l e (headSpec wsX0_lyingBoats ({ frames := 2, cells := 0, slots := 0, locals := 43 })).room s m [.ref h0].toArray below meth c H locs 0 0 (MQ below (va_Qi (fun (r : Int32) (_ : Unit) => (F_X0_lyingBoats τ Z gi gr h0 = r)) (fun (_ : Unit) t => th_H D cA τ gi gr t.heap) (th_A τ s.heap.size)) [.ref h0].toArray s 0 0 (th_A τ s.heap.size)) (F0 m 4 ls []) := by
    intro n4
    induction n4 with
    | zero =>
      intro H locs ls y4_1 y4_2 hn
      exact absurd hn (Nat.not_lt_zero _)
    | succ n4 ih4 =>
      intro H locs ls y4_1 y4_2 hn4 hH hS hl fy4_2 hF
      have J27 : ∀ (H : Heap) (locs : List Loc) (ls : Array Slot) (y27_1 : Int32) (w27_0 : Int32), th_H D cA τ gi gr H → va_S (th_A τ s.heap.size) s.heap H locs → lv_has ls 3 [(0, .ref h0), (1, .int y27_1), (2, .int y4_2)] → rg 0 15 y4_2 → w27_0 = gi h0 6 → rg 1 16 w27_0 → F_X0_lyingBoats τ Z gi gr h0 = f_X0_lyingBoats_27 τ Z gi gr h0 y4_1 y4_2 (f_X0_lyingBoats_4 τ Z gi gr h0 n4) y27_1 → W p l e (headSpec wsX0_lyingBoats ({ frames := 2, cells := 0, slots := 0, locals := 43 })).room s m [.ref h0].toArray below meth c H locs 0 0 (MQ below (va_Qi (fun (r : Int32) (_ : Unit) => (F_X0_lyingBoats τ Z gi gr h0 = r)) (fun (_ : Unit) t => th_H D cA τ gi gr t.heap) (th_A τ s.heap.size)) [.ref h0].toArray s 0 0 (th_A τ s.heap.size)) (F0 m 27 ls []) := by
        intro H locs ls y27_1 w27_0 hH hS hl fy27_2 ew27_0 fw27_0 hF
        obtain ⟨x1, e1⟩ : ∃ y : Int32, y = y4_2 + 1 := ⟨_, rfl⟩
        have f1 : rg 1 16 x1 := rg_e e1 (rg_w (rg_add fy27_2 rgc_1 (th_leI rfl) (th_leI rfl)) (th_leI rfl) (th_leI rfl))
        refine lv_iinc (v := x1) (lv' := [(2, .int x1), (0, .ref h0), (1, .int y27_1)]) hx hb dX0_lyingBoats_27 hl (k := 2) rfl (by rw [e1]; rfl) (th_ltN rfl) rfl (fun ls hl => ?_)
        refine lv_goto (tgt := 4) hx hb dX0_lyingBoats_30 (th_eqI rfl) ?_
        exact ih4 _ _ _ y27_1 x1 (th_up (rg_dA e1 fy27_2 rgc_1 (th_leI rfl) (th_leI rfl)) fy27_2 hn4 (th_ltI rfl)) hH hS (lv_sub hl [1, 2, 0] rfl) (rg_w f1 (th_leI rfl) (th_leI rfl)) (hF.trans (by simp only [f_X0_lyingBoats_27, ← ew27_0, ← e1]))
      refine lv_iload_n hx hb dX0_lyingBoats_4 rfl (lv_at hl 2 rfl) ?_
      refine lv_aload_n hx hb dX0_lyingBoats_5 rfl (lv_at hl 0 rfl) ?_
      obtain ⟨x2, e2⟩ : ∃ y : Int32, y = gi h0 6 := ⟨_, rfl⟩
      refine th_get (ci := 0) (v := .int x2) (T := TX0) (C := RX0) (N := 9) hx hb hts (fun w h => List.mem_cons_of_mem _ (List.mem_append_left _ (List.mem_append_right _ h))) hown hK hH t_h0 (th_nz rfl) (thE_1 _ _ _) rfl 6 (th_ltN rfl) (hts (.fieldLink RX0 42 "BayMoorings$Bay" "boatCount" "I") (List.mem_cons_of_mem _ (List.mem_append_left _ (List.mem_append_left _ (List.mem_of_getElem? (i := 0) rfl))))) (fun _ h9 => h9) (th_fI e2 rfl) dX0_lyingBoats_6 ?_
      have f2 : rg 0 16 x2 := rg_e e2 ((thI_1 hH t_h0).2.2.2.2.2.2)
      refine lv_icmp_ge (tgt := 33) hx hb dX0_lyingBoats_9 (th_eqI rfl) (fun c3 => ?_) (fun c3 => ?_)
      · skip
        refine lv_iload_n hx hb dX0_lyingBoats_33 rfl (lv_at hl 1 rfl) ?_
        exact W.iret (v := y4_1) hx hb hr (fun t ht hW => ⟨⟨y4_1, (), rfl, (hF.trans (by simp only [↓reduceIte, f_X0_lyingBoats_4, ← e2, eq_true c3])), th_Ht ht hH⟩, hS.F ht⟩) hS.2.2 dX0_lyingBoats_34
      · skip
        have f4 : rg 1 16 x2 := rg_w (rg_nle f2 fy4_2 c3).1 (th_leI rfl) (th_leI rfl)
        have f5 : rg 0 15 y4_2 := rg_w (rg_nle f2 fy4_2 c3).2 (th_leI rfl) (th_leI rfl)
        refine lv_aload_n hx hb dX0_lyingBoats_12 rfl (lv_at hl 0 rfl) ?_
        obtain ⟨q6, r6, t6⟩ : ∃ q, gr h0 4 = some q ∧ τ q = 2 := (thI_1 hH t_h0).2.2.2.2.1
        refine th_get (ci := 0) (v := .ref q6) (T := TX0) (C := RX0) (N := 9) hx hb hts (fun w h => List.mem_cons_of_mem _ (List.mem_append_left _ (List.mem_append_right _ h))) hown hK hH t_h0 (th_nz rfl) (thE_1 _ _ _) rfl 4 (th_ltN rfl) (hts (.fieldLink RX0 34 "BayMoorings$Bay" "berths" "LBayMoorings$Berths;") (List.mem_cons_of_mem _ (List.mem_append_left _ (List.mem_append_left _ (List.mem_of_getElem? (i := 1) rfl))))) (fun _ h9 => h9) (th_fR r6 rfl) dX0_lyingBoats_13 ?_
        refine lv_iload_n hx hb dX0_lyingBoats_16 rfl (lv_at hl 2 rfl) ?_
        have hA7 := th_Asub (τ := τ) hS
        refine va_calli (va_runV (As := [.int y4_2]) (rest := []) ⟨hx, hb, hml, hown, hts⟩ (k_X1_buoyOf l D cA Z τ gi gr _ q6 t6 y4_2) (cwV 1 hts gX0_lyingBoats_X1_buoyOf rfl rfl rfl hd_X1_buoyOf__1 ⟨Nat.le_of_ble_eq_true rfl, Nat.le_of_ble_eq_true rfl⟩) ⟨th_blind, tr_2 hK hH t6, (th_pre hH hK hN hZ hS hA7)⟩ rfl rfl hl.1 rfl (lv_room (Nat.le_of_ble_eq_true rfl)) dX0_lyingBoats_17 ⟨Nat.le_of_ble_eq_true rfl, Nat.le_of_ble_eq_true rfl⟩) hS (fun q _ h => hA7 q h) hA7 (fun x8 u t H locs ht hvm hw8 hB hz1 hk1 hS => ?_)
        try dsimp only at hw8 hB
        rw [ht] at hB
        have hH := hB
        refine lv_iconst (v := (-1)) hx hb dX0_lyingBoats_20 ic_m1 ?_
        refine lv_icmp_eq (tgt := 27) hx hb dX0_lyingBoats_21 (th_eqI rfl) (fun c9 => ?_) (fun c9 => ?_)
        · skip
          have f10 : rg (-1) (-1) x8 := rg_w (rg_eq (rg_any x8) rgc_m1 c9).1 (th_leI rfl) (th_leI rfl)
          exact J27 _ _ _ y4_1 x2 hH hS (lv_sub hl [0, 1, 2] rfl) f5 e2 f4 (hF.trans (by simp only [↓reduceIte, f_X0_lyingBoats_4, ← e2, eq_false c3, r6, Option.getD_some, hw8, eq_true c9]))
        · skip
          obtain ⟨x11, e11⟩ : ∃ y : Int32, y = y4_1 + 1 := ⟨_, rfl⟩
          refine lv_iinc (v := x11) (lv' := [(1, .int x11), (0, .ref h0), (2, .int y4_2)]) hx hb dX0_lyingBoats_24 hl (k := 1) rfl (by rw [e11]; rfl) (th_ltN rfl) rfl (fun ls hl => ?_)
          exact J27 _ _ _ x11 x2 hH hS (lv_sub hl [1, 0, 2] rfl) f5 e2 f4 (hF.trans (by simp only [↓reduceIte, f_X0_lyingBoats_4, ← e2, eq_false c3, r6, Option.getD_some, hw8, eq_false c9, ← e11]))
  have hS : va_S (th_A τ s.heap.size) s.heap s.heap [] := va_S.rf
  have hl := lv_entry ([.ref h0]) (n := 3) (Nat.le_of_ble_eq_true rfl)
  rw [lg_entry_eq]
  generalize (lg_sl ([.ref h0]) ++ List.replicate (3 - (lg_sl ([.ref h0])).length) Slot.unset).toArray = ls at hl ⊢
  have hl : lv_has ls 3 [(0, .ref h0)] := hl
  have hF : F_X0_lyingBoats τ Z gi gr h0 = F_X0_lyingBoats τ Z gi gr h0 := rfl
  refine lv_iconst (v := 0) hx hb dX0_lyingBoats_0 ic_0 ?_
  refine lv_istore_n (i := 1) (lv' := [(1, .int 0), (0, .ref h0)]) hx hb dX0_lyingBoats_1 rfl hl (th_ltN rfl) rfl (fun ls hl => ?_)
  refine lv_iconst (v := 0) hx hb dX0_lyingBoats_2 ic_0 ?_
  refine lv_istore_n (i := 2) (lv' := [(2, .int 0), (1, .int 0), (0, .ref h0)]) hx hb dX0_lyingBoats_3 rfl hl (th_ltN rfl) rfl (fun ls hl => ?_)
  exact J4 _ _ _ _ 0 0 (Nat.lt_add_one _) hH hS (lv_sub hl [2, 1, 0] rfl) (rg_w rgc_0 (th_leI rfl) (th_leI rfl)) (hF.trans (by simp only [F_X0_lyingBoats]))

noncomputable def f_X0_dropWishes_25 (τ : th_t) (Z : th_Zt) (gi : th_i) (gr : th_r) (h0 : Nat) (gi_2 : th_i) (y2_1 : Int32) (k_2 : th_i → Int32 → th_i) (gi_25 : th_i) : th_i :=
  let x1 : Int32 := y2_1 + 1
  k_2 gi_25 x1
noncomputable def f_X0_dropWishes_2 (τ : th_t) (Z : th_Zt) (gi : th_i) (gr : th_r) (h0 : Nat) : Nat → th_i → Int32 → th_i
  | 0, gi_2, y2_1 => (gi_2)
  | n2 + 1, gi_2, y2_1 =>
    let x2 : Int32 := gi_2 h0 6
    if x2 ≤ y2_1 then (
      (gi_2)) else (
      let r7 : Option Nat := F_X0_boatAt τ Z gi_2 gr h0 y2_1
      Option.elim r7 (
        f_X0_dropWishes_25 τ Z gi gr h0 gi_2 y2_1 (f_X0_dropWishes_2 τ Z gi gr h0 n2) gi_2) (fun q8 =>
        let gi9 : th_i := va_up gi_2 q8 (upd (gi_2 q8) 4 0)
        f_X0_dropWishes_25 τ Z gi gr h0 gi_2 y2_1 (f_X0_dropWishes_2 τ Z gi gr h0 n2) gi9))
noncomputable def F_X0_dropWishes (τ : th_t) (Z : th_Zt) (gi : th_i) (gr : th_r) (h0 : Nat) : th_i :=
  f_X0_dropWishes_2 τ Z gi gr h0 ((16 - (0 : Int32).toInt).toNat + 1) gi 0
set_option maxHeartbeats 8000000 in
set_option maxRecDepth 100000 in
theorem k_X0_dropWishes (l : Launch) (D : va_G) (cA : Nat → ClassId) (Z : th_Zt) (τ : th_t) (gi : th_i) (gr : th_r) (sz : Nat) (h0 : Nat) (t_h0 : τ h0 = 1) : Met l yX0_dropWishes wsX0_dropWishes ({ frames := 2, cells := 0, slots := 0, locals := 43 }) (va_Pc [.ref h0] (th_Pre D cA Z τ gi gr sz)) (va_Qv (fun (u : th_i × th_r) => th_Mod [404, 804, 904] τ gi gr u.1 u.2 ∧ u.2 = gr ∧ (F_X0_dropWishes τ Z gi gr h0 = u.1)) (fun (u : th_i × th_r) t => th_H D cA τ u.1 u.2 t.heap) (th_A τ sz)) 0 0 (th_A τ sz) := by
  refine Met.ofW (cc := cX0_dropWishes) (maxL := 3) (ret := none) (by decide) rfl ?_
  intro p e s m args below meth c s₁ B hml hv
  obtain ⟨rfl, hsz, hH, hK, hN, hZ⟩ := hv
  have hx := B.exec
  have hb := B.bytes
  have hr := B.returns
  have hts := atoms_spec (ws := wsX0_dropWishes) B.pre
  have hown : s.vm.findClass RX0 = some m.cls := findClass_of_methodNamed B.named
  have hlocks := B.notSynchronized
  subst hsz
  have hM : th_Mod [404, 804, 904] τ gi gr gi gr := th_Mod.rf
  have J2 : ∀ (n2 : Nat) (gi_2 : th_i) (H : Heap) (locs : List Loc) (ls : Array Slot) (y2_1 : Int32), (16 - y2_1.toInt).toNat < n2 → th_H D cA τ gi_2 gr H → va_S (th_A τ s.heap.size) s.heap H locs → th_Mod [404, 804, 904] τ gi gr gi_2 gr → lv_has ls 3 [(0, .ref h0), (1, .int y2_1)] → rg 0 16 y2_1 → F_X0_dropWishes τ Z gi gr h0 = f_X0_dropWishes_2 τ Z gi gr h0 n2 gi_2 y2_1 → W p l e (headSpec wsX0_dropWishes ({ frames := 2, cells := 0, slots := 0, locals := 43 })).room s m [.ref h0].toArray below meth c H locs 0 0 (MQ below (va_Qv (fun (u : th_i × th_r) => th_Mod [404, 804, 904] τ gi gr u.1 u.2 ∧ u.2 = gr ∧ (F_X0_dropWishes τ Z gi gr h0 = u.1)) (fun (u : th_i × th_r) t => th_H D cA τ u.1 u.2 t.heap) (th_A τ s.heap.size)) [.ref h0].toArray s 0 0 (th_A τ s.heap.size)) (F0 m 2 ls []) := by
    intro n2
    induction n2 with
    | zero =>
      intro gi_2 H locs ls y2_1 hn
      exact absurd hn (Nat.not_lt_zero _)
    | succ n2 ih2 =>
      intro gi_2 H locs ls y2_1 hn2 hH hS hM hl fy2_1 hF
      have J25 : ∀ (gi_25 : th_i) (H : Heap) (locs : List Loc) (ls : Array Slot), th_H D cA τ gi_25 gr H → va_S (th_A τ s.heap.size) s.heap H locs → th_Mod [404, 804, 904] τ gi gr gi_25 gr → lv_has ls 3 [(0, .ref h0), (1, .int y2_1)] → rg 0 15 y2_1 → F_X0_dropWishes τ Z gi gr h0 = f_X0_dropWishes_25 τ Z gi gr h0 gi_2 y2_1 (f_X0_dropWishes_2 τ Z gi gr h0 n2) gi_25 → W p l e (headSpec wsX0_dropWishes ({ frames := 2, cells := 0, slots := 0, locals := 43 })).room s m [.ref h0].toArray below meth c H locs 0 0 (MQ below (va_Qv (fun (u : th_i × th_r) => th_Mod [404, 804, 904] τ gi gr u.1 u.2 ∧ u.2 = gr ∧ (F_X0_dropWishes τ Z gi gr h0 = u.1)) (fun (u : th_i × th_r) t => th_H D cA τ u.1 u.2 t.heap) (th_A τ s.heap.size)) [.ref h0].toArray s 0 0 (th_A τ s.heap.size)) (F0 m 25 ls []) := by
        intro gi_25 H locs ls hH hS hM hl fy25_1 hF
        obtain ⟨x1, e1⟩ : ∃ y : Int32, y = y2_1 + 1 := ⟨_, rfl⟩
        have f1 : rg 1 16 x1 := rg_e e1 (rg_w (rg_add fy25_1 rgc_1 (th_leI rfl) (th_leI rfl)) (th_leI rfl) (th_leI rfl))
        refine lv_iinc (v := x1) (lv' := [(1, .int x1), (0, .ref h0)]) hx hb dX0_dropWishes_25 hl (k := 1) rfl (by rw [e1]; rfl) (th_ltN rfl) rfl (fun ls hl => ?_)
        refine lv_goto (tgt := 2) hx hb dX0_dropWishes_28 (th_eqI rfl) ?_
        exact ih2 gi_25 _ _ _ x1 (th_up (rg_dA e1 fy25_1 rgc_1 (th_leI rfl) (th_leI rfl)) fy25_1 hn2 (th_ltI rfl)) hH hS hM (lv_sub hl [1, 0] rfl) (rg_w f1 (th_leI rfl) (th_leI rfl)) (hF.trans (by simp only [f_X0_dropWishes_25, ← e1]))
      refine lv_iload_n hx hb dX0_dropWishes_2 rfl (lv_at hl 1 rfl) ?_
      refine lv_aload_n hx hb dX0_dropWishes_3 rfl (lv_at hl 0 rfl) ?_
      obtain ⟨x2, e2⟩ : ∃ y : Int32, y = gi_2 h0 6 := ⟨_, rfl⟩
      refine th_get (ci := 0) (v := .int x2) (T := TX0) (C := RX0) (N := 9) hx hb hts (fun w h => List.mem_cons_of_mem _ (List.mem_append_left _ (List.mem_append_left _ (List.mem_append_left _ (List.mem_append_right _ h))))) hown hK hH t_h0 (th_nz rfl) (thE_1 _ _ _) rfl 6 (th_ltN rfl) (hts (.fieldLink RX0 42 "BayMoorings$Bay" "boatCount" "I") (List.mem_cons_of_mem _ (List.mem_append_left _ (List.mem_append_left _ (List.mem_append_left _ (List.mem_append_left _ (List.mem_of_getElem? (i := 0) rfl))))))) (fun _ h9 => h9) (th_fI e2 rfl) dX0_dropWishes_4 ?_
      have f2 : rg 0 16 x2 := rg_e e2 ((thI_1 hH t_h0).2.2.2.2.2.2)
      refine lv_icmp_ge (tgt := 31) hx hb dX0_dropWishes_7 (th_eqI rfl) (fun c3 => ?_) (fun c3 => ?_)
      · skip
        exact W.vret hx hb hr (fun t ht hW => ⟨⟨(gi_2, gr), rfl, ⟨hM, rfl, (hF.trans (by simp only [↓reduceIte, f_X0_dropWishes_2, ← e2, eq_true c3]))⟩, th_Ht ht hH⟩, hS.F ht⟩) hS.2.2 dX0_dropWishes_31
      · skip
        have f4 : rg 1 16 x2 := rg_w (rg_nle f2 fy2_1 c3).1 (th_leI rfl) (th_leI rfl)
        have f5 : rg 0 15 y2_1 := rg_w (rg_nle f2 fy2_1 c3).2 (th_leI rfl) (th_leI rfl)
        refine lv_aload_n hx hb dX0_dropWishes_10 rfl (lv_at hl 0 rfl) ?_
        refine lv_iload_n hx hb dX0_dropWishes_11 rfl (lv_at hl 1 rfl) ?_
        have hA6 := th_Asub (τ := τ) hS
        refine va_callq (va_runV (As := [.int y2_1]) (rest := []) ⟨hx, hb, hml, hown, hts⟩ (k_X0_boatAt l D cA Z τ gi_2 gr _ h0 t_h0 y2_1) (cwV 1 hts gX0_dropWishes_X0_boatAt rfl rfl rfl hd_X0_boatAt__1 ⟨Nat.le_of_ble_eq_true rfl, Nat.le_of_ble_eq_true rfl⟩) ⟨th_blind, tr_1 hK hH t_h0, (th_pre hH hK hN hZ hS hA6)⟩ rfl rfl hl.1 rfl (lv_room (Nat.le_of_ble_eq_true rfl)) dX0_dropWishes_12 ⟨Nat.le_of_ble_eq_true rfl, Nat.le_of_ble_eq_true rfl⟩) hS (fun q _ h => hA6 q h) hA6 (fun r7 u t H locs ht hvm hw7 hB hz1 hk1 hS => ?_)
        try dsimp only at hw7 hB
        rw [ht] at hB
        have hH := hB
        refine th_astoreq_n (i := 2) (lv' := [(2, va_rf r7), (0, .ref h0), (1, .int y2_1)]) hx hb dX0_dropWishes_15 rfl hl (th_ltN rfl) rfl (fun ls hl => ?_)
        refine th_aloadq_n hx hb dX0_dropWishes_16 rfl (lv_at hl 0 rfl) ?_
        refine th_ifnull (tgt := 25) hx hb dX0_dropWishes_17 (th_eqI rfl) (fun z8 => ?_) (fun q8 z8 => ?_)
        · skip
          subst z8
          have hl : lv_has ls 3 [(2, .null), (0, .ref h0), (1, .int y2_1)] := hl
          exact J25 gi_2 _ _ _ hH hS hM (lv_sub hl [1, 2] rfl) f5 (hF.trans (by simp only [↓reduceIte, f_X0_dropWishes_2, ← e2, eq_false c3, hw7.2, Option.elim_none]))
        · skip
          subst z8
          have t8 := hw7.1 q8 rfl
          have hl : lv_has ls 3 [(2, .ref q8), (0, .ref h0), (1, .int y2_1)] := hl
          refine lv_aload_n hx hb dX0_dropWishes_20 rfl (lv_at hl 0 rfl) ?_
          refine lv_iconst (v := 0) hx hb dX0_dropWishes_21 ic_0 ?_
          refine th_any3 t8 (fun t9 k9 => th_put (ci := 7) (v := .int 0) (T := TX8) (C := RX8) (N := 6) (ty := .int) (gi' := va_up gi_2 q8 (upd (gi_2 q8) 4 0)) (gr' := gr) hx hb hts (fun w h => List.mem_cons_of_mem _ (List.mem_append_left _ (List.mem_append_right _ h))) tyX8 tyX8_ok nmX8 hown hK hH hS t9 (th_nz rfl) (Or.inl (th_nzE t9 rfl)) rfl rfl 4 (th_ltN rfl) (hts (.fieldLink RX0 165 "BayMoorings$Boat" "wishCount" "I") (List.mem_cons_of_mem _ (List.mem_append_left _ (List.mem_append_left _ (List.mem_append_left _ (List.mem_append_left _ (List.mem_of_getElem? (i := 1) rfl))))))) (fun _ h9 => h9) rfl (by decide +kernel) rfl rfl (Nat.le_of_ble_eq_true rfl) (by rw [va_up_self]; rfl) (by rw [va_up_self]; show (∃ q, gr q8 3 = some q ∧ τ q = 27) ∧ rg 0 4 0; exact ⟨(thI_8 hH t9).1, (rg_w rgc_0 (th_leI rfl) (th_leI rfl))⟩) (fun b hb => ⟨va_up_ne _ _ hb, rfl⟩) dX0_dropWishes_22 k9) (fun t9 k9 => th_put (ci := 8) (v := .int 0) (T := TX9) (C := RX9) (N := 6) (ty := .int) (gi' := va_up gi_2 q8 (upd (gi_2 q8) 4 0)) (gr' := gr) hx hb hts (fun w h => List.mem_cons_of_mem _ (List.mem_append_right _ h)) tyX9 tyX9_ok nmX9 hown hK hH hS t9 (th_nz rfl) (Or.inl (th_nzE t9 rfl)) rfl rfl 4 (th_ltN rfl) (hts (.fieldLink RX0 165 "BayMoorings$Boat" "wishCount" "I") (List.mem_cons_of_mem _ (List.mem_append_left _ (List.mem_append_left _ (List.mem_append_left _ (List.mem_append_left _ (List.mem_of_getElem? (i := 1) rfl))))))) (fun _ h9 => h9) rfl (by decide +kernel) rfl rfl (Nat.le_of_ble_eq_true rfl) (by rw [va_up_self]; rfl) (by rw [va_up_self]; show (∃ q, gr q8 3 = some q ∧ τ q = 27) ∧ rg 0 4 0; exact ⟨(thI_9 hH t9).1, (rg_w rgc_0 (th_leI rfl) (th_leI rfl))⟩) (fun b hb => ⟨va_up_ne _ _ hb, rfl⟩) dX0_dropWishes_22 k9) (fun t9 k9 => th_put (ci := 3) (v := .int 0) (T := TX4) (C := RX4) (N := 6) (ty := .int) (gi' := va_up gi_2 q8 (upd (gi_2 q8) 4 0)) (gr' := gr) hx hb hts (fun w h => List.mem_cons_of_mem _ (List.mem_append_left _ (List.mem_append_left _ (List.mem_append_right _ h)))) tyX4 tyX4_ok nmX4 hown hK hH hS t9 (th_nz rfl) (Or.inl (th_nzE t9 rfl)) rfl rfl 4 (th_ltN rfl) (hts (.fieldLink RX0 165 "BayMoorings$Boat" "wishCount" "I") (List.mem_cons_of_mem _ (List.mem_append_left _ (List.mem_append_left _ (List.mem_append_left _ (List.mem_append_left _ (List.mem_of_getElem? (i := 1) rfl))))))) (fun _ h9 => h9) rfl (by decide +kernel) rfl rfl (Nat.le_of_ble_eq_true rfl) (by rw [va_up_self]; rfl) (by rw [va_up_self]; show (∃ q, gr q8 3 = some q ∧ τ q = 27) ∧ rg 0 4 0; exact ⟨(thI_4 hH t9).1, (rg_w rgc_0 (th_leI rfl) (th_leI rfl))⟩) (fun b hb => ⟨va_up_ne _ _ hb, rfl⟩) dX0_dropWishes_22 k9) (fun H locs hH hS => ?_)
          obtain ⟨gi9, eg9⟩ : ∃ g, g = va_up gi_2 q8 (upd (gi_2 q8) 4 0) := ⟨_, rfl⟩
          rw [← eg9] at hH
          have hu9 : gi9 q8 4 = 0 := (th_uI eg9).1
          have ho9 : ∀ b j, b ≠ q8 ∨ j ≠ 4 → gi9 b j = gi_2 b j := (th_uI eg9).2
          have hM := th_or3 t8 (fun t9 => hM.i t9 (th_mem rfl) ho9) (fun t9 => hM.i t9 (th_mem rfl) ho9) (fun t9 => hM.i t9 (th_mem rfl) ho9)
          exact J25 gi9 _ _ _ hH hS hM (lv_sub hl [1, 2] rfl) f5 (hF.trans (by simp only [↓reduceIte, f_X0_dropWishes_2, ← e2, eq_false c3, hw7.2, Option.elim_some, ← eg9]))
  have hS : va_S (th_A τ s.heap.size) s.heap s.heap [] := va_S.rf
  have hl := lv_entry ([.ref h0]) (n := 3) (Nat.le_of_ble_eq_true rfl)
  rw [lg_entry_eq]
  generalize (lg_sl ([.ref h0]) ++ List.replicate (3 - (lg_sl ([.ref h0])).length) Slot.unset).toArray = ls at hl ⊢
  have hl : lv_has ls 3 [(0, .ref h0)] := hl
  have hF : F_X0_dropWishes τ Z gi gr h0 = F_X0_dropWishes τ Z gi gr h0 := rfl
  refine lv_iconst (v := 0) hx hb dX0_dropWishes_0 ic_0 ?_
  refine lv_istore_n (i := 1) (lv' := [(1, .int 0), (0, .ref h0)]) hx hb dX0_dropWishes_1 rfl hl (th_ltN rfl) rfl (fun ls hl => ?_)
  exact J2 _ gi _ _ _ 0 (Nat.lt_add_one _) hH hS hM (lv_sub hl [1, 0] rfl) (rg_w rgc_0 (th_leI rfl) (th_leI rfl)) (hF.trans (by simp only [F_X0_dropWishes]))

noncomputable def f_X0_passYear_56 (τ : th_t) (Z : th_Zt) (gi : th_i) (gr : th_r) (h0 : Nat) (gi_2 : th_i) (y2_1 : Int32) (k_2 : th_i → Int32 → th_i) (gi_56 : th_i) : th_i :=
  let w56_0 : Int32 := gi_56 h0 5
  let x1 : Int32 := y2_1 + 1
  k_2 gi_56 x1
noncomputable def f_X0_passYear_53 (τ : th_t) (Z : th_Zt) (gi : th_i) (gr : th_r) (h0 : Nat) (gi_2 : th_i) (y2_1 : Int32) (k_2 : th_i → Int32 → th_i) (gi_53 : th_i) (z53_0 : Nat) (z53_1 : Int32) : th_i :=
  let w53_0 : Int32 := gi_53 h0 5
  let gi3 : th_i := F_X3_wear τ Z gi_53 gr z53_0 z53_1
  f_X0_passYear_56 τ Z gi gr h0 gi_2 y2_1 k_2 gi3
noncomputable def f_X0_passYear_52 (τ : th_t) (Z : th_Zt) (gi : th_i) (gr : th_r) (h0 : Nat) (gi_2 : th_i) (y2_1 : Int32) (k_2 : th_i → Int32 → th_i) (gi_52 : th_i) (z52_0 : Nat) : th_i :=
  let w52_0 : Int32 := gi_52 h0 5
  f_X0_passYear_53 τ Z gi gr h0 gi_2 y2_1 k_2 gi_52 z52_0 0
noncomputable def f_X0_passYear_2 (τ : th_t) (Z : th_Zt) (gi : th_i) (gr : th_r) (h0 : Nat) : Nat → th_i → Int32 → th_i
  | 0, gi_2, y2_1 => (gi_2)
  | n2 + 1, gi_2, y2_1 =>
    let x5 : Int32 := gi_2 h0 5
    if x5 ≤ y2_1 then (
      (gi_2)) else (
      let r10 : Option Nat := F_X0_buoyAt τ Z gi_2 gr h0 y2_1
      let q11 : Nat := (gr h0 4).getD 0
      let x13 : Int32 := F_X1_boatOf τ Z gi_2 gr q11 y2_1
      let r15 : Option Nat := F_X0_boatAt τ Z gi_2 gr h0 x13
      Option.elim r10 (
        f_X0_passYear_56 τ Z gi gr h0 gi_2 y2_1 (f_X0_passYear_2 τ Z gi gr h0 n2) gi_2) (fun q16 =>
        Option.elim r15 (
          f_X0_passYear_52 τ Z gi gr h0 gi_2 y2_1 (f_X0_passYear_2 τ Z gi gr h0 n2) gi_2 q16) (fun q17 =>
          let x18 : Int32 := gi_2 q17 1
          if x18 < (150 : Int32) then (
            f_X0_passYear_52 τ Z gi gr h0 gi_2 y2_1 (f_X0_passYear_2 τ Z gi gr h0 n2) gi_2 q16) else (
            f_X0_passYear_53 τ Z gi gr h0 gi_2 y2_1 (f_X0_passYear_2 τ Z gi gr h0 n2) gi_2 q16 1))))
noncomputable def F_X0_passYear (τ : th_t) (Z : th_Zt) (gi : th_i) (gr : th_r) (h0 : Nat) : th_i :=
  f_X0_passYear_2 τ Z gi gr h0 ((12 - (0 : Int32).toInt).toNat + 1) gi 0
set_option maxHeartbeats 8000000 in
set_option maxRecDepth 100000 in
theorem k_X0_passYear (l : Launch) (D : va_G) (cA : Nat → ClassId) (Z : th_Zt) (τ : th_t) (gi : th_i) (gr : th_r) (sz : Nat) (h0 : Nat) (t_h0 : τ h0 = 1) : Met l yX0_passYear wsX0_passYear ({ frames := 2, cells := 0, slots := 0, locals := 61 }) (va_Pc [.ref h0] (th_Pre D cA Z τ gi gr sz)) (va_Qv (fun (u : th_i × th_r) => th_Mod [306, 307] τ gi gr u.1 u.2 ∧ u.2 = gr ∧ (F_X0_passYear τ Z gi gr h0 = u.1)) (fun (u : th_i × th_r) t => th_H D cA τ u.1 u.2 t.heap) (th_A τ sz)) 0 0 (th_A τ sz) := by
  refine Met.ofW (cc := cX0_passYear) (maxL := 4) (ret := none) (by decide) rfl ?_
  intro p e s m args below meth c s₁ B hml hv
  obtain ⟨rfl, hsz, hH, hK, hN, hZ⟩ := hv
  have hx := B.exec
  have hb := B.bytes
  have hr := B.returns
  have hts := atoms_spec (ws := wsX0_passYear) B.pre
  have hown : s.vm.findClass RX0 = some m.cls := findClass_of_methodNamed B.named
  have hlocks := B.notSynchronized
  subst hsz
  have hM : th_Mod [306, 307] τ gi gr gi gr := th_Mod.rf
  have J2 : ∀ (n2 : Nat) (gi_2 : th_i) (H : Heap) (locs : List Loc) (ls : Array Slot) (y2_1 : Int32), (12 - y2_1.toInt).toNat < n2 → th_H D cA τ gi_2 gr H → va_S (th_A τ s.heap.size) s.heap H locs → th_Mod [306, 307] τ gi gr gi_2 gr → lv_has ls 4 [(0, .ref h0), (1, .int y2_1)] → rg 0 12 y2_1 → F_X0_passYear τ Z gi gr h0 = f_X0_passYear_2 τ Z gi gr h0 n2 gi_2 y2_1 → W p l e (headSpec wsX0_passYear ({ frames := 2, cells := 0, slots := 0, locals := 61 })).room s m [.ref h0].toArray below meth c H locs 0 0 (MQ below (va_Qv (fun (u : th_i × th_r) => th_Mod [306, 307] τ gi gr u.1 u.2 ∧ u.2 = gr ∧ (F_X0_passYear τ Z gi gr h0 = u.1)) (fun (u : th_i × th_r) t => th_H D cA τ u.1 u.2 t.heap) (th_A τ s.heap.size)) [.ref h0].toArray s 0 0 (th_A τ s.heap.size)) (F0 m 2 ls []) := by
    intro n2
    induction n2 with
    | zero =>
      intro gi_2 H locs ls y2_1 hn
      exact absurd hn (Nat.not_lt_zero _)
    | succ n2 ih2 =>
      intro gi_2 H locs ls y2_1 hn2 hH hS hM hl fy2_1 hF
      have J56 : ∀ (gi_56 : th_i) (H : Heap) (locs : List Loc) (ls : Array Slot) (w56_0 : Int32), th_H D cA τ gi_56 gr H → va_S (th_A τ s.heap.size) s.heap H locs → th_Mod [306, 307] τ gi gr gi_56 gr → lv_has ls 4 [(0, .ref h0), (1, .int y2_1)] → rg 0 11 y2_1 → w56_0 = gi_56 h0 5 → rg 1 12 w56_0 → F_X0_passYear τ Z gi gr h0 = f_X0_passYear_56 τ Z gi gr h0 gi_2 y2_1 (f_X0_passYear_2 τ Z gi gr h0 n2) gi_56 → W p l e (headSpec wsX0_passYear ({ frames := 2, cells := 0, slots := 0, locals := 61 })).room s m [.ref h0].toArray below meth c H locs 0 0 (MQ below (va_Qv (fun (u : th_i × th_r) => th_Mod [306, 307] τ gi gr u.1 u.2 ∧ u.2 = gr ∧ (F_X0_passYear τ Z gi gr h0 = u.1)) (fun (u : th_i × th_r) t => th_H D cA τ u.1 u.2 t.heap) (th_A τ s.heap.size)) [.ref h0].toArray s 0 0 (th_A τ s.heap.size)) (F0 m 56 ls []) := by
        intro gi_56 H locs ls w56_0 hH hS hM hl fy56_1 ew56_0 fw56_0 hF
        obtain ⟨x1, e1⟩ : ∃ y : Int32, y = y2_1 + 1 := ⟨_, rfl⟩
        have f1 : rg 1 12 x1 := rg_e e1 (rg_w (rg_add fy56_1 rgc_1 (th_leI rfl) (th_leI rfl)) (th_leI rfl) (th_leI rfl))
        refine lv_iinc (v := x1) (lv' := [(1, .int x1), (0, .ref h0)]) hx hb dX0_passYear_56 hl (k := 1) rfl (by rw [e1]; rfl) (th_ltN rfl) rfl (fun ls hl => ?_)
        refine lv_goto (tgt := 2) hx hb dX0_passYear_59 (th_eqI rfl) ?_
        exact ih2 gi_56 _ _ _ x1 (th_up (rg_dA e1 fy56_1 rgc_1 (th_leI rfl) (th_leI rfl)) fy56_1 hn2 (th_ltI rfl)) hH hS hM (lv_sub hl [1, 0] rfl) (rg_w f1 (th_leI rfl) (th_leI rfl)) (hF.trans (by simp only [f_X0_passYear_56, ← ew56_0, ← e1]))
      have J53 : ∀ (gi_53 : th_i) (H : Heap) (locs : List Loc) (ls : Array Slot) (z53_0 : Nat) (z53_1 : Int32) (w53_0 : Int32), th_H D cA τ gi_53 gr H → va_S (th_A τ s.heap.size) s.heap H locs → th_Mod [306, 307] τ gi gr gi_53 gr → lv_has ls 4 [(0, .ref h0), (1, .int y2_1)] → rg 0 11 y2_1 → (τ z53_0 = 3) → rg 0 1 z53_1 → w53_0 = gi_53 h0 5 → rg 1 12 w53_0 → F_X0_passYear τ Z gi gr h0 = f_X0_passYear_53 τ Z gi gr h0 gi_2 y2_1 (f_X0_passYear_2 τ Z gi gr h0 n2) gi_53 z53_0 z53_1 → W p l e (headSpec wsX0_passYear ({ frames := 2, cells := 0, slots := 0, locals := 61 })).room s m [.ref h0].toArray below meth c H locs 0 0 (MQ below (va_Qv (fun (u : th_i × th_r) => th_Mod [306, 307] τ gi gr u.1 u.2 ∧ u.2 = gr ∧ (F_X0_passYear τ Z gi gr h0 = u.1)) (fun (u : th_i × th_r) t => th_H D cA τ u.1 u.2 t.heap) (th_A τ s.heap.size)) [.ref h0].toArray s 0 0 (th_A τ s.heap.size)) (F0 m 53 ls [.int z53_1, .ref z53_0]) := by
        intro gi_53 H locs ls z53_0 z53_1 w53_0 hH hS hM hl fy53_1 tz53_0 fz53_1 ew53_0 fw53_0 hF
        have hA2 := th_Asub (τ := τ) hS
        refine va_callv (va_runV (As := [.int z53_1]) (rest := []) ⟨hx, hb, hml, hown, hts⟩ (k_X3_wear l D cA Z τ gi_53 gr _ z53_0 tz53_0 z53_1 fz53_1) (cwV 1 hts gX0_passYear_X3_wear rfl rfl rfl hd_X3_wear__1 ⟨Nat.le_of_ble_eq_true rfl, Nat.le_of_ble_eq_true rfl⟩) ⟨th_blind, tr_3 hK hH tz53_0, (th_pre hH hK hN hZ hS hA2)⟩ rfl rfl hl.1 rfl (lv_room (Nat.le_of_ble_eq_true rfl)) dX0_passYear_53 ⟨Nat.le_of_ble_eq_true rfl, Nat.le_of_ble_eq_true rfl⟩) hS (fun q _ h => hA2 q h) hA2 (fun  u t H locs ht hvm hw3 hB hz1 hk1 hS => ?_)
        try dsimp only at hw3 hB
        rw [ht] at hB
        have hH := hB
        obtain ⟨gi3, gr3⟩ := u
        try dsimp only at hw3 hH
        obtain rfl : gr = gr3 := (hw3.2.1).symm
        have hM := hM.tr hw3.1 (fun _ h => h) (th_sub rfl)
        have e4 : w53_0 = gi3 h0 5 := Eq.trans ew53_0 (Eq.symm (hw3.1 h0 5 (th_nzE t_h0 rfl) (th_nmE (key := 105) t_h0 rfl rfl)).1)
        exact J56 gi3 _ _ _ w53_0 hH hS hM (lv_sub hl [0, 1] rfl) fy53_1 e4 fw53_0 (hF.trans (by simp only [f_X0_passYear_53, ← ew53_0, hw3.2.2]))
      have J52 : ∀ (gi_52 : th_i) (H : Heap) (locs : List Loc) (ls : Array Slot) (z52_0 : Nat) (w52_0 : Int32), th_H D cA τ gi_52 gr H → va_S (th_A τ s.heap.size) s.heap H locs → th_Mod [306, 307] τ gi gr gi_52 gr → lv_has ls 4 [(0, .ref h0), (1, .int y2_1)] → rg 0 11 y2_1 → (τ z52_0 = 3) → w52_0 = gi_52 h0 5 → rg 1 12 w52_0 → F_X0_passYear τ Z gi gr h0 = f_X0_passYear_52 τ Z gi gr h0 gi_2 y2_1 (f_X0_passYear_2 τ Z gi gr h0 n2) gi_52 z52_0 → W p l e (headSpec wsX0_passYear ({ frames := 2, cells := 0, slots := 0, locals := 61 })).room s m [.ref h0].toArray below meth c H locs 0 0 (MQ below (va_Qv (fun (u : th_i × th_r) => th_Mod [306, 307] τ gi gr u.1 u.2 ∧ u.2 = gr ∧ (F_X0_passYear τ Z gi gr h0 = u.1)) (fun (u : th_i × th_r) t => th_H D cA τ u.1 u.2 t.heap) (th_A τ s.heap.size)) [.ref h0].toArray s 0 0 (th_A τ s.heap.size)) (F0 m 52 ls [.ref z52_0]) := by
        intro gi_52 H locs ls z52_0 w52_0 hH hS hM hl fy52_1 tz52_0 ew52_0 fw52_0 hF
        refine lv_iconst (v := 0) hx hb dX0_passYear_52 ic_0 ?_
        exact J53 gi_52 _ _ _ z52_0 0 w52_0 hH hS hM (lv_sub hl [0, 1] rfl) fy52_1 tz52_0 (rg_w rgc_0 (th_leI rfl) (th_leI rfl)) ew52_0 fw52_0 (hF.trans (by simp only [f_X0_passYear_52, ← ew52_0]))
      refine lv_iload_n hx hb dX0_passYear_2 rfl (lv_at hl 1 rfl) ?_
      refine lv_aload_n hx hb dX0_passYear_3 rfl (lv_at hl 0 rfl) ?_
      obtain ⟨x5, e5⟩ : ∃ y : Int32, y = gi_2 h0 5 := ⟨_, rfl⟩
      refine th_get (ci := 0) (v := .int x5) (T := TX0) (C := RX0) (N := 9) hx hb hts (fun w h => List.mem_cons_of_mem _ (List.mem_append_left _ (List.mem_append_left _ (List.mem_append_left _ (List.mem_append_left _ (List.mem_append_left _ (List.mem_append_right _ h))))))) hown hK hH t_h0 (th_nz rfl) (thE_1 _ _ _) rfl 5 (th_ltN rfl) (hts (.fieldLink RX0 38 "BayMoorings$Bay" "buoyCount" "I") (List.mem_cons_of_mem _ (List.mem_append_left _ (List.mem_append_left _ (List.mem_append_left _ (List.mem_append_left _ (List.mem_append_left _ (List.mem_append_left _ (List.mem_append_left _ (List.mem_of_getElem? (i := 0) rfl)))))))))) (fun _ h9 => h9) (th_fI e5 rfl) dX0_passYear_4 ?_
      have f5 : rg 0 12 x5 := rg_e e5 ((thI_1 hH t_h0).2.2.2.2.2.1)
      refine lv_icmp_ge (tgt := 62) hx hb dX0_passYear_7 (th_eqI rfl) (fun c6 => ?_) (fun c6 => ?_)
      · skip
        exact W.vret hx hb hr (fun t ht hW => ⟨⟨(gi_2, gr), rfl, ⟨hM, rfl, (hF.trans (by simp only [↓reduceIte, f_X0_passYear_2, ← e5, eq_true c6]))⟩, th_Ht ht hH⟩, hS.F ht⟩) hS.2.2 dX0_passYear_62
      · skip
        have f7 : rg 1 12 x5 := rg_w (rg_nle f5 fy2_1 c6).1 (th_leI rfl) (th_leI rfl)
        have f8 : rg 0 11 y2_1 := rg_w (rg_nle f5 fy2_1 c6).2 (th_leI rfl) (th_leI rfl)
        refine lv_aload_n hx hb dX0_passYear_10 rfl (lv_at hl 0 rfl) ?_
        refine lv_iload_n hx hb dX0_passYear_11 rfl (lv_at hl 1 rfl) ?_
        have hA9 := th_Asub (τ := τ) hS
        refine va_callq (va_runV (As := [.int y2_1]) (rest := []) ⟨hx, hb, hml, hown, hts⟩ (k_X0_buoyAt l D cA Z τ gi_2 gr _ h0 t_h0 y2_1) (cwV 1 hts gX0_passYear_X0_buoyAt rfl rfl rfl hd_X0_buoyAt__1 ⟨Nat.le_of_ble_eq_true rfl, Nat.le_of_ble_eq_true rfl⟩) ⟨th_blind, tr_1 hK hH t_h0, (th_pre hH hK hN hZ hS hA9)⟩ rfl rfl hl.1 rfl (lv_room (Nat.le_of_ble_eq_true rfl)) dX0_passYear_12 ⟨Nat.le_of_ble_eq_true rfl, Nat.le_of_ble_eq_true rfl⟩) hS (fun q _ h => hA9 q h) hA9 (fun r10 u t H locs ht hvm hw10 hB hz1 hk1 hS => ?_)
        try dsimp only at hw10 hB
        rw [ht] at hB
        have hH := hB
        refine th_astoreq_n (i := 2) (lv' := [(2, va_rf r10), (0, .ref h0), (1, .int y2_1)]) hx hb dX0_passYear_15 rfl hl (th_ltN rfl) rfl (fun ls hl => ?_)
        refine lv_aload_n hx hb dX0_passYear_16 rfl (lv_at hl 1 rfl) ?_
        refine lv_aload_n hx hb dX0_passYear_17 rfl (lv_at hl 1 rfl) ?_
        obtain ⟨q11, r11, t11⟩ : ∃ q, gr h0 4 = some q ∧ τ q = 2 := (thI_1 hH t_h0).2.2.2.2.1
        refine th_get (ci := 0) (v := .ref q11) (T := TX0) (C := RX0) (N := 9) hx hb hts (fun w h => List.mem_cons_of_mem _ (List.mem_append_left _ (List.mem_append_left _ (List.mem_append_left _ (List.mem_append_left _ (List.mem_append_left _ (List.mem_append_right _ h))))))) hown hK hH t_h0 (th_nz rfl) (thE_1 _ _ _) rfl 4 (th_ltN rfl) (hts (.fieldLink RX0 34 "BayMoorings$Bay" "berths" "LBayMoorings$Berths;") (List.mem_cons_of_mem _ (List.mem_append_left _ (List.mem_append_left _ (List.mem_append_left _ (List.mem_append_left _ (List.mem_append_left _ (List.mem_append_left _ (List.mem_append_left _ (List.mem_of_getElem? (i := 1) rfl)))))))))) (fun _ h9 => h9) (th_fR r11 rfl) dX0_passYear_18 ?_
        refine lv_iload_n hx hb dX0_passYear_21 rfl (lv_at hl 2 rfl) ?_
        have hA12 := th_Asub (τ := τ) hS
        refine va_calli (va_runV (As := [.int y2_1]) (rest := [.ref h0]) ⟨hx, hb, hml, hown, hts⟩ (k_X1_boatOf l D cA Z τ gi_2 gr _ q11 t11 y2_1) (cwV 1 hts gX0_passYear_X1_boatOf rfl rfl rfl hd_X1_boatOf__1 ⟨Nat.le_of_ble_eq_true rfl, Nat.le_of_ble_eq_true rfl⟩) ⟨th_blind, tr_2 hK hH t11, (th_pre hH hK hN hZ hS hA12)⟩ rfl rfl hl.1 rfl (lv_room (Nat.le_of_ble_eq_true rfl)) dX0_passYear_22 ⟨Nat.le_of_ble_eq_true rfl, Nat.le_of_ble_eq_true rfl⟩) hS (fun q _ h => hA12 q h) hA12 (fun x13 u t H locs ht hvm hw13 hB hz1 hk1 hS => ?_)
        try dsimp only at hw13 hB
        rw [ht] at hB
        have hH := hB
        have hA14 := th_Asub (τ := τ) hS
        refine va_callq (va_runV (As := [.int x13]) (rest := []) ⟨hx, hb, hml, hown, hts⟩ (k_X0_boatAt l D cA Z τ gi_2 gr _ h0 t_h0 x13) (cwV 1 hts gX0_passYear_X0_boatAt rfl rfl rfl hd_X0_boatAt__1 ⟨Nat.le_of_ble_eq_true rfl, Nat.le_of_ble_eq_true rfl⟩) ⟨th_blind, tr_1 hK hH t_h0, (th_pre hH hK hN hZ hS hA14)⟩ rfl rfl hl.1 rfl (lv_room (Nat.le_of_ble_eq_true rfl)) dX0_passYear_25 ⟨Nat.le_of_ble_eq_true rfl, Nat.le_of_ble_eq_true rfl⟩) hS (fun q _ h => hA14 q h) hA14 (fun r15 u t H locs ht hvm hw15 hB hz1 hk1 hS => ?_)
        try dsimp only at hw15 hB
        rw [ht] at hB
        have hH := hB
        refine th_astoreq_n (i := 3) (lv' := [(3, va_rf r15), (2, va_rf r10), (0, .ref h0), (1, .int y2_1)]) hx hb dX0_passYear_28 rfl hl (th_ltN rfl) (by simp [th_cat]) (fun ls hl => ?_)
        refine th_aloadq_n hx hb dX0_passYear_29 rfl (lv_at hl 1 rfl) ?_
        refine th_ifnull (tgt := 56) hx hb dX0_passYear_30 (th_eqI rfl) (fun z16 => ?_) (fun q16 z16 => ?_)
        · skip
          subst z16
          have hl : lv_has ls 4 [(3, va_rf r15), (2, .null), (0, .ref h0), (1, .int y2_1)] := hl
          exact J56 gi_2 _ _ _ x5 hH hS hM (lv_sub hl [2, 3] rfl) f8 e5 f7 (hF.trans (by simp only [↓reduceIte, f_X0_passYear_2, ← e5, eq_false c6, hw10.2, r11, Option.getD_some, hw13, hw15.2, Option.elim_none]))
        · skip
          subst z16
          have t16 := hw10.1 q16 rfl
          have hl : lv_has ls 4 [(3, va_rf r15), (2, .ref q16), (0, .ref h0), (1, .int y2_1)] := hl
          refine lv_aload_n hx hb dX0_passYear_33 rfl (lv_at hl 1 rfl) ?_
          refine th_aloadq_n hx hb dX0_passYear_34 rfl (lv_at hl 0 rfl) ?_
          refine th_ifnull (tgt := 52) hx hb dX0_passYear_35 (th_eqI rfl) (fun z17 => ?_) (fun q17 z17 => ?_)
          · skip
            subst z17
            have hl : lv_has ls 4 [(3, .null), (2, .ref q16), (0, .ref h0), (1, .int y2_1)] := hl
            exact J52 gi_2 _ _ _ q16 x5 hH hS hM (lv_sub hl [2, 3] rfl) f8 t16 e5 f7 (hF.trans (by simp only [↓reduceIte, f_X0_passYear_2, ← e5, eq_false c6, hw10.2, r11, Option.getD_some, hw13, hw15.2, Option.elim_some, Option.elim_none]))
          · skip
            subst z17
            have t17 := hw15.1 q17 rfl
            have hl : lv_has ls 4 [(3, .ref q17), (2, .ref q16), (0, .ref h0), (1, .int y2_1)] := hl
            refine lv_aload_n hx hb dX0_passYear_38 rfl (lv_at hl 0 rfl) ?_
            obtain ⟨x18, e18⟩ : ∃ y : Int32, y = gi_2 q17 1 := ⟨_, rfl⟩
            refine th_any3 t17 (fun t9 k9 => th_get (ci := 7) (v := .int x18) (T := TX8) (C := RX8) (N := 6) hx hb hts (fun w h => List.mem_cons_of_mem _ (List.mem_append_left _ (List.mem_append_left _ (List.mem_append_left _ (List.mem_append_right _ h))))) hown hK hH t9 (th_nz rfl) (thE_8 _ _ _) rfl 1 (th_ltN rfl) (hts (.fieldLink RX0 94 "BayMoorings$Boat" "length" "I") (List.mem_cons_of_mem _ (List.mem_append_left _ (List.mem_append_left _ (List.mem_append_left _ (List.mem_append_left _ (List.mem_append_left _ (List.mem_append_left _ (List.mem_append_left _ (List.mem_of_getElem? (i := 2) rfl)))))))))) (fun _ h9 => h9) (th_fI e18 rfl) dX0_passYear_39 k9) (fun t9 k9 => th_get (ci := 8) (v := .int x18) (T := TX9) (C := RX9) (N := 6) hx hb hts (fun w h => List.mem_cons_of_mem _ (List.mem_append_left _ (List.mem_append_left _ (List.mem_append_right _ h)))) hown hK hH t9 (th_nz rfl) (thE_9 _ _ _) rfl 1 (th_ltN rfl) (hts (.fieldLink RX0 94 "BayMoorings$Boat" "length" "I") (List.mem_cons_of_mem _ (List.mem_append_left _ (List.mem_append_left _ (List.mem_append_left _ (List.mem_append_left _ (List.mem_append_left _ (List.mem_append_left _ (List.mem_append_left _ (List.mem_of_getElem? (i := 2) rfl)))))))))) (fun _ h9 => h9) (th_fI e18 rfl) dX0_passYear_39 k9) (fun t9 k9 => th_get (ci := 3) (v := .int x18) (T := TX4) (C := RX4) (N := 6) hx hb hts (fun w h => List.mem_cons_of_mem _ (List.mem_append_left _ (List.mem_append_left _ (List.mem_append_left _ (List.mem_append_left _ (List.mem_append_right _ h)))))) hown hK hH t9 (th_nz rfl) (thE_4 _ _ _) rfl 1 (th_ltN rfl) (hts (.fieldLink RX0 94 "BayMoorings$Boat" "length" "I") (List.mem_cons_of_mem _ (List.mem_append_left _ (List.mem_append_left _ (List.mem_append_left _ (List.mem_append_left _ (List.mem_append_left _ (List.mem_append_left _ (List.mem_append_left _ (List.mem_of_getElem? (i := 2) rfl)))))))))) (fun _ h9 => h9) (th_fI e18 rfl) dX0_passYear_39 k9) ?_
            refine lv_sipush (v := 150) hx hb dX0_passYear_42 sp_150 ?_
            refine lv_icmp_lt (tgt := 52) hx hb dX0_passYear_45 (th_eqI rfl) (fun c19 => ?_) (fun c19 => ?_)
            · skip
              have f20 : rg (-2147483648) 149 x18 := rg_w (rg_lt (rg_any x18) rgc_150 c19).1 (th_leI rfl) (th_leI rfl)
              exact J52 gi_2 _ _ _ q16 x5 hH hS hM (lv_sub hl [2, 3] rfl) f8 t16 e5 f7 (hF.trans (by simp only [↓reduceIte, f_X0_passYear_2, ← e5, eq_false c6, hw10.2, r11, Option.getD_some, hw13, hw15.2, Option.elim_some, ← e18, eq_true c19]))
            · skip
              have f21 : rg 150 2147483647 x18 := rg_w (rg_nlt (rg_any x18) rgc_150 c19).1 (th_leI rfl) (th_leI rfl)
              refine lv_iconst (v := 1) hx hb dX0_passYear_48 ic_1 ?_
              refine lv_goto (tgt := 53) hx hb dX0_passYear_49 (th_eqI rfl) ?_
              exact J53 gi_2 _ _ _ q16 1 x5 hH hS hM (lv_sub hl [2, 3] rfl) f8 t16 (rg_w rgc_1 (th_leI rfl) (th_leI rfl)) e5 f7 (hF.trans (by simp only [↓reduceIte, f_X0_passYear_2, ← e5, eq_false c6, hw10.2, r11, Option.getD_some, hw13, hw15.2, Option.elim_some, ← e18, eq_false c19]))
  have hS : va_S (th_A τ s.heap.size) s.heap s.heap [] := va_S.rf
  have hl := lv_entry ([.ref h0]) (n := 4) (Nat.le_of_ble_eq_true rfl)
  rw [lg_entry_eq]
  generalize (lg_sl ([.ref h0]) ++ List.replicate (4 - (lg_sl ([.ref h0])).length) Slot.unset).toArray = ls at hl ⊢
  have hl : lv_has ls 4 [(0, .ref h0)] := hl
  have hF : F_X0_passYear τ Z gi gr h0 = F_X0_passYear τ Z gi gr h0 := rfl
  refine lv_iconst (v := 0) hx hb dX0_passYear_0 ic_0 ?_
  refine lv_istore_n (i := 1) (lv' := [(1, .int 0), (0, .ref h0)]) hx hb dX0_passYear_1 rfl hl (th_ltN rfl) rfl (fun ls hl => ?_)
  exact J2 _ gi _ _ _ 0 (Nat.lt_add_one _) hH hS hM (lv_sub hl [1, 0] rfl) (rg_w rgc_0 (th_leI rfl) (th_leI rfl)) (hF.trans (by simp only [F_X0_passYear]))

noncomputable def f_X0_partedChains_32 (τ : th_t) (Z : th_Zt) (gi : th_i) (gr : th_r) (h0 : Nat) (y4_1 : Int32) (y4_2 : Int32) (k_4 : Int32 → Int32 → Int32) (y32_1 : Int32) : Int32 :=
  let w32_0 : Int32 := gi h0 5
  let x1 : Int32 := y4_2 + 1
  k_4 y32_1 x1
noncomputable def f_X0_partedChains_4 (τ : th_t) (Z : th_Zt) (gi : th_i) (gr : th_r) (h0 : Nat) : Nat → Int32 → Int32 → Int32
  | 0, y4_1, y4_2 => 0
  | n4 + 1, y4_1, y4_2 =>
    let x2 : Int32 := gi h0 5
    if x2 ≤ y4_2 then (
      y4_1) else (
      let r7 : Option Nat := F_X0_buoyAt τ Z gi gr h0 y4_2
      Option.elim r7 (
        f_X0_partedChains_32 τ Z gi gr h0 y4_1 y4_2 (f_X0_partedChains_4 τ Z gi gr h0 n4) y4_1) (fun q8 =>
        let x10 : Int32 := F_X3_isParted τ Z gi gr q8
        if x10 = (0 : Int32) then (
          f_X0_partedChains_32 τ Z gi gr h0 y4_1 y4_2 (f_X0_partedChains_4 τ Z gi gr h0 n4) y4_1) else (
          let x14 : Int32 := y4_1 + 1
          f_X0_partedChains_32 τ Z gi gr h0 y4_1 y4_2 (f_X0_partedChains_4 τ Z gi gr h0 n4) x14)))
noncomputable def F_X0_partedChains (τ : th_t) (Z : th_Zt) (gi : th_i) (gr : th_r) (h0 : Nat) : Int32 :=
  f_X0_partedChains_4 τ Z gi gr h0 ((12 - (0 : Int32).toInt).toNat + 1) 0 0
set_option maxHeartbeats 8000000 in
set_option maxRecDepth 100000 in
theorem k_X0_partedChains (l : Launch) (D : va_G) (cA : Nat → ClassId) (Z : th_Zt) (τ : th_t) (gi : th_i) (gr : th_r) (sz : Nat) (h0 : Nat) (t_h0 : τ h0 = 1) : Met l yX0_partedChains wsX0_partedChains ({ frames := 2, cells := 0, slots := 0, locals := 43 }) (va_Pc [.ref h0] (th_Pre D cA Z τ gi gr sz)) (va_Qi (fun (r : Int32) (_ : Unit) => (F_X0_partedChains τ Z gi gr h0 = r)) (fun (_ : Unit) t => th_H D cA τ gi gr t.heap) (th_A τ sz)) 0 0 (th_A τ sz) := by
  refine Met.ofW (cc := cX0_partedChains) (maxL := 4) (ret := (some .int)) (by decide) rfl ?_
  intro p e s m args below meth c s₁ B hml hv
  obtain ⟨rfl, hsz, hH, hK, hN, hZ⟩ := hv
  have hx := B.exec
  have hb := B.bytes
  have hr := B.returns
  have hts := atoms_spec (ws := wsX0_partedChains) B.pre
  have hown : s.vm.findClass RX0 = some m.cls := findClass_of_methodNamed B.named
  have hlocks := B.notSynchronized
  subst hsz
  have J4 : ∀ (n4 : Nat) (H : Heap) (locs : List Loc) (ls : Array Slot) (y4_1 : Int32) (y4_2 : Int32), (12 - y4_2.toInt).toNat < n4 → th_H D cA τ gi gr H → va_S (th_A τ s.heap.size) s.heap H locs → lv_has ls 4 [(0, .ref h0), (1, .int y4_1), (2, .int y4_2)] → rg 0 12 y4_2 → F_X0_partedChains τ Z gi gr h0 = f_X0_partedChains_4 τ Z gi gr h0 n4 y4_1 y4_2 → W p l e (headSpec wsX0_partedChains ({ frames := 2, cells := 0, slots := 0, locals := 43 })).room s m [.ref h0].toArray below meth c H locs 0 0 (MQ below (va_Qi (fun (r : Int32) (_ : Unit) => (F_X0_partedChains τ Z gi gr h0 = r)) (fun (_ : Unit) t => th_H D cA τ gi gr t.heap) (th_A τ s.heap.size)) [.ref h0].toArray s 0 0 (th_A τ s.heap.size)) (F0 m 4 ls []) := by
    intro n4
    induction n4 with
    | zero =>
      intro H locs ls y4_1 y4_2 hn
      exact absurd hn (Nat.not_lt_zero _)
    | succ n4 ih4 =>
      intro H locs ls y4_1 y4_2 hn4 hH hS hl fy4_2 hF
      have J32 : ∀ (H : Heap) (locs : List Loc) (ls : Array Slot) (y32_1 : Int32) (w32_0 : Int32), th_H D cA τ gi gr H → va_S (th_A τ s.heap.size) s.heap H locs → lv_has ls 4 [(0, .ref h0), (1, .int y32_1), (2, .int y4_2)] → rg 0 11 y4_2 → w32_0 = gi h0 5 → rg 1 12 w32_0 → F_X0_partedChains τ Z gi gr h0 = f_X0_partedChains_32 τ Z gi gr h0 y4_1 y4_2 (f_X0_partedChains_4 τ Z gi gr h0 n4) y32_1 → W p l e (headSpec wsX0_partedChains ({ frames := 2, cells := 0, slots := 0, locals := 43 })).room s m [.ref h0].toArray below meth c H locs 0 0 (MQ below (va_Qi (fun (r : Int32) (_ : Unit) => (F_X0_partedChains τ Z gi gr h0 = r)) (fun (_ : Unit) t => th_H D cA τ gi gr t.heap) (th_A τ s.heap.size)) [.ref h0].toArray s 0 0 (th_A τ s.heap.size)) (F0 m 32 ls []) := by
        intro H locs ls y32_1 w32_0 hH hS hl fy32_2 ew32_0 fw32_0 hF
        obtain ⟨x1, e1⟩ : ∃ y : Int32, y = y4_2 + 1 := ⟨_, rfl⟩
        have f1 : rg 1 12 x1 := rg_e e1 (rg_w (rg_add fy32_2 rgc_1 (th_leI rfl) (th_leI rfl)) (th_leI rfl) (th_leI rfl))
        refine lv_iinc (v := x1) (lv' := [(2, .int x1), (0, .ref h0), (1, .int y32_1)]) hx hb dX0_partedChains_32 hl (k := 2) rfl (by rw [e1]; rfl) (th_ltN rfl) rfl (fun ls hl => ?_)
        refine lv_goto (tgt := 4) hx hb dX0_partedChains_35 (th_eqI rfl) ?_
        exact ih4 _ _ _ y32_1 x1 (th_up (rg_dA e1 fy32_2 rgc_1 (th_leI rfl) (th_leI rfl)) fy32_2 hn4 (th_ltI rfl)) hH hS (lv_sub hl [1, 2, 0] rfl) (rg_w f1 (th_leI rfl) (th_leI rfl)) (hF.trans (by simp only [f_X0_partedChains_32, ← ew32_0, ← e1]))
      refine lv_iload_n hx hb dX0_partedChains_4 rfl (lv_at hl 2 rfl) ?_
      refine lv_aload_n hx hb dX0_partedChains_5 rfl (lv_at hl 0 rfl) ?_
      obtain ⟨x2, e2⟩ : ∃ y : Int32, y = gi h0 5 := ⟨_, rfl⟩
      refine th_get (ci := 0) (v := .int x2) (T := TX0) (C := RX0) (N := 9) hx hb hts (fun w h => List.mem_cons_of_mem _ (List.mem_append_left _ (List.mem_append_right _ h))) hown hK hH t_h0 (th_nz rfl) (thE_1 _ _ _) rfl 5 (th_ltN rfl) (hts (.fieldLink RX0 38 "BayMoorings$Bay" "buoyCount" "I") (List.mem_cons_of_mem _ (List.mem_append_left _ (List.mem_append_left _ (List.mem_of_getElem? (i := 0) rfl))))) (fun _ h9 => h9) (th_fI e2 rfl) dX0_partedChains_6 ?_
      have f2 : rg 0 12 x2 := rg_e e2 ((thI_1 hH t_h0).2.2.2.2.2.1)
      refine lv_icmp_ge (tgt := 38) hx hb dX0_partedChains_9 (th_eqI rfl) (fun c3 => ?_) (fun c3 => ?_)
      · skip
        refine lv_iload_n hx hb dX0_partedChains_38 rfl (lv_at hl 1 rfl) ?_
        exact W.iret (v := y4_1) hx hb hr (fun t ht hW => ⟨⟨y4_1, (), rfl, (hF.trans (by simp only [↓reduceIte, f_X0_partedChains_4, ← e2, eq_true c3])), th_Ht ht hH⟩, hS.F ht⟩) hS.2.2 dX0_partedChains_39
      · skip
        have f4 : rg 1 12 x2 := rg_w (rg_nle f2 fy4_2 c3).1 (th_leI rfl) (th_leI rfl)
        have f5 : rg 0 11 y4_2 := rg_w (rg_nle f2 fy4_2 c3).2 (th_leI rfl) (th_leI rfl)
        refine lv_aload_n hx hb dX0_partedChains_12 rfl (lv_at hl 0 rfl) ?_
        refine lv_iload_n hx hb dX0_partedChains_13 rfl (lv_at hl 2 rfl) ?_
        have hA6 := th_Asub (τ := τ) hS
        refine va_callq (va_runV (As := [.int y4_2]) (rest := []) ⟨hx, hb, hml, hown, hts⟩ (k_X0_buoyAt l D cA Z τ gi gr _ h0 t_h0 y4_2) (cwV 1 hts gX0_partedChains_X0_buoyAt rfl rfl rfl hd_X0_buoyAt__1 ⟨Nat.le_of_ble_eq_true rfl, Nat.le_of_ble_eq_true rfl⟩) ⟨th_blind, tr_1 hK hH t_h0, (th_pre hH hK hN hZ hS hA6)⟩ rfl rfl hl.1 rfl (lv_room (Nat.le_of_ble_eq_true rfl)) dX0_partedChains_14 ⟨Nat.le_of_ble_eq_true rfl, Nat.le_of_ble_eq_true rfl⟩) hS (fun q _ h => hA6 q h) hA6 (fun r7 u t H locs ht hvm hw7 hB hz1 hk1 hS => ?_)
        try dsimp only at hw7 hB
        rw [ht] at hB
        have hH := hB
        refine th_astoreq_n (i := 3) (lv' := [(3, va_rf r7), (0, .ref h0), (1, .int y4_1), (2, .int y4_2)]) hx hb dX0_partedChains_17 rfl hl (th_ltN rfl) rfl (fun ls hl => ?_)
        refine th_aloadq_n hx hb dX0_partedChains_18 rfl (lv_at hl 0 rfl) ?_
        refine th_ifnull (tgt := 32) hx hb dX0_partedChains_19 (th_eqI rfl) (fun z8 => ?_) (fun q8 z8 => ?_)
        · skip
          subst z8
          have hl : lv_has ls 4 [(3, .null), (0, .ref h0), (1, .int y4_1), (2, .int y4_2)] := hl
          exact J32 _ _ _ y4_1 x2 hH hS (lv_sub hl [1, 2, 3] rfl) f5 e2 f4 (hF.trans (by simp only [↓reduceIte, f_X0_partedChains_4, ← e2, eq_false c3, hw7.2, Option.elim_none]))
        · skip
          subst z8
          have t8 := hw7.1 q8 rfl
          have hl : lv_has ls 4 [(3, .ref q8), (0, .ref h0), (1, .int y4_1), (2, .int y4_2)] := hl
          refine lv_aload_n hx hb dX0_partedChains_22 rfl (lv_at hl 0 rfl) ?_
          have hA9 := th_Asub (τ := τ) hS
          refine va_calli (va_runV (As := []) (rest := []) ⟨hx, hb, hml, hown, hts⟩ (k_X3_isParted l D cA Z τ gi gr _ q8 t8) (cwV 0 hts gX0_partedChains_X3_isParted rfl rfl rfl hd_X3_isParted__0 ⟨Nat.le_of_ble_eq_true rfl, Nat.le_of_ble_eq_true rfl⟩) ⟨th_blind, tr_3 hK hH t8, (th_pre hH hK hN hZ hS hA9)⟩ rfl rfl hl.1 rfl (lv_room (Nat.le_of_ble_eq_true rfl)) dX0_partedChains_23 ⟨Nat.le_of_ble_eq_true rfl, Nat.le_of_ble_eq_true rfl⟩) hS (fun q _ h => hA9 q h) hA9 (fun x10 u t H locs ht hvm hw10 hB hz1 hk1 hS => ?_)
          try dsimp only at hw10 hB
          rw [ht] at hB
          have hH := hB
          refine lv_if_eq (tgt := 32) hx hb dX0_partedChains_26 (th_eqI rfl) (fun c11 => ?_) (fun c11 => ?_)
          · skip
            have f12 : rg 0 0 x10 := rg_w (rg_eq hw10.1 rgc_0 c11).1 (th_leI rfl) (th_leI rfl)
            exact J32 _ _ _ y4_1 x2 hH hS (lv_sub hl [1, 2, 3] rfl) f5 e2 f4 (hF.trans (by simp only [↓reduceIte, f_X0_partedChains_4, ← e2, eq_false c3, hw7.2, Option.elim_some, hw10.2, eq_true c11]))
          · skip
            have f13 : rg 1 1 x10 := rg_w (rg_neL hw10.1 rgc_0 c11) (th_leI rfl) (th_leI rfl)
            obtain ⟨x14, e14⟩ : ∃ y : Int32, y = y4_1 + 1 := ⟨_, rfl⟩
            refine lv_iinc (v := x14) (lv' := [(1, .int x14), (3, .ref q8), (0, .ref h0), (2, .int y4_2)]) hx hb dX0_partedChains_29 hl (k := 2) rfl (by rw [e14]; rfl) (th_ltN rfl) rfl (fun ls hl => ?_)
            exact J32 _ _ _ x14 x2 hH hS (lv_sub hl [2, 0, 3] rfl) f5 e2 f4 (hF.trans (by simp only [↓reduceIte, f_X0_partedChains_4, ← e2, eq_false c3, hw7.2, Option.elim_some, hw10.2, eq_false c11, ← e14]))
  have hS : va_S (th_A τ s.heap.size) s.heap s.heap [] := va_S.rf
  have hl := lv_entry ([.ref h0]) (n := 4) (Nat.le_of_ble_eq_true rfl)
  rw [lg_entry_eq]
  generalize (lg_sl ([.ref h0]) ++ List.replicate (4 - (lg_sl ([.ref h0])).length) Slot.unset).toArray = ls at hl ⊢
  have hl : lv_has ls 4 [(0, .ref h0)] := hl
  have hF : F_X0_partedChains τ Z gi gr h0 = F_X0_partedChains τ Z gi gr h0 := rfl
  refine lv_iconst (v := 0) hx hb dX0_partedChains_0 ic_0 ?_
  refine lv_istore_n (i := 1) (lv' := [(1, .int 0), (0, .ref h0)]) hx hb dX0_partedChains_1 rfl hl (th_ltN rfl) rfl (fun ls hl => ?_)
  refine lv_iconst (v := 0) hx hb dX0_partedChains_2 ic_0 ?_
  refine lv_istore_n (i := 2) (lv' := [(2, .int 0), (1, .int 0), (0, .ref h0)]) hx hb dX0_partedChains_3 rfl hl (th_ltN rfl) rfl (fun ls hl => ?_)
  exact J4 _ _ _ _ 0 0 (Nat.lt_add_one _) hH hS (lv_sub hl [2, 1, 0] rfl) (rg_w rgc_0 (th_leI rfl) (th_leI rfl)) (hF.trans (by simp only [F_X0_partedChains]))

noncomputable def F_X0_isLessKnown (τ : th_t) (Z : th_Zt) (gi : th_i) (gr : th_r) (h0 : Nat) (h1 : Nat) : Int32 :=
  let x2 : Int32 := F_X3_doubt τ Z gi gr h0
  let x4 : Int32 := F_X3_doubt τ Z gi gr h1
  if x2 = x4 then (
    let x6 : Int32 := gi h0 7
    let x7 : Int32 := gi h1 7
    if x6 ≤ x7 then (
      0) else (
      1)) else (
    if x2 ≤ x4 then (
      0) else (
      1))
set_option maxHeartbeats 8000000 in
set_option maxRecDepth 100000 in
theorem k_X0_isLessKnown (l : Launch) (D : va_G) (cA : Nat → ClassId) (Z : th_Zt) (τ : th_t) (gi : th_i) (gr : th_r) (sz : Nat) (h0 : Nat) (t_h0 : τ h0 = 3) (h1 : Nat) (t_h1 : τ h1 = 3) : Met l yX0_isLessKnown wsX0_isLessKnown ({ frames := 1, cells := 0, slots := 0, locals := 20 }) (va_Pc [.ref h0, .ref h1] (th_Pre D cA Z τ gi gr sz)) (va_Qi (fun (r : Int32) (_ : Unit) => rg 0 1 r ∧ (F_X0_isLessKnown τ Z gi gr h0 h1 = r)) (fun (_ : Unit) t => th_H D cA τ gi gr t.heap) (th_A τ sz)) 0 0 (th_A τ sz) := by
  refine Met.ofW (cc := cX0_isLessKnown) (maxL := 2) (ret := (some .boolean)) (by decide) rfl ?_
  intro p e s m args below meth c s₁ B hml hv
  obtain ⟨rfl, hsz, hH, hK, hN, hZ⟩ := hv
  have hx := B.exec
  have hb := B.bytes
  have hr := B.returns
  have hts := atoms_spec (ws := wsX0_isLessKnown) B.pre
  have hown : s.vm.findClass RX0 = some m.cls := findClass_of_methodNamed B.named
  have hlocks := B.notSynchronized
  subst hsz
  have hS : va_S (th_A τ s.heap.size) s.heap s.heap [] := va_S.rf
  have hl := lv_entry ([.ref h0, .ref h1]) (n := 2) (Nat.le_of_ble_eq_true rfl)
  rw [lg_entry_eq]
  generalize (lg_sl ([.ref h0, .ref h1]) ++ List.replicate (2 - (lg_sl ([.ref h0, .ref h1])).length) Slot.unset).toArray = ls at hl ⊢
  have hl : lv_has ls 2 [(0, .ref h0), (1, .ref h1)] := hl
  have hF : F_X0_isLessKnown τ Z gi gr h0 h1 = F_X0_isLessKnown τ Z gi gr h0 h1 := rfl
  refine lv_aload_n hx hb dX0_isLessKnown_0 rfl (lv_at hl 0 rfl) ?_
  have hA1 := th_Asub (τ := τ) hS
  refine va_calli (va_runV (As := []) (rest := []) ⟨hx, hb, hml, hown, hts⟩ (k_X3_doubt l D cA Z τ gi gr _ h0 t_h0) (cwV 0 hts gX0_isLessKnown_X3_doubt rfl rfl rfl hd_X3_doubt__0 ⟨Nat.le_of_ble_eq_true rfl, Nat.le_of_ble_eq_true rfl⟩) ⟨th_blind, tr_3 hK hH t_h0, (th_pre hH hK hN hZ hS hA1)⟩ rfl rfl hl.1 rfl (lv_room (Nat.le_of_ble_eq_true rfl)) dX0_isLessKnown_1 ⟨Nat.le_of_ble_eq_true rfl, Nat.le_of_ble_eq_true rfl⟩) hS (fun q _ h => hA1 q h) hA1 (fun x2 u t H locs ht hvm hw2 hB hz1 hk1 hS => ?_)
  try dsimp only at hw2 hB
  rw [ht] at hB
  have hH := hB
  refine lv_aload_n hx hb dX0_isLessKnown_4 rfl (lv_at hl 1 rfl) ?_
  have hA3 := th_Asub (τ := τ) hS
  refine va_calli (va_runV (As := []) (rest := [.int x2]) ⟨hx, hb, hml, hown, hts⟩ (k_X3_doubt l D cA Z τ gi gr _ h1 t_h1) (cwV 0 hts gX0_isLessKnown_X3_doubt rfl rfl rfl hd_X3_doubt__0 ⟨Nat.le_of_ble_eq_true rfl, Nat.le_of_ble_eq_true rfl⟩) ⟨th_blind, tr_3 hK hH t_h1, (th_pre hH hK hN hZ hS hA3)⟩ rfl rfl hl.1 rfl (lv_room (Nat.le_of_ble_eq_true rfl)) dX0_isLessKnown_5 ⟨Nat.le_of_ble_eq_true rfl, Nat.le_of_ble_eq_true rfl⟩) hS (fun q _ h => hA3 q h) hA3 (fun x4 u t H locs ht hvm hw4 hB hz1 hk1 hS => ?_)
  try dsimp only at hw4 hB
  rw [ht] at hB
  have hH := hB
  refine lv_icmp_eq (tgt := 28) hx hb dX0_isLessKnown_8 (th_eqI rfl) (fun c5 => ?_) (fun c5 => ?_)
  · skip
    refine lv_aload_n hx hb dX0_isLessKnown_28 rfl (lv_at hl 0 rfl) ?_
    obtain ⟨x6, e6⟩ : ∃ y : Int32, y = gi h0 7 := ⟨_, rfl⟩
    refine th_get (ci := 2) (v := .int x6) (T := TX3) (C := RX3) (N := 8) hx hb hts (fun w h => List.mem_cons_of_mem _ (List.mem_append_right _ h)) hown hK hH t_h0 (th_nz rfl) (thE_3 _ _ _) rfl 7 (th_ltN rfl) (hts (.fieldLink RX0 183 "BayMoorings$Buoy" "high" "I") (List.mem_cons_of_mem _ (List.mem_append_left _ (List.mem_of_getElem? (i := 0) rfl)))) (fun _ h9 => h9) (th_fI e6 rfl) dX0_isLessKnown_29 ?_
    refine lv_aload_n hx hb dX0_isLessKnown_32 rfl (lv_at hl 1 rfl) ?_
    obtain ⟨x7, e7⟩ : ∃ y : Int32, y = gi h1 7 := ⟨_, rfl⟩
    refine th_get (ci := 2) (v := .int x7) (T := TX3) (C := RX3) (N := 8) hx hb hts (fun w h => List.mem_cons_of_mem _ (List.mem_append_right _ h)) hown hK hH t_h1 (th_nz rfl) (thE_3 _ _ _) rfl 7 (th_ltN rfl) (hts (.fieldLink RX0 183 "BayMoorings$Buoy" "high" "I") (List.mem_cons_of_mem _ (List.mem_append_left _ (List.mem_of_getElem? (i := 0) rfl)))) (fun _ h9 => h9) (th_fI e7 rfl) dX0_isLessKnown_33 ?_
    refine lv_icmp_le (tgt := 43) hx hb dX0_isLessKnown_36 (th_eqI rfl) (fun c8 => ?_) (fun c8 => ?_)
    · skip
      refine lv_iconst (v := 0) hx hb dX0_isLessKnown_43 ic_0 ?_
      exact W.zret (v := 0) hx hb hr (rg_nb (rg_w rgc_0 (th_leI rfl) (th_leI rfl))) (fun t ht hW => ⟨⟨0, (), rfl, ⟨(rg_w rgc_0 (th_leI rfl) (th_leI rfl)), (hF.trans (by simp only [↓reduceIte, F_X0_isLessKnown, hw2, hw4, eq_true c5, ← e6, ← e7, eq_true c8]))⟩, th_Ht ht hH⟩, hS.F ht⟩) hS.2.2 dX0_isLessKnown_44
    · skip
      refine lv_iconst (v := 1) hx hb dX0_isLessKnown_39 ic_1 ?_
      refine lv_goto (tgt := 44) hx hb dX0_isLessKnown_40 (th_eqI rfl) ?_
      exact W.zret (v := 1) hx hb hr (rg_nb (rg_w rgc_1 (th_leI rfl) (th_leI rfl))) (fun t ht hW => ⟨⟨1, (), rfl, ⟨(rg_w rgc_1 (th_leI rfl) (th_leI rfl)), (hF.trans (by simp only [↓reduceIte, F_X0_isLessKnown, hw2, hw4, eq_true c5, ← e6, ← e7, eq_false c8]))⟩, th_Ht ht hH⟩, hS.F ht⟩) hS.2.2 dX0_isLessKnown_44
  · skip
    refine lv_aload_n hx hb dX0_isLessKnown_11 rfl (lv_at hl 0 rfl) ?_
    have hA9 := th_Asub (τ := τ) hS
    refine va_calli (va_runV (As := []) (rest := []) ⟨hx, hb, hml, hown, hts⟩ (k_X3_doubt l D cA Z τ gi gr _ h0 t_h0) (cwV 0 hts gX0_isLessKnown_X3_doubt rfl rfl rfl hd_X3_doubt__0 ⟨Nat.le_of_ble_eq_true rfl, Nat.le_of_ble_eq_true rfl⟩) ⟨th_blind, tr_3 hK hH t_h0, (th_pre hH hK hN hZ hS hA9)⟩ rfl rfl hl.1 rfl (lv_room (Nat.le_of_ble_eq_true rfl)) dX0_isLessKnown_12 ⟨Nat.le_of_ble_eq_true rfl, Nat.le_of_ble_eq_true rfl⟩) hS (fun q _ h => hA9 q h) hA9 (fun x10 u t H locs ht hvm hw10 hB hz1 hk1 hS => ?_)
    try dsimp only at hw10 hB
    rw [ht] at hB
    have hH := hB
    obtain rfl : x2 = x10 := hw2.symm.trans hw10
    refine lv_aload_n hx hb dX0_isLessKnown_15 rfl (lv_at hl 1 rfl) ?_
    have hA11 := th_Asub (τ := τ) hS
    refine va_calli (va_runV (As := []) (rest := [.int x2]) ⟨hx, hb, hml, hown, hts⟩ (k_X3_doubt l D cA Z τ gi gr _ h1 t_h1) (cwV 0 hts gX0_isLessKnown_X3_doubt rfl rfl rfl hd_X3_doubt__0 ⟨Nat.le_of_ble_eq_true rfl, Nat.le_of_ble_eq_true rfl⟩) ⟨th_blind, tr_3 hK hH t_h1, (th_pre hH hK hN hZ hS hA11)⟩ rfl rfl hl.1 rfl (lv_room (Nat.le_of_ble_eq_true rfl)) dX0_isLessKnown_16 ⟨Nat.le_of_ble_eq_true rfl, Nat.le_of_ble_eq_true rfl⟩) hS (fun q _ h => hA11 q h) hA11 (fun x12 u t H locs ht hvm hw12 hB hz1 hk1 hS => ?_)
    try dsimp only at hw12 hB
    rw [ht] at hB
    have hH := hB
    obtain rfl : x4 = x12 := hw4.symm.trans hw12
    refine lv_icmp_le (tgt := 26) hx hb dX0_isLessKnown_19 (th_eqI rfl) (fun c13 => ?_) (fun c13 => ?_)
    · skip
      refine lv_iconst (v := 0) hx hb dX0_isLessKnown_26 ic_0 ?_
      exact W.zret (v := 0) hx hb hr (rg_nb (rg_w rgc_0 (th_leI rfl) (th_leI rfl))) (fun t ht hW => ⟨⟨0, (), rfl, ⟨(rg_w rgc_0 (th_leI rfl) (th_leI rfl)), (hF.trans (by simp only [↓reduceIte, F_X0_isLessKnown, hw2, hw4, eq_false c5, eq_true c13]))⟩, th_Ht ht hH⟩, hS.F ht⟩) hS.2.2 dX0_isLessKnown_27
    · skip
      refine lv_iconst (v := 1) hx hb dX0_isLessKnown_22 ic_1 ?_
      refine lv_goto (tgt := 27) hx hb dX0_isLessKnown_23 (th_eqI rfl) ?_
      exact W.zret (v := 1) hx hb hr (rg_nb (rg_w rgc_1 (th_leI rfl) (th_leI rfl))) (fun t ht hW => ⟨⟨1, (), rfl, ⟨(rg_w rgc_1 (th_leI rfl) (th_leI rfl)), (hF.trans (by simp only [↓reduceIte, F_X0_isLessKnown, hw2, hw4, eq_false c5, eq_false c13]))⟩, th_Ht ht hH⟩, hS.F ht⟩) hS.2.2 dX0_isLessKnown_27

noncomputable def f_X0_leastKnown_36 (τ : th_t) (Z : th_Zt) (gi : th_i) (gr : th_r) (h0 : Nat) (y4_1 : Option Nat) (y4_2 : Int32) (k_4 : Option Nat → Int32 → Int32) (y36_1 : Option Nat) : Int32 :=
  let w36_0 : Int32 := gi h0 5
  let x1 : Int32 := y4_2 + 1
  k_4 y36_1 x1
noncomputable def f_X0_leastKnown_34 (τ : th_t) (Z : th_Zt) (gi : th_i) (gr : th_r) (h0 : Nat) (y4_1 : Option Nat) (y4_2 : Int32) (k_4 : Option Nat → Int32 → Int32) (y34_3 : Nat) : Int32 :=
  let w34_0 : Int32 := gi h0 5
  f_X0_leastKnown_36 τ Z gi gr h0 y4_1 y4_2 k_4 (some y34_3)
noncomputable def f_X0_leastKnown_4 (τ : th_t) (Z : th_Zt) (gi : th_i) (gr : th_r) (h0 : Nat) : Nat → Option Nat → Int32 → Int32
  | 0, y4_1, y4_2 => 0
  | n4 + 1, y4_1, y4_2 =>
    let x2 : Int32 := gi h0 5
    if x2 ≤ y4_2 then (
      Option.elim y4_1 (
        (-1)) (fun q4 =>
        let x5 : Int32 := gi q4 0
        x5)) else (
      let r9 : Option Nat := F_X0_buoyAt τ Z gi gr h0 y4_2
      Option.elim r9 (
        f_X0_leastKnown_36 τ Z gi gr h0 y4_1 y4_2 (f_X0_leastKnown_4 τ Z gi gr h0 n4) y4_1) (fun q10 =>
        Option.elim y4_1 (
          f_X0_leastKnown_34 τ Z gi gr h0 y4_1 y4_2 (f_X0_leastKnown_4 τ Z gi gr h0 n4) q10) (fun q11 =>
          let x13 : Int32 := F_X0_isLessKnown τ Z gi gr q10 q11
          if x13 = (0 : Int32) then (
            f_X0_leastKnown_36 τ Z gi gr h0 y4_1 y4_2 (f_X0_leastKnown_4 τ Z gi gr h0 n4) (some q11)) else (
            f_X0_leastKnown_34 τ Z gi gr h0 y4_1 y4_2 (f_X0_leastKnown_4 τ Z gi gr h0 n4) q10))))
noncomputable def F_X0_leastKnown (τ : th_t) (Z : th_Zt) (gi : th_i) (gr : th_r) (h0 : Nat) : Int32 :=
  f_X0_leastKnown_4 τ Z gi gr h0 ((12 - (0 : Int32).toInt).toNat + 1) none 0
set_option maxHeartbeats 8000000 in
set_option maxRecDepth 100000 in
theorem k_X0_leastKnown (l : Launch) (D : va_G) (cA : Nat → ClassId) (Z : th_Zt) (τ : th_t) (gi : th_i) (gr : th_r) (sz : Nat) (h0 : Nat) (t_h0 : τ h0 = 1) : Met l yX0_leastKnown wsX0_leastKnown ({ frames := 2, cells := 0, slots := 0, locals := 43 }) (va_Pc [.ref h0] (th_Pre D cA Z τ gi gr sz)) (va_Qi (fun (r : Int32) (_ : Unit) => (F_X0_leastKnown τ Z gi gr h0 = r)) (fun (_ : Unit) t => th_H D cA τ gi gr t.heap) (th_A τ sz)) 0 0 (th_A τ sz) := by
  refine Met.ofW (cc := cX0_leastKnown) (maxL := 4) (ret := (some .int)) (by decide) rfl ?_
  intro p e s m args below meth c s₁ B hml hv
  obtain ⟨rfl, hsz, hH, hK, hN, hZ⟩ := hv
  have hx := B.exec
  have hb := B.bytes
  have hr := B.returns
  have hts := atoms_spec (ws := wsX0_leastKnown) B.pre
  have hown : s.vm.findClass RX0 = some m.cls := findClass_of_methodNamed B.named
  have hlocks := B.notSynchronized
  subst hsz
  have J4 : ∀ (n4 : Nat) (H : Heap) (locs : List Loc) (ls : Array Slot) (y4_1 : Option Nat) (y4_2 : Int32), (12 - y4_2.toInt).toNat < n4 → th_H D cA τ gi gr H → va_S (th_A τ s.heap.size) s.heap H locs → lv_has ls 4 [(0, .ref h0), (1, va_rf y4_1), (2, .int y4_2)] → (∀ q, y4_1 = some q → τ q = 3) → rg 0 12 y4_2 → F_X0_leastKnown τ Z gi gr h0 = f_X0_leastKnown_4 τ Z gi gr h0 n4 y4_1 y4_2 → W p l e (headSpec wsX0_leastKnown ({ frames := 2, cells := 0, slots := 0, locals := 43 })).room s m [.ref h0].toArray below meth c H locs 0 0 (MQ below (va_Qi (fun (r : Int32) (_ : Unit) => (F_X0_leastKnown τ Z gi gr h0 = r)) (fun (_ : Unit) t => th_H D cA τ gi gr t.heap) (th_A τ s.heap.size)) [.ref h0].toArray s 0 0 (th_A τ s.heap.size)) (F0 m 4 ls []) := by
    intro n4
    induction n4 with
    | zero =>
      intro H locs ls y4_1 y4_2 hn
      exact absurd hn (Nat.not_lt_zero _)
    | succ n4 ih4 =>
      intro H locs ls y4_1 y4_2 hn4 hH hS hl ty4_1 fy4_2 hF
      have J36 : ∀ (H : Heap) (locs : List Loc) (ls : Array Slot) (y36_1 : Option Nat) (w36_0 : Int32), th_H D cA τ gi gr H → va_S (th_A τ s.heap.size) s.heap H locs → lv_has ls 4 [(0, .ref h0), (1, va_rf y36_1), (2, .int y4_2)] → (∀ q, y36_1 = some q → τ q = 3) → rg 0 11 y4_2 → w36_0 = gi h0 5 → rg 1 12 w36_0 → F_X0_leastKnown τ Z gi gr h0 = f_X0_leastKnown_36 τ Z gi gr h0 y4_1 y4_2 (f_X0_leastKnown_4 τ Z gi gr h0 n4) y36_1 → W p l e (headSpec wsX0_leastKnown ({ frames := 2, cells := 0, slots := 0, locals := 43 })).room s m [.ref h0].toArray below meth c H locs 0 0 (MQ below (va_Qi (fun (r : Int32) (_ : Unit) => (F_X0_leastKnown τ Z gi gr h0 = r)) (fun (_ : Unit) t => th_H D cA τ gi gr t.heap) (th_A τ s.heap.size)) [.ref h0].toArray s 0 0 (th_A τ s.heap.size)) (F0 m 36 ls []) := by
        intro H locs ls y36_1 w36_0 hH hS hl ty36_1 fy36_2 ew36_0 fw36_0 hF
        obtain ⟨x1, e1⟩ : ∃ y : Int32, y = y4_2 + 1 := ⟨_, rfl⟩
        have f1 : rg 1 12 x1 := rg_e e1 (rg_w (rg_add fy36_2 rgc_1 (th_leI rfl) (th_leI rfl)) (th_leI rfl) (th_leI rfl))
        refine lv_iinc (v := x1) (lv' := [(2, .int x1), (0, .ref h0), (1, va_rf y36_1)]) hx hb dX0_leastKnown_36 hl (k := 2) rfl (by rw [e1]; rfl) (th_ltN rfl) (by simp [th_cat]) (fun ls hl => ?_)
        refine lv_goto (tgt := 4) hx hb dX0_leastKnown_39 (th_eqI rfl) ?_
        exact ih4 _ _ _ y36_1 x1 (th_up (rg_dA e1 fy36_2 rgc_1 (th_leI rfl) (th_leI rfl)) fy36_2 hn4 (th_ltI rfl)) hH hS (lv_sub hl [1, 2, 0] rfl) ty36_1 (rg_w f1 (th_leI rfl) (th_leI rfl)) (hF.trans (by simp only [f_X0_leastKnown_36, ← ew36_0, ← e1]))
      have J34 : ∀ (H : Heap) (locs : List Loc) (ls : Array Slot) (y34_3 : Nat) (w34_0 : Int32), th_H D cA τ gi gr H → va_S (th_A τ s.heap.size) s.heap H locs → lv_has ls 4 [(0, .ref h0), (2, .int y4_2), (3, .ref y34_3)] → rg 0 11 y4_2 → (τ y34_3 = 3) → w34_0 = gi h0 5 → rg 1 12 w34_0 → F_X0_leastKnown τ Z gi gr h0 = f_X0_leastKnown_34 τ Z gi gr h0 y4_1 y4_2 (f_X0_leastKnown_4 τ Z gi gr h0 n4) y34_3 → W p l e (headSpec wsX0_leastKnown ({ frames := 2, cells := 0, slots := 0, locals := 43 })).room s m [.ref h0].toArray below meth c H locs 0 0 (MQ below (va_Qi (fun (r : Int32) (_ : Unit) => (F_X0_leastKnown τ Z gi gr h0 = r)) (fun (_ : Unit) t => th_H D cA τ gi gr t.heap) (th_A τ s.heap.size)) [.ref h0].toArray s 0 0 (th_A τ s.heap.size)) (F0 m 34 ls []) := by
        intro H locs ls y34_3 w34_0 hH hS hl fy34_2 ty34_3 ew34_0 fw34_0 hF
        refine lv_aload_n hx hb dX0_leastKnown_34 rfl (lv_at hl 2 rfl) ?_
        refine lv_astore_n (i := 1) (lv' := [(1, .ref y34_3), (0, .ref h0), (2, .int y4_2), (3, .ref y34_3)]) hx hb dX0_leastKnown_35 rfl hl (th_ltN rfl) rfl (fun ls hl => ?_)
        exact J36 _ _ _ (some y34_3) w34_0 hH hS (lv_sub hl [1, 0, 2] rfl) (fun _ h9 => by cases h9; exact ty34_3) fy34_2 ew34_0 fw34_0 (hF.trans (by simp only [f_X0_leastKnown_34, ← ew34_0]))
      refine lv_iload_n hx hb dX0_leastKnown_4 rfl (lv_at hl 2 rfl) ?_
      refine lv_aload_n hx hb dX0_leastKnown_5 rfl (lv_at hl 0 rfl) ?_
      obtain ⟨x2, e2⟩ : ∃ y : Int32, y = gi h0 5 := ⟨_, rfl⟩
      refine th_get (ci := 0) (v := .int x2) (T := TX0) (C := RX0) (N := 9) hx hb hts (fun w h => List.mem_cons_of_mem _ (List.mem_append_left _ (List.mem_append_right _ h))) hown hK hH t_h0 (th_nz rfl) (thE_1 _ _ _) rfl 5 (th_ltN rfl) (hts (.fieldLink RX0 38 "BayMoorings$Bay" "buoyCount" "I") (List.mem_cons_of_mem _ (List.mem_append_left _ (List.mem_append_left _ (List.mem_of_getElem? (i := 0) rfl))))) (fun _ h9 => h9) (th_fI e2 rfl) dX0_leastKnown_6 ?_
      have f2 : rg 0 12 x2 := rg_e e2 ((thI_1 hH t_h0).2.2.2.2.2.1)
      refine lv_icmp_ge (tgt := 42) hx hb dX0_leastKnown_9 (th_eqI rfl) (fun c3 => ?_) (fun c3 => ?_)
      · skip
        refine th_aloadq_n hx hb dX0_leastKnown_42 rfl (lv_at hl 1 rfl) ?_
        refine th_ifnonnull (tgt := 50) hx hb dX0_leastKnown_43 (th_eqI rfl) (fun q4 z4 => ?_) (fun z4 => ?_)
        · skip
          subst z4
          have t4 := ty4_1 q4 rfl
          have hl : lv_has ls 4 [(0, .ref h0), (1, .ref q4), (2, .int y4_2)] := hl
          refine lv_aload_n hx hb dX0_leastKnown_50 rfl (lv_at hl 1 rfl) ?_
          obtain ⟨x5, e5⟩ : ∃ y : Int32, y = gi q4 0 := ⟨_, rfl⟩
          refine th_get (ci := 2) (v := .int x5) (T := TX3) (C := RX3) (N := 8) hx hb hts (fun w h => List.mem_cons_of_mem _ (List.mem_append_right _ h)) hown hK hH t4 (th_nz rfl) (thE_3 _ _ _) rfl 0 (th_ltN rfl) (hts (.fieldLink RX0 107 "BayMoorings$Buoy" "number" "I") (List.mem_cons_of_mem _ (List.mem_append_left _ (List.mem_append_left _ (List.mem_of_getElem? (i := 1) rfl))))) (fun _ h9 => h9) (th_fI e5 rfl) dX0_leastKnown_51 ?_
          exact W.iret (v := x5) hx hb hr (fun t ht hW => ⟨⟨x5, (), rfl, (hF.trans (by simp only [↓reduceIte, f_X0_leastKnown_4, ← e2, eq_true c3, Option.elim_some, ← e5])), th_Ht ht hH⟩, hS.F ht⟩) hS.2.2 dX0_leastKnown_54
        · skip
          subst z4
          have hl : lv_has ls 4 [(0, .ref h0), (1, .null), (2, .int y4_2)] := hl
          refine lv_iconst (v := (-1)) hx hb dX0_leastKnown_46 ic_m1 ?_
          refine lv_goto (tgt := 54) hx hb dX0_leastKnown_47 (th_eqI rfl) ?_
          exact W.iret (v := (-1)) hx hb hr (fun t ht hW => ⟨⟨(-1), (), rfl, (hF.trans (by simp only [↓reduceIte, f_X0_leastKnown_4, ← e2, eq_true c3, Option.elim_none])), th_Ht ht hH⟩, hS.F ht⟩) hS.2.2 dX0_leastKnown_54
      · skip
        have f6 : rg 1 12 x2 := rg_w (rg_nle f2 fy4_2 c3).1 (th_leI rfl) (th_leI rfl)
        have f7 : rg 0 11 y4_2 := rg_w (rg_nle f2 fy4_2 c3).2 (th_leI rfl) (th_leI rfl)
        refine lv_aload_n hx hb dX0_leastKnown_12 rfl (lv_at hl 0 rfl) ?_
        refine lv_iload_n hx hb dX0_leastKnown_13 rfl (lv_at hl 2 rfl) ?_
        have hA8 := th_Asub (τ := τ) hS
        refine va_callq (va_runV (As := [.int y4_2]) (rest := []) ⟨hx, hb, hml, hown, hts⟩ (k_X0_buoyAt l D cA Z τ gi gr _ h0 t_h0 y4_2) (cwV 1 hts gX0_leastKnown_X0_buoyAt rfl rfl rfl hd_X0_buoyAt__1 ⟨Nat.le_of_ble_eq_true rfl, Nat.le_of_ble_eq_true rfl⟩) ⟨th_blind, tr_1 hK hH t_h0, (th_pre hH hK hN hZ hS hA8)⟩ rfl rfl hl.1 rfl (lv_room (Nat.le_of_ble_eq_true rfl)) dX0_leastKnown_14 ⟨Nat.le_of_ble_eq_true rfl, Nat.le_of_ble_eq_true rfl⟩) hS (fun q _ h => hA8 q h) hA8 (fun r9 u t H locs ht hvm hw9 hB hz1 hk1 hS => ?_)
        try dsimp only at hw9 hB
        rw [ht] at hB
        have hH := hB
        refine th_astoreq_n (i := 3) (lv' := [(3, va_rf r9), (0, .ref h0), (1, va_rf y4_1), (2, .int y4_2)]) hx hb dX0_leastKnown_17 rfl hl (th_ltN rfl) rfl (fun ls hl => ?_)
        refine th_aloadq_n hx hb dX0_leastKnown_18 rfl (lv_at hl 0 rfl) ?_
        refine th_ifnull (tgt := 36) hx hb dX0_leastKnown_19 (th_eqI rfl) (fun z10 => ?_) (fun q10 z10 => ?_)
        · skip
          subst z10
          have hl : lv_has ls 4 [(3, .null), (0, .ref h0), (1, va_rf y4_1), (2, .int y4_2)] := hl
          exact J36 _ _ _ y4_1 x2 hH hS (lv_sub hl [1, 2, 3] rfl) ty4_1 f7 e2 f6 (hF.trans (by simp only [↓reduceIte, f_X0_leastKnown_4, ← e2, eq_false c3, hw9.2, Option.elim_none]))
        · skip
          subst z10
          have t10 := hw9.1 q10 rfl
          have hl : lv_has ls 4 [(3, .ref q10), (0, .ref h0), (1, va_rf y4_1), (2, .int y4_2)] := hl
          refine th_aloadq_n hx hb dX0_leastKnown_22 rfl (lv_at hl 2 rfl) ?_
          refine th_ifnull (tgt := 34) hx hb dX0_leastKnown_23 (th_eqI rfl) (fun z11 => ?_) (fun q11 z11 => ?_)
          · skip
            subst z11
            have hl : lv_has ls 4 [(3, .ref q10), (0, .ref h0), (1, .null), (2, .int y4_2)] := hl
            exact J34 _ _ _ q10 x2 hH hS (lv_sub hl [1, 3, 0] rfl) f7 t10 e2 f6 (hF.trans (by simp only [↓reduceIte, f_X0_leastKnown_4, ← e2, eq_false c3, hw9.2, Option.elim_some, Option.elim_none]))
          · skip
            subst z11
            have t11 := ty4_1 q11 rfl
            have hl : lv_has ls 4 [(3, .ref q10), (0, .ref h0), (1, .ref q11), (2, .int y4_2)] := hl
            refine lv_aload_n hx hb dX0_leastKnown_26 rfl (lv_at hl 0 rfl) ?_
            refine lv_aload_n hx hb dX0_leastKnown_27 rfl (lv_at hl 2 rfl) ?_
            have hA12 := th_Asub (τ := τ) hS
            refine va_calli (va_runS (As := [.ref q10, .ref q11]) (rest := []) ⟨hx, hb, hml, hown, hts⟩ (k_X0_isLessKnown l D cA Z τ gi gr _ q10 t10 q11 t11) (va_cwS 2 hts gX0_leastKnown_X0_isLessKnown rfl rfl rfl (by decide +kernel) ⟨Nat.le_of_ble_eq_true rfl, Nat.le_of_ble_eq_true rfl⟩) ⟨th_blind, (th_pre hH hK hN hZ hS hA12)⟩ rfl rfl hl.1 rfl (lv_room (Nat.le_of_ble_eq_true rfl)) dX0_leastKnown_28 ⟨Nat.le_of_ble_eq_true rfl, Nat.le_of_ble_eq_true rfl⟩) hS (fun q _ h => hA12 q h) hA12 (fun x13 u t H locs ht hvm hw13 hB hz1 hk1 hS => ?_)
            try dsimp only at hw13 hB
            rw [ht] at hB
            have hH := hB
            refine lv_if_eq (tgt := 36) hx hb dX0_leastKnown_31 (th_eqI rfl) (fun c14 => ?_) (fun c14 => ?_)
            · skip
              have f15 : rg 0 0 x13 := rg_w (rg_eq hw13.1 rgc_0 c14).1 (th_leI rfl) (th_leI rfl)
              exact J36 _ _ _ (some q11) x2 hH hS (lv_sub hl [1, 2, 3] rfl) (fun _ h9 => by cases h9; exact t11) f7 e2 f6 (hF.trans (by simp only [↓reduceIte, f_X0_leastKnown_4, ← e2, eq_false c3, hw9.2, Option.elim_some, hw13.2, eq_true c14]))
            · skip
              have f16 : rg 1 1 x13 := rg_w (rg_neL hw13.1 rgc_0 c14) (th_leI rfl) (th_leI rfl)
              exact J34 _ _ _ q10 x2 hH hS (lv_sub hl [1, 3, 0] rfl) f7 t10 e2 f6 (hF.trans (by simp only [↓reduceIte, f_X0_leastKnown_4, ← e2, eq_false c3, hw9.2, Option.elim_some, hw13.2, eq_false c14]))
  have hS : va_S (th_A τ s.heap.size) s.heap s.heap [] := va_S.rf
  have hl := lv_entry ([.ref h0]) (n := 4) (Nat.le_of_ble_eq_true rfl)
  rw [lg_entry_eq]
  generalize (lg_sl ([.ref h0]) ++ List.replicate (4 - (lg_sl ([.ref h0])).length) Slot.unset).toArray = ls at hl ⊢
  have hl : lv_has ls 4 [(0, .ref h0)] := hl
  have hF : F_X0_leastKnown τ Z gi gr h0 = F_X0_leastKnown τ Z gi gr h0 := rfl
  refine lv_null hx hb dX0_leastKnown_0 ?_
  refine lv_astore_nN (i := 1) (lv' := [(1, .null), (0, .ref h0)]) hx hb dX0_leastKnown_1 rfl hl (th_ltN rfl) rfl (fun ls hl => ?_)
  refine lv_iconst (v := 0) hx hb dX0_leastKnown_2 ic_0 ?_
  refine lv_istore_n (i := 2) (lv' := [(2, .int 0), (1, .null), (0, .ref h0)]) hx hb dX0_leastKnown_3 rfl hl (th_ltN rfl) rfl (fun ls hl => ?_)
  exact J4 _ _ _ _ none 0 (Nat.lt_add_one _) hH hS (lv_sub hl [2, 1, 0] rfl) (fun _ h9 => by cases h9) (rg_w rgc_0 (th_leI rfl) (th_leI rfl)) (hF.trans (by simp only [F_X0_leastKnown]))
