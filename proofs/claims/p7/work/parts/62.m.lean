section
set_option maxHeartbeats 8000000 in
set_option maxRecDepth 100000 in
theorem law_c17 {p : Program} {l : Launch} {e : Env} {s : State} {m : MethodId} {below : List Frame} {meth : Method} {c : Code} {D : va_G} {cA : Nat → ClassId} {Z : th_Zt} {b L : Nat} {xs : Nat → Int32} {A : Nat → Nat} {cells slots : Nat} {y : Int32} {Q : State → Prop} (C0 : lw_At p s m meth c b L xs) (hK : va_K D vwCl (th_tys cA) s) (hN : th_N s) (hZ : th_Z Z (fun q : Nat => s.heap.size ≤ q) s s.heap) (hL : L ≤ 2560) (hy : 0 ≤ y.toInt ∧ y.toInt + 5 ≤ (L : Int)) (hc : cells + 2 ≤ 600000) (hs : slots + 32 ≤ 7302249) (kk : lc_K p l e s m below meth c D cA b (A 11) (A 12) y (fun (t : th_t) (g : th_i) (r : th_r) => Rel Z t g r g r A) (cells + 2) (slots + 32) Q 1146) : lc_K p l e s m below meth c D cA b (A 11) (A 12) y (fun (t : th_t) (g : th_i) (r : th_r) => Rel Z t g r g r A) cells slots Q 755 := by
  intro τ gi gr H locs ls hH hS hT t1 t2 hv hl
  obtain ⟨hx, hb, hr, hml, hown, hts, hX, hbl, hlocks, hgv⟩ := C0
  have hbA : ¬ (fun q : Nat => s.heap.size ≤ q) b := Nat.not_le.mpr hbl
  refine lv_aload_n hx hb dL_law_755 rfl (lv_at hl 1 rfl) ?_
  refine lv_aload_n hx hb dL_law_756 rfl (lv_at hl 0 rfl) ?_
  refine lv_iload_n hx hb dL_law_757 rfl (lv_at hl 3 rfl) ?_
  refine lv_iconst (v := 1) hx hb dL_law_758 ic_1 ?_
  refine lv_iadd hx hb dL_law_759 ?_
  refine lv_topi (fun x1 e1 => ?_)
  refine va_sld hx hb hX hbl hbA hS (sc_n1 e1 hy hL) dL_law_760 ?_
  refine lv_topi (fun v2 ev2 => ?_)
  have hJ := hH.J
  have hA3 := th_Al hT hS
  have hle3 := hS.1
  refine va_calli (va_runV (As := [.int v2]) (rest := []) ⟨hx, hb, hml, hown, hts⟩ (k_X11_stays l D cA Z τ gi gr _ (A 11) t1 v2) (cwV 1 hts gL_law_X11_stays rfl rfl rfl hd_X11_stays__1 ⟨Nat.le_of_ble_eq_true rfl, Nat.le_of_ble_eq_true rfl⟩) ⟨th_blind, tr_11 hK hH t1, th_pre hH hK hN hZ hS hA3⟩ rfl rfl hl.1 rfl (lv_room (Nat.le_of_ble_eq_true rfl)) dL_law_761 (by refine ⟨?_, ?_⟩ <;> simp only [room_1] <;> omega)) hS (fun q _ h => hA3 q h) hA3 (fun r3 u t H locs ht hvm hw3 hB hz3 hk3 hS => ?_)
  try dsimp only at hw3 hB
  rw [ht] at hB
  have hH := hB
  obtain ⟨gi3, gr3⟩ := u
  try dsimp only at hw3 hH
  have hJ1 := hH.J
  refine lv_pop hx hb dL_law_764 rfl ?_
  refine lv_aload_n hx hb dL_law_765 rfl (lv_at hl 2 rfl) ?_
  refine lv_aload_n hx hb dL_law_766 rfl (lv_at hl 0 rfl) ?_
  refine lv_iload_n hx hb dL_law_767 rfl (lv_at hl 3 rfl) ?_
  refine lv_iconst (v := 1) hx hb dL_law_768 ic_1 ?_
  refine lv_iadd hx hb dL_law_769 ?_
  refine lv_topi (fun x4 e4 => ?_)
  refine va_sld hx hb hX hbl hbA hS (sc_n1 e4 hy hL) dL_law_770 ?_
  refine lv_topi (fun v5 ev5 => ?_)
  have hA6 := th_Al hT hS
  have hle6 := hS.1
  refine va_calli (va_runV (As := [.int v5]) (rest := []) ⟨hx, hb, hml, hown, hts⟩ (k_X12_stays l D cA Z τ gi3 gr3 _ (A 12) t2 v5) (cwV 1 hts gL_law_X12_stays rfl rfl rfl hd_X12_stays__1 ⟨Nat.le_of_ble_eq_true rfl, Nat.le_of_ble_eq_true rfl⟩) ⟨th_blind, tr_12 hK hH t2, th_pre hH hK hN hZ hS hA6⟩ rfl rfl hl.1 rfl (lv_room (Nat.le_of_ble_eq_true rfl)) dL_law_771 (by refine ⟨?_, ?_⟩ <;> simp only [room_1] <;> omega)) hS (fun q _ h => hA6 q h) hA6 (fun r6 u t H locs ht hvm hw6 hB hz6 hk6 hS => ?_)
  try dsimp only at hw6 hB
  rw [ht] at hB
  have hH := hB
  obtain ⟨gi6, gr6⟩ := u
  try dsimp only at hw6 hH
  refine lv_pop hx hb dL_law_774 rfl ?_
  refine lv_goto (tgt := 1146) hx hb dL_law_775 (th_eqI rfl) ?_
  have ea_v5 : v5 = v2 := by rw [ev5, ev2, e4, e1]
  rw [ea_v5] at hw6
  have hsm := sim_stays hJ hJ1 hv hw3 hw6
  have hv := hsm
  refine W.widen (k := cells + 2) (n := slots + 32) (by omega) (by omega) ?_
  exact kk _ _ _ _ _ _ hH hS hT t1 t2 hv hl

set_option maxHeartbeats 8000000 in
set_option maxRecDepth 100000 in
theorem law_c18 {p : Program} {l : Launch} {e : Env} {s : State} {m : MethodId} {below : List Frame} {meth : Method} {c : Code} {D : va_G} {cA : Nat → ClassId} {Z : th_Zt} {b L : Nat} {xs : Nat → Int32} {A : Nat → Nat} {cells slots : Nat} {y : Int32} {Q : State → Prop} (C0 : lw_At p s m meth c b L xs) (hK : va_K D vwCl (th_tys cA) s) (hN : th_N s) (hZ : th_Z Z (fun q : Nat => s.heap.size ≤ q) s s.heap) (hL : L ≤ 2560) (hy : 0 ≤ y.toInt ∧ y.toInt + 5 ≤ (L : Int)) (hc : cells + 2 ≤ 600000) (hs : slots + 32 ≤ 7302249) (kk : lc_K p l e s m below meth c D cA b (A 11) (A 12) y (fun (t : th_t) (g : th_i) (r : th_r) => Rel Z t g r g r A) (cells + 2) (slots + 32) Q 1146) : lc_K p l e s m below meth c D cA b (A 11) (A 12) y (fun (t : th_t) (g : th_i) (r : th_r) => Rel Z t g r g r A) cells slots Q 778 := by
  intro τ gi gr H locs ls hH hS hT t1 t2 hv hl
  obtain ⟨hx, hb, hr, hml, hown, hts, hX, hbl, hlocks, hgv⟩ := C0
  have hbA : ¬ (fun q : Nat => s.heap.size ≤ q) b := Nat.not_le.mpr hbl
  refine lv_aload_n hx hb dL_law_778 rfl (lv_at hl 1 rfl) ?_
  refine lv_aload_n hx hb dL_law_779 rfl (lv_at hl 0 rfl) ?_
  refine lv_iload_n hx hb dL_law_780 rfl (lv_at hl 3 rfl) ?_
  refine lv_iconst (v := 1) hx hb dL_law_781 ic_1 ?_
  refine lv_iadd hx hb dL_law_782 ?_
  refine lv_topi (fun x1 e1 => ?_)
  refine va_sld hx hb hX hbl hbA hS (sc_n1 e1 hy hL) dL_law_783 ?_
  refine lv_topi (fun v2 ev2 => ?_)
  refine lv_aload_n hx hb dL_law_784 rfl (lv_at hl 0 rfl) ?_
  refine lv_iload_n hx hb dL_law_785 rfl (lv_at hl 3 rfl) ?_
  refine lv_iconst (v := 2) hx hb dL_law_786 ic_2 ?_
  refine lv_iadd hx hb dL_law_787 ?_
  refine lv_topi (fun x3 e3 => ?_)
  refine va_sld hx hb hX hbl hbA hS (sc_n2 e3 hy hL) dL_law_788 ?_
  refine lv_topi (fun v4 ev4 => ?_)
  have hJ := hH.J
  have hA5 := th_Al hT hS
  have hle5 := hS.1
  refine va_calli (va_runV (As := [.int v2, .int v4]) (rest := []) ⟨hx, hb, hml, hown, hts⟩ (k_X11_rather l D cA Z τ gi gr _ (A 11) t1 v2 v4) (cwV 2 hts gL_law_X11_rather rfl rfl rfl hd_X11_rather__2 ⟨Nat.le_of_ble_eq_true rfl, Nat.le_of_ble_eq_true rfl⟩) ⟨th_blind, tr_11 hK hH t1, th_pre hH hK hN hZ hS hA5⟩ rfl rfl hl.1 rfl (lv_room (Nat.le_of_ble_eq_true rfl)) dL_law_789 (by refine ⟨?_, ?_⟩ <;> simp only [room_1] <;> omega)) hS (fun q _ h => hA5 q h) hA5 (fun r5 u t H locs ht hvm hw5 hB hz5 hk5 hS => ?_)
  try dsimp only at hw5 hB
  rw [ht] at hB
  have hH := hB
  obtain ⟨gi5, gr5⟩ := u
  try dsimp only at hw5 hH
  have hJ1 := hH.J
  refine lv_pop hx hb dL_law_792 rfl ?_
  refine lv_aload_n hx hb dL_law_793 rfl (lv_at hl 2 rfl) ?_
  refine lv_aload_n hx hb dL_law_794 rfl (lv_at hl 0 rfl) ?_
  refine lv_iload_n hx hb dL_law_795 rfl (lv_at hl 3 rfl) ?_
  refine lv_iconst (v := 1) hx hb dL_law_796 ic_1 ?_
  refine lv_iadd hx hb dL_law_797 ?_
  refine lv_topi (fun x6 e6 => ?_)
  refine va_sld hx hb hX hbl hbA hS (sc_n1 e6 hy hL) dL_law_798 ?_
  refine lv_topi (fun v7 ev7 => ?_)
  refine lv_aload_n hx hb dL_law_799 rfl (lv_at hl 0 rfl) ?_
  refine lv_iload_n hx hb dL_law_800 rfl (lv_at hl 3 rfl) ?_
  refine lv_iconst (v := 2) hx hb dL_law_801 ic_2 ?_
  refine lv_iadd hx hb dL_law_802 ?_
  refine lv_topi (fun x8 e8 => ?_)
  refine va_sld hx hb hX hbl hbA hS (sc_n2 e8 hy hL) dL_law_803 ?_
  refine lv_topi (fun v9 ev9 => ?_)
  have hA10 := th_Al hT hS
  have hle10 := hS.1
  refine va_calli (va_runV (As := [.int v7, .int v9]) (rest := []) ⟨hx, hb, hml, hown, hts⟩ (k_X12_rather l D cA Z τ gi5 gr5 _ (A 12) t2 v7 v9) (cwV 2 hts gL_law_X12_rather rfl rfl rfl hd_X12_rather__2 ⟨Nat.le_of_ble_eq_true rfl, Nat.le_of_ble_eq_true rfl⟩) ⟨th_blind, tr_12 hK hH t2, th_pre hH hK hN hZ hS hA10⟩ rfl rfl hl.1 rfl (lv_room (Nat.le_of_ble_eq_true rfl)) dL_law_804 (by refine ⟨?_, ?_⟩ <;> simp only [room_1] <;> omega)) hS (fun q _ h => hA10 q h) hA10 (fun r10 u t H locs ht hvm hw10 hB hz10 hk10 hS => ?_)
  try dsimp only at hw10 hB
  rw [ht] at hB
  have hH := hB
  obtain ⟨gi10, gr10⟩ := u
  try dsimp only at hw10 hH
  refine lv_pop hx hb dL_law_807 rfl ?_
  refine lv_goto (tgt := 1146) hx hb dL_law_808 (th_eqI rfl) ?_
  have ea_v7 : v7 = v2 := by rw [ev7, ev2, e6, e1]
  rw [ea_v7] at hw10
  have ea_v9 : v9 = v4 := by rw [ev9, ev4, e8, e3]
  rw [ea_v9] at hw10
  have hsm := sim_rather hJ hJ1 hv hw5 hw10
  have hv := hsm
  refine W.widen (k := cells + 2) (n := slots + 32) (by omega) (by omega) ?_
  exact kk _ _ _ _ _ _ hH hS hT t1 t2 hv hl

set_option maxHeartbeats 8000000 in
set_option maxRecDepth 100000 in
theorem law_c19 {p : Program} {l : Launch} {e : Env} {s : State} {m : MethodId} {below : List Frame} {meth : Method} {c : Code} {D : va_G} {cA : Nat → ClassId} {Z : th_Zt} {b L : Nat} {xs : Nat → Int32} {A : Nat → Nat} {cells slots : Nat} {y : Int32} {Q : State → Prop} (C0 : lw_At p s m meth c b L xs) (hK : va_K D vwCl (th_tys cA) s) (hN : th_N s) (hZ : th_Z Z (fun q : Nat => s.heap.size ≤ q) s s.heap) (hL : L ≤ 2560) (hy : 0 ≤ y.toInt ∧ y.toInt + 5 ≤ (L : Int)) (hc : cells + 2 ≤ 600000) (hs : slots + 32 ≤ 7302249) (kk : lc_K p l e s m below meth c D cA b (A 11) (A 12) y (fun (t : th_t) (g : th_i) (r : th_r) => Rel Z t g r g r A) (cells + 2) (slots + 32) Q 1146) : lc_K p l e s m below meth c D cA b (A 11) (A 12) y (fun (t : th_t) (g : th_i) (r : th_r) => Rel Z t g r g r A) cells slots Q 811 := by
  intro τ gi gr H locs ls hH hS hT t1 t2 hv hl
  obtain ⟨hx, hb, hr, hml, hown, hts, hX, hbl, hlocks, hgv⟩ := C0
  have hbA : ¬ (fun q : Nat => s.heap.size ≤ q) b := Nat.not_le.mpr hbl
  refine lv_aload_n hx hb dL_law_811 rfl (lv_at hl 1 rfl) ?_
  refine lv_aload_n hx hb dL_law_812 rfl (lv_at hl 0 rfl) ?_
  refine lv_iload_n hx hb dL_law_813 rfl (lv_at hl 3 rfl) ?_
  refine lv_iconst (v := 1) hx hb dL_law_814 ic_1 ?_
  refine lv_iadd hx hb dL_law_815 ?_
  refine lv_topi (fun x1 e1 => ?_)
  refine va_sld hx hb hX hbl hbA hS (sc_n1 e1 hy hL) dL_law_816 ?_
  refine lv_topi (fun v2 ev2 => ?_)
  have hJ := hH.J
  have hA3 := th_Al hT hS
  have hle3 := hS.1
  refine va_calli (va_runV (As := [.int v2]) (rest := []) ⟨hx, hb, hml, hown, hts⟩ (k_X11_content l D cA Z τ gi gr _ (A 11) t1 v2) (cwV 1 hts gL_law_X11_content rfl rfl rfl hd_X11_content__1 ⟨Nat.le_of_ble_eq_true rfl, Nat.le_of_ble_eq_true rfl⟩) ⟨th_blind, tr_11 hK hH t1, th_pre hH hK hN hZ hS hA3⟩ rfl rfl hl.1 rfl (lv_room (Nat.le_of_ble_eq_true rfl)) dL_law_817 (by refine ⟨?_, ?_⟩ <;> simp only [room_1] <;> omega)) hS (fun q _ h => hA3 q h) hA3 (fun r3 u t H locs ht hvm hw3 hB hz3 hk3 hS => ?_)
  try dsimp only at hw3 hB
  rw [ht] at hB
  have hH := hB
  obtain ⟨gi3, gr3⟩ := u
  try dsimp only at hw3 hH
  have hJ1 := hH.J
  refine lv_pop hx hb dL_law_820 rfl ?_
  refine lv_aload_n hx hb dL_law_821 rfl (lv_at hl 2 rfl) ?_
  refine lv_aload_n hx hb dL_law_822 rfl (lv_at hl 0 rfl) ?_
  refine lv_iload_n hx hb dL_law_823 rfl (lv_at hl 3 rfl) ?_
  refine lv_iconst (v := 1) hx hb dL_law_824 ic_1 ?_
  refine lv_iadd hx hb dL_law_825 ?_
  refine lv_topi (fun x4 e4 => ?_)
  refine va_sld hx hb hX hbl hbA hS (sc_n1 e4 hy hL) dL_law_826 ?_
  refine lv_topi (fun v5 ev5 => ?_)
  have hA6 := th_Al hT hS
  have hle6 := hS.1
  refine va_calli (va_runV (As := [.int v5]) (rest := []) ⟨hx, hb, hml, hown, hts⟩ (k_X12_content l D cA Z τ gi3 gr3 _ (A 12) t2 v5) (cwV 1 hts gL_law_X12_content rfl rfl rfl hd_X12_content__1 ⟨Nat.le_of_ble_eq_true rfl, Nat.le_of_ble_eq_true rfl⟩) ⟨th_blind, tr_12 hK hH t2, th_pre hH hK hN hZ hS hA6⟩ rfl rfl hl.1 rfl (lv_room (Nat.le_of_ble_eq_true rfl)) dL_law_827 (by refine ⟨?_, ?_⟩ <;> simp only [room_1] <;> omega)) hS (fun q _ h => hA6 q h) hA6 (fun r6 u t H locs ht hvm hw6 hB hz6 hk6 hS => ?_)
  try dsimp only at hw6 hB
  rw [ht] at hB
  have hH := hB
  obtain ⟨gi6, gr6⟩ := u
  try dsimp only at hw6 hH
  refine lv_pop hx hb dL_law_830 rfl ?_
  refine lv_goto (tgt := 1146) hx hb dL_law_831 (th_eqI rfl) ?_
  have ea_v5 : v5 = v2 := by rw [ev5, ev2, e4, e1]
  rw [ea_v5] at hw6
  have hsm := sim_content hJ hJ1 hv hw3 hw6
  have hv := hsm
  refine W.widen (k := cells + 2) (n := slots + 32) (by omega) (by omega) ?_
  exact kk _ _ _ _ _ _ hH hS hT t1 t2 hv hl

set_option maxHeartbeats 8000000 in
set_option maxRecDepth 100000 in
theorem law_c20 {p : Program} {l : Launch} {e : Env} {s : State} {m : MethodId} {below : List Frame} {meth : Method} {c : Code} {D : va_G} {cA : Nat → ClassId} {Z : th_Zt} {b L : Nat} {xs : Nat → Int32} {A : Nat → Nat} {cells slots : Nat} {y : Int32} {Q : State → Prop} (C0 : lw_At p s m meth c b L xs) (hK : va_K D vwCl (th_tys cA) s) (hN : th_N s) (hZ : th_Z Z (fun q : Nat => s.heap.size ≤ q) s s.heap) (hL : L ≤ 2560) (hy : 0 ≤ y.toInt ∧ y.toInt + 5 ≤ (L : Int)) (hc : cells + 2 ≤ 600000) (hs : slots + 32 ≤ 7302249) (kk : lc_K p l e s m below meth c D cA b (A 11) (A 12) y (fun (t : th_t) (g : th_i) (r : th_r) => Rel Z t g r g r A) (cells + 2) (slots + 32) Q 1146) : lc_K p l e s m below meth c D cA b (A 11) (A 12) y (fun (t : th_t) (g : th_i) (r : th_r) => Rel Z t g r g r A) cells slots Q 834 := by
  intro τ gi gr H locs ls hH hS hT t1 t2 hv hl
  obtain ⟨hx, hb, hr, hml, hown, hts, hX, hbl, hlocks, hgv⟩ := C0
  have hbA : ¬ (fun q : Nat => s.heap.size ≤ q) b := Nat.not_le.mpr hbl
  refine lv_aload_n hx hb dL_law_834 rfl (lv_at hl 1 rfl) ?_
  refine lv_aload_n hx hb dL_law_835 rfl (lv_at hl 0 rfl) ?_
  refine lv_iload_n hx hb dL_law_836 rfl (lv_at hl 3 rfl) ?_
  refine lv_iconst (v := 1) hx hb dL_law_837 ic_1 ?_
  refine lv_iadd hx hb dL_law_838 ?_
  refine lv_topi (fun x1 e1 => ?_)
  refine va_sld hx hb hX hbl hbA hS (sc_n1 e1 hy hL) dL_law_839 ?_
  refine lv_topi (fun v2 ev2 => ?_)
  have hJ := hH.J
  have hA3 := th_Al hT hS
  have hle3 := hS.1
  refine va_calli (va_runV (As := [.int v2]) (rest := []) ⟨hx, hb, hml, hown, hts⟩ (k_X11_ring l D cA Z τ gi gr _ (A 11) t1 v2) (cwV 1 hts gL_law_X11_ring rfl rfl rfl hd_X11_ring__1 ⟨Nat.le_of_ble_eq_true rfl, Nat.le_of_ble_eq_true rfl⟩) ⟨th_blind, tr_11 hK hH t1, th_pre hH hK hN hZ hS hA3⟩ rfl rfl hl.1 rfl (lv_room (Nat.le_of_ble_eq_true rfl)) dL_law_840 (by refine ⟨?_, ?_⟩ <;> simp only [room_1] <;> omega)) hS (fun q _ h => hA3 q h) hA3 (fun r3 u t H locs ht hvm hw3 hB hz3 hk3 hS => ?_)
  try dsimp only at hw3 hB
  rw [ht] at hB
  have hH := hB
  obtain ⟨gi3, gr3⟩ := u
  try dsimp only at hw3 hH
  have hJ1 := hH.J
  refine lv_pop hx hb dL_law_843 rfl ?_
  refine lv_aload_n hx hb dL_law_844 rfl (lv_at hl 2 rfl) ?_
  refine lv_aload_n hx hb dL_law_845 rfl (lv_at hl 0 rfl) ?_
  refine lv_iload_n hx hb dL_law_846 rfl (lv_at hl 3 rfl) ?_
  refine lv_iconst (v := 1) hx hb dL_law_847 ic_1 ?_
  refine lv_iadd hx hb dL_law_848 ?_
  refine lv_topi (fun x4 e4 => ?_)
  refine va_sld hx hb hX hbl hbA hS (sc_n1 e4 hy hL) dL_law_849 ?_
  refine lv_topi (fun v5 ev5 => ?_)
  have hA6 := th_Al hT hS
  have hle6 := hS.1
  refine va_calli (va_runV (As := [.int v5]) (rest := []) ⟨hx, hb, hml, hown, hts⟩ (k_X12_ring l D cA Z τ gi3 gr3 _ (A 12) t2 v5) (cwV 1 hts gL_law_X12_ring rfl rfl rfl hd_X12_ring__1 ⟨Nat.le_of_ble_eq_true rfl, Nat.le_of_ble_eq_true rfl⟩) ⟨th_blind, tr_12 hK hH t2, th_pre hH hK hN hZ hS hA6⟩ rfl rfl hl.1 rfl (lv_room (Nat.le_of_ble_eq_true rfl)) dL_law_850 (by refine ⟨?_, ?_⟩ <;> simp only [room_1] <;> omega)) hS (fun q _ h => hA6 q h) hA6 (fun r6 u t H locs ht hvm hw6 hB hz6 hk6 hS => ?_)
  try dsimp only at hw6 hB
  rw [ht] at hB
  have hH := hB
  obtain ⟨gi6, gr6⟩ := u
  try dsimp only at hw6 hH
  refine lv_pop hx hb dL_law_853 rfl ?_
  refine lv_goto (tgt := 1146) hx hb dL_law_854 (th_eqI rfl) ?_
  have ea_v5 : v5 = v2 := by rw [ev5, ev2, e4, e1]
  rw [ea_v5] at hw6
  have hsm := sim_ring hJ hJ1 hv hw3 hw6
  have hv := hsm
  refine W.widen (k := cells + 2) (n := slots + 32) (by omega) (by omega) ?_
  exact kk _ _ _ _ _ _ hH hS hT t1 t2 hv hl

set_option maxHeartbeats 8000000 in
set_option maxRecDepth 100000 in
theorem law_c21 {p : Program} {l : Launch} {e : Env} {s : State} {m : MethodId} {below : List Frame} {meth : Method} {c : Code} {D : va_G} {cA : Nat → ClassId} {Z : th_Zt} {b L : Nat} {xs : Nat → Int32} {A : Nat → Nat} {cells slots : Nat} {y : Int32} {Q : State → Prop} (C0 : lw_At p s m meth c b L xs) (hK : va_K D vwCl (th_tys cA) s) (hN : th_N s) (hZ : th_Z Z (fun q : Nat => s.heap.size ≤ q) s s.heap) (hL : L ≤ 2560) (hy : 0 ≤ y.toInt ∧ y.toInt + 5 ≤ (L : Int)) (hc : cells + 2 ≤ 600000) (hs : slots + 32 ≤ 7302249) (kk : lc_K p l e s m below meth c D cA b (A 11) (A 12) y (fun (t : th_t) (g : th_i) (r : th_r) => Rel Z t g r g r A) (cells + 2) (slots + 32) Q 1146) : lc_K p l e s m below meth c D cA b (A 11) (A 12) y (fun (t : th_t) (g : th_i) (r : th_r) => Rel Z t g r g r A) cells slots Q 857 := by
  intro τ gi gr H locs ls hH hS hT t1 t2 hv hl
  obtain ⟨hx, hb, hr, hml, hown, hts, hX, hbl, hlocks, hgv⟩ := C0
  have hbA : ¬ (fun q : Nat => s.heap.size ≤ q) b := Nat.not_le.mpr hbl
  refine lv_aload_n hx hb dL_law_857 rfl (lv_at hl 1 rfl) ?_
  have hJ := hH.J
  have hA1 := th_Al hT hS
  have hle1 := hS.1
  refine va_calli (va_runV (As := []) (rest := []) ⟨hx, hb, hml, hown, hts⟩ (k_X11_swap l D cA Z τ gi gr _ (A 11) t1) (cwV 0 hts gL_law_X11_swap rfl rfl rfl hd_X11_swap__0 ⟨Nat.le_of_ble_eq_true rfl, Nat.le_of_ble_eq_true rfl⟩) ⟨th_blind, tr_11 hK hH t1, th_pre hH hK hN hZ hS hA1⟩ rfl rfl hl.1 rfl (lv_room (Nat.le_of_ble_eq_true rfl)) dL_law_858 (by refine ⟨?_, ?_⟩ <;> simp only [room_1] <;> omega)) hS (fun q _ h => hA1 q h) hA1 (fun r1 u t H locs ht hvm hw1 hB hz1 hk1 hS => ?_)
  try dsimp only at hw1 hB
  rw [ht] at hB
  have hH := hB
  obtain ⟨gi1, gr1⟩ := u
  try dsimp only at hw1 hH
  have hJ1 := hH.J
  refine lv_pop hx hb dL_law_861 rfl ?_
  refine lv_aload_n hx hb dL_law_862 rfl (lv_at hl 2 rfl) ?_
  have hA2 := th_Al hT hS
  have hle2 := hS.1
  refine va_calli (va_runV (As := []) (rest := []) ⟨hx, hb, hml, hown, hts⟩ (k_X12_swap l D cA Z τ gi1 gr1 _ (A 12) t2) (cwV 0 hts gL_law_X12_swap rfl rfl rfl hd_X12_swap__0 ⟨Nat.le_of_ble_eq_true rfl, Nat.le_of_ble_eq_true rfl⟩) ⟨th_blind, tr_12 hK hH t2, th_pre hH hK hN hZ hS hA2⟩ rfl rfl hl.1 rfl (lv_room (Nat.le_of_ble_eq_true rfl)) dL_law_863 (by refine ⟨?_, ?_⟩ <;> simp only [room_1] <;> omega)) hS (fun q _ h => hA2 q h) hA2 (fun r2 u t H locs ht hvm hw2 hB hz2 hk2 hS => ?_)
  try dsimp only at hw2 hB
  rw [ht] at hB
  have hH := hB
  obtain ⟨gi2, gr2⟩ := u
  try dsimp only at hw2 hH
  refine lv_pop hx hb dL_law_866 rfl ?_
  refine lv_goto (tgt := 1146) hx hb dL_law_867 (th_eqI rfl) ?_
  have hsm := sim_swap hJ hJ1 hv hw1 hw2
  have hv := hsm
  refine W.widen (k := cells + 2) (n := slots + 32) (by omega) (by omega) ?_
  exact kk _ _ _ _ _ _ hH hS hT t1 t2 hv hl

set_option maxHeartbeats 8000000 in
set_option maxRecDepth 100000 in
theorem law_c22 {p : Program} {l : Launch} {e : Env} {s : State} {m : MethodId} {below : List Frame} {meth : Method} {c : Code} {D : va_G} {cA : Nat → ClassId} {Z : th_Zt} {b L : Nat} {xs : Nat → Int32} {A : Nat → Nat} {cells slots : Nat} {y : Int32} {Q : State → Prop} (C0 : lw_At p s m meth c b L xs) (hK : va_K D vwCl (th_tys cA) s) (hN : th_N s) (hZ : th_Z Z (fun q : Nat => s.heap.size ≤ q) s s.heap) (hL : L ≤ 2560) (hy : 0 ≤ y.toInt ∧ y.toInt + 5 ≤ (L : Int)) (hc : cells + 2 ≤ 600000) (hs : slots + 32 ≤ 7302249) (kk : lc_K p l e s m below meth c D cA b (A 11) (A 12) y (fun (t : th_t) (g : th_i) (r : th_r) => Rel Z t g r g r A) (cells + 2) (slots + 32) Q 1146) : lc_K p l e s m below meth c D cA b (A 11) (A 12) y (fun (t : th_t) (g : th_i) (r : th_r) => Rel Z t g r g r A) cells slots Q 870 := by
  intro τ gi gr H locs ls hH hS hT t1 t2 hv hl
  obtain ⟨hx, hb, hr, hml, hown, hts, hX, hbl, hlocks, hgv⟩ := C0
  have hbA : ¬ (fun q : Nat => s.heap.size ≤ q) b := Nat.not_le.mpr hbl
  refine lv_aload_n hx hb dL_law_870 rfl (lv_at hl 1 rfl) ?_
  refine lv_aload_n hx hb dL_law_871 rfl (lv_at hl 0 rfl) ?_
  refine lv_iload_n hx hb dL_law_872 rfl (lv_at hl 3 rfl) ?_
  refine lv_iconst (v := 1) hx hb dL_law_873 ic_1 ?_
  refine lv_iadd hx hb dL_law_874 ?_
  refine lv_topi (fun x1 e1 => ?_)
  refine va_sld hx hb hX hbl hbA hS (sc_n1 e1 hy hL) dL_law_875 ?_
  refine lv_topi (fun v2 ev2 => ?_)
  have hJ := hH.J
  have hA3 := th_Al hT hS
  have hle3 := hS.1
  refine va_calli (va_runV (As := [.int v2]) (rest := []) ⟨hx, hb, hml, hown, hts⟩ (k_X11_years l D cA Z τ gi gr _ (A 11) t1 v2) (cwV 1 hts gL_law_X11_years rfl rfl rfl hd_X11_years__1 ⟨Nat.le_of_ble_eq_true rfl, Nat.le_of_ble_eq_true rfl⟩) ⟨th_blind, tr_11 hK hH t1, th_pre hH hK hN hZ hS hA3⟩ rfl rfl hl.1 rfl (lv_room (Nat.le_of_ble_eq_true rfl)) dL_law_876 (by refine ⟨?_, ?_⟩ <;> simp only [room_1] <;> omega)) hS (fun q _ h => hA3 q h) hA3 (fun r3 u t H locs ht hvm hw3 hB hz3 hk3 hS => ?_)
  try dsimp only at hw3 hB
  rw [ht] at hB
  have hH := hB
  obtain ⟨gi3, gr3⟩ := u
  try dsimp only at hw3 hH
  have hJ1 := hH.J
  refine lv_pop hx hb dL_law_879 rfl ?_
  refine lv_aload_n hx hb dL_law_880 rfl (lv_at hl 2 rfl) ?_
  refine lv_aload_n hx hb dL_law_881 rfl (lv_at hl 0 rfl) ?_
  refine lv_iload_n hx hb dL_law_882 rfl (lv_at hl 3 rfl) ?_
  refine lv_iconst (v := 1) hx hb dL_law_883 ic_1 ?_
  refine lv_iadd hx hb dL_law_884 ?_
  refine lv_topi (fun x4 e4 => ?_)
  refine va_sld hx hb hX hbl hbA hS (sc_n1 e4 hy hL) dL_law_885 ?_
  refine lv_topi (fun v5 ev5 => ?_)
  have hA6 := th_Al hT hS
  have hle6 := hS.1
  refine va_calli (va_runV (As := [.int v5]) (rest := []) ⟨hx, hb, hml, hown, hts⟩ (k_X12_years l D cA Z τ gi3 gr3 _ (A 12) t2 v5) (cwV 1 hts gL_law_X12_years rfl rfl rfl hd_X12_years__1 ⟨Nat.le_of_ble_eq_true rfl, Nat.le_of_ble_eq_true rfl⟩) ⟨th_blind, tr_12 hK hH t2, th_pre hH hK hN hZ hS hA6⟩ rfl rfl hl.1 rfl (lv_room (Nat.le_of_ble_eq_true rfl)) dL_law_886 (by refine ⟨?_, ?_⟩ <;> simp only [room_1] <;> omega)) hS (fun q _ h => hA6 q h) hA6 (fun r6 u t H locs ht hvm hw6 hB hz6 hk6 hS => ?_)
  try dsimp only at hw6 hB
  rw [ht] at hB
  have hH := hB
  obtain ⟨gi6, gr6⟩ := u
  try dsimp only at hw6 hH
  refine lv_pop hx hb dL_law_889 rfl ?_
  refine lv_goto (tgt := 1146) hx hb dL_law_890 (th_eqI rfl) ?_
  have ea_v5 : v5 = v2 := by rw [ev5, ev2, e4, e1]
  rw [ea_v5] at hw6
  have hsm := sim_years hJ hJ1 hv hw3 hw6
  have hv := hsm
  refine W.widen (k := cells + 2) (n := slots + 32) (by omega) (by omega) ?_
  exact kk _ _ _ _ _ _ hH hS hT t1 t2 hv hl

set_option maxHeartbeats 8000000 in
set_option maxRecDepth 100000 in
theorem law_c23 {p : Program} {l : Launch} {e : Env} {s : State} {m : MethodId} {below : List Frame} {meth : Method} {c : Code} {D : va_G} {cA : Nat → ClassId} {Z : th_Zt} {b L : Nat} {xs : Nat → Int32} {A : Nat → Nat} {cells slots : Nat} {y : Int32} {Q : State → Prop} (C0 : lw_At p s m meth c b L xs) (hK : va_K D vwCl (th_tys cA) s) (hN : th_N s) (hZ : th_Z Z (fun q : Nat => s.heap.size ≤ q) s s.heap) (hL : L ≤ 2560) (hy : 0 ≤ y.toInt ∧ y.toInt + 5 ≤ (L : Int)) (hc : cells + 2 ≤ 600000) (hs : slots + 32 ≤ 7302249) (kk : lc_K p l e s m below meth c D cA b (A 11) (A 12) y (fun (t : th_t) (g : th_i) (r : th_r) => Rel Z t g r g r A) (cells + 2) (slots + 32) Q 1146) : lc_K p l e s m below meth c D cA b (A 11) (A 12) y (fun (t : th_t) (g : th_i) (r : th_r) => Rel Z t g r g r A) cells slots Q 893 := by
  intro τ gi gr H locs ls hH hS hT t1 t2 hv hl
  obtain ⟨hx, hb, hr, hml, hown, hts, hX, hbl, hlocks, hgv⟩ := C0
  have hbA : ¬ (fun q : Nat => s.heap.size ≤ q) b := Nat.not_le.mpr hbl
  refine lv_aload_n hx hb dL_law_893 rfl (lv_at hl 1 rfl) ?_
  refine lv_aload_n hx hb dL_law_894 rfl (lv_at hl 0 rfl) ?_
  refine lv_iload_n hx hb dL_law_895 rfl (lv_at hl 3 rfl) ?_
  refine lv_iconst (v := 1) hx hb dL_law_896 ic_1 ?_
  refine lv_iadd hx hb dL_law_897 ?_
  refine lv_topi (fun x1 e1 => ?_)
  refine va_sld hx hb hX hbl hbA hS (sc_n1 e1 hy hL) dL_law_898 ?_
  refine lv_topi (fun v2 ev2 => ?_)
  refine lv_aload_n hx hb dL_law_899 rfl (lv_at hl 0 rfl) ?_
  refine lv_iload_n hx hb dL_law_900 rfl (lv_at hl 3 rfl) ?_
  refine lv_iconst (v := 2) hx hb dL_law_901 ic_2 ?_
  refine lv_iadd hx hb dL_law_902 ?_
  refine lv_topi (fun x3 e3 => ?_)
  refine va_sld hx hb hX hbl hbA hS (sc_n2 e3 hy hL) dL_law_903 ?_
  refine lv_topi (fun v4 ev4 => ?_)
  refine lv_aload_n hx hb dL_law_904 rfl (lv_at hl 0 rfl) ?_
  refine lv_iload_n hx hb dL_law_905 rfl (lv_at hl 3 rfl) ?_
  refine lv_iconst (v := 3) hx hb dL_law_906 ic_3 ?_
  refine lv_iadd hx hb dL_law_907 ?_
  refine lv_topi (fun x5 e5 => ?_)
  refine va_sld hx hb hX hbl hbA hS (sc_n3 e5 hy hL) dL_law_908 ?_
  refine lv_topi (fun v6 ev6 => ?_)
  have hJ := hH.J
  have hA7 := th_Al hT hS
  have hle7 := hS.1
  refine va_calli (va_runV (As := [.int v2, .int v4, .int v6]) (rest := []) ⟨hx, hb, hml, hown, hts⟩ (k_X11_look l D cA Z τ gi gr _ (A 11) t1 v2 v4 v6) (cwV 3 hts gL_law_X11_look rfl rfl rfl hd_X11_look__3 ⟨Nat.le_of_ble_eq_true rfl, Nat.le_of_ble_eq_true rfl⟩) ⟨th_blind, tr_11 hK hH t1, th_pre hH hK hN hZ hS hA7⟩ rfl rfl hl.1 rfl (lv_room (Nat.le_of_ble_eq_true rfl)) dL_law_909 (by refine ⟨?_, ?_⟩ <;> simp only [room_1] <;> omega)) hS (fun q _ h => hA7 q h) hA7 (fun r7 u t H locs ht hvm hw7 hB hz7 hk7 hS => ?_)
  try dsimp only at hw7 hB
  rw [ht] at hB
  have hH := hB
  obtain ⟨gi7, gr7⟩ := u
  try dsimp only at hw7 hH
  have hJ1 := hH.J
  refine lv_pop hx hb dL_law_912 rfl ?_
  refine lv_aload_n hx hb dL_law_913 rfl (lv_at hl 2 rfl) ?_
  refine lv_aload_n hx hb dL_law_914 rfl (lv_at hl 0 rfl) ?_
  refine lv_iload_n hx hb dL_law_915 rfl (lv_at hl 3 rfl) ?_
  refine lv_iconst (v := 1) hx hb dL_law_916 ic_1 ?_
  refine lv_iadd hx hb dL_law_917 ?_
  refine lv_topi (fun x8 e8 => ?_)
  refine va_sld hx hb hX hbl hbA hS (sc_n1 e8 hy hL) dL_law_918 ?_
  refine lv_topi (fun v9 ev9 => ?_)
  refine lv_aload_n hx hb dL_law_919 rfl (lv_at hl 0 rfl) ?_
  refine lv_iload_n hx hb dL_law_920 rfl (lv_at hl 3 rfl) ?_
  refine lv_iconst (v := 2) hx hb dL_law_921 ic_2 ?_
  refine lv_iadd hx hb dL_law_922 ?_
  refine lv_topi (fun x10 e10 => ?_)
  refine va_sld hx hb hX hbl hbA hS (sc_n2 e10 hy hL) dL_law_923 ?_
  refine lv_topi (fun v11 ev11 => ?_)
  refine lv_aload_n hx hb dL_law_924 rfl (lv_at hl 0 rfl) ?_
  refine lv_iload_n hx hb dL_law_925 rfl (lv_at hl 3 rfl) ?_
  refine lv_iconst (v := 3) hx hb dL_law_926 ic_3 ?_
  refine lv_iadd hx hb dL_law_927 ?_
  refine lv_topi (fun x12 e12 => ?_)
  refine va_sld hx hb hX hbl hbA hS (sc_n3 e12 hy hL) dL_law_928 ?_
  refine lv_topi (fun v13 ev13 => ?_)
  have hA14 := th_Al hT hS
  have hle14 := hS.1
  refine va_calli (va_runV (As := [.int v9, .int v11, .int v13]) (rest := []) ⟨hx, hb, hml, hown, hts⟩ (k_X12_look l D cA Z τ gi7 gr7 _ (A 12) t2 v9 v11 v13) (cwV 3 hts gL_law_X12_look rfl rfl rfl hd_X12_look__3 ⟨Nat.le_of_ble_eq_true rfl, Nat.le_of_ble_eq_true rfl⟩) ⟨th_blind, tr_12 hK hH t2, th_pre hH hK hN hZ hS hA14⟩ rfl rfl hl.1 rfl (lv_room (Nat.le_of_ble_eq_true rfl)) dL_law_929 (by refine ⟨?_, ?_⟩ <;> simp only [room_1] <;> omega)) hS (fun q _ h => hA14 q h) hA14 (fun r14 u t H locs ht hvm hw14 hB hz14 hk14 hS => ?_)
  try dsimp only at hw14 hB
  rw [ht] at hB
  have hH := hB
  obtain ⟨gi14, gr14⟩ := u
  try dsimp only at hw14 hH
  refine lv_pop hx hb dL_law_932 rfl ?_
  refine lv_goto (tgt := 1146) hx hb dL_law_933 (th_eqI rfl) ?_
  have ea_v9 : v9 = v2 := by rw [ev9, ev2, e8, e1]
  rw [ea_v9] at hw14
  have ea_v11 : v11 = v4 := by rw [ev11, ev4, e10, e3]
  rw [ea_v11] at hw14
  have ea_v13 : v13 = v6 := by rw [ev13, ev6, e12, e5]
  rw [ea_v13] at hw14
  have hsm := sim_look hJ hJ1 hv hw7 hw14
  have hv := hsm
  refine W.widen (k := cells + 2) (n := slots + 32) (by omega) (by omega) ?_
  exact kk _ _ _ _ _ _ hH hS hT t1 t2 hv hl

set_option maxHeartbeats 8000000 in
set_option maxRecDepth 100000 in
theorem law_c24 {p : Program} {l : Launch} {e : Env} {s : State} {m : MethodId} {below : List Frame} {meth : Method} {c : Code} {D : va_G} {cA : Nat → ClassId} {Z : th_Zt} {b L : Nat} {xs : Nat → Int32} {A : Nat → Nat} {cells slots : Nat} {y : Int32} {Q : State → Prop} (C0 : lw_At p s m meth c b L xs) (hK : va_K D vwCl (th_tys cA) s) (hN : th_N s) (hZ : th_Z Z (fun q : Nat => s.heap.size ≤ q) s s.heap) (hL : L ≤ 2560) (hy : 0 ≤ y.toInt ∧ y.toInt + 5 ≤ (L : Int)) (hc : cells + 2 ≤ 600000) (hs : slots + 32 ≤ 7302249) (kk : lc_K p l e s m below meth c D cA b (A 11) (A 12) y (fun (t : th_t) (g : th_i) (r : th_r) => Rel Z t g r g r A) (cells + 2) (slots + 32) Q 1146) : lc_K p l e s m below meth c D cA b (A 11) (A 12) y (fun (t : th_t) (g : th_i) (r : th_r) => Rel Z t g r g r A) cells slots Q 936 := by
  intro τ gi gr H locs ls hH hS hT t1 t2 hv hl
  obtain ⟨hx, hb, hr, hml, hown, hts, hX, hbl, hlocks, hgv⟩ := C0
  have hbA : ¬ (fun q : Nat => s.heap.size ≤ q) b := Nat.not_le.mpr hbl
  refine lv_aload_n hx hb dL_law_936 rfl (lv_at hl 1 rfl) ?_
  have hJ := hH.J
  have hA1 := th_Al hT hS
  have hle1 := hS.1
  refine va_calli (va_runV (As := []) (rest := []) ⟨hx, hb, hml, hown, hts⟩ (k_X11_next l D cA Z τ gi gr _ (A 11) t1) (cwV 0 hts gL_law_X11_next rfl rfl rfl hd_X11_next__0 ⟨Nat.le_of_ble_eq_true rfl, Nat.le_of_ble_eq_true rfl⟩) ⟨th_blind, tr_11 hK hH t1, th_pre hH hK hN hZ hS hA1⟩ rfl rfl hl.1 rfl (lv_room (Nat.le_of_ble_eq_true rfl)) dL_law_937 (by refine ⟨?_, ?_⟩ <;> simp only [room_1] <;> omega)) hS (fun q _ h => hA1 q h) hA1 (fun r1 u t H locs ht hvm hw1 hB hz1 hk1 hS => ?_)
  try dsimp only at hw1 hB
  rw [ht] at hB
  have hH := hB
  obtain ⟨gi1, gr1⟩ := u
  try dsimp only at hw1 hH
  have hJ1 := hH.J
  refine lv_pop hx hb dL_law_940 rfl ?_
  refine lv_aload_n hx hb dL_law_941 rfl (lv_at hl 2 rfl) ?_
  have hA2 := th_Al hT hS
  have hle2 := hS.1
  refine va_calli (va_runV (As := []) (rest := []) ⟨hx, hb, hml, hown, hts⟩ (k_X12_next l D cA Z τ gi1 gr1 _ (A 12) t2) (cwV 0 hts gL_law_X12_next rfl rfl rfl hd_X12_next__0 ⟨Nat.le_of_ble_eq_true rfl, Nat.le_of_ble_eq_true rfl⟩) ⟨th_blind, tr_12 hK hH t2, th_pre hH hK hN hZ hS hA2⟩ rfl rfl hl.1 rfl (lv_room (Nat.le_of_ble_eq_true rfl)) dL_law_942 (by refine ⟨?_, ?_⟩ <;> simp only [room_1] <;> omega)) hS (fun q _ h => hA2 q h) hA2 (fun r2 u t H locs ht hvm hw2 hB hz2 hk2 hS => ?_)
  try dsimp only at hw2 hB
  rw [ht] at hB
  have hH := hB
  obtain ⟨gi2, gr2⟩ := u
  try dsimp only at hw2 hH
  refine lv_pop hx hb dL_law_945 rfl ?_
  refine lv_goto (tgt := 1146) hx hb dL_law_946 (th_eqI rfl) ?_
  have hsm := sim_next hJ hJ1 hv hw1 hw2
  have hv := hsm
  refine W.widen (k := cells + 2) (n := slots + 32) (by omega) (by omega) ?_
  exact kk _ _ _ _ _ _ hH hS hT t1 t2 hv hl

set_option maxHeartbeats 8000000 in
set_option maxRecDepth 100000 in
theorem law_c25 {p : Program} {l : Launch} {e : Env} {s : State} {m : MethodId} {below : List Frame} {meth : Method} {c : Code} {D : va_G} {cA : Nat → ClassId} {Z : th_Zt} {b L : Nat} {xs : Nat → Int32} {A : Nat → Nat} {cells slots : Nat} {y : Int32} {Q : State → Prop} (C0 : lw_At p s m meth c b L xs) (hK : va_K D vwCl (th_tys cA) s) (hN : th_N s) (hZ : th_Z Z (fun q : Nat => s.heap.size ≤ q) s s.heap) (hL : L ≤ 2560) (hy : 0 ≤ y.toInt ∧ y.toInt + 5 ≤ (L : Int)) (hc : cells + 2 ≤ 600000) (hs : slots + 32 ≤ 7302249) (kk : lc_K p l e s m below meth c D cA b (A 11) (A 12) y (fun (t : th_t) (g : th_i) (r : th_r) => Rel Z t g r g r A) (cells + 2) (slots + 32) Q 1146) : lc_K p l e s m below meth c D cA b (A 11) (A 12) y (fun (t : th_t) (g : th_i) (r : th_r) => Rel Z t g r g r A) cells slots Q 949 := by
  intro τ gi gr H locs ls hH hS hT t1 t2 hv hl
  obtain ⟨hx, hb, hr, hml, hown, hts, hX, hbl, hlocks, hgv⟩ := C0
  have hbA : ¬ (fun q : Nat => s.heap.size ≤ q) b := Nat.not_le.mpr hbl
  refine lv_aload_n hx hb dL_law_949 rfl (lv_at hl 1 rfl) ?_
  refine lv_aload_n hx hb dL_law_950 rfl (lv_at hl 0 rfl) ?_
  refine lv_iload_n hx hb dL_law_951 rfl (lv_at hl 3 rfl) ?_
  refine lv_iconst (v := 1) hx hb dL_law_952 ic_1 ?_
  refine lv_iadd hx hb dL_law_953 ?_
  refine lv_topi (fun x1 e1 => ?_)
  refine va_sld hx hb hX hbl hbA hS (sc_n1 e1 hy hL) dL_law_954 ?_
  refine lv_topi (fun v2 ev2 => ?_)
  have hJ := hH.J
  have hA3 := th_Al hT hS
  have hle3 := hS.1
  refine va_calli (va_runV (As := [.int v2]) (rest := []) ⟨hx, hb, hml, hown, hts⟩ (k_X11_renew l D cA Z τ gi gr _ (A 11) t1 v2) (cwV 1 hts gL_law_X11_renew rfl rfl rfl hd_X11_renew__1 ⟨Nat.le_of_ble_eq_true rfl, Nat.le_of_ble_eq_true rfl⟩) ⟨th_blind, tr_11 hK hH t1, th_pre hH hK hN hZ hS hA3⟩ rfl rfl hl.1 rfl (lv_room (Nat.le_of_ble_eq_true rfl)) dL_law_955 (by refine ⟨?_, ?_⟩ <;> simp only [room_1] <;> omega)) hS (fun q _ h => hA3 q h) hA3 (fun r3 u t H locs ht hvm hw3 hB hz3 hk3 hS => ?_)
  try dsimp only at hw3 hB
  rw [ht] at hB
  have hH := hB
  obtain ⟨gi3, gr3⟩ := u
  try dsimp only at hw3 hH
  have hJ1 := hH.J
  refine lv_pop hx hb dL_law_958 rfl ?_
  refine lv_aload_n hx hb dL_law_959 rfl (lv_at hl 2 rfl) ?_
  refine lv_aload_n hx hb dL_law_960 rfl (lv_at hl 0 rfl) ?_
  refine lv_iload_n hx hb dL_law_961 rfl (lv_at hl 3 rfl) ?_
  refine lv_iconst (v := 1) hx hb dL_law_962 ic_1 ?_
  refine lv_iadd hx hb dL_law_963 ?_
  refine lv_topi (fun x4 e4 => ?_)
  refine va_sld hx hb hX hbl hbA hS (sc_n1 e4 hy hL) dL_law_964 ?_
  refine lv_topi (fun v5 ev5 => ?_)
  have hA6 := th_Al hT hS
  have hle6 := hS.1
  refine va_calli (va_runV (As := [.int v5]) (rest := []) ⟨hx, hb, hml, hown, hts⟩ (k_X12_renew l D cA Z τ gi3 gr3 _ (A 12) t2 v5) (cwV 1 hts gL_law_X12_renew rfl rfl rfl hd_X12_renew__1 ⟨Nat.le_of_ble_eq_true rfl, Nat.le_of_ble_eq_true rfl⟩) ⟨th_blind, tr_12 hK hH t2, th_pre hH hK hN hZ hS hA6⟩ rfl rfl hl.1 rfl (lv_room (Nat.le_of_ble_eq_true rfl)) dL_law_965 (by refine ⟨?_, ?_⟩ <;> simp only [room_1] <;> omega)) hS (fun q _ h => hA6 q h) hA6 (fun r6 u t H locs ht hvm hw6 hB hz6 hk6 hS => ?_)
  try dsimp only at hw6 hB
  rw [ht] at hB
  have hH := hB
  obtain ⟨gi6, gr6⟩ := u
  try dsimp only at hw6 hH
  refine lv_pop hx hb dL_law_968 rfl ?_
  refine lv_goto (tgt := 1146) hx hb dL_law_969 (th_eqI rfl) ?_
  have ea_v5 : v5 = v2 := by rw [ev5, ev2, e4, e1]
  rw [ea_v5] at hw6
  have hsm := sim_renew hJ hJ1 hv hw3 hw6
  have hv := hsm
  refine W.widen (k := cells + 2) (n := slots + 32) (by omega) (by omega) ?_
  exact kk _ _ _ _ _ _ hH hS hT t1 t2 hv hl

set_option maxHeartbeats 8000000 in
set_option maxRecDepth 100000 in
theorem law_c26 {p : Program} {l : Launch} {e : Env} {s : State} {m : MethodId} {below : List Frame} {meth : Method} {c : Code} {D : va_G} {cA : Nat → ClassId} {Z : th_Zt} {b L : Nat} {xs : Nat → Int32} {A : Nat → Nat} {cells slots : Nat} {y : Int32} {Q : State → Prop} (C0 : lw_At p s m meth c b L xs) (hK : va_K D vwCl (th_tys cA) s) (hN : th_N s) (hZ : th_Z Z (fun q : Nat => s.heap.size ≤ q) s s.heap) (hL : L ≤ 2560) (hy : 0 ≤ y.toInt ∧ y.toInt + 5 ≤ (L : Int)) (hc : cells + 2 ≤ 600000) (hs : slots + 32 ≤ 7302249) (kk : lc_K p l e s m below meth c D cA b (A 11) (A 12) y (fun (t : th_t) (g : th_i) (r : th_r) => Rel Z t g r g r A) (cells + 2) (slots + 32) Q 1146) : lc_K p l e s m below meth c D cA b (A 11) (A 12) y (fun (t : th_t) (g : th_i) (r : th_r) => Rel Z t g r g r A) cells slots Q 972 := by
  intro τ gi gr H locs ls hH hS hT t1 t2 hv hl
  obtain ⟨hx, hb, hr, hml, hown, hts, hX, hbl, hlocks, hgv⟩ := C0
  have hbA : ¬ (fun q : Nat => s.heap.size ≤ q) b := Nat.not_le.mpr hbl
  refine lv_aload_n hx hb dL_law_972 rfl (lv_at hl 1 rfl) ?_
  refine lv_aload_n hx hb dL_law_973 rfl (lv_at hl 0 rfl) ?_
  refine lv_iload_n hx hb dL_law_974 rfl (lv_at hl 3 rfl) ?_
  refine lv_iconst (v := 1) hx hb dL_law_975 ic_1 ?_
  refine lv_iadd hx hb dL_law_976 ?_
  refine lv_topi (fun x1 e1 => ?_)
  refine va_sld hx hb hX hbl hbA hS (sc_n1 e1 hy hL) dL_law_977 ?_
  refine lv_topi (fun v2 ev2 => ?_)
  have hJ := hH.J
  have hA3 := th_Al hT hS
  have hle3 := hS.1
  refine va_calli (va_runV (As := [.int v2]) (rest := []) ⟨hx, hb, hml, hown, hts⟩ (k_X11_storm l D cA Z τ gi gr _ (A 11) t1 v2) (cwV 1 hts gL_law_X11_storm rfl rfl rfl hd_X11_storm__1 ⟨Nat.le_of_ble_eq_true rfl, Nat.le_of_ble_eq_true rfl⟩) ⟨th_blind, tr_11 hK hH t1, th_pre hH hK hN hZ hS hA3⟩ rfl rfl hl.1 rfl (lv_room (Nat.le_of_ble_eq_true rfl)) dL_law_978 (by refine ⟨?_, ?_⟩ <;> simp only [room_1] <;> omega)) hS (fun q _ h => hA3 q h) hA3 (fun r3 u t H locs ht hvm hw3 hB hz3 hk3 hS => ?_)
  try dsimp only at hw3 hB
  rw [ht] at hB
  have hH := hB
  obtain ⟨gi3, gr3⟩ := u
  try dsimp only at hw3 hH
  have hJ1 := hH.J
  refine lv_pop hx hb dL_law_981 rfl ?_
  refine lv_aload_n hx hb dL_law_982 rfl (lv_at hl 2 rfl) ?_
  refine lv_aload_n hx hb dL_law_983 rfl (lv_at hl 0 rfl) ?_
  refine lv_iload_n hx hb dL_law_984 rfl (lv_at hl 3 rfl) ?_
  refine lv_iconst (v := 1) hx hb dL_law_985 ic_1 ?_
  refine lv_iadd hx hb dL_law_986 ?_
  refine lv_topi (fun x4 e4 => ?_)
  refine va_sld hx hb hX hbl hbA hS (sc_n1 e4 hy hL) dL_law_987 ?_
  refine lv_topi (fun v5 ev5 => ?_)
  have hA6 := th_Al hT hS
  have hle6 := hS.1
  refine va_calli (va_runV (As := [.int v5]) (rest := []) ⟨hx, hb, hml, hown, hts⟩ (k_X12_storm l D cA Z τ gi3 gr3 _ (A 12) t2 v5) (cwV 1 hts gL_law_X12_storm rfl rfl rfl hd_X12_storm__1 ⟨Nat.le_of_ble_eq_true rfl, Nat.le_of_ble_eq_true rfl⟩) ⟨th_blind, tr_12 hK hH t2, th_pre hH hK hN hZ hS hA6⟩ rfl rfl hl.1 rfl (lv_room (Nat.le_of_ble_eq_true rfl)) dL_law_988 (by refine ⟨?_, ?_⟩ <;> simp only [room_1] <;> omega)) hS (fun q _ h => hA6 q h) hA6 (fun r6 u t H locs ht hvm hw6 hB hz6 hk6 hS => ?_)
  try dsimp only at hw6 hB
  rw [ht] at hB
  have hH := hB
  obtain ⟨gi6, gr6⟩ := u
  try dsimp only at hw6 hH
  refine lv_pop hx hb dL_law_991 rfl ?_
  refine lv_goto (tgt := 1146) hx hb dL_law_992 (th_eqI rfl) ?_
  have ea_v5 : v5 = v2 := by rw [ev5, ev2, e4, e1]
  rw [ea_v5] at hw6
  have hsm := sim_storm hJ hJ1 hv hw3 hw6
  have hv := hsm
  refine W.widen (k := cells + 2) (n := slots + 32) (by omega) (by omega) ?_
  exact kk _ _ _ _ _ _ hH hS hT t1 t2 hv hl

set_option maxHeartbeats 8000000 in
set_option maxRecDepth 100000 in
theorem law_c27 {p : Program} {l : Launch} {e : Env} {s : State} {m : MethodId} {below : List Frame} {meth : Method} {c : Code} {D : va_G} {cA : Nat → ClassId} {Z : th_Zt} {b L : Nat} {xs : Nat → Int32} {A : Nat → Nat} {cells slots : Nat} {y : Int32} {Q : State → Prop} (C0 : lw_At p s m meth c b L xs) (hK : va_K D vwCl (th_tys cA) s) (hN : th_N s) (hZ : th_Z Z (fun q : Nat => s.heap.size ≤ q) s s.heap) (hL : L ≤ 2560) (hy : 0 ≤ y.toInt ∧ y.toInt + 5 ≤ (L : Int)) (hc : cells + 2 ≤ 600000) (hs : slots + 32 ≤ 7302249) (kk : lc_K p l e s m below meth c D cA b (A 11) (A 12) y (fun (t : th_t) (g : th_i) (r : th_r) => Rel Z t g r g r A) (cells + 2) (slots + 32) Q 1146) : lc_K p l e s m below meth c D cA b (A 11) (A 12) y (fun (t : th_t) (g : th_i) (r : th_r) => Rel Z t g r g r A) cells slots Q 995 := by
  intro τ gi gr H locs ls hH hS hT t1 t2 hv hl
  obtain ⟨hx, hb, hr, hml, hown, hts, hX, hbl, hlocks, hgv⟩ := C0
  have hbA : ¬ (fun q : Nat => s.heap.size ≤ q) b := Nat.not_le.mpr hbl
  refine lv_aload_n hx hb dL_law_995 rfl (lv_at hl 1 rfl) ?_
  refine lv_aload_n hx hb dL_law_996 rfl (lv_at hl 0 rfl) ?_
  refine lv_iload_n hx hb dL_law_997 rfl (lv_at hl 3 rfl) ?_
  refine lv_iconst (v := 1) hx hb dL_law_998 ic_1 ?_
  refine lv_iadd hx hb dL_law_999 ?_
  refine lv_topi (fun x1 e1 => ?_)
  refine va_sld hx hb hX hbl hbA hS (sc_n1 e1 hy hL) dL_law_1000 ?_
  refine lv_topi (fun v2 ev2 => ?_)
  refine lv_aload_n hx hb dL_law_1001 rfl (lv_at hl 0 rfl) ?_
  refine lv_iload_n hx hb dL_law_1002 rfl (lv_at hl 3 rfl) ?_
  refine lv_iconst (v := 2) hx hb dL_law_1003 ic_2 ?_
  refine lv_iadd hx hb dL_law_1004 ?_
  refine lv_topi (fun x3 e3 => ?_)
  refine va_sld hx hb hX hbl hbA hS (sc_n2 e3 hy hL) dL_law_1005 ?_
  refine lv_topi (fun v4 ev4 => ?_)
  have hJ := hH.J
  have hA5 := th_Al hT hS
  have hle5 := hS.1
  refine va_calli (va_runV (As := [.int v2, .int v4]) (rest := []) ⟨hx, hb, hml, hown, hts⟩ (k_X11_fled l D cA Z τ gi gr _ (A 11) t1 v2 v4) (cwV 2 hts gL_law_X11_fled rfl rfl rfl hd_X11_fled__2 ⟨Nat.le_of_ble_eq_true rfl, Nat.le_of_ble_eq_true rfl⟩) ⟨th_blind, tr_11 hK hH t1, th_pre hH hK hN hZ hS hA5⟩ rfl rfl hl.1 rfl (lv_room (Nat.le_of_ble_eq_true rfl)) dL_law_1006 (by refine ⟨?_, ?_⟩ <;> simp only [room_1] <;> omega)) hS (fun q _ h => hA5 q h) hA5 (fun r5 u t H locs ht hvm hw5 hB hz5 hk5 hS => ?_)
  try dsimp only at hw5 hB
  rw [ht] at hB
  have hH := hB
  obtain ⟨gi5, gr5⟩ := u
  try dsimp only at hw5 hH
  have hJ1 := hH.J
  refine lv_pop hx hb dL_law_1009 rfl ?_
  refine lv_aload_n hx hb dL_law_1010 rfl (lv_at hl 2 rfl) ?_
  refine lv_aload_n hx hb dL_law_1011 rfl (lv_at hl 0 rfl) ?_
  refine lv_iload_n hx hb dL_law_1012 rfl (lv_at hl 3 rfl) ?_
  refine lv_iconst (v := 1) hx hb dL_law_1013 ic_1 ?_
  refine lv_iadd hx hb dL_law_1014 ?_
  refine lv_topi (fun x6 e6 => ?_)
  refine va_sld hx hb hX hbl hbA hS (sc_n1 e6 hy hL) dL_law_1015 ?_
  refine lv_topi (fun v7 ev7 => ?_)
  refine lv_aload_n hx hb dL_law_1016 rfl (lv_at hl 0 rfl) ?_
  refine lv_iload_n hx hb dL_law_1017 rfl (lv_at hl 3 rfl) ?_
  refine lv_iconst (v := 2) hx hb dL_law_1018 ic_2 ?_
  refine lv_iadd hx hb dL_law_1019 ?_
  refine lv_topi (fun x8 e8 => ?_)
  refine va_sld hx hb hX hbl hbA hS (sc_n2 e8 hy hL) dL_law_1020 ?_
  refine lv_topi (fun v9 ev9 => ?_)
  have hA10 := th_Al hT hS
  have hle10 := hS.1
  refine va_calli (va_runV (As := [.int v7, .int v9]) (rest := []) ⟨hx, hb, hml, hown, hts⟩ (k_X12_fled l D cA Z τ gi5 gr5 _ (A 12) t2 v7 v9) (cwV 2 hts gL_law_X12_fled rfl rfl rfl hd_X12_fled__2 ⟨Nat.le_of_ble_eq_true rfl, Nat.le_of_ble_eq_true rfl⟩) ⟨th_blind, tr_12 hK hH t2, th_pre hH hK hN hZ hS hA10⟩ rfl rfl hl.1 rfl (lv_room (Nat.le_of_ble_eq_true rfl)) dL_law_1021 (by refine ⟨?_, ?_⟩ <;> simp only [room_1] <;> omega)) hS (fun q _ h => hA10 q h) hA10 (fun r10 u t H locs ht hvm hw10 hB hz10 hk10 hS => ?_)
  try dsimp only at hw10 hB
  rw [ht] at hB
  have hH := hB
  obtain ⟨gi10, gr10⟩ := u
  try dsimp only at hw10 hH
  refine lv_pop hx hb dL_law_1024 rfl ?_
  refine lv_goto (tgt := 1146) hx hb dL_law_1025 (th_eqI rfl) ?_
  have ea_v7 : v7 = v2 := by rw [ev7, ev2, e6, e1]
  rw [ea_v7] at hw10
  have ea_v9 : v9 = v4 := by rw [ev9, ev4, e8, e3]
  rw [ea_v9] at hw10
  have hsm := sim_fled hJ hJ1 hv hw5 hw10
  have hv := hsm
  refine W.widen (k := cells + 2) (n := slots + 32) (by omega) (by omega) ?_
  exact kk _ _ _ _ _ _ hH hS hT t1 t2 hv hl

set_option maxHeartbeats 8000000 in
set_option maxRecDepth 100000 in
theorem law_c28 {p : Program} {l : Launch} {e : Env} {s : State} {m : MethodId} {below : List Frame} {meth : Method} {c : Code} {D : va_G} {cA : Nat → ClassId} {Z : th_Zt} {b L : Nat} {xs : Nat → Int32} {A : Nat → Nat} {cells slots : Nat} {y : Int32} {Q : State → Prop} (C0 : lw_At p s m meth c b L xs) (hK : va_K D vwCl (th_tys cA) s) (hN : th_N s) (hZ : th_Z Z (fun q : Nat => s.heap.size ≤ q) s s.heap) (hL : L ≤ 2560) (hy : 0 ≤ y.toInt ∧ y.toInt + 5 ≤ (L : Int)) (hc : cells + 2 ≤ 600000) (hs : slots + 32 ≤ 7302249) (kk : lc_K p l e s m below meth c D cA b (A 11) (A 12) y (fun (t : th_t) (g : th_i) (r : th_r) => Rel Z t g r g r A) (cells + 2) (slots + 32) Q 1146) : lc_K p l e s m below meth c D cA b (A 11) (A 12) y (fun (t : th_t) (g : th_i) (r : th_r) => Rel Z t g r g r A) cells slots Q 1028 := by
  intro τ gi gr H locs ls hH hS hT t1 t2 hv hl
  obtain ⟨hx, hb, hr, hml, hown, hts, hX, hbl, hlocks, hgv⟩ := C0
  have hbA : ¬ (fun q : Nat => s.heap.size ≤ q) b := Nat.not_le.mpr hbl
  refine lv_aload_n hx hb dL_law_1028 rfl (lv_at hl 1 rfl) ?_
  refine lv_aload_n hx hb dL_law_1029 rfl (lv_at hl 0 rfl) ?_
  refine lv_iload_n hx hb dL_law_1030 rfl (lv_at hl 3 rfl) ?_
  refine lv_iconst (v := 1) hx hb dL_law_1031 ic_1 ?_
  refine lv_iadd hx hb dL_law_1032 ?_
  refine lv_topi (fun x1 e1 => ?_)
  refine va_sld hx hb hX hbl hbA hS (sc_n1 e1 hy hL) dL_law_1033 ?_
  refine lv_topi (fun v2 ev2 => ?_)
  have hJ := hH.J
  have hA3 := th_Al hT hS
  have hle3 := hS.1
  refine va_calli (va_runV (As := [.int v2]) (rest := []) ⟨hx, hb, hml, hown, hts⟩ (k_X11_rate l D cA Z τ gi gr _ (A 11) t1 v2) (cwV 1 hts gL_law_X11_rate rfl rfl rfl hd_X11_rate__1 ⟨Nat.le_of_ble_eq_true rfl, Nat.le_of_ble_eq_true rfl⟩) ⟨th_blind, tr_11 hK hH t1, th_pre hH hK hN hZ hS hA3⟩ rfl rfl hl.1 rfl (lv_room (Nat.le_of_ble_eq_true rfl)) dL_law_1034 (by refine ⟨?_, ?_⟩ <;> simp only [room_1] <;> omega)) hS (fun q _ h => hA3 q h) hA3 (fun r3 u t H locs ht hvm hw3 hB hz3 hk3 hS => ?_)
  try dsimp only at hw3 hB
  rw [ht] at hB
  have hH := hB
  obtain ⟨gi3, gr3⟩ := u
  try dsimp only at hw3 hH
  have hJ1 := hH.J
  refine lv_pop hx hb dL_law_1037 rfl ?_
  refine lv_aload_n hx hb dL_law_1038 rfl (lv_at hl 2 rfl) ?_
  refine lv_aload_n hx hb dL_law_1039 rfl (lv_at hl 0 rfl) ?_
  refine lv_iload_n hx hb dL_law_1040 rfl (lv_at hl 3 rfl) ?_
  refine lv_iconst (v := 1) hx hb dL_law_1041 ic_1 ?_
  refine lv_iadd hx hb dL_law_1042 ?_
  refine lv_topi (fun x4 e4 => ?_)
  refine va_sld hx hb hX hbl hbA hS (sc_n1 e4 hy hL) dL_law_1043 ?_
  refine lv_topi (fun v5 ev5 => ?_)
  have hA6 := th_Al hT hS
  have hle6 := hS.1
  refine va_calli (va_runV (As := [.int v5]) (rest := []) ⟨hx, hb, hml, hown, hts⟩ (k_X12_rate l D cA Z τ gi3 gr3 _ (A 12) t2 v5) (cwV 1 hts gL_law_X12_rate rfl rfl rfl hd_X12_rate__1 ⟨Nat.le_of_ble_eq_true rfl, Nat.le_of_ble_eq_true rfl⟩) ⟨th_blind, tr_12 hK hH t2, th_pre hH hK hN hZ hS hA6⟩ rfl rfl hl.1 rfl (lv_room (Nat.le_of_ble_eq_true rfl)) dL_law_1044 (by refine ⟨?_, ?_⟩ <;> simp only [room_1] <;> omega)) hS (fun q _ h => hA6 q h) hA6 (fun r6 u t H locs ht hvm hw6 hB hz6 hk6 hS => ?_)
  try dsimp only at hw6 hB
  rw [ht] at hB
  have hH := hB
  obtain ⟨gi6, gr6⟩ := u
  try dsimp only at hw6 hH
  refine lv_pop hx hb dL_law_1047 rfl ?_
  refine lv_goto (tgt := 1146) hx hb dL_law_1048 (th_eqI rfl) ?_
  have ea_v5 : v5 = v2 := by rw [ev5, ev2, e4, e1]
  rw [ea_v5] at hw6
  have hsm := sim_rate hJ hJ1 hv hw3 hw6
  have hv := hsm
  refine W.widen (k := cells + 2) (n := slots + 32) (by omega) (by omega) ?_
  exact kk _ _ _ _ _ _ hH hS hT t1 t2 hv hl

set_option maxHeartbeats 8000000 in
set_option maxRecDepth 100000 in
theorem law_c29 {p : Program} {l : Launch} {e : Env} {s : State} {m : MethodId} {below : List Frame} {meth : Method} {c : Code} {D : va_G} {cA : Nat → ClassId} {Z : th_Zt} {b L : Nat} {xs : Nat → Int32} {A : Nat → Nat} {cells slots : Nat} {y : Int32} {Q : State → Prop} (C0 : lw_At p s m meth c b L xs) (hK : va_K D vwCl (th_tys cA) s) (hN : th_N s) (hZ : th_Z Z (fun q : Nat => s.heap.size ≤ q) s s.heap) (hL : L ≤ 2560) (hy : 0 ≤ y.toInt ∧ y.toInt + 5 ≤ (L : Int)) (hc : cells + 2 ≤ 600000) (hs : slots + 32 ≤ 7302249) (kk : lc_K p l e s m below meth c D cA b (A 11) (A 12) y (fun (t : th_t) (g : th_i) (r : th_r) => Rel Z t g r g r A) (cells + 2) (slots + 32) Q 1146) : lc_K p l e s m below meth c D cA b (A 11) (A 12) y (fun (t : th_t) (g : th_i) (r : th_r) => Rel Z t g r g r A) cells slots Q 1051 := by
  intro τ gi gr H locs ls hH hS hT t1 t2 hv hl
  obtain ⟨hx, hb, hr, hml, hown, hts, hX, hbl, hlocks, hgv⟩ := C0
  have hbA : ¬ (fun q : Nat => s.heap.size ≤ q) b := Nat.not_le.mpr hbl
  refine lv_aload_n hx hb dL_law_1051 rfl (lv_at hl 1 rfl) ?_
  have hJ := hH.J
  have hA1 := th_Al hT hS
  have hle1 := hS.1
  refine va_calli (va_runV (As := []) (rest := []) ⟨hx, hb, hml, hown, hts⟩ (k_X11_dues l D cA Z τ gi gr _ (A 11) t1) (cwV 0 hts gL_law_X11_dues rfl rfl rfl hd_X11_dues__0 ⟨Nat.le_of_ble_eq_true rfl, Nat.le_of_ble_eq_true rfl⟩) ⟨th_blind, tr_11 hK hH t1, th_pre hH hK hN hZ hS hA1⟩ rfl rfl hl.1 rfl (lv_room (Nat.le_of_ble_eq_true rfl)) dL_law_1052 (by refine ⟨?_, ?_⟩ <;> simp only [room_1] <;> omega)) hS (fun q _ h => hA1 q h) hA1 (fun r1 u t H locs ht hvm hw1 hB hz1 hk1 hS => ?_)
  try dsimp only at hw1 hB
  rw [ht] at hB
  have hH := hB
  have hJ1 := hH.J
  refine lv_pop hx hb dL_law_1055 rfl ?_
  refine lv_aload_n hx hb dL_law_1056 rfl (lv_at hl 2 rfl) ?_
  have hA2 := th_Al hT hS
  have hle2 := hS.1
  refine va_calli (va_runV (As := []) (rest := []) ⟨hx, hb, hml, hown, hts⟩ (k_X12_dues l D cA Z τ gi gr _ (A 12) t2) (cwV 0 hts gL_law_X12_dues rfl rfl rfl hd_X12_dues__0 ⟨Nat.le_of_ble_eq_true rfl, Nat.le_of_ble_eq_true rfl⟩) ⟨th_blind, tr_12 hK hH t2, th_pre hH hK hN hZ hS hA2⟩ rfl rfl hl.1 rfl (lv_room (Nat.le_of_ble_eq_true rfl)) dL_law_1057 (by refine ⟨?_, ?_⟩ <;> simp only [room_1] <;> omega)) hS (fun q _ h => hA2 q h) hA2 (fun r2 u t H locs ht hvm hw2 hB hz2 hk2 hS => ?_)
  try dsimp only at hw2 hB
  rw [ht] at hB
  have hH := hB
  refine lv_pop hx hb dL_law_1060 rfl ?_
  refine lv_goto (tgt := 1146) hx hb dL_law_1061 (th_eqI rfl) ?_
  have hsm := sim_dues hJ hJ1 hv hw1 hw2
  have hv := hsm
  refine W.widen (k := cells + 2) (n := slots + 32) (by omega) (by omega) ?_
  exact kk _ _ _ _ _ _ hH hS hT t1 t2 hv hl

set_option maxHeartbeats 8000000 in
set_option maxRecDepth 100000 in
theorem law_c30 {p : Program} {l : Launch} {e : Env} {s : State} {m : MethodId} {below : List Frame} {meth : Method} {c : Code} {D : va_G} {cA : Nat → ClassId} {Z : th_Zt} {b L : Nat} {xs : Nat → Int32} {A : Nat → Nat} {cells slots : Nat} {y : Int32} {Q : State → Prop} (C0 : lw_At p s m meth c b L xs) (hK : va_K D vwCl (th_tys cA) s) (hN : th_N s) (hZ : th_Z Z (fun q : Nat => s.heap.size ≤ q) s s.heap) (hL : L ≤ 2560) (hy : 0 ≤ y.toInt ∧ y.toInt + 5 ≤ (L : Int)) (hc : cells + 2 ≤ 600000) (hs : slots + 32 ≤ 7302249) (kk : lc_K p l e s m below meth c D cA b (A 11) (A 12) y (fun (t : th_t) (g : th_i) (r : th_r) => Rel Z t g r g r A) (cells + 2) (slots + 32) Q 1146) : lc_K p l e s m below meth c D cA b (A 11) (A 12) y (fun (t : th_t) (g : th_i) (r : th_r) => Rel Z t g r g r A) cells slots Q 1064 := by
  intro τ gi gr H locs ls hH hS hT t1 t2 hv hl
  obtain ⟨hx, hb, hr, hml, hown, hts, hX, hbl, hlocks, hgv⟩ := C0
  have hbA : ¬ (fun q : Nat => s.heap.size ≤ q) b := Nat.not_le.mpr hbl
  refine lv_aload_n hx hb dL_law_1064 rfl (lv_at hl 1 rfl) ?_
  refine lv_aload_n hx hb dL_law_1065 rfl (lv_at hl 0 rfl) ?_
  refine lv_iload_n hx hb dL_law_1066 rfl (lv_at hl 3 rfl) ?_
  refine lv_iconst (v := 1) hx hb dL_law_1067 ic_1 ?_
  refine lv_iadd hx hb dL_law_1068 ?_
  refine lv_topi (fun x1 e1 => ?_)
  refine va_sld hx hb hX hbl hbA hS (sc_n1 e1 hy hL) dL_law_1069 ?_
  refine lv_topi (fun v2 ev2 => ?_)
  have hJ := hH.J
  have hA3 := th_Al hT hS
  have hle3 := hS.1
  refine va_calli (va_runV (As := [.int v2]) (rest := []) ⟨hx, hb, hml, hown, hts⟩ (k_X11_tell l D cA Z τ gi gr _ (A 11) t1 v2) (cwV 1 hts gL_law_X11_tell rfl rfl rfl hd_X11_tell__1 ⟨Nat.le_of_ble_eq_true rfl, Nat.le_of_ble_eq_true rfl⟩) ⟨th_blind, tr_11 hK hH t1, th_pre hH hK hN hZ hS hA3⟩ rfl rfl hl.1 rfl (lv_room (Nat.le_of_ble_eq_true rfl)) dL_law_1070 (by refine ⟨?_, ?_⟩ <;> simp only [room_1] <;> omega)) hS (fun q _ h => hA3 q h) hA3 (fun r3 u t H locs ht hvm hw3 hB hz3 hk3 hS => ?_)
  try dsimp only at hw3 hB
  rw [ht] at hB
  have hH := hB
  obtain ⟨gi3, gr3⟩ := u
  try dsimp only at hw3 hH
  have hJ1 := hH.J
  refine lv_pop hx hb dL_law_1073 rfl ?_
  refine lv_aload_n hx hb dL_law_1074 rfl (lv_at hl 2 rfl) ?_
  refine lv_aload_n hx hb dL_law_1075 rfl (lv_at hl 0 rfl) ?_
  refine lv_iload_n hx hb dL_law_1076 rfl (lv_at hl 3 rfl) ?_
  refine lv_iconst (v := 1) hx hb dL_law_1077 ic_1 ?_
  refine lv_iadd hx hb dL_law_1078 ?_
  refine lv_topi (fun x4 e4 => ?_)
  refine va_sld hx hb hX hbl hbA hS (sc_n1 e4 hy hL) dL_law_1079 ?_
  refine lv_topi (fun v5 ev5 => ?_)
  have hA6 := th_Al hT hS
  have hle6 := hS.1
  refine va_calli (va_runV (As := [.int v5]) (rest := []) ⟨hx, hb, hml, hown, hts⟩ (k_X12_tell l D cA Z τ gi3 gr3 _ (A 12) t2 v5) (cwV 1 hts gL_law_X12_tell rfl rfl rfl hd_X12_tell__1 ⟨Nat.le_of_ble_eq_true rfl, Nat.le_of_ble_eq_true rfl⟩) ⟨th_blind, tr_12 hK hH t2, th_pre hH hK hN hZ hS hA6⟩ rfl rfl hl.1 rfl (lv_room (Nat.le_of_ble_eq_true rfl)) dL_law_1080 (by refine ⟨?_, ?_⟩ <;> simp only [room_1] <;> omega)) hS (fun q _ h => hA6 q h) hA6 (fun r6 u t H locs ht hvm hw6 hB hz6 hk6 hS => ?_)
  try dsimp only at hw6 hB
  rw [ht] at hB
  have hH := hB
  obtain ⟨gi6, gr6⟩ := u
  try dsimp only at hw6 hH
  refine lv_pop hx hb dL_law_1083 rfl ?_
  refine lv_goto (tgt := 1146) hx hb dL_law_1084 (th_eqI rfl) ?_
  have ea_v5 : v5 = v2 := by rw [ev5, ev2, e4, e1]
  rw [ea_v5] at hw6
  have hsm := sim_tell hJ hJ1 hv hw3 hw6
  have hv := hsm
  refine W.widen (k := cells + 2) (n := slots + 32) (by omega) (by omega) ?_
  exact kk _ _ _ _ _ _ hH hS hT t1 t2 hv hl

set_option maxHeartbeats 8000000 in
set_option maxRecDepth 100000 in
theorem law_c31 {p : Program} {l : Launch} {e : Env} {s : State} {m : MethodId} {below : List Frame} {meth : Method} {c : Code} {D : va_G} {cA : Nat → ClassId} {Z : th_Zt} {b L : Nat} {xs : Nat → Int32} {A : Nat → Nat} {cells slots : Nat} {y : Int32} {Q : State → Prop} (C0 : lw_At p s m meth c b L xs) (hK : va_K D vwCl (th_tys cA) s) (hN : th_N s) (hZ : th_Z Z (fun q : Nat => s.heap.size ≤ q) s s.heap) (hL : L ≤ 2560) (hy : 0 ≤ y.toInt ∧ y.toInt + 5 ≤ (L : Int)) (hc : cells + 2 ≤ 600000) (hs : slots + 32 ≤ 7302249) (kk : lc_K p l e s m below meth c D cA b (A 11) (A 12) y (fun (t : th_t) (g : th_i) (r : th_r) => Rel Z t g r g r A) (cells + 2) (slots + 32) Q 1146) : lc_K p l e s m below meth c D cA b (A 11) (A 12) y (fun (t : th_t) (g : th_i) (r : th_r) => Rel Z t g r g r A) cells slots Q 1087 := by
  intro τ gi gr H locs ls hH hS hT t1 t2 hv hl
  obtain ⟨hx, hb, hr, hml, hown, hts, hX, hbl, hlocks, hgv⟩ := C0
  have hbA : ¬ (fun q : Nat => s.heap.size ≤ q) b := Nat.not_le.mpr hbl
  refine lv_aload_n hx hb dL_law_1087 rfl (lv_at hl 1 rfl) ?_
  have hJ := hH.J
  have hA1 := th_Al hT hS
  have hle1 := hS.1
  refine va_calli (va_runV (As := []) (rest := []) ⟨hx, hb, hml, hown, hts⟩ (k_X11_check l D cA Z τ gi gr _ (A 11) t1) (cwV 0 hts gL_law_X11_check rfl rfl rfl hd_X11_check__0 ⟨Nat.le_of_ble_eq_true rfl, Nat.le_of_ble_eq_true rfl⟩) ⟨th_blind, tr_11 hK hH t1, th_pre hH hK hN hZ hS hA1⟩ rfl rfl hl.1 rfl (lv_room (Nat.le_of_ble_eq_true rfl)) dL_law_1088 (by refine ⟨?_, ?_⟩ <;> simp only [room_1] <;> omega)) hS (fun q _ h => hA1 q h) hA1 (fun r1 u t H locs ht hvm hw1 hB hz1 hk1 hS => ?_)
  try dsimp only at hw1 hB
  rw [ht] at hB
  have hH := hB
  obtain ⟨gi1, gr1⟩ := u
  try dsimp only at hw1 hH
  have hJ1 := hH.J
  refine lv_pop hx hb dL_law_1091 rfl ?_
  refine lv_aload_n hx hb dL_law_1092 rfl (lv_at hl 2 rfl) ?_
  have hA2 := th_Al hT hS
  have hle2 := hS.1
  refine va_calli (va_runV (As := []) (rest := []) ⟨hx, hb, hml, hown, hts⟩ (k_X12_check l D cA Z τ gi1 gr1 _ (A 12) t2) (cwV 0 hts gL_law_X12_check rfl rfl rfl hd_X12_check__0 ⟨Nat.le_of_ble_eq_true rfl, Nat.le_of_ble_eq_true rfl⟩) ⟨th_blind, tr_12 hK hH t2, th_pre hH hK hN hZ hS hA2⟩ rfl rfl hl.1 rfl (lv_room (Nat.le_of_ble_eq_true rfl)) dL_law_1093 (by refine ⟨?_, ?_⟩ <;> simp only [room_1] <;> omega)) hS (fun q _ h => hA2 q h) hA2 (fun r2 u t H locs ht hvm hw2 hB hz2 hk2 hS => ?_)
  try dsimp only at hw2 hB
  rw [ht] at hB
  have hH := hB
  obtain ⟨gi2, gr2⟩ := u
  try dsimp only at hw2 hH
  refine lv_pop hx hb dL_law_1096 rfl ?_
  refine lv_goto (tgt := 1146) hx hb dL_law_1097 (th_eqI rfl) ?_
  have hsm := sim_check hJ hJ1 hv hw1 hw2
  have hv := hsm
  refine W.widen (k := cells + 2) (n := slots + 32) (by omega) (by omega) ?_
  exact kk _ _ _ _ _ _ hH hS hT t1 t2 hv hl

set_option maxHeartbeats 8000000 in
set_option maxRecDepth 100000 in
theorem law_c32 {p : Program} {l : Launch} {e : Env} {s : State} {m : MethodId} {below : List Frame} {meth : Method} {c : Code} {D : va_G} {cA : Nat → ClassId} {Z : th_Zt} {b L : Nat} {xs : Nat → Int32} {A : Nat → Nat} {cells slots : Nat} {y : Int32} {Q : State → Prop} (C0 : lw_At p s m meth c b L xs) (hK : va_K D vwCl (th_tys cA) s) (hN : th_N s) (hZ : th_Z Z (fun q : Nat => s.heap.size ≤ q) s s.heap) (hL : L ≤ 2560) (hy : 0 ≤ y.toInt ∧ y.toInt + 5 ≤ (L : Int)) (hc : cells + 2 ≤ 600000) (hs : slots + 32 ≤ 7302249) (kk : lc_K p l e s m below meth c D cA b (A 11) (A 12) y (fun (t : th_t) (g : th_i) (r : th_r) => Rel Z t g r g r A) (cells + 2) (slots + 32) Q 1146) : lc_K p l e s m below meth c D cA b (A 11) (A 12) y (fun (t : th_t) (g : th_i) (r : th_r) => Rel Z t g r g r A) cells slots Q 1100 := by
  intro τ gi gr H locs ls hH hS hT t1 t2 hv hl
  obtain ⟨hx, hb, hr, hml, hown, hts, hX, hbl, hlocks, hgv⟩ := C0
  have hbA : ¬ (fun q : Nat => s.heap.size ≤ q) b := Nat.not_le.mpr hbl
  refine lv_aload_n hx hb dL_law_1100 rfl (lv_at hl 1 rfl) ?_
  refine lv_aload_n hx hb dL_law_1101 rfl (lv_at hl 0 rfl) ?_
  refine lv_iload_n hx hb dL_law_1102 rfl (lv_at hl 3 rfl) ?_
  refine lv_iconst (v := 1) hx hb dL_law_1103 ic_1 ?_
  refine lv_iadd hx hb dL_law_1104 ?_
  refine lv_topi (fun x1 e1 => ?_)
  refine va_sld hx hb hX hbl hbA hS (sc_n1 e1 hy hL) dL_law_1105 ?_
  refine lv_topi (fun v2 ev2 => ?_)
  have hJ := hH.J
  have hA3 := th_Al hT hS
  have hle3 := hS.1
  refine va_calli (va_runV (As := [.int v2]) (rest := []) ⟨hx, hb, hml, hown, hts⟩ (k_X11_count l D cA Z τ gi gr _ (A 11) t1 v2) (cwV 1 hts gL_law_X11_count rfl rfl rfl hd_X11_count__1 ⟨Nat.le_of_ble_eq_true rfl, Nat.le_of_ble_eq_true rfl⟩) ⟨th_blind, tr_11 hK hH t1, th_pre hH hK hN hZ hS hA3⟩ rfl rfl hl.1 rfl (lv_room (Nat.le_of_ble_eq_true rfl)) dL_law_1106 (by refine ⟨?_, ?_⟩ <;> simp only [room_1] <;> omega)) hS (fun q _ h => hA3 q h) hA3 (fun r3 u t H locs ht hvm hw3 hB hz3 hk3 hS => ?_)
  try dsimp only at hw3 hB
  rw [ht] at hB
  have hH := hB
  obtain ⟨gi3, gr3⟩ := u
  try dsimp only at hw3 hH
  have hJ1 := hH.J
  refine lv_pop hx hb dL_law_1109 rfl ?_
  refine lv_aload_n hx hb dL_law_1110 rfl (lv_at hl 2 rfl) ?_
  refine lv_aload_n hx hb dL_law_1111 rfl (lv_at hl 0 rfl) ?_
  refine lv_iload_n hx hb dL_law_1112 rfl (lv_at hl 3 rfl) ?_
  refine lv_iconst (v := 1) hx hb dL_law_1113 ic_1 ?_
  refine lv_iadd hx hb dL_law_1114 ?_
  refine lv_topi (fun x4 e4 => ?_)
  refine va_sld hx hb hX hbl hbA hS (sc_n1 e4 hy hL) dL_law_1115 ?_
  refine lv_topi (fun v5 ev5 => ?_)
  have hA6 := th_Al hT hS
  have hle6 := hS.1
  refine va_calli (va_runV (As := [.int v5]) (rest := []) ⟨hx, hb, hml, hown, hts⟩ (k_X12_count l D cA Z τ gi3 gr3 _ (A 12) t2 v5) (cwV 1 hts gL_law_X12_count rfl rfl rfl hd_X12_count__1 ⟨Nat.le_of_ble_eq_true rfl, Nat.le_of_ble_eq_true rfl⟩) ⟨th_blind, tr_12 hK hH t2, th_pre hH hK hN hZ hS hA6⟩ rfl rfl hl.1 rfl (lv_room (Nat.le_of_ble_eq_true rfl)) dL_law_1116 (by refine ⟨?_, ?_⟩ <;> simp only [room_1] <;> omega)) hS (fun q _ h => hA6 q h) hA6 (fun r6 u t H locs ht hvm hw6 hB hz6 hk6 hS => ?_)
  try dsimp only at hw6 hB
  rw [ht] at hB
  have hH := hB
  obtain ⟨gi6, gr6⟩ := u
  try dsimp only at hw6 hH
  refine lv_pop hx hb dL_law_1119 rfl ?_
  refine lv_goto (tgt := 1146) hx hb dL_law_1120 (th_eqI rfl) ?_
  have ea_v5 : v5 = v2 := by rw [ev5, ev2, e4, e1]
  rw [ea_v5] at hw6
  have hsm := sim_count hJ hJ1 hv hw3 hw6
  have hv := hsm
  refine W.widen (k := cells + 2) (n := slots + 32) (by omega) (by omega) ?_
  exact kk _ _ _ _ _ _ hH hS hT t1 t2 hv hl

set_option maxHeartbeats 8000000 in
set_option maxRecDepth 100000 in
theorem law_c33 {p : Program} {l : Launch} {e : Env} {s : State} {m : MethodId} {below : List Frame} {meth : Method} {c : Code} {D : va_G} {cA : Nat → ClassId} {Z : th_Zt} {b L : Nat} {xs : Nat → Int32} {A : Nat → Nat} {cells slots : Nat} {y : Int32} {Q : State → Prop} (C0 : lw_At p s m meth c b L xs) (hK : va_K D vwCl (th_tys cA) s) (hN : th_N s) (hZ : th_Z Z (fun q : Nat => s.heap.size ≤ q) s s.heap) (hL : L ≤ 2560) (hy : 0 ≤ y.toInt ∧ y.toInt + 5 ≤ (L : Int)) (hc : cells + 2 ≤ 600000) (hs : slots + 32 ≤ 7302249) (kk : lc_K p l e s m below meth c D cA b (A 11) (A 12) y (fun (t : th_t) (g : th_i) (r : th_r) => Rel Z t g r g r A) (cells + 2) (slots + 32) Q 1146) : lc_K p l e s m below meth c D cA b (A 11) (A 12) y (fun (t : th_t) (g : th_i) (r : th_r) => Rel Z t g r g r A) cells slots Q 1123 := by
  intro τ gi gr H locs ls hH hS hT t1 t2 hv hl
  obtain ⟨hx, hb, hr, hml, hown, hts, hX, hbl, hlocks, hgv⟩ := C0
  have hbA : ¬ (fun q : Nat => s.heap.size ≤ q) b := Nat.not_le.mpr hbl
  refine lv_aload_n hx hb dL_law_1123 rfl (lv_at hl 1 rfl) ?_
  refine lv_aload_n hx hb dL_law_1124 rfl (lv_at hl 0 rfl) ?_
  refine lv_iload_n hx hb dL_law_1125 rfl (lv_at hl 3 rfl) ?_
  refine lv_iconst (v := 1) hx hb dL_law_1126 ic_1 ?_
  refine lv_iadd hx hb dL_law_1127 ?_
  refine lv_topi (fun x1 e1 => ?_)
  refine va_sld hx hb hX hbl hbA hS (sc_n1 e1 hy hL) dL_law_1128 ?_
  refine lv_topi (fun v2 ev2 => ?_)
  have hJ := hH.J
  have hA3 := th_Al hT hS
  have hle3 := hS.1
  refine va_calli (va_runV (As := [.int v2]) (rest := []) ⟨hx, hb, hml, hown, hts⟩ (k_X11_found l D cA Z τ gi gr _ (A 11) t1 v2) (cwV 1 hts gL_law_X11_found rfl rfl rfl hd_X11_found__1 ⟨Nat.le_of_ble_eq_true rfl, Nat.le_of_ble_eq_true rfl⟩) ⟨th_blind, tr_11 hK hH t1, th_pre hH hK hN hZ hS hA3⟩ rfl rfl hl.1 rfl (lv_room (Nat.le_of_ble_eq_true rfl)) dL_law_1129 (by refine ⟨?_, ?_⟩ <;> simp only [room_1] <;> omega)) hS (fun q _ h => hA3 q h) hA3 (fun r3 u t H locs ht hvm hw3 hB hz3 hk3 hS => ?_)
  try dsimp only at hw3 hB
  rw [ht] at hB
  have hH := hB
  obtain ⟨gi3, gr3⟩ := u
  try dsimp only at hw3 hH
  have hJ1 := hH.J
  refine lv_pop hx hb dL_law_1132 rfl ?_
  refine lv_aload_n hx hb dL_law_1133 rfl (lv_at hl 2 rfl) ?_
  refine lv_aload_n hx hb dL_law_1134 rfl (lv_at hl 0 rfl) ?_
  refine lv_iload_n hx hb dL_law_1135 rfl (lv_at hl 3 rfl) ?_
  refine lv_iconst (v := 1) hx hb dL_law_1136 ic_1 ?_
  refine lv_iadd hx hb dL_law_1137 ?_
  refine lv_topi (fun x4 e4 => ?_)
  refine va_sld hx hb hX hbl hbA hS (sc_n1 e4 hy hL) dL_law_1138 ?_
  refine lv_topi (fun v5 ev5 => ?_)
  have hA6 := th_Al hT hS
  have hle6 := hS.1
  refine va_calli (va_runV (As := [.int v5]) (rest := []) ⟨hx, hb, hml, hown, hts⟩ (k_X12_found l D cA Z τ gi3 gr3 _ (A 12) t2 v5) (cwV 1 hts gL_law_X12_found rfl rfl rfl hd_X12_found__1 ⟨Nat.le_of_ble_eq_true rfl, Nat.le_of_ble_eq_true rfl⟩) ⟨th_blind, tr_12 hK hH t2, th_pre hH hK hN hZ hS hA6⟩ rfl rfl hl.1 rfl (lv_room (Nat.le_of_ble_eq_true rfl)) dL_law_1139 (by refine ⟨?_, ?_⟩ <;> simp only [room_1] <;> omega)) hS (fun q _ h => hA6 q h) hA6 (fun r6 u t H locs ht hvm hw6 hB hz6 hk6 hS => ?_)
  try dsimp only at hw6 hB
  rw [ht] at hB
  have hH := hB
  obtain ⟨gi6, gr6⟩ := u
  try dsimp only at hw6 hH
  refine lv_pop hx hb dL_law_1142 rfl ?_
  refine lv_goto (tgt := 1146) hx hb dL_law_1143 (th_eqI rfl) ?_
  have ea_v5 : v5 = v2 := by rw [ev5, ev2, e4, e1]
  rw [ea_v5] at hw6
  have hsm := sim_found hJ hJ1 hv hw3 hw6
  have hv := hsm
  refine W.widen (k := cells + 2) (n := slots + 32) (by omega) (by omega) ?_
  exact kk _ _ _ _ _ _ hH hS hT t1 t2 hv hl
end
section
set_option maxHeartbeats 8000000 in
set_option maxRecDepth 100000 in
theorem law_K {s : State} {args : Array Value} (hts : ∀ w ∈ lw_tbl, w.before args s = true) : ∃ (D : va_G) (cA : Nat → ClassId), va_K D vwCl (th_tys cA) s := by
  obtain ⟨c0, iS0, hk0⟩ := u_known (C := RX0) (T := TX0) (N := 9) (n := 9) hts inX0 (hts (.instantiable RX0 9) mw_1_27.1)
  obtain ⟨c1, iS1, hk1⟩ := u_known (C := RX1) (T := TX1) (N := 2) (n := 2) hts inX1 (hts (.instantiable RX1 2) mw_1_37.1)
  obtain ⟨c2, iS2, hk2⟩ := u_known (C := RX3) (T := TX3) (N := 8) (n := 8) hts inX3 (hts (.instantiable RX3 8) mw_1_232.1)
  obtain ⟨c3, iS3, hk3⟩ := u_known (C := RX4) (T := TX4) (N := 6) (n := 6) hts inX4 (hts (.instantiable RX4 6) mw_2_103.1)
  obtain ⟨c4, iS4, hk4⟩ := u_known (C := RX5) (T := TX5) (N := 3) (n := 3) hts inX5 (hts (.instantiable RX5 3) mw_1_166.1)
  obtain ⟨c5, iS5, hk5⟩ := u_known (C := RX6) (T := TX6) (N := 4) (n := 4) hts inX6 (hts (.instantiable RX6 4) mw_1_147.1)
  obtain ⟨c6, iS6, hk6⟩ := u_known (C := RX7) (T := TX7) (N := 8) (n := 8) hts inX7 (hts (.instantiable RX7 8) mw_1_114.1)
  obtain ⟨c7, iS7, hk7⟩ := u_known (C := RX8) (T := TX8) (N := 6) (n := 6) hts inX8 (hts (.instantiable RX8 6) mw_2_116.1)
  obtain ⟨c8, iS8, hk8⟩ := u_known (C := RX9) (T := TX9) (N := 6) (n := 6) hts inX9 (hts (.instantiable RX9 6) mw_2_61.1)
  obtain ⟨c9, iS9, hk9⟩ := u_known (C := RX10) (T := TX10) (N := 3) (n := 3) hts inX10 (hts (.instantiable RX10 3) mw_1_97.1)
  obtain ⟨c10, iS10, hk10⟩ := u_known (C := RX11) (T := TX11) (N := 10) (n := 10) hts inX11 (hts (.instantiable RX11 10) mv_1_19)
  obtain ⟨c11, iS11, hk11⟩ := u_known (C := RX12) (T := TX12) (N := 38) (n := 38) hts inX12 (hts (.instantiable RX12 38) mv_4_131)
  obtain ⟨cI, kI, oI, i1, i2, i3⟩ := Cond.arrayClass_spec (hts (.arrayClass .int) mw_1_52.1)
  obtain ⟨cZ, kZ, oZ, z1, z2, z3⟩ := Cond.arrayClass_spec (hts (.arrayClass .boolean) mw_1_53.1)
  obtain ⟨oB, cB, kB, b1, b2, b3, b4, b5⟩ := Cond.arrayOver_spec (hts (.arrayOver (.object "BayMoorings$Buoy")) mv_1_33)
  obtain ⟨oT, cT, kT, a1, a2, a3, a4, a5⟩ := Cond.arrayOver_spec (hts (.arrayOver (.object "BayMoorings$Boat")) mv_1_35)
  refine ⟨(fun k => match k with | 0 => c0 | 1 => c1 | 2 => c2 | 3 => c3 | 4 => c4 | 5 => c5 | 6 => c6 | 7 => c7 | 8 => c8 | 9 => c9 | 10 => c10 | _ => c11, fun k => match k with | 0 => iS0 | 1 => iS1 | 2 => iS2 | 3 => iS3 | 4 => iS4 | 5 => iS5 | 6 => iS6 | 7 => iS7 | 8 => iS8 | 9 => iS9 | 10 => iS10 | _ => iS11), fun k => match k with | 0 => cI | 1 => cZ | 2 => cB | _ => cT, fun k q hq => ?_, fun k q hq => ?_⟩
  · match k, hq with
    | 0, hq => cases hq; exact hk0
    | 1, hq => cases hq; exact hk1
    | 2, hq => cases hq; exact hk2
    | 3, hq => cases hq; exact hk3
    | 4, hq => cases hq; exact hk4
    | 5, hq => cases hq; exact hk5
    | 6, hq => cases hq; exact hk6
    | 7, hq => cases hq; exact hk7
    | 8, hq => cases hq; exact hk8
    | 9, hq => cases hq; exact hk9
    | 10, hq => cases hq; exact hk10
    | 11, hq => cases hq; exact hk11
    | k + 12, hq => simp [vwCl] at hq
  · match k, hq with
    | 0, hq => cases hq; exact ⟨fun N z => ⟨fun k h => (by cases h), kI, i2, oI, i3⟩, i1⟩
    | 1, hq => cases hq; exact ⟨fun N z => ⟨fun k h => (by cases h), kZ, z2, oZ, z3⟩, z1⟩
    | 2, hq => cases hq; exact ⟨fun N z => ⟨fun k h => (by cases h), kB, b3, oB, b4⟩, kB, oB, b3, b4, b1, b5⟩
    | 3, hq => cases hq; exact ⟨fun N z => ⟨fun k h => (by cases h), kT, a3, oT, a4⟩, kT, oT, a3, a4, a1, a5⟩
    | k + 4, hq => simp [th_tys] at hq
set_option maxHeartbeats 8000000 in
set_option maxRecDepth 100000 in
theorem law_N {s : State} {args : Array Value} (hts : ∀ w ∈ lw_tbl, w.before args s = true) : th_N s := ⟨va_Nw.of rfl (hts (.methodLinkNest RX3 37 yX11_isHour RX11) mv_2_40), va_Nw.of rfl (hts (.methodLinkNest RX0 51 yX11_within RX11) mv_2_136), va_Nw.of rfl (hts (.methodLinkNest RX0 77 yX11_isHour RX11) mv_2_181), va_Nw.of rfl (hts (.methodLinkNest RX1 24 yX11_within RX11) mv_2_206), va_Nw.of rfl (hts (.methodLinkNest RX10 23 yX11_within RX11) mv_3_70), va_Nw.of rfl (hts (.methodLinkNest RX7 64 yX11_within RX11) mv_3_134), va_Nw.of rfl (hts (.methodLinkNest RX2 39 yX11_within RX11) mv_3_197), va_Nw.of rfl (hts (.methodLinkNest RX6 26 yX11_within RX11) mv_3_226), va_Nw.of rfl (hts (.fieldLinkNest RX0 159 "BayMoorings" "WIND_X" "[I" RX11) mv_3_45), va_Nw.of rfl (hts (.fieldLinkNest RX0 162 "BayMoorings" "WIND_Y" "[I" RX11) mv_3_47), va_Nw.of rfl (hts (.declares ⟨"BayMoorings$Boat", "kindNumber", "()I"⟩) mv_2_145), va_Nw.of rfl (hts (.declares ⟨"BayMoorings$Boat", "plainFee", "(I)I"⟩) mv_2_166), va_AO.of (hts (.arrayOver (.object "BayMoorings$Boat")) mv_1_35), va_AO.of (hts (.arrayOver (.object "BayMoorings$Buoy")) mv_1_33), va_Nw.of rfl (hts (.castable RX4 "BayMoorings$Boat") mv_6_38), va_Nw.of rfl (hts (.castable RX8 "BayMoorings$Boat") mv_6_39), va_Nw.of rfl (hts (.castable RX9 "BayMoorings$Boat") mv_6_37)⟩
set_option maxHeartbeats 8000000 in
set_option maxRecDepth 100000 in
theorem law_Z {s : State} {b : Nat} (hts : ∀ w ∈ lw_tbl, w.before #[Value.ref b] s = true) (hgv : (Jvm.Cond.and given_1 narrow_1).before #[Value.ref b] s = true) : ∃ Z : th_Zt, th_Z Z (fun q : Nat => s.heap.size ≤ q) s s.heap ∧ Z.2.1 = th_wX ∧ Z.2.2 = th_wY := by
  have hs := flat_of_before _ hgv
  have hA : ∀ a : Nat, a < s.heap.size → ¬ (fun q : Nat => s.heap.size ≤ q) a := fun a h => Nat.not_le.mpr h
  obtain ⟨tX, eX, TX⟩ := va_Tof (tm := (Term.static "BayMoorings" "WIND_X" "[I")) (N := 8) (f := fun j => .int (th_wX j)) (by decide) (hs (.arrayOf (Term.static "BayMoorings" "WIND_X" "[I") .int) (by decide +kernel)) (va_eqt (hs (.eq (.length (Term.static "BayMoorings" "WIND_X" "[I")) (.int 8)) (by decide +kernel))) (fun j hj => by
    rcases (show j = 0 ∨ j = 1 ∨ j = 2 ∨ j = 3 ∨ j = 4 ∨ j = 5 ∨ j = 6 ∨ j = 7 by omega) with rfl | rfl | rfl | rfl | rfl | rfl | rfl | rfl
    · exact va_eqt (hs (.eq (.elem (Term.static "BayMoorings" "WIND_X" "[I") (.int 0)) (.int (0))) (by decide +kernel))
    · exact va_eqt (hs (.eq (.elem (Term.static "BayMoorings" "WIND_X" "[I") (.int 1)) (.int (1))) (by decide +kernel))
    · exact va_eqt (hs (.eq (.elem (Term.static "BayMoorings" "WIND_X" "[I") (.int 2)) (.int (1))) (by decide +kernel))
    · exact va_eqt (hs (.eq (.elem (Term.static "BayMoorings" "WIND_X" "[I") (.int 3)) (.int (1))) (by decide +kernel))
    · exact va_eqt (hs (.eq (.elem (Term.static "BayMoorings" "WIND_X" "[I") (.int 4)) (.int (0))) (by decide +kernel))
    · exact va_eqt (hs (.eq (.elem (Term.static "BayMoorings" "WIND_X" "[I") (.int 5)) (.int (-1))) (by decide +kernel))
    · exact va_eqt (hs (.eq (.elem (Term.static "BayMoorings" "WIND_X" "[I") (.int 6)) (.int (-1))) (by decide +kernel))
    · exact va_eqt (hs (.eq (.elem (Term.static "BayMoorings" "WIND_X" "[I") (.int 7)) (.int (-1))) (by decide +kernel))) hA
  have ZX := va_Zref (C := "BayMoorings") (n := "WIND_X") (d := "[I") (hts (.laysStatic "BayMoorings" "WIND_X" "[I") mv_3_46) (hts (.initialized "BayMoorings") mw_1_1.1) eX hA
  obtain ⟨tY, eY, TY⟩ := va_Tof (tm := (Term.static "BayMoorings" "WIND_Y" "[I")) (N := 8) (f := fun j => .int (th_wY j)) (by decide) (hs (.arrayOf (Term.static "BayMoorings" "WIND_Y" "[I") .int) (by decide +kernel)) (va_eqt (hs (.eq (.length (Term.static "BayMoorings" "WIND_Y" "[I")) (.int 8)) (by decide +kernel))) (fun j hj => by
    rcases (show j = 0 ∨ j = 1 ∨ j = 2 ∨ j = 3 ∨ j = 4 ∨ j = 5 ∨ j = 6 ∨ j = 7 by omega) with rfl | rfl | rfl | rfl | rfl | rfl | rfl | rfl
    · exact va_eqt (hs (.eq (.elem (Term.static "BayMoorings" "WIND_Y" "[I") (.int 0)) (.int (-1))) (by decide +kernel))
    · exact va_eqt (hs (.eq (.elem (Term.static "BayMoorings" "WIND_Y" "[I") (.int 1)) (.int (-1))) (by decide +kernel))
    · exact va_eqt (hs (.eq (.elem (Term.static "BayMoorings" "WIND_Y" "[I") (.int 2)) (.int (0))) (by decide +kernel))
    · exact va_eqt (hs (.eq (.elem (Term.static "BayMoorings" "WIND_Y" "[I") (.int 3)) (.int (1))) (by decide +kernel))
    · exact va_eqt (hs (.eq (.elem (Term.static "BayMoorings" "WIND_Y" "[I") (.int 4)) (.int (1))) (by decide +kernel))
    · exact va_eqt (hs (.eq (.elem (Term.static "BayMoorings" "WIND_Y" "[I") (.int 5)) (.int (1))) (by decide +kernel))
    · exact va_eqt (hs (.eq (.elem (Term.static "BayMoorings" "WIND_Y" "[I") (.int 6)) (.int (0))) (by decide +kernel))
    · exact va_eqt (hs (.eq (.elem (Term.static "BayMoorings" "WIND_Y" "[I") (.int 7)) (.int (-1))) (by decide +kernel))) hA
  have ZY := va_Zref (C := "BayMoorings") (n := "WIND_Y") (d := "[I") (hts (.laysStatic "BayMoorings" "WIND_Y" "[I") mv_3_48) (hts (.initialized "BayMoorings") mw_1_1.1) eY hA
  exact ⟨((tX, tY), th_wX, th_wY), ⟨ZX, TX, ZY, TY⟩, rfl, rfl⟩
end
section
set_option maxHeartbeats 20000000 in
set_option maxRecDepth 100000 in
theorem law_loop {p : Program} {l : Launch} {e : Env} {s : State} {m : MethodId} {below : List Frame} {meth : Method} {c : Code} {D : va_G} {cA : Nat → ClassId} {Z : th_Zt} {b L : Nat} {xs : Nat → Int32} {A : Nat → Nat} (hL : L ≤ 2560) (C0 : lw_At p s m meth c b L xs) (hK : va_K D vwCl (th_tys cA) s) (hN : th_N s) (hZ : th_Z Z (fun q : Nat => s.heap.size ≤ q) s s.heap) :
    ∀ (n i : Nat) (y : Int32), y.toInt = 5 * (i : Int) → 5 * i ≤ L → L - 5 * i < n → lc_K p l e s m below meth c D cA b (A 11) (A 12) y (fun (t : th_t) (g : th_i) (r : th_r) => Rel Z t g r g r A) (56 + 2 * i) (1337 + 32 * i) (lw_Z below #[Value.ref b] s) 18 := by
  intro n
  induction n with
  | zero =>
    intro i y h1 h2 h3
    exact absurd h3 (Nat.not_lt_zero _)
  | succ n ih =>
    intro i y hyi hi hn τ gi gr H locs ls hH hS hT t1 t2 hv hl
    obtain ⟨hx, hb, hr, hml, hown, hts0, hX, hbl, hlocks, hgv⟩ := id C0
    have hbA : ¬ (fun q : Nat => s.heap.size ≤ q) b := Nat.not_le.mpr hbl
    refine lv_iload_n hx hb dL_law_18 rfl (lv_at hl 3 rfl) ?_
    refine lv_aload_n hx hb dL_law_19 rfl (lv_at hl 0 rfl) ?_
    refine va_slen hx hb hX hbl hbA hS dL_law_20 ?_
    refine lv_iconst (v := 5) hx hb dL_law_21 (by decide) ?_
    refine lv_isub hx hb dL_law_22 ?_
    refine lv_topi (fun z ez => ?_)
    have h5 : (5 : Int32).toInt = 5 := by decide
    have hLt : (Int32.ofNat L).toInt = (L : Int) := nI_toInt (by omega)
    have hz : z.toInt = (L : Int) - 5 := by
      rw [ez, Int32.toInt_sub, hLt, h5]
      exact rg_bm (by omega) (by omega)
    refine lv_icmp_gt (tgt := 1152) hx hb dL_law_23 (by decide) (fun c1 => ?_) (fun c1 => ?_)
    · refine lv_iconst (v := 1) hx hb dL_law_1152 (by decide) ?_
      refine va_forget (fun q hq => hS.2.2 q hq) ?_
      refine W.widen (k := 600000) (n := 7302249) (by omega) (by omega) ?_
      exact lw_ret hx hb hr hlocks dL_law_1153
    · have c2 := Int32.le_iff_toInt_le.mp (Int32.not_lt.mp c1)
      have hy : 0 ≤ y.toInt ∧ y.toInt + 5 ≤ (L : Int) := ⟨by omega, by omega⟩
      have K : lc_K p l e s m below meth c D cA b (A 11) (A 12) y (fun (t : th_t) (g : th_i) (r : th_r) => Rel Z t g r g r A) (56 + 2 * i + 2) (1337 + 32 * i + 32) (lw_Z below #[Value.ref b] s) 1146 := by
        intro τ gi gr H locs ls hH hS hT t1 t2 hv hl
        obtain ⟨y5, e5⟩ : ∃ v : Int32, v = y + 5 := ⟨_, rfl⟩
        refine lv_iinc (v := y5) (lv' := [(3, .int y5), (0, .ref b), (1, .ref (A 11)), (2, .ref (A 12))]) hx hb dL_law_1146 hl (k := 3) rfl (by rw [e5]; rfl) (by decide) rfl (fun ls hl => ?_)
        refine lv_goto (tgt := 18) hx hb dL_law_1149 (by decide) ?_
        have hy5 : y5.toInt = 5 * ((i + 1 : Nat) : Int) := by
          rw [e5, Int32.toInt_add, h5, rg_bm (by omega) (by omega)]
          omega
        refine W.cs (cells' := 56 + 2 * (i + 1)) (slots' := 1337 + 32 * (i + 1)) (by omega) (by omega) ?_
        exact ih (i + 1) y5 hy5 (by omega) (by omega) τ gi gr H locs ls hH hS hT t1 t2 hv (lv_sub hl [1, 2, 3, 0] rfl)
      refine lv_aload_n hx hb dL_law_26 rfl (lv_at hl 0 rfl) ?_
      refine lv_iload_n hx hb dL_law_27 rfl (lv_at hl 3 rfl) ?_
      refine va_sld hx hb hX hbl hbA hS (vp_in_iff.mpr ⟨hy.1, by omega⟩) dL_law_28 ?_
      refine lv_bipush (v := 63) hx hb dL_law_29 (by decide) ?_
      refine lv_iand hx hb dL_law_31 ?_
      refine lv_topi (fun w ew => ?_)
      have fw : rg 0 63 w := by rw [ew]; exact rg_and 6 (by decide) (by decide) (by decide)
      have fw1 := fw.1
      rcases Int.lt_or_le 33 w.toInt with y9 | y9
      · refine lv_tableOut (tgt := 1146) hx hb dL_law_32 (Or.inr y9) (by decide) ?_
        refine W.widen (k := 56 + 2 * i + 2) (n := 1337 + 32 * i + 32) (by omega) (by omega) ?_
        exact K _ _ _ _ _ _ hH hS hT t1 t2 hv hl
      rcases (show w.toInt = 0 ∨ w.toInt = 1 ∨ w.toInt = 2 ∨ w.toInt = 3 ∨ w.toInt = 4 ∨ w.toInt = 5 ∨ w.toInt = 6 ∨ w.toInt = 7 ∨ w.toInt = 8 ∨ w.toInt = 9 ∨ w.toInt = 10 ∨ w.toInt = 11 ∨ w.toInt = 12 ∨ w.toInt = 13 ∨ w.toInt = 14 ∨ w.toInt = 15 ∨ w.toInt = 16 ∨ w.toInt = 17 ∨ w.toInt = 18 ∨ w.toInt = 19 ∨ w.toInt = 20 ∨ w.toInt = 21 ∨ w.toInt = 22 ∨ w.toInt = 23 ∨ w.toInt = 24 ∨ w.toInt = 25 ∨ w.toInt = 26 ∨ w.toInt = 27 ∨ w.toInt = 28 ∨ w.toInt = 29 ∨ w.toInt = 30 ∨ w.toInt = 31 ∨ w.toInt = 32 ∨ w.toInt = 33 by omega) with h | h | h | h | h | h | h | h | h | h | h | h | h | h | h | h | h | h | h | h | h | h | h | h | h | h | h | h | h | h | h | h | h | h
      · refine lv_tableIn (tgt := 184) hx hb dL_law_32 (by omega) (by omega) (by rw [h]; rfl) (by decide) ?_
        exact law_c0 C0 hK hN hZ hL hy (by omega) (by omega) K _ _ _ _ _ _ hH hS hT t1 t2 hv hl
      · refine lv_tableIn (tgt := 237) hx hb dL_law_32 (by omega) (by omega) (by rw [h]; rfl) (by decide) ?_
        exact law_c1 C0 hK hN hZ hL hy (by omega) (by omega) K _ _ _ _ _ _ hH hS hT t1 t2 hv hl
      · refine lv_tableIn (tgt := 280) hx hb dL_law_32 (by omega) (by omega) (by rw [h]; rfl) (by decide) ?_
        exact law_c2 C0 hK hN hZ hL hy (by omega) (by omega) K _ _ _ _ _ _ hH hS hT t1 t2 hv hl
      · refine lv_tableIn (tgt := 313) hx hb dL_law_32 (by omega) (by omega) (by rw [h]; rfl) (by decide) ?_
        exact law_c3 C0 hK hN hZ hL hy (by omega) (by omega) K _ _ _ _ _ _ hH hS hT t1 t2 hv hl
      · refine lv_tableIn (tgt := 346) hx hb dL_law_32 (by omega) (by omega) (by rw [h]; rfl) (by decide) ?_
        exact law_c4 C0 hK hN hZ hL hy (by omega) (by omega) K _ _ _ _ _ _ hH hS hT t1 t2 hv hl
      · refine lv_tableIn (tgt := 369) hx hb dL_law_32 (by omega) (by omega) (by rw [h]; rfl) (by decide) ?_
        exact law_c5 C0 hK hN hZ hL hy (by omega) (by omega) K _ _ _ _ _ _ hH hS hT t1 t2 hv hl
      · refine lv_tableIn (tgt := 402) hx hb dL_law_32 (by omega) (by omega) (by rw [h]; rfl) (by decide) ?_
        exact law_c6 C0 hK hN hZ hL hy (by omega) (by omega) K _ _ _ _ _ _ hH hS hT t1 t2 hv hl
      · refine lv_tableIn (tgt := 435) hx hb dL_law_32 (by omega) (by omega) (by rw [h]; rfl) (by decide) ?_
        exact law_c7 C0 hK hN hZ hL hy (by omega) (by omega) K _ _ _ _ _ _ hH hS hT t1 t2 hv hl
      · refine lv_tableIn (tgt := 478) hx hb dL_law_32 (by omega) (by omega) (by rw [h]; rfl) (by decide) ?_
        exact law_c8 C0 hK hN hZ hL hy (by omega) (by omega) K _ _ _ _ _ _ hH hS hT t1 t2 hv hl
      · refine lv_tableIn (tgt := 511) hx hb dL_law_32 (by omega) (by omega) (by rw [h]; rfl) (by decide) ?_
        exact law_c9 C0 hK hN hZ hL hy (by omega) (by omega) K _ _ _ _ _ _ hH hS hT t1 t2 hv hl
      · refine lv_tableIn (tgt := 564) hx hb dL_law_32 (by omega) (by omega) (by rw [h]; rfl) (by decide) ?_
        exact law_c10 C0 hK hN hZ hL hy (by omega) (by omega) K _ _ _ _ _ _ hH hS hT t1 t2 hv hl
      · refine lv_tableIn (tgt := 597) hx hb dL_law_32 (by omega) (by omega) (by rw [h]; rfl) (by decide) ?_
        exact law_c11 C0 hK hN hZ hL hy (by omega) (by omega) K _ _ _ _ _ _ hH hS hT t1 t2 hv hl
      · refine lv_tableIn (tgt := 620) hx hb dL_law_32 (by omega) (by omega) (by rw [h]; rfl) (by decide) ?_
        exact law_c12 C0 hK hN hZ hL hy (by omega) (by omega) K _ _ _ _ _ _ hH hS hT t1 t2 hv hl
      · refine lv_tableIn (tgt := 653) hx hb dL_law_32 (by omega) (by omega) (by rw [h]; rfl) (by decide) ?_
        exact law_c13 C0 hK hN hZ hL hy (by omega) (by omega) K _ _ _ _ _ _ hH hS hT t1 t2 hv hl
      · refine lv_tableIn (tgt := 676) hx hb dL_law_32 (by omega) (by omega) (by rw [h]; rfl) (by decide) ?_
        exact law_c14 C0 hK hN hZ hL hy (by omega) (by omega) K _ _ _ _ _ _ hH hS hT t1 t2 hv hl
      · refine lv_tableIn (tgt := 699) hx hb dL_law_32 (by omega) (by omega) (by rw [h]; rfl) (by decide) ?_
        exact law_c15 C0 hK hN hZ hL hy (by omega) (by omega) K _ _ _ _ _ _ hH hS hT t1 t2 hv hl
      · refine lv_tableIn (tgt := 722) hx hb dL_law_32 (by omega) (by omega) (by rw [h]; rfl) (by decide) ?_
        exact law_c16 C0 hK hN hZ hL hy (by omega) (by omega) K _ _ _ _ _ _ hH hS hT t1 t2 hv hl
      · refine lv_tableIn (tgt := 755) hx hb dL_law_32 (by omega) (by omega) (by rw [h]; rfl) (by decide) ?_
        exact law_c17 C0 hK hN hZ hL hy (by omega) (by omega) K _ _ _ _ _ _ hH hS hT t1 t2 hv hl
      · refine lv_tableIn (tgt := 778) hx hb dL_law_32 (by omega) (by omega) (by rw [h]; rfl) (by decide) ?_
        exact law_c18 C0 hK hN hZ hL hy (by omega) (by omega) K _ _ _ _ _ _ hH hS hT t1 t2 hv hl
      · refine lv_tableIn (tgt := 811) hx hb dL_law_32 (by omega) (by omega) (by rw [h]; rfl) (by decide) ?_
        exact law_c19 C0 hK hN hZ hL hy (by omega) (by omega) K _ _ _ _ _ _ hH hS hT t1 t2 hv hl
      · refine lv_tableIn (tgt := 834) hx hb dL_law_32 (by omega) (by omega) (by rw [h]; rfl) (by decide) ?_
        exact law_c20 C0 hK hN hZ hL hy (by omega) (by omega) K _ _ _ _ _ _ hH hS hT t1 t2 hv hl
      · refine lv_tableIn (tgt := 857) hx hb dL_law_32 (by omega) (by omega) (by rw [h]; rfl) (by decide) ?_
        exact law_c21 C0 hK hN hZ hL hy (by omega) (by omega) K _ _ _ _ _ _ hH hS hT t1 t2 hv hl
      · refine lv_tableIn (tgt := 870) hx hb dL_law_32 (by omega) (by omega) (by rw [h]; rfl) (by decide) ?_
        exact law_c22 C0 hK hN hZ hL hy (by omega) (by omega) K _ _ _ _ _ _ hH hS hT t1 t2 hv hl
      · refine lv_tableIn (tgt := 893) hx hb dL_law_32 (by omega) (by omega) (by rw [h]; rfl) (by decide) ?_
        exact law_c23 C0 hK hN hZ hL hy (by omega) (by omega) K _ _ _ _ _ _ hH hS hT t1 t2 hv hl
      · refine lv_tableIn (tgt := 936) hx hb dL_law_32 (by omega) (by omega) (by rw [h]; rfl) (by decide) ?_
        exact law_c24 C0 hK hN hZ hL hy (by omega) (by omega) K _ _ _ _ _ _ hH hS hT t1 t2 hv hl
      · refine lv_tableIn (tgt := 949) hx hb dL_law_32 (by omega) (by omega) (by rw [h]; rfl) (by decide) ?_
        exact law_c25 C0 hK hN hZ hL hy (by omega) (by omega) K _ _ _ _ _ _ hH hS hT t1 t2 hv hl
      · refine lv_tableIn (tgt := 972) hx hb dL_law_32 (by omega) (by omega) (by rw [h]; rfl) (by decide) ?_
        exact law_c26 C0 hK hN hZ hL hy (by omega) (by omega) K _ _ _ _ _ _ hH hS hT t1 t2 hv hl
      · refine lv_tableIn (tgt := 995) hx hb dL_law_32 (by omega) (by omega) (by rw [h]; rfl) (by decide) ?_
        exact law_c27 C0 hK hN hZ hL hy (by omega) (by omega) K _ _ _ _ _ _ hH hS hT t1 t2 hv hl
      · refine lv_tableIn (tgt := 1028) hx hb dL_law_32 (by omega) (by omega) (by rw [h]; rfl) (by decide) ?_
        exact law_c28 C0 hK hN hZ hL hy (by omega) (by omega) K _ _ _ _ _ _ hH hS hT t1 t2 hv hl
      · refine lv_tableIn (tgt := 1051) hx hb dL_law_32 (by omega) (by omega) (by rw [h]; rfl) (by decide) ?_
        exact law_c29 C0 hK hN hZ hL hy (by omega) (by omega) K _ _ _ _ _ _ hH hS hT t1 t2 hv hl
      · refine lv_tableIn (tgt := 1064) hx hb dL_law_32 (by omega) (by omega) (by rw [h]; rfl) (by decide) ?_
        exact law_c30 C0 hK hN hZ hL hy (by omega) (by omega) K _ _ _ _ _ _ hH hS hT t1 t2 hv hl
      · refine lv_tableIn (tgt := 1087) hx hb dL_law_32 (by omega) (by omega) (by rw [h]; rfl) (by decide) ?_
        exact law_c31 C0 hK hN hZ hL hy (by omega) (by omega) K _ _ _ _ _ _ hH hS hT t1 t2 hv hl
      · refine lv_tableIn (tgt := 1100) hx hb dL_law_32 (by omega) (by omega) (by rw [h]; rfl) (by decide) ?_
        exact law_c32 C0 hK hN hZ hL hy (by omega) (by omega) K _ _ _ _ _ _ hH hS hT t1 t2 hv hl
      · refine lv_tableIn (tgt := 1123) hx hb dL_law_32 (by omega) (by omega) (by rw [h]; rfl) (by decide) ?_
        exact law_c33 C0 hK hN hZ hL hy (by omega) (by omega) K _ _ _ _ _ _ hH hS hT t1 t2 hv hl
end
section
set_option maxHeartbeats 20000000 in
set_option maxRecDepth 100000 in
theorem whole_start {p : Program} {e : Env} {s : State} {m : MethodId} {below : List Frame} {meth : Method} {c : Code} (l : Launch) {b L : Nat} {xs : Nat → Int32} (hL : L ≤ 2560) (C0 : lw_At p s m meth c b L xs) : W p l e room_1 s m #[Value.ref b] below meth c s.heap [] 0 0 (lw_Z below #[Value.ref b] s) (entryFrame m ([Value.ref b] : List Value).toArray 4) := by
  obtain ⟨hx, hb, hr, hml, hown, hts0, hX, hbl, hlocks, hgv⟩ := id C0
  have hts := hts0
  have hA : ∀ q : Nat, s.heap.size ≤ q → (fun q : Nat => s.heap.size ≤ q) q := fun _ h => h
  obtain ⟨D, cA, hK⟩ := law_K (args := #[Value.ref b]) hts0
  have hN := law_N (args := #[Value.ref b]) hts0
  obtain ⟨Z, hZ, hZx, hZy⟩ := law_Z hts0 hgv
  have hS : va_S (fun q : Nat => s.heap.size ≤ q) s.heap s.heap [] := va_S.rf
  have hH : th_H D cA (fun _ => 0) (fun _ _ => 0) (fun _ _ => none) s.heap := fun a ha => absurd rfl ha
  have hT : ∀ q, (fun _ : Nat => (0 : Nat)) q ≠ 0 → s.heap.size ≤ q := fun q hq => absurd rfl hq
  obtain ⟨τ0, et0⟩ : ∃ t : th_t, t = fun _ => 0 := ⟨_, rfl⟩
  rw [← et0] at hH hT
  obtain ⟨gi0, eg0⟩ : ∃ t : th_i, t = fun _ _ => 0 := ⟨_, rfl⟩
  rw [← eg0] at hH
  obtain ⟨gr0, er0⟩ : ∃ t : th_r, t = fun _ _ => none := ⟨_, rfl⟩
  rw [← er0] at hH
  have hl := lv_entry ([.ref b]) (n := 4) (Nat.le_of_ble_eq_true rfl)
  rw [lg_entry_eq]
  generalize (lg_sl ([.ref b]) ++ List.replicate (4 - (lg_sl ([.ref b])).length) Slot.unset).toArray = ls at hl ⊢
  have hl : lv_has ls 4 [(0, .ref b)] := hl
  have hle1a := hS.1
  refine th_newO (ci := 10) (fs := [.null, .null, .null, .null, .null, .null, .null, .int 0, .int 0, .int 0]) (C := RX11) (T := TX11) (N := 10) hx hb hts0 inX11 tyX11 tyX11_ok hown (hts0 (.classLink RL 7 RX11) mv_1_18) (hts0 (.instantiable RX11 10) mv_1_19) (hts0 (.initialized RX11) mw_1_1.1) hK hH hS hA rfl (fun j hj => by rcases (show j = 0 ∨ j = 1 ∨ j = 2 ∨ j = 3 ∨ j = 4 ∨ j = 5 ∨ j = 6 ∨ j = 7 ∨ j = 8 ∨ j = 9 by omega) with rfl | rfl | rfl | rfl | rfl | rfl | rfl | rfl | rfl | rfl <;> rfl) (by simp only [room_1]; omega) (by simp only [room_1]; omega) dL_law_0 (fun q1 H s1 y1 n1 o1 hR1 hH hS => ?_)
  have le1 : s.heap.size ≤ q1 := by rw [← s1]; exact hle1a
  refine W.widen (k := 1) (n := 10) (by omega) (by omega) ?_
  refine lv_dup hx hb dL_law_3 rfl ?_
  have hle1 := hS.1
  have hAC1 := th_AlC (a := q1) hT hS le1
  refine va_callv (va_runI (As := []) (rest := [.ref q1]) ⟨hx, hb, hml, hown, hts⟩ (k_X11_init l D cA Z τ0 gi0 gr0 _ q1) (cwI 0 hts gL_law_X11_init rfl rfl rfl (hts0 (.initialized RX11) mw_1_1.1) (hts0 (.methodLink RL 9 yX11_init) mv_1_20) (hts0 (.instanceMethod yX11_init) mv_1_21) rfl (by decide +kernel) ⟨Nat.le_of_ble_eq_true rfl, Nat.le_of_ble_eq_true rfl⟩) ⟨th_blindC, th_preC hH hK hN hZ hS hAC1 n1 hR1⟩ rfl rfl hl.1 rfl (lv_room (Nat.le_of_ble_eq_true rfl)) dL_law_4 (by refine ⟨?_, ?_⟩ <;> simp only [room_1] <;> omega)) hS (fun x _ h => hAC1 x h) hAC1 (fun u t H locs ht hvm hw1 hB hz1 hk1 hS => ?_)
  obtain ⟨τ1, gi1, gr1⟩ := u
  try dsimp only at hw1 hB
  rw [ht] at hB
  have hH := hB
  have hT := th_Tx hT hw1.1 hle1 le1
  have t1 := hw1.2.1
  have hH1J := hH.J
  refine W.widen (k := 26) (n := 590) (by omega) (by omega) ?_
  refine lv_astore_n (i := 1) (lv' := [(1, .ref q1), (0, .ref b)]) hx hb dL_law_7 rfl hl (by decide) rfl (fun ls hl => ?_)
  have hle2a := hS.1
  refine th_newO (ci := 11) (fs := [.int 0, .null, .null, .null, .null, .null, .null, .null, .int 0, .null, .null, .null, .null, .null, .int 0, .null, .null, .int 0, .null, .null, .int 0, .null, .null, .int 0, .int 0, .null, .null, .int 0, .null, .null, .null, .null, .null, .int 0, .null, .null, .null, .null]) (C := RX12) (T := TX12) (N := 38) hx hb hts0 inX12 tyX12 tyX12_ok hown (hts0 (.classLink RL 10 RX12) mv_4_130) (hts0 (.instantiable RX12 38) mv_4_131) (hts0 (.initialized RX12) mw_1_9.1) hK hH hS hA rfl (fun j hj => by rcases (show j = 0 ∨ j = 1 ∨ j = 2 ∨ j = 3 ∨ j = 4 ∨ j = 5 ∨ j = 6 ∨ j = 7 ∨ j = 8 ∨ j = 9 ∨ j = 10 ∨ j = 11 ∨ j = 12 ∨ j = 13 ∨ j = 14 ∨ j = 15 ∨ j = 16 ∨ j = 17 ∨ j = 18 ∨ j = 19 ∨ j = 20 ∨ j = 21 ∨ j = 22 ∨ j = 23 ∨ j = 24 ∨ j = 25 ∨ j = 26 ∨ j = 27 ∨ j = 28 ∨ j = 29 ∨ j = 30 ∨ j = 31 ∨ j = 32 ∨ j = 33 ∨ j = 34 ∨ j = 35 ∨ j = 36 ∨ j = 37 by omega) with rfl | rfl | rfl | rfl | rfl | rfl | rfl | rfl | rfl | rfl | rfl | rfl | rfl | rfl | rfl | rfl | rfl | rfl | rfl | rfl | rfl | rfl | rfl | rfl | rfl | rfl | rfl | rfl | rfl | rfl | rfl | rfl | rfl | rfl | rfl | rfl | rfl | rfl <;> rfl) (by simp only [room_1]; omega) (by simp only [room_1]; omega) dL_law_8 (fun q2 H s2 y2 n2 o2 hR2 hH hS => ?_)
  have le2 : s.heap.size ≤ q2 := by rw [← s2]; exact hle2a
  refine W.widen (k := 27) (n := 628) (by omega) (by omega) ?_
  refine lv_dup hx hb dL_law_11 rfl ?_
  have hle2 := hS.1
  have hAC2 := th_AlC (a := q2) hT hS le2
  refine va_callv (va_runI (As := []) (rest := [.ref q2]) ⟨hx, hb, hml, hown, hts⟩ (k_X12_init l D cA Z τ1 gi1 gr1 _ q2) (cwI 0 hts gL_law_X12_init rfl rfl rfl (hts0 (.initialized RX12) mw_1_9.1) (hts0 (.methodLink RL 12 yX12_init) mv_4_132) (hts0 (.instanceMethod yX12_init) mv_4_133) rfl (by decide +kernel) ⟨Nat.le_of_ble_eq_true rfl, Nat.le_of_ble_eq_true rfl⟩) ⟨th_blindC, th_preC hH hK hN hZ hS hAC2 n2 hR2⟩ rfl rfl hl.1 rfl (lv_room (Nat.le_of_ble_eq_true rfl)) dL_law_12 (by refine ⟨?_, ?_⟩ <;> simp only [room_1] <;> omega)) hS (fun x _ h => hAC2 x h) hAC2 (fun u t H locs ht hvm hw2 hB hz2 hk2 hS => ?_)
  obtain ⟨τ2, gi2, gr2⟩ := u
  try dsimp only at hw2 hB
  rw [ht] at hB
  have hH := hB
  have hT := th_Tx hT hw2.1 hle2 le2
  have t2 := hw2.2.1
  refine W.widen (k := 56) (n := 1337) (by omega) (by omega) ?_
  refine lv_astore_n (i := 2) (lv' := [(2, .ref q2), (1, .ref q1), (0, .ref b)]) hx hb dL_law_15 rfl hl (by decide) rfl (fun ls hl => ?_)
  obtain ⟨A, rfl, rfl, hCs, hQs, hC1s, vC, vB, vT⟩ := start_A (hw1.2.2.2.2.2) n1 hH1J t1 hw2.1 rfl hH.J t2
  have vR := st_v (hw1.2.2.2.2.2) n1 hC1s hw2.1 rfl
  have hv : Rel Z τ2 gi2 gr2 gi2 gr2 A := ⟨hCs, hQs, (vB 6 (by decide)).trans (hw2.2.2.2.1).symm, (vB 5 (by decide)).trans (hw2.2.2.1).symm, (fun i hi => by rw [hw2.2.2.2.1] at hi; exact absurd hi (by show ¬ (i : Int) < 0; omega)), (fun j _ => by rw [vT, hw2.2.2.2.2.2.2.2.2.2.2.2.1 (A 51) (hQs.e 13 51 (by decide))]), (fun i hi => by rw [hw2.2.2.1] at hi; exact absurd hi (by show ¬ (i : Int) < 0; omega)), ⟨fun i q hi => by rw [vB 5 (by decide)] at hi; exact absurd hi (by show ¬ (i : Int) < 0; omega), fun i i2 q q2 w hi => by rw [vB 5 (by decide)] at hi; exact absurd hi (by show ¬ (i : Int) < 0; omega)⟩, ⟨fun h _ => Int.le_of_eq (congrArg Int32.toInt ((vB 8 (by decide)).trans (congrFun vT h).symm)), 0, by decide, (vB 8 (by decide)).trans (congrFun vT 0).symm⟩, (st_rep vR.1 vT), (vB 7 (by decide)).trans (hw2.2.2.2.2.1).symm, (fun j hj => ⟨by rw [hZx], by rw [hZy], hw2.2.2.2.2.2.2.2.2.2.2.2.2.2.2.2.1 (A 52) (hQs.e 15 52 (by decide)) j hj, hw2.2.2.2.2.2.2.2.2.2.2.2.2.2.2.2.2 (A 53) (hQs.e 16 53 (by decide)) j hj⟩), ⟨fun i q hi => by rw [hw2.2.2.2.1] at hi; exact absurd hi (by show ¬ (i : Int) < 0; omega), fun i i2 q q2 w hi => by rw [hw2.2.2.2.1] at hi; exact absurd hi (by show ¬ (i : Int) < 0; omega), fun i _ _ => congrFun (hw2.2.2.2.2.2.2.2.2.2.2.2.2.2.1 (A 56) (hQs.e 21 56 (by decide))) i⟩, (vC 9 (by decide)).trans (hw2.2.2.2.2.2.2.1).symm, (fun i j _ hj => by rw [hw2.2.2.2.2.2.2.2.2.2.2.2.2.2.1 (A 56) (hQs.e 21 56 (by decide))] at hj; exact absurd hj (by show ¬ (j : Int) < 0; omega)), (st_core vR.2.1 vR.2.2.1 vR.2.2.2.1 hw2.2.2.2.1 hw2.2.2.1 hw2.2.2.2.2.2.1 (hw2.2.2.2.2.2.2.2.2.2.2.2.2.1 (A 55) (hQs.e 19 55 (by decide)))), (vC 8 (by decide)).trans (hw2.2.2.2.2.2.2.2.1).symm⟩
  have t1 := (hw2.1.1 (A 11) (by rw [t1]; decide)).trans t1
  refine lv_iconst (v := 0) hx hb dL_law_16 (by decide) ?_
  refine lv_istore_n (i := 3) (lv' := [(3, .int 0), (2, .ref (A 12)), (1, .ref (A 11)), (0, .ref b)]) hx hb dL_law_17 rfl hl (by decide) rfl (fun ls hl => ?_)
  refine W.cs (cells' := 56 + 2 * 0) (slots' := 1337 + 32 * 0) (by omega) (by omega) ?_
  exact law_loop hL C0 hK hN hZ (L + 1) 0 0 (by decide) (by omega) (by omega) _ _ _ _ _ _ hH hS hT t1 t2 hv (lv_sub hl [3, 2, 1, 0] rfl)
end
