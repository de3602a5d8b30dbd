set_option maxHeartbeats 8000000 in
set_option maxRecDepth 100000 in
theorem law_c17 {p : Program} {l : Launch} {e : Env} {s : State} {m : MethodId} {below : List Frame} {meth : Method} {c : Code} {D : va_G} {cA : Nat → ClassId} {Z : th_Zt} {b L : Nat} {xs : Nat → Int32} {A : Nat → Nat} {cells slots : Nat} {y : Int32} {Q : State → Prop} (C0 : lw_At p s m meth c b L xs) (hK : va_K D vwCl (th_tys cA) s) (hN : th_N s) (hZ : th_Z Z (fun q : Nat => s.heap.size ≤ q) s s.heap) (hL : L ≤ 2560) (hy : 0 ≤ y.toInt ∧ y.toInt + 5 ≤ (L : Int)) (hc : cells + 2 ≤ 600000) (hs : slots + 32 ≤ 7302249) (kk : lc_K p l e s m below meth c D cA b (A 11) (A 12) y (fun (t : th_t) (g : th_i) (r : th_r) => Rel Z t g r g r A) (cells + 2) (slots + 32) Q 1146) : lc_K p l e s m below meth c D cA b (A 11) (A 12) y (fun (t : th_t) (g : th_i) (r : th_r) => Rel Z t g r g r A) cells slots Q 755 := by
  intro τ gi gr H locs ls hH hS hT t1 t2 hv hl
  obtain ⟨hx, hb, hr, hml, hown, hts, hX, hbl, hlocks, hgv⟩ := C0
  have hbA : ¬ (fun q : Nat => s.heap.size ≤ q) b := Nat.not_le.mpr hbl
  refine lv_aload_n hx hb dL_law_755 rfl (lv_at hl 1 rfl) ?_
  refine lv_aload_n hx hb dL_law_756 rfl (lv_at hl 0 rfl) ?_
  refine lv_iload_n hx hb dL_law_757 rfl (lv_at hl 3 rfl) ?_
  refine lv_iconst (v := 1) hx hb dL_law_758 (by decide) ?_
  refine lv_iadd hx hb dL_law_759 ?_
  refine lv_topi (fun x1 e1 => ?_)
  refine va_sld hx hb hX hbl hbA hS (sc_in 1 (by decide) (by decide) (by decide) e1 hy hL) dL_law_760 ?_
  refine lv_topi (fun v2 ev2 => ?_)
  have hJ := hH.J
  have hA3 := th_Al hT hS
  have hle3 := hS.1
  refine va_calli (va_runV (As := [.int v2]) (rest := []) ⟨hx, hb, hml, hown, hts⟩ (k_X11_stays l D cA Z τ gi gr _ (A 11) t1 v2) (cwV 1 hts gL_law_X11_stays rfl rfl rfl (by decide +kernel) ⟨Nat.le_of_ble_eq_true rfl, Nat.le_of_ble_eq_true rfl⟩) ⟨th_blind, th_recv hK hH t1 (ci := 10) (by decide) rfl rfl, th_pre hH hK hN hZ hS hA3⟩ rfl rfl hl.1 rfl (lv_room (Nat.le_of_ble_eq_true rfl)) dL_law_761 (by refine ⟨?_, ?_⟩ <;> simp only [room_1] <;> omega)) hS (fun q _ h => hA3 q h) hA3 (fun r3 u t H locs ht hvm hw3 hB hz3 hk3 hS => ?_)
  try dsimp only at hw3 hB
  rw [ht] at hB
  have hH := hB
  obtain ⟨gi3, gr3⟩ := u
  try dsimp only at hw3 hH
  have hJ1 := hH.J
  refine lv_pop hx hb dL_law_764 rfl ?_
  refine lv_aload_n hx hb dL_law_765 rfl (lv_at hl 2 rfl) ?_
  refine lv_aload_n hx hb dL_law_766 rfl (lv_at hl 0 rfl) ?_
  refine lv_iload_n hx hb dL_law_767 rfl (lv_at hl 3 rfl) ?_
  refine lv_iconst (v := 1) hx hb dL_law_768 (by decide) ?_
  refine lv_iadd hx hb dL_law_769 ?_
  refine lv_topi (fun x4 e4 => ?_)
  refine va_sld hx hb hX hbl hbA hS (sc_in 1 (by decide) (by decide) (by decide) e4 hy hL) dL_law_770 ?_
  refine lv_topi (fun v5 ev5 => ?_)
  have hA6 := th_Al hT hS
  have hle6 := hS.1
  refine va_calli (va_runV (As := [.int v5]) (rest := []) ⟨hx, hb, hml, hown, hts⟩ (k_X12_stays l D cA Z τ gi3 gr3 _ (A 12) t2 v5) (cwV 1 hts gL_law_X12_stays rfl rfl rfl (by decide +kernel) ⟨Nat.le_of_ble_eq_true rfl, Nat.le_of_ble_eq_true rfl⟩) ⟨th_blind, th_recv hK hH t2 (ci := 11) (by decide) rfl rfl, th_pre hH hK hN hZ hS hA6⟩ rfl rfl hl.1 rfl (lv_room (Nat.le_of_ble_eq_true rfl)) dL_law_771 (by refine ⟨?_, ?_⟩ <;> simp only [room_1] <;> omega)) hS (fun q _ h => hA6 q h) hA6 (fun r6 u t H locs ht hvm hw6 hB hz6 hk6 hS => ?_)
  try dsimp only at hw6 hB
  rw [ht] at hB
  have hH := hB
  obtain ⟨gi6, gr6⟩ := u
  try dsimp only at hw6 hH
  refine lv_pop hx hb dL_law_774 rfl ?_
  refine lv_goto (tgt := 1146) hx hb dL_law_775 (by decide) ?_
  have ea_v5 : v5 = v2 := by rw [ev5, ev2, e4, e1]
  rw [ea_v5] at hw6
  have hsm := sim_stays hJ hJ1 hv hw3 hw6
  have hv := hsm
  refine W.widen (k := cells + 2) (n := slots + 32) (by omega) (by omega) ?_
  exact kk _ _ _ _ _ _ hH hS hT t1 t2 hv hl

set_option maxHeartbeats 8000000 in
set_option maxRecDepth 100000 in
theorem law_c18 {p : Program} {l : Launch} {e : Env} {s : State} {m : MethodId} {below : List Frame} {meth : Method} {c : Code} {D : va_G} {cA : Nat → ClassId} {Z : th_Zt} {b L : Nat} {xs : Nat → Int32} {A : Nat → Nat} {cells slots : Nat} {y : Int32} {Q : State → Prop} (C0 : lw_At p s m meth c b L xs) (hK : va_K D vwCl (th_tys cA) s) (hN : th_N s) (hZ : th_Z Z (fun q : Nat => s.heap.size ≤ q) s s.heap) (hL : L ≤ 2560) (hy : 0 ≤ y.toInt ∧ y.toInt + 5 ≤ (L : Int)) (hc : cells + 2 ≤ 600000) (hs : slots + 32 ≤ 7302249) (kk : lc_K p l e s m below meth c D cA b (A 11) (A 12) y (fun (t : th_t) (g : th_i) (r : th_r) => Rel Z t g r g r A) (cells + 2) (slots + 32) Q 1146) : lc_K p l e s m below meth c D cA b (A 11) (A 12) y (fun (t : th_t) (g : th_i) (r : th_r) => Rel Z t g r g r A) cells slots Q 778 := by
  intro τ gi gr H locs ls hH hS hT t1 t2 hv hl
  obtain ⟨hx, hb, hr, hml, hown, hts, hX, hbl, hlocks, hgv⟩ := C0
  have hbA : ¬ (fun q : Nat => s.heap.size ≤ q) b := Nat.not_le.mpr hbl
  refine lv_aload_n hx hb dL_law_778 rfl (lv_at hl 1 rfl) ?_
  refine lv_aload_n hx hb dL_law_779 rfl (lv_at hl 0 rfl) ?_
  refine lv_iload_n hx hb dL_law_780 rfl (lv_at hl 3 rfl) ?_
  refine lv_iconst (v := 1) hx hb dL_law_781 (by decide) ?_
  refine lv_iadd hx hb dL_law_782 ?_
  refine lv_topi (fun x1 e1 => ?_)
  refine va_sld hx hb hX hbl hbA hS (sc_in 1 (by decide) (by decide) (by decide) e1 hy hL) dL_law_783 ?_
  refine lv_topi (fun v2 ev2 => ?_)
  refine lv_aload_n hx hb dL_law_784 rfl (lv_at hl 0 rfl) ?_
  refine lv_iload_n hx hb dL_law_785 rfl (lv_at hl 3 rfl) ?_
  refine lv_iconst (v := 2) hx hb dL_law_786 (by decide) ?_
  refine lv_iadd hx hb dL_law_787 ?_
  refine lv_topi (fun x3 e3 => ?_)
  refine va_sld hx hb hX hbl hbA hS (sc_in 2 (by decide) (by decide) (by decide) e3 hy hL) dL_law_788 ?_
  refine lv_topi (fun v4 ev4 => ?_)
  have hJ := hH.J
  have hA5 := th_Al hT hS
  have hle5 := hS.1
  refine va_calli (va_runV (As := [.int v2, .int v4]) (rest := []) ⟨hx, hb, hml, hown, hts⟩ (k_X11_rather l D cA Z τ gi gr _ (A 11) t1 v2 v4) (cwV 2 hts gL_law_X11_rather rfl rfl rfl (by decide +kernel) ⟨Nat.le_of_ble_eq_true rfl, Nat.le_of_ble_eq_true rfl⟩) ⟨th_blind, th_recv hK hH t1 (ci := 10) (by decide) rfl rfl, th_pre hH hK hN hZ hS hA5⟩ rfl rfl hl.1 rfl (lv_room (Nat.le_of_ble_eq_true rfl)) dL_law_789 (by refine ⟨?_, ?_⟩ <;> simp only [room_1] <;> omega)) hS (fun q _ h => hA5 q h) hA5 (fun r5 u t H locs ht hvm hw5 hB hz5 hk5 hS => ?_)
  try dsimp only at hw5 hB
  rw [ht] at hB
  have hH := hB
  obtain ⟨gi5, gr5⟩ := u
  try dsimp only at hw5 hH
  have hJ1 := hH.J
  refine lv_pop hx hb dL_law_792 rfl ?_
  refine lv_aload_n hx hb dL_law_793 rfl (lv_at hl 2 rfl) ?_
  refine lv_aload_n hx hb dL_law_794 rfl (lv_at hl 0 rfl) ?_
  refine lv_iload_n hx hb dL_law_795 rfl (lv_at hl 3 rfl) ?_
  refine lv_iconst (v := 1) hx hb dL_law_796 (by decide) ?_
  refine lv_iadd hx hb dL_law_797 ?_
  refine lv_topi (fun x6 e6 => ?_)
  refine va_sld hx hb hX hbl hbA hS (sc_in 1 (by decide) (by decide) (by decide) e6 hy hL) dL_law_798 ?_
  refine lv_topi (fun v7 ev7 => ?_)
  refine lv_aload_n hx hb dL_law_799 rfl (lv_at hl 0 rfl) ?_
  refine lv_iload_n hx hb dL_law_800 rfl (lv_at hl 3 rfl) ?_
  refine lv_iconst (v := 2) hx hb dL_law_801 (by decide) ?_
  refine lv_iadd hx hb dL_law_802 ?_
  refine lv_topi (fun x8 e8 => ?_)
  refine va_sld hx hb hX hbl hbA hS (sc_in 2 (by decide) (by decide) (by decide) e8 hy hL) dL_law_803 ?_
  refine lv_topi (fun v9 ev9 => ?_)
  have hA10 := th_Al hT hS
  have hle10 := hS.1
  refine va_calli (va_runV (As := [.int v7, .int v9]) (rest := []) ⟨hx, hb, hml, hown, hts⟩ (k_X12_rather l D cA Z τ gi5 gr5 _ (A 12) t2 v7 v9) (cwV 2 hts gL_law_X12_rather rfl rfl rfl (by decide +kernel) ⟨Nat.le_of_ble_eq_true rfl, Nat.le_of_ble_eq_true rfl⟩) ⟨th_blind, th_recv hK hH t2 (ci := 11) (by decide) rfl rfl, th_pre hH hK hN hZ hS hA10⟩ rfl rfl hl.1 rfl (lv_room (Nat.le_of_ble_eq_true rfl)) dL_law_804 (by refine ⟨?_, ?_⟩ <;> simp only [room_1] <;> omega)) hS (fun q _ h => hA10 q h) hA10 (fun r10 u t H locs ht hvm hw10 hB hz10 hk10 hS => ?_)
  try dsimp only at hw10 hB
  rw [ht] at hB
  have hH := hB
  obtain ⟨gi10, gr10⟩ := u
  try dsimp only at hw10 hH
  refine lv_pop hx hb dL_law_807 rfl ?_
  refine lv_goto (tgt := 1146) hx hb dL_law_808 (by decide) ?_
  have ea_v7 : v7 = v2 := by rw [ev7, ev2, e6, e1]
  rw [ea_v7] at hw10
  have ea_v9 : v9 = v4 := by rw [ev9, ev4, e8, e3]
  rw [ea_v9] at hw10
  have hsm := sim_rather hJ hJ1 hv hw5 hw10
  have hv := hsm
  refine W.widen (k := cells + 2) (n := slots + 32) (by omega) (by omega) ?_
  exact kk _ _ _ _ _ _ hH hS hT t1 t2 hv hl

set_option maxHeartbeats 8000000 in
set_option maxRecDepth 100000 in
theorem law_c19 {p : Program} {l : Launch} {e : Env} {s : State} {m : MethodId} {below : List Frame} {meth : Method} {c : Code} {D : va_G} {cA : Nat → ClassId} {Z : th_Zt} {b L : Nat} {xs : Nat → Int32} {A : Nat → Nat} {cells slots : Nat} {y : Int32} {Q : State → Prop} (C0 : lw_At p s m meth c b L xs) (hK : va_K D vwCl (th_tys cA) s) (hN : th_N s) (hZ : th_Z Z (fun q : Nat => s.heap.size ≤ q) s s.heap) (hL : L ≤ 2560) (hy : 0 ≤ y.toInt ∧ y.toInt + 5 ≤ (L : Int)) (hc : cells + 2 ≤ 600000) (hs : slots + 32 ≤ 7302249) (kk : lc_K p l e s m below meth c D cA b (A 11) (A 12) y (fun (t : th_t) (g : th_i) (r : th_r) => Rel Z t g r g r A) (cells + 2) (slots + 32) Q 1146) : lc_K p l e s m below meth c D cA b (A 11) (A 12) y (fun (t : th_t) (g : th_i) (r : th_r) => Rel Z t g r g r A) cells slots Q 811 := by
  intro τ gi gr H locs ls hH hS hT t1 t2 hv hl
  obtain ⟨hx, hb, hr, hml, hown, hts, hX, hbl, hlocks, hgv⟩ := C0
  have hbA : ¬ (fun q : Nat => s.heap.size ≤ q) b := Nat.not_le.mpr hbl
  refine lv_aload_n hx hb dL_law_811 rfl (lv_at hl 1 rfl) ?_
  refine lv_aload_n hx hb dL_law_812 rfl (lv_at hl 0 rfl) ?_
  refine lv_iload_n hx hb dL_law_813 rfl (lv_at hl 3 rfl) ?_
  refine lv_iconst (v := 1) hx hb dL_law_814 (by decide) ?_
  refine lv_iadd hx hb dL_law_815 ?_
  refine lv_topi (fun x1 e1 => ?_)
  refine va_sld hx hb hX hbl hbA hS (sc_in 1 (by decide) (by decide) (by decide) e1 hy hL) dL_law_816 ?_
  refine lv_topi (fun v2 ev2 => ?_)
  have hJ := hH.J
  have hA3 := th_Al hT hS
  have hle3 := hS.1
  refine va_calli (va_runV (As := [.int v2]) (rest := []) ⟨hx, hb, hml, hown, hts⟩ (k_X11_content l D cA Z τ gi gr _ (A 11) t1 v2) (cwV 1 hts gL_law_X11_content rfl rfl rfl (by decide +kernel) ⟨Nat.le_of_ble_eq_true rfl, Nat.le_of_ble_eq_true rfl⟩) ⟨th_blind, th_recv hK hH t1 (ci := 10) (by decide) rfl rfl, th_pre hH hK hN hZ hS hA3⟩ rfl rfl hl.1 rfl (lv_room (Nat.le_of_ble_eq_true rfl)) dL_law_817 (by refine ⟨?_, ?_⟩ <;> simp only [room_1] <;> omega)) hS (fun q _ h => hA3 q h) hA3 (fun r3 u t H locs ht hvm hw3 hB hz3 hk3 hS => ?_)
  try dsimp only at hw3 hB
  rw [ht] at hB
  have hH := hB
  obtain ⟨gi3, gr3⟩ := u
  try dsimp only at hw3 hH
  have hJ1 := hH.J
  refine lv_pop hx hb dL_law_820 rfl ?_
  refine lv_aload_n hx hb dL_law_821 rfl (lv_at hl 2 rfl) ?_
  refine lv_aload_n hx hb dL_law_822 rfl (lv_at hl 0 rfl) ?_
  refine lv_iload_n hx hb dL_law_823 rfl (lv_at hl 3 rfl) ?_
  refine lv_iconst (v := 1) hx hb dL_law_824 (by decide) ?_
  refine lv_iadd hx hb dL_law_825 ?_
  refine lv_topi (fun x4 e4 => ?_)
  refine va_sld hx hb hX hbl hbA hS (sc_in 1 (by decide) (by decide) (by decide) e4 hy hL) dL_law_826 ?_
  refine lv_topi (fun v5 ev5 => ?_)
  have hA6 := th_Al hT hS
  have hle6 := hS.1
  refine va_calli (va_runV (As := [.int v5]) (rest := []) ⟨hx, hb, hml, hown, hts⟩ (k_X12_content l D cA Z τ gi3 gr3 _ (A 12) t2 v5) (cwV 1 hts gL_law_X12_content rfl rfl rfl (by decide +kernel) ⟨Nat.le_of_ble_eq_true rfl, Nat.le_of_ble_eq_true rfl⟩) ⟨th_blind, th_recv hK hH t2 (ci := 11) (by decide) rfl rfl, th_pre hH hK hN hZ hS hA6⟩ rfl rfl hl.1 rfl (lv_room (Nat.le_of_ble_eq_true rfl)) dL_law_827 (by refine ⟨?_, ?_⟩ <;> simp only [room_1] <;> omega)) hS (fun q _ h => hA6 q h) hA6 (fun r6 u t H locs ht hvm hw6 hB hz6 hk6 hS => ?_)
  try dsimp only at hw6 hB
  rw [ht] at hB
  have hH := hB
  obtain ⟨gi6, gr6⟩ := u
  try dsimp only at hw6 hH
  refine lv_pop hx hb dL_law_830 rfl ?_
  refine lv_goto (tgt := 1146) hx hb dL_law_831 (by decide) ?_
  have ea_v5 : v5 = v2 := by rw [ev5, ev2, e4, e1]
  rw [ea_v5] at hw6
  have hsm := sim_content hJ hJ1 hv hw3 hw6
  have hv := hsm
  refine W.widen (k := cells + 2) (n := slots + 32) (by omega) (by omega) ?_
  exact kk _ _ _ _ _ _ hH hS hT t1 t2 hv hl

set_option maxHeartbeats 8000000 in
set_option maxRecDepth 100000 in
theorem law_c20 {p : Program} {l : Launch} {e : Env} {s : State} {m : MethodId} {below : List Frame} {meth : Method} {c : Code} {D : va_G} {cA : Nat → ClassId} {Z : th_Zt} {b L : Nat} {xs : Nat → Int32} {A : Nat → Nat} {cells slots : Nat} {y : Int32} {Q : State → Prop} (C0 : lw_At p s m meth c b L xs) (hK : va_K D vwCl (th_tys cA) s) (hN : th_N s) (hZ : th_Z Z (fun q : Nat => s.heap.size ≤ q) s s.heap) (hL : L ≤ 2560) (hy : 0 ≤ y.toInt ∧ y.toInt + 5 ≤ (L : Int)) (hc : cells + 2 ≤ 600000) (hs : slots + 32 ≤ 7302249) (kk : lc_K p l e s m below meth c D cA b (A 11) (A 12) y (fun (t : th_t) (g : th_i) (r : th_r) => Rel Z t g r g r A) (cells + 2) (slots + 32) Q 1146) : lc_K p l e s m below meth c D cA b (A 11) (A 12) y (fun (t : th_t) (g : th_i) (r : th_r) => Rel Z t g r g r A) cells slots Q 834 := by
  intro τ gi gr H locs ls hH hS hT t1 t2 hv hl
  obtain ⟨hx, hb, hr, hml, hown, hts, hX, hbl, hlocks, hgv⟩ := C0
  have hbA : ¬ (fun q : Nat => s.heap.size ≤ q) b := Nat.not_le.mpr hbl
  refine lv_aload_n hx hb dL_law_834 rfl (lv_at hl 1 rfl) ?_
  refine lv_aload_n hx hb dL_law_835 rfl (lv_at hl 0 rfl) ?_
  refine lv_iload_n hx hb dL_law_836 rfl (lv_at hl 3 rfl) ?_
  refine lv_iconst (v := 1) hx hb dL_law_837 (by decide) ?_
  refine lv_iadd hx hb dL_law_838 ?_
  refine lv_topi (fun x1 e1 => ?_)
  refine va_sld hx hb hX hbl hbA hS (sc_in 1 (by decide) (by decide) (by decide) e1 hy hL) dL_law_839 ?_
  refine lv_topi (fun v2 ev2 => ?_)
  have hJ := hH.J
  have hA3 := th_Al hT hS
  have hle3 := hS.1
  refine va_calli (va_runV (As := [.int v2]) (rest := []) ⟨hx, hb, hml, hown, hts⟩ (k_X11_ring l D cA Z τ gi gr _ (A 11) t1 v2) (cwV 1 hts gL_law_X11_ring rfl rfl rfl (by decide +kernel) ⟨Nat.le_of_ble_eq_true rfl, Nat.le_of_ble_eq_true rfl⟩) ⟨th_blind, th_recv hK hH t1 (ci := 10) (by decide) rfl rfl, th_pre hH hK hN hZ hS hA3⟩ rfl rfl hl.1 rfl (lv_room (Nat.le_of_ble_eq_true rfl)) dL_law_840 (by refine ⟨?_, ?_⟩ <;> simp only [room_1] <;> omega)) hS (fun q _ h => hA3 q h) hA3 (fun r3 u t H locs ht hvm hw3 hB hz3 hk3 hS => ?_)
  try dsimp only at hw3 hB
  rw [ht] at hB
  have hH := hB
  obtain ⟨gi3, gr3⟩ := u
  try dsimp only at hw3 hH
  have hJ1 := hH.J
  refine lv_pop hx hb dL_law_843 rfl ?_
  refine lv_aload_n hx hb dL_law_844 rfl (lv_at hl 2 rfl) ?_
  refine lv_aload_n hx hb dL_law_845 rfl (lv_at hl 0 rfl) ?_
  refine lv_iload_n hx hb dL_law_846 rfl (lv_at hl 3 rfl) ?_
  refine lv_iconst (v := 1) hx hb dL_law_847 (by decide) ?_
  refine lv_iadd hx hb dL_law_848 ?_
  refine lv_topi (fun x4 e4 => ?_)
  refine va_sld hx hb hX hbl hbA hS (sc_in 1 (by decide) (by decide) (by decide) e4 hy hL) dL_law_849 ?_
  refine lv_topi (fun v5 ev5 => ?_)
  have hA6 := th_Al hT hS
  have hle6 := hS.1
  refine va_calli (va_runV (As := [.int v5]) (rest := []) ⟨hx, hb, hml, hown, hts⟩ (k_X12_ring l D cA Z τ gi3 gr3 _ (A 12) t2 v5) (cwV 1 hts gL_law_X12_ring rfl rfl rfl (by decide +kernel) ⟨Nat.le_of_ble_eq_true rfl, Nat.le_of_ble_eq_true rfl⟩) ⟨th_blind, th_recv hK hH t2 (ci := 11) (by decide) rfl rfl, th_pre hH hK hN hZ hS hA6⟩ rfl rfl hl.1 rfl (lv_room (Nat.le_of_ble_eq_true rfl)) dL_law_850 (by refine ⟨?_, ?_⟩ <;> simp only [room_1] <;> omega)) hS (fun q _ h => hA6 q h) hA6 (fun r6 u t H locs ht hvm hw6 hB hz6 hk6 hS => ?_)
  try dsimp only at hw6 hB
  rw [ht] at hB
  have hH := hB
  obtain ⟨gi6, gr6⟩ := u
  try dsimp only at hw6 hH
  refine lv_pop hx hb dL_law_853 rfl ?_
  refine lv_goto (tgt := 1146) hx hb dL_law_854 (by decide) ?_
  have ea_v5 : v5 = v2 := by rw [ev5, ev2, e4, e1]
  rw [ea_v5] at hw6
  have hsm := sim_ring hJ hJ1 hv hw3 hw6
  have hv := hsm
  refine W.widen (k := cells + 2) (n := slots + 32) (by omega) (by omega) ?_
  exact kk _ _ _ _ _ _ hH hS hT t1 t2 hv hl

set_option maxHeartbeats 8000000 in
set_option maxRecDepth 100000 in
theorem law_c21 {p : Program} {l : Launch} {e : Env} {s : State} {m : MethodId} {below : List Frame} {meth : Method} {c : Code} {D : va_G} {cA : Nat → ClassId} {Z : th_Zt} {b L : Nat} {xs : Nat → Int32} {A : Nat → Nat} {cells slots : Nat} {y : Int32} {Q : State → Prop} (C0 : lw_At p s m meth c b L xs) (hK : va_K D vwCl (th_tys cA) s) (hN : th_N s) (hZ : th_Z Z (fun q : Nat => s.heap.size ≤ q) s s.heap) (hL : L ≤ 2560) (hy : 0 ≤ y.toInt ∧ y.toInt + 5 ≤ (L : Int)) (hc : cells + 2 ≤ 600000) (hs : slots + 32 ≤ 7302249) (kk : lc_K p l e s m below meth c D cA b (A 11) (A 12) y (fun (t : th_t) (g : th_i) (r : th_r) => Rel Z t g r g r A) (cells + 2) (slots + 32) Q 1146) : lc_K p l e s m below meth c D cA b (A 11) (A 12) y (fun (t : th_t) (g : th_i) (r : th_r) => Rel Z t g r g r A) cells slots Q 857 := by
  intro τ gi gr H locs ls hH hS hT t1 t2 hv hl
  obtain ⟨hx, hb, hr, hml, hown, hts, hX, hbl, hlocks, hgv⟩ := C0
  have hbA : ¬ (fun q : Nat => s.heap.size ≤ q) b := Nat.not_le.mpr hbl
  refine lv_aload_n hx hb dL_law_857 rfl (lv_at hl 1 rfl) ?_
  have hJ := hH.J
  have hA1 := th_Al hT hS
  have hle1 := hS.1
  refine va_calli (va_runV (As := []) (rest := []) ⟨hx, hb, hml, hown, hts⟩ (k_X11_swap l D cA Z τ gi gr _ (A 11) t1) (cwV 0 hts gL_law_X11_swap rfl rfl rfl (by decide +kernel) ⟨Nat.le_of_ble_eq_true rfl, Nat.le_of_ble_eq_true rfl⟩) ⟨th_blind, th_recv hK hH t1 (ci := 10) (by decide) rfl rfl, th_pre hH hK hN hZ hS hA1⟩ rfl rfl hl.1 rfl (lv_room (Nat.le_of_ble_eq_true rfl)) dL_law_858 (by refine ⟨?_, ?_⟩ <;> simp only [room_1] <;> omega)) hS (fun q _ h => hA1 q h) hA1 (fun r1 u t H locs ht hvm hw1 hB hz1 hk1 hS => ?_)
  try dsimp only at hw1 hB
  rw [ht] at hB
  have hH := hB
  obtain ⟨gi1, gr1⟩ := u
  try dsimp only at hw1 hH
  have hJ1 := hH.J
  refine lv_pop hx hb dL_law_861 rfl ?_
  refine lv_aload_n hx hb dL_law_862 rfl (lv_at hl 2 rfl) ?_
  have hA2 := th_Al hT hS
  have hle2 := hS.1
  refine va_calli (va_runV (As := []) (rest := []) ⟨hx, hb, hml, hown, hts⟩ (k_X12_swap l D cA Z τ gi1 gr1 _ (A 12) t2) (cwV 0 hts gL_law_X12_swap rfl rfl rfl (by decide +kernel) ⟨Nat.le_of_ble_eq_true rfl, Nat.le_of_ble_eq_true rfl⟩) ⟨th_blind, th_recv hK hH t2 (ci := 11) (by decide) rfl rfl, th_pre hH hK hN hZ hS hA2⟩ rfl rfl hl.1 rfl (lv_room (Nat.le_of_ble_eq_true rfl)) dL_law_863 (by refine ⟨?_, ?_⟩ <;> simp only [room_1] <;> omega)) hS (fun q _ h => hA2 q h) hA2 (fun r2 u t H locs ht hvm hw2 hB hz2 hk2 hS => ?_)
  try dsimp only at hw2 hB
  rw [ht] at hB
  have hH := hB
  obtain ⟨gi2, gr2⟩ := u
  try dsimp only at hw2 hH
  refine lv_pop hx hb dL_law_866 rfl ?_
  refine lv_goto (tgt := 1146) hx hb dL_law_867 (by decide) ?_
  have hsm := sim_swap hJ hJ1 hv hw1 hw2
  have hv := hsm
  refine W.widen (k := cells + 2) (n := slots + 32) (by omega) (by omega) ?_
  exact kk _ _ _ _ _ _ hH hS hT t1 t2 hv hl

set_option maxHeartbeats 8000000 in
set_option maxRecDepth 100000 in
theorem law_c22 {p : Program} {l : Launch} {e : Env} {s : State} {m : MethodId} {below : List Frame} {meth : Method} {c : Code} {D : va_G} {cA : Nat → ClassId} {Z : th_Zt} {b L : Nat} {xs : Nat → Int32} {A : Nat → Nat} {cells slots : Nat} {y : Int32} {Q : State → Prop} (C0 : lw_At p s m meth c b L xs) (hK : va_K D vwCl (th_tys cA) s) (hN : th_N s) (hZ : th_Z Z (fun q : Nat => s.heap.size ≤ q) s s.heap) (hL : L ≤ 2560) (hy : 0 ≤ y.toInt ∧ y.toInt + 5 ≤ (L : Int)) (hc : cells + 2 ≤ 600000) (hs : slots + 32 ≤ 7302249) (kk : lc_K p l e s m below meth c D cA b (A 11) (A 12) y (fun (t : th_t) (g : th_i) (r : th_r) => Rel Z t g r g r A) (cells + 2) (slots + 32) Q 1146) : lc_K p l e s m below meth c D cA b (A 11) (A 12) y (fun (t : th_t) (g : th_i) (r : th_r) => Rel Z t g r g r A) cells slots Q 870 := by
  intro τ gi gr H locs ls hH hS hT t1 t2 hv hl
  obtain ⟨hx, hb, hr, hml, hown, hts, hX, hbl, hlocks, hgv⟩ := C0
  have hbA : ¬ (fun q : Nat => s.heap.size ≤ q) b := Nat.not_le.mpr hbl
  refine lv_aload_n hx hb dL_law_870 rfl (lv_at hl 1 rfl) ?_
  refine lv_aload_n hx hb dL_law_871 rfl (lv_at hl 0 rfl) ?_
  refine lv_iload_n hx hb dL_law_872 rfl (lv_at hl 3 rfl) ?_
  refine lv_iconst (v := 1) hx hb dL_law_873 (by decide) ?_
  refine lv_iadd hx hb dL_law_874 ?_
  refine lv_topi (fun x1 e1 => ?_)
  refine va_sld hx hb hX hbl hbA hS (sc_in 1 (by decide) (by decide) (by decide) e1 hy hL) dL_law_875 ?_
  refine lv_topi (fun v2 ev2 => ?_)
  have hJ := hH.J
  have hA3 := th_Al hT hS
  have hle3 := hS.1
  refine va_calli (va_runV (As := [.int v2]) (rest := []) ⟨hx, hb, hml, hown, hts⟩ (k_X11_years l D cA Z τ gi gr _ (A 11) t1 v2) (cwV 1 hts gL_law_X11_years rfl rfl rfl (by decide +kernel) ⟨Nat.le_of_ble_eq_true rfl, Nat.le_of_ble_eq_true rfl⟩) ⟨th_blind, th_recv hK hH t1 (ci := 10) (by decide) rfl rfl, th_pre hH hK hN hZ hS hA3⟩ rfl rfl hl.1 rfl (lv_room (Nat.le_of_ble_eq_true rfl)) dL_law_876 (by refine ⟨?_, ?_⟩ <;> simp only [room_1] <;> omega)) hS (fun q _ h => hA3 q h) hA3 (fun r3 u t H locs ht hvm hw3 hB hz3 hk3 hS => ?_)
  try dsimp only at hw3 hB
  rw [ht] at hB
  have hH := hB
  obtain ⟨gi3, gr3⟩ := u
  try dsimp only at hw3 hH
  have hJ1 := hH.J
  refine lv_pop hx hb dL_law_879 rfl ?_
  refine lv_aload_n hx hb dL_law_880 rfl (lv_at hl 2 rfl) ?_
  refine lv_aload_n hx hb dL_law_881 rfl (lv_at hl 0 rfl) ?_
  refine lv_iload_n hx hb dL_law_882 rfl (lv_at hl 3 rfl) ?_
  refine lv_iconst (v := 1) hx hb dL_law_883 (by decide) ?_
  refine lv_iadd hx hb dL_law_884 ?_
  refine lv_topi (fun x4 e4 => ?_)
  refine va_sld hx hb hX hbl hbA hS (sc_in 1 (by decide) (by decide) (by decide) e4 hy hL) dL_law_885 ?_
  refine lv_topi (fun v5 ev5 => ?_)
  have hA6 := th_Al hT hS
  have hle6 := hS.1
  refine va_calli (va_runV (As := [.int v5]) (rest := []) ⟨hx, hb, hml, hown, hts⟩ (k_X12_years l D cA Z τ gi3 gr3 _ (A 12) t2 v5) (cwV 1 hts gL_law_X12_years rfl rfl rfl (by decide +kernel) ⟨Nat.le_of_ble_eq_true rfl, Nat.le_of_ble_eq_true rfl⟩) ⟨th_blind, th_recv hK hH t2 (ci := 11) (by decide) rfl rfl, th_pre hH hK hN hZ hS hA6⟩ rfl rfl hl.1 rfl (lv_room (Nat.le_of_ble_eq_true rfl)) dL_law_886 (by refine ⟨?_, ?_⟩ <;> simp only [room_1] <;> omega)) hS (fun q _ h => hA6 q h) hA6 (fun r6 u t H locs ht hvm hw6 hB hz6 hk6 hS => ?_)
  try dsimp only at hw6 hB
  rw [ht] at hB
  have hH := hB
  obtain ⟨gi6, gr6⟩ := u
  try dsimp only at hw6 hH
  refine lv_pop hx hb dL_law_889 rfl ?_
  refine lv_goto (tgt := 1146) hx hb dL_law_890 (by decide) ?_
  have ea_v5 : v5 = v2 := by rw [ev5, ev2, e4, e1]
  rw [ea_v5] at hw6
  have hsm := sim_years hJ hJ1 hv hw3 hw6
  have hv := hsm
  refine W.widen (k := cells + 2) (n := slots + 32) (by omega) (by omega) ?_
  exact kk _ _ _ _ _ _ hH hS hT t1 t2 hv hl

set_option maxHeartbeats 8000000 in
set_option maxRecDepth 100000 in
theorem law_c23 {p : Program} {l : Launch} {e : Env} {s : State} {m : MethodId} {below : List Frame} {meth : Method} {c : Code} {D : va_G} {cA : Nat → ClassId} {Z : th_Zt} {b L : Nat} {xs : Nat → Int32} {A : Nat → Nat} {cells slots : Nat} {y : Int32} {Q : State → Prop} (C0 : lw_At p s m meth c b L xs) (hK : va_K D vwCl (th_tys cA) s) (hN : th_N s) (hZ : th_Z Z (fun q : Nat => s.heap.size ≤ q) s s.heap) (hL : L ≤ 2560) (hy : 0 ≤ y.toInt ∧ y.toInt + 5 ≤ (L : Int)) (hc : cells + 2 ≤ 600000) (hs : slots + 32 ≤ 7302249) (kk : lc_K p l e s m below meth c D cA b (A 11) (A 12) y (fun (t : th_t) (g : th_i) (r : th_r) => Rel Z t g r g r A) (cells + 2) (slots + 32) Q 1146) : lc_K p l e s m below meth c D cA b (A 11) (A 12) y (fun (t : th_t) (g : th_i) (r : th_r) => Rel Z t g r g r A) cells slots Q 893 := by
  intro τ gi gr H locs ls hH hS hT t1 t2 hv hl
  obtain ⟨hx, hb, hr, hml, hown, hts, hX, hbl, hlocks, hgv⟩ := C0
  have hbA : ¬ (fun q : Nat => s.heap.size ≤ q) b := Nat.not_le.mpr hbl
  refine lv_aload_n hx hb dL_law_893 rfl (lv_at hl 1 rfl) ?_
  refine lv_aload_n hx hb dL_law_894 rfl (lv_at hl 0 rfl) ?_
  refine lv_iload_n hx hb dL_law_895 rfl (lv_at hl 3 rfl) ?_
  refine lv_iconst (v := 1) hx hb dL_law_896 (by decide) ?_
  refine lv_iadd hx hb dL_law_897 ?_
  refine lv_topi (fun x1 e1 => ?_)
  refine va_sld hx hb hX hbl hbA hS (sc_in 1 (by decide) (by decide) (by decide) e1 hy hL) dL_law_898 ?_
  refine lv_topi (fun v2 ev2 => ?_)
  refine lv_aload_n hx hb dL_law_899 rfl (lv_at hl 0 rfl) ?_
  refine lv_iload_n hx hb dL_law_900 rfl (lv_at hl 3 rfl) ?_
  refine lv_iconst (v := 2) hx hb dL_law_901 (by decide) ?_
  refine lv_iadd hx hb dL_law_902 ?_
  refine lv_topi (fun x3 e3 => ?_)
  refine va_sld hx hb hX hbl hbA hS (sc_in 2 (by decide) (by decide) (by decide) e3 hy hL) dL_law_903 ?_
  refine lv_topi (fun v4 ev4 => ?_)
  refine lv_aload_n hx hb dL_law_904 rfl (lv_at hl 0 rfl) ?_
  refine lv_iload_n hx hb dL_law_905 rfl (lv_at hl 3 rfl) ?_
  refine lv_iconst (v := 3) hx hb dL_law_906 (by decide) ?_
  refine lv_iadd hx hb dL_law_907 ?_
  refine lv_topi (fun x5 e5 => ?_)
  refine va_sld hx hb hX hbl hbA hS (sc_in 3 (by decide) (by decide) (by decide) e5 hy hL) dL_law_908 ?_
  refine lv_topi (fun v6 ev6 => ?_)
  have hJ := hH.J
  have hA7 := th_Al hT hS
  have hle7 := hS.1
  refine va_calli (va_runV (As := [.int v2, .int v4, .int v6]) (rest := []) ⟨hx, hb, hml, hown, hts⟩ (k_X11_look l D cA Z τ gi gr _ (A 11) t1 v2 v4 v6) (cwV 3 hts gL_law_X11_look rfl rfl rfl (by decide +kernel) ⟨Nat.le_of_ble_eq_true rfl, Nat.le_of_ble_eq_true rfl⟩) ⟨th_blind, th_recv hK hH t1 (ci := 10) (by decide) rfl rfl, th_pre hH hK hN hZ hS hA7⟩ rfl rfl hl.1 rfl (lv_room (Nat.le_of_ble_eq_true rfl)) dL_law_909 (by refine ⟨?_, ?_⟩ <;> simp only [room_1] <;> omega)) hS (fun q _ h => hA7 q h) hA7 (fun r7 u t H locs ht hvm hw7 hB hz7 hk7 hS => ?_)
  try dsimp only at hw7 hB
  rw [ht] at hB
  have hH := hB
  obtain ⟨gi7, gr7⟩ := u
  try dsimp only at hw7 hH
  have hJ1 := hH.J
  refine lv_pop hx hb dL_law_912 rfl ?_
  refine lv_aload_n hx hb dL_law_913 rfl (lv_at hl 2 rfl) ?_
  refine lv_aload_n hx hb dL_law_914 rfl (lv_at hl 0 rfl) ?_
  refine lv_iload_n hx hb dL_law_915 rfl (lv_at hl 3 rfl) ?_
  refine lv_iconst (v := 1) hx hb dL_law_916 (by decide) ?_
  refine lv_iadd hx hb dL_law_917 ?_
  refine lv_topi (fun x8 e8 => ?_)
  refine va_sld hx hb hX hbl hbA hS (sc_in 1 (by decide) (by decide) (by decide) e8 hy hL) dL_law_918 ?_
  refine lv_topi (fun v9 ev9 => ?_)
  refine lv_aload_n hx hb dL_law_919 rfl (lv_at hl 0 rfl) ?_
  refine lv_iload_n hx hb dL_law_920 rfl (lv_at hl 3 rfl) ?_
  refine lv_iconst (v := 2) hx hb dL_law_921 (by decide) ?_
  refine lv_iadd hx hb dL_law_922 ?_
  refine lv_topi (fun x10 e10 => ?_)
  refine va_sld hx hb hX hbl hbA hS (sc_in 2 (by decide) (by decide) (by decide) e10 hy hL) dL_law_923 ?_
  refine lv_topi (fun v11 ev11 => ?_)
  refine lv_aload_n hx hb dL_law_924 rfl (lv_at hl 0 rfl) ?_
  refine lv_iload_n hx hb dL_law_925 rfl (lv_at hl 3 rfl) ?_
  refine lv_iconst (v := 3) hx hb dL_law_926 (by decide) ?_
  refine lv_iadd hx hb dL_law_927 ?_
  refine lv_topi (fun x12 e12 => ?_)
  refine va_sld hx hb hX hbl hbA hS (sc_in 3 (by decide) (by decide) (by decide) e12 hy hL) dL_law_928 ?_
  refine lv_topi (fun v13 ev13 => ?_)
  have hA14 := th_Al hT hS
  have hle14 := hS.1
  refine va_calli (va_runV (As := [.int v9, .int v11, .int v13]) (rest := []) ⟨hx, hb, hml, hown, hts⟩ (k_X12_look l D cA Z τ gi7 gr7 _ (A 12) t2 v9 v11 v13) (cwV 3 hts gL_law_X12_look rfl rfl rfl (by decide +kernel) ⟨Nat.le_of_ble_eq_true rfl, Nat.le_of_ble_eq_true rfl⟩) ⟨th_blind, th_recv hK hH t2 (ci := 11) (by decide) rfl rfl, th_pre hH hK hN hZ hS hA14⟩ rfl rfl hl.1 rfl (lv_room (Nat.le_of_ble_eq_true rfl)) dL_law_929 (by refine ⟨?_, ?_⟩ <;> simp only [room_1] <;> omega)) hS (fun q _ h => hA14 q h) hA14 (fun r14 u t H locs ht hvm hw14 hB hz14 hk14 hS => ?_)
  try dsimp only at hw14 hB
  rw [ht] at hB
  have hH := hB
  obtain ⟨gi14, gr14⟩ := u
  try dsimp only at hw14 hH
  refine lv_pop hx hb dL_law_932 rfl ?_
  refine lv_goto (tgt := 1146) hx hb dL_law_933 (by decide) ?_
  have ea_v9 : v9 = v2 := by rw [ev9, ev2, e8, e1]
  rw [ea_v9] at hw14
  have ea_v11 : v11 = v4 := by rw [ev11, ev4, e10, e3]
  rw [ea_v11] at hw14
  have ea_v13 : v13 = v6 := by rw [ev13, ev6, e12, e5]
  rw [ea_v13] at hw14
  have hsm := sim_look hJ hJ1 hv hw7 hw14
  have hv := hsm
  refine W.widen (k := cells + 2) (n := slots + 32) (by omega) (by omega) ?_
  exact kk _ _ _ _ _ _ hH hS hT t1 t2 hv hl

set_option maxHeartbeats 8000000 in
set_option maxRecDepth 100000 in
theorem law_c24 {p : Program} {l : Launch} {e : Env} {s : State} {m : MethodId} {below : List Frame} {meth : Method} {c : Code} {D : va_G} {cA : Nat → ClassId} {Z : th_Zt} {b L : Nat} {xs : Nat → Int32} {A : Nat → Nat} {cells slots : Nat} {y : Int32} {Q : State → Prop} (C0 : lw_At p s m meth c b L xs) (hK : va_K D vwCl (th_tys cA) s) (hN : th_N s) (hZ : th_Z Z (fun q : Nat => s.heap.size ≤ q) s s.heap) (hL : L ≤ 2560) (hy : 0 ≤ y.toInt ∧ y.toInt + 5 ≤ (L : Int)) (hc : cells + 2 ≤ 600000) (hs : slots + 32 ≤ 7302249) (kk : lc_K p l e s m below meth c D cA b (A 11) (A 12) y (fun (t : th_t) (g : th_i) (r : th_r) => Rel Z t g r g r A) (cells + 2) (slots + 32) Q 1146) : lc_K p l e s m below meth c D cA b (A 11) (A 12) y (fun (t : th_t) (g : th_i) (r : th_r) => Rel Z t g r g r A) cells slots Q 936 := by
  intro τ gi gr H locs ls hH hS hT t1 t2 hv hl
  obtain ⟨hx, hb, hr, hml, hown, hts, hX, hbl, hlocks, hgv⟩ := C0
  have hbA : ¬ (fun q : Nat => s.heap.size ≤ q) b := Nat.not_le.mpr hbl
  refine lv_aload_n hx hb dL_law_936 rfl (lv_at hl 1 rfl) ?_
  have hJ := hH.J
  have hA1 := th_Al hT hS
  have hle1 := hS.1
  refine va_calli (va_runV (As := []) (rest := []) ⟨hx, hb, hml, hown, hts⟩ (k_X11_next l D cA Z τ gi gr _ (A 11) t1) (cwV 0 hts gL_law_X11_next rfl rfl rfl (by decide +kernel) ⟨Nat.le_of_ble_eq_true rfl, Nat.le_of_ble_eq_true rfl⟩) ⟨th_blind, th_recv hK hH t1 (ci := 10) (by decide) rfl rfl, th_pre hH hK hN hZ hS hA1⟩ rfl rfl hl.1 rfl (lv_room (Nat.le_of_ble_eq_true rfl)) dL_law_937 (by refine ⟨?_, ?_⟩ <;> simp only [room_1] <;> omega)) hS (fun q _ h => hA1 q h) hA1 (fun r1 u t H locs ht hvm hw1 hB hz1 hk1 hS => ?_)
  try dsimp only at hw1 hB
  rw [ht] at hB
  have hH := hB
  obtain ⟨gi1, gr1⟩ := u
  try dsimp only at hw1 hH
  have hJ1 := hH.J
  refine lv_pop hx hb dL_law_940 rfl ?_
  refine lv_aload_n hx hb dL_law_941 rfl (lv_at hl 2 rfl) ?_
  have hA2 := th_Al hT hS
  have hle2 := hS.1
  refine va_calli (va_runV (As := []) (rest := []) ⟨hx, hb, hml, hown, hts⟩ (k_X12_next l D cA Z τ gi1 gr1 _ (A 12) t2) (cwV 0 hts gL_law_X12_next rfl rfl rfl (by decide +kernel) ⟨Nat.le_of_ble_eq_true rfl, Nat.le_of_ble_eq_true rfl⟩) ⟨th_blind, th_recv hK hH t2 (ci := 11) (by decide) rfl rfl, th_pre hH hK hN hZ hS hA2⟩ rfl rfl hl.1 rfl (lv_room (Nat.le_of_ble_eq_true rfl)) dL_law_942 (by refine ⟨?_, ?_⟩ <;> simp only [room_1] <;> omega)) hS (fun q _ h => hA2 q h) hA2 (fun r2 u t H locs ht hvm hw2 hB hz2 hk2 hS => ?_)
  try dsimp only at hw2 hB
  rw [ht] at hB
  have hH := hB
  obtain ⟨gi2, gr2⟩ := u
  try dsimp only at hw2 hH
  refine lv_pop hx hb dL_law_945 rfl ?_
  refine lv_goto (tgt := 1146) hx hb dL_law_946 (by decide) ?_
  have hsm := sim_next hJ hJ1 hv hw1 hw2
  have hv := hsm
  refine W.widen (k := cells + 2) (n := slots + 32) (by omega) (by omega) ?_
  exact kk _ _ _ _ _ _ hH hS hT t1 t2 hv hl

set_option maxHeartbeats 8000000 in
set_option maxRecDepth 100000 in
theorem law_c25 {p : Program} {l : Launch} {e : Env} {s : State} {m : MethodId} {below : List Frame} {meth : Method} {c : Code} {D : va_G} {cA : Nat → ClassId} {Z : th_Zt} {b L : Nat} {xs : Nat → Int32} {A : Nat → Nat} {cells slots : Nat} {y : Int32} {Q : State → Prop} (C0 : lw_At p s m meth c b L xs) (hK : va_K D vwCl (th_tys cA) s) (hN : th_N s) (hZ : th_Z Z (fun q : Nat => s.heap.size ≤ q) s s.heap) (hL : L ≤ 2560) (hy : 0 ≤ y.toInt ∧ y.toInt + 5 ≤ (L : Int)) (hc : cells + 2 ≤ 600000) (hs : slots + 32 ≤ 7302249) (kk : lc_K p l e s m below meth c D cA b (A 11) (A 12) y (fun (t : th_t) (g : th_i) (r : th_r) => Rel Z t g r g r A) (cells + 2) (slots + 32) Q 1146) : lc_K p l e s m below meth c D cA b (A 11) (A 12) y (fun (t : th_t) (g : th_i) (r : th_r) => Rel Z t g r g r A) cells slots Q 949 := by
  intro τ gi gr H locs ls hH hS hT t1 t2 hv hl
  obtain ⟨hx, hb, hr, hml, hown, hts, hX, hbl, hlocks, hgv⟩ := C0
  have hbA : ¬ (fun q : Nat => s.heap.size ≤ q) b := Nat.not_le.mpr hbl
  refine lv_aload_n hx hb dL_law_949 rfl (lv_at hl 1 rfl) ?_
  refine lv_aload_n hx hb dL_law_950 rfl (lv_at hl 0 rfl) ?_
  refine lv_iload_n hx hb dL_law_951 rfl (lv_at hl 3 rfl) ?_
  refine lv_iconst (v := 1) hx hb dL_law_952 (by decide) ?_
  refine lv_iadd hx hb dL_law_953 ?_
  refine lv_topi (fun x1 e1 => ?_)
  refine va_sld hx hb hX hbl hbA hS (sc_in 1 (by decide) (by decide) (by decide) e1 hy hL) dL_law_954 ?_
  refine lv_topi (fun v2 ev2 => ?_)
  have hJ := hH.J
  have hA3 := th_Al hT hS
  have hle3 := hS.1
  refine va_calli (va_runV (As := [.int v2]) (rest := []) ⟨hx, hb, hml, hown, hts⟩ (k_X11_renew l D cA Z τ gi gr _ (A 11) t1 v2) (cwV 1 hts gL_law_X11_renew rfl rfl rfl (by decide +kernel) ⟨Nat.le_of_ble_eq_true rfl, Nat.le_of_ble_eq_true rfl⟩) ⟨th_blind, th_recv hK hH t1 (ci := 10) (by decide) rfl rfl, th_pre hH hK hN hZ hS hA3⟩ rfl rfl hl.1 rfl (lv_room (Nat.le_of_ble_eq_true rfl)) dL_law_955 (by refine ⟨?_, ?_⟩ <;> simp only [room_1] <;> omega)) hS (fun q _ h => hA3 q h) hA3 (fun r3 u t H locs ht hvm hw3 hB hz3 hk3 hS => ?_)
  try dsimp only at hw3 hB
  rw [ht] at hB
  have hH := hB
  obtain ⟨gi3, gr3⟩ := u
  try dsimp only at hw3 hH
  have hJ1 := hH.J
  refine lv_pop hx hb dL_law_958 rfl ?_
  refine lv_aload_n hx hb dL_law_959 rfl (lv_at hl 2 rfl) ?_
  refine lv_aload_n hx hb dL_law_960 rfl (lv_at hl 0 rfl) ?_
  refine lv_iload_n hx hb dL_law_961 rfl (lv_at hl 3 rfl) ?_
  refine lv_iconst (v := 1) hx hb dL_law_962 (by decide) ?_
  refine lv_iadd hx hb dL_law_963 ?_
  refine lv_topi (fun x4 e4 => ?_)
  refine va_sld hx hb hX hbl hbA hS (sc_in 1 (by decide) (by decide) (by decide) e4 hy hL) dL_law_964 ?_
  refine lv_topi (fun v5 ev5 => ?_)
  have hA6 := th_Al hT hS
  have hle6 := hS.1
  refine va_calli (va_runV (As := [.int v5]) (rest := []) ⟨hx, hb, hml, hown, hts⟩ (k_X12_renew l D cA Z τ gi3 gr3 _ (A 12) t2 v5) (cwV 1 hts gL_law_X12_renew rfl rfl rfl (by decide +kernel) ⟨Nat.le_of_ble_eq_true rfl, Nat.le_of_ble_eq_true rfl⟩) ⟨th_blind, th_recv hK hH t2 (ci := 11) (by decide) rfl rfl, th_pre hH hK hN hZ hS hA6⟩ rfl rfl hl.1 rfl (lv_room (Nat.le_of_ble_eq_true rfl)) dL_law_965 (by refine ⟨?_, ?_⟩ <;> simp only [room_1] <;> omega)) hS (fun q _ h => hA6 q h) hA6 (fun r6 u t H locs ht hvm hw6 hB hz6 hk6 hS => ?_)
  try dsimp only at hw6 hB
  rw [ht] at hB
  have hH := hB
  obtain ⟨gi6, gr6⟩ := u
  try dsimp only at hw6 hH
  refine lv_pop hx hb dL_law_968 rfl ?_
  refine lv_goto (tgt := 1146) hx hb dL_law_969 (by decide) ?_
  have ea_v5 : v5 = v2 := by rw [ev5, ev2, e4, e1]
  rw [ea_v5] at hw6
  have hsm := sim_renew hJ hJ1 hv hw3 hw6
  have hv := hsm
  refine W.widen (k := cells + 2) (n := slots + 32) (by omega) (by omega) ?_
  exact kk _ _ _ _ _ _ hH hS hT t1 t2 hv hl

set_option maxHeartbeats 8000000 in
set_option maxRecDepth 100000 in
theorem law_c26 {p : Program} {l : Launch} {e : Env} {s : State} {m : MethodId} {below : List Frame} {meth : Method} {c : Code} {D : va_G} {cA : Nat → ClassId} {Z : th_Zt} {b L : Nat} {xs : Nat → Int32} {A : Nat → Nat} {cells slots : Nat} {y : Int32} {Q : State → Prop} (C0 : lw_At p s m meth c b L xs) (hK : va_K D vwCl (th_tys cA) s) (hN : th_N s) (hZ : th_Z Z (fun q : Nat => s.heap.size ≤ q) s s.heap) (hL : L ≤ 2560) (hy : 0 ≤ y.toInt ∧ y.toInt + 5 ≤ (L : Int)) (hc : cells + 2 ≤ 600000) (hs : slots + 32 ≤ 7302249) (kk : lc_K p l e s m below meth c D cA b (A 11) (A 12) y (fun (t : th_t) (g : th_i) (r : th_r) => Rel Z t g r g r A) (cells + 2) (slots + 32) Q 1146) : lc_K p l e s m below meth c D cA b (A 11) (A 12) y (fun (t : th_t) (g : th_i) (r : th_r) => Rel Z t g r g r A) cells slots Q 972 := by
  intro τ gi gr H locs ls hH hS hT t1 t2 hv hl
  obtain ⟨hx, hb, hr, hml, hown, hts, hX, hbl, hlocks, hgv⟩ := C0
  have hbA : ¬ (fun q : Nat => s.heap.size ≤ q) b := Nat.not_le.mpr hbl
  refine lv_aload_n hx hb dL_law_972 rfl (lv_at hl 1 rfl) ?_
  refine lv_aload_n hx hb dL_law_973 rfl (lv_at hl 0 rfl) ?_
  refine lv_iload_n hx hb dL_law_974 rfl (lv_at hl 3 rfl) ?_
  refine lv_iconst (v := 1) hx hb dL_law_975 (by decide) ?_
  refine lv_iadd hx hb dL_law_976 ?_
  refine lv_topi (fun x1 e1 => ?_)
  refine va_sld hx hb hX hbl hbA hS (sc_in 1 (by decide) (by decide) (by decide) e1 hy hL) dL_law_977 ?_
  refine lv_topi (fun v2 ev2 => ?_)
  have hJ := hH.J
  have hA3 := th_Al hT hS
  have hle3 := hS.1
  refine va_calli (va_runV (As := [.int v2]) (rest := []) ⟨hx, hb, hml, hown, hts⟩ (k_X11_storm l D cA Z τ gi gr _ (A 11) t1 v2) (cwV 1 hts gL_law_X11_storm rfl rfl rfl (by decide +kernel) ⟨Nat.le_of_ble_eq_true rfl, Nat.le_of_ble_eq_true rfl⟩) ⟨th_blind, th_recv hK hH t1 (ci := 10) (by decide) rfl rfl, th_pre hH hK hN hZ hS hA3⟩ rfl rfl hl.1 rfl (lv_room (Nat.le_of_ble_eq_true rfl)) dL_law_978 (by refine ⟨?_, ?_⟩ <;> simp only [room_1] <;> omega)) hS (fun q _ h => hA3 q h) hA3 (fun r3 u t H locs ht hvm hw3 hB hz3 hk3 hS => ?_)
  try dsimp only at hw3 hB
  rw [ht] at hB
  have hH := hB
  obtain ⟨gi3, gr3⟩ := u
  try dsimp only at hw3 hH
  have hJ1 := hH.J
  refine lv_pop hx hb dL_law_981 rfl ?_
  refine lv_aload_n hx hb dL_law_982 rfl (lv_at hl 2 rfl) ?_
  refine lv_aload_n hx hb dL_law_983 rfl (lv_at hl 0 rfl) ?_
  refine lv_iload_n hx hb dL_law_984 rfl (lv_at hl 3 rfl) ?_
  refine lv_iconst (v := 1) hx hb dL_law_985 (by decide) ?_
  refine lv_iadd hx hb dL_law_986 ?_
  refine lv_topi (fun x4 e4 => ?_)
  refine va_sld hx hb hX hbl hbA hS (sc_in 1 (by decide) (by decide) (by decide) e4 hy hL) dL_law_987 ?_
  refine lv_topi (fun v5 ev5 => ?_)
  have hA6 := th_Al hT hS
  have hle6 := hS.1
  refine va_calli (va_runV (As := [.int v5]) (rest := []) ⟨hx, hb, hml, hown, hts⟩ (k_X12_storm l D cA Z τ gi3 gr3 _ (A 12) t2 v5) (cwV 1 hts gL_law_X12_storm rfl rfl rfl (by decide +kernel) ⟨Nat.le_of_ble_eq_true rfl, Nat.le_of_ble_eq_true rfl⟩) ⟨th_blind, th_recv hK hH t2 (ci := 11) (by decide) rfl rfl, th_pre hH hK hN hZ hS hA6⟩ rfl rfl hl.1 rfl (lv_room (Nat.le_of_ble_eq_true rfl)) dL_law_988 (by refine ⟨?_, ?_⟩ <;> simp only [room_1] <;> omega)) hS (fun q _ h => hA6 q h) hA6 (fun r6 u t H locs ht hvm hw6 hB hz6 hk6 hS => ?_)
  try dsimp only at hw6 hB
  rw [ht] at hB
  have hH := hB
  obtain ⟨gi6, gr6⟩ := u
  try dsimp only at hw6 hH
  refine lv_pop hx hb dL_law_991 rfl ?_
  refine lv_goto (tgt := 1146) hx hb dL_law_992 (by decide) ?_
  have ea_v5 : v5 = v2 := by rw [ev5, ev2, e4, e1]
  rw [ea_v5] at hw6
  have hsm := sim_storm hJ hJ1 hv hw3 hw6
  have hv := hsm
  refine W.widen (k := cells + 2) (n := slots + 32) (by omega) (by omega) ?_
  exact kk _ _ _ _ _ _ hH hS hT t1 t2 hv hl

set_option maxHeartbeats 8000000 in
set_option maxRecDepth 100000 in
theorem law_c27 {p : Program} {l : Launch} {e : Env} {s : State} {m : MethodId} {below : List Frame} {meth : Method} {c : Code} {D : va_G} {cA : Nat → ClassId} {Z : th_Zt} {b L : Nat} {xs : Nat → Int32} {A : Nat → Nat} {cells slots : Nat} {y : Int32} {Q : State → Prop} (C0 : lw_At p s m meth c b L xs) (hK : va_K D vwCl (th_tys cA) s) (hN : th_N s) (hZ : th_Z Z (fun q : Nat => s.heap.size ≤ q) s s.heap) (hL : L ≤ 2560) (hy : 0 ≤ y.toInt ∧ y.toInt + 5 ≤ (L : Int)) (hc : cells + 2 ≤ 600000) (hs : slots + 32 ≤ 7302249) (kk : lc_K p l e s m below meth c D cA b (A 11) (A 12) y (fun (t : th_t) (g : th_i) (r : th_r) => Rel Z t g r g r A) (cells + 2) (slots + 32) Q 1146) : lc_K p l e s m below meth c D cA b (A 11) (A 12) y (fun (t : th_t) (g : th_i) (r : th_r) => Rel Z t g r g r A) cells slots Q 995 := by
  intro τ gi gr H locs ls hH hS hT t1 t2 hv hl
  obtain ⟨hx, hb, hr, hml, hown, hts, hX, hbl, hlocks, hgv⟩ := C0
  have hbA : ¬ (fun q : Nat => s.heap.size ≤ q) b := Nat.not_le.mpr hbl
  refine lv_aload_n hx hb dL_law_995 rfl (lv_at hl 1 rfl) ?_
  refine lv_aload_n hx hb dL_law_996 rfl (lv_at hl 0 rfl) ?_
  refine lv_iload_n hx hb dL_law_997 rfl (lv_at hl 3 rfl) ?_
  refine lv_iconst (v := 1) hx hb dL_law_998 (by decide) ?_
  refine lv_iadd hx hb dL_law_999 ?_
  refine lv_topi (fun x1 e1 => ?_)
  refine va_sld hx hb hX hbl hbA hS (sc_in 1 (by decide) (by decide) (by decide) e1 hy hL) dL_law_1000 ?_
  refine lv_topi (fun v2 ev2 => ?_)
  refine lv_aload_n hx hb dL_law_1001 rfl (lv_at hl 0 rfl) ?_
  refine lv_iload_n hx hb dL_law_1002 rfl (lv_at hl 3 rfl) ?_
  refine lv_iconst (v := 2) hx hb dL_law_1003 (by decide) ?_
  refine lv_iadd hx hb dL_law_1004 ?_
  refine lv_topi (fun x3 e3 => ?_)
  refine va_sld hx hb hX hbl hbA hS (sc_in 2 (by decide) (by decide) (by decide) e3 hy hL) dL_law_1005 ?_
  refine lv_topi (fun v4 ev4 => ?_)
  have hJ := hH.J
  have hA5 := th_Al hT hS
  have hle5 := hS.1
  refine va_calli (va_runV (As := [.int v2, .int v4]) (rest := []) ⟨hx, hb, hml, hown, hts⟩ (k_X11_fled l D cA Z τ gi gr _ (A 11) t1 v2 v4) (cwV 2 hts gL_law_X11_fled rfl rfl rfl (by decide +kernel) ⟨Nat.le_of_ble_eq_true rfl, Nat.le_of_ble_eq_true rfl⟩) ⟨th_blind, th_recv hK hH t1 (ci := 10) (by decide) rfl rfl, th_pre hH hK hN hZ hS hA5⟩ rfl rfl hl.1 rfl (lv_room (Nat.le_of_ble_eq_true rfl)) dL_law_1006 (by refine ⟨?_, ?_⟩ <;> simp only [room_1] <;> omega)) hS (fun q _ h => hA5 q h) hA5 (fun r5 u t H locs ht hvm hw5 hB hz5 hk5 hS => ?_)
  try dsimp only at hw5 hB
  rw [ht] at hB
  have hH := hB
  obtain ⟨gi5, gr5⟩ := u
  try dsimp only at hw5 hH
  have hJ1 := hH.J
  refine lv_pop hx hb dL_law_1009 rfl ?_
  refine lv_aload_n hx hb dL_law_1010 rfl (lv_at hl 2 rfl) ?_
  refine lv_aload_n hx hb dL_law_1011 rfl (lv_at hl 0 rfl) ?_
  refine lv_iload_n hx hb dL_law_1012 rfl (lv_at hl 3 rfl) ?_
  refine lv_iconst (v := 1) hx hb dL_law_1013 (by decide) ?_
  refine lv_iadd hx hb dL_law_1014 ?_
  refine lv_topi (fun x6 e6 => ?_)
  refine va_sld hx hb hX hbl hbA hS (sc_in 1 (by decide) (by decide) (by decide) e6 hy hL) dL_law_1015 ?_
  refine lv_topi (fun v7 ev7 => ?_)
  refine lv_aload_n hx hb dL_law_1016 rfl (lv_at hl 0 rfl) ?_
  refine lv_iload_n hx hb dL_law_1017 rfl (lv_at hl 3 rfl) ?_
  refine lv_iconst (v := 2) hx hb dL_law_1018 (by decide) ?_
  refine lv_iadd hx hb dL_law_1019 ?_
  refine lv_topi (fun x8 e8 => ?_)
  refine va_sld hx hb hX hbl hbA hS (sc_in 2 (by decide) (by decide) (by decide) e8 hy hL) dL_law_1020 ?_
  refine lv_topi (fun v9 ev9 => ?_)
  have hA10 := th_Al hT hS
  have hle10 := hS.1
  refine va_calli (va_runV (As := [.int v7, .int v9]) (rest := []) ⟨hx, hb, hml, hown, hts⟩ (k_X12_fled l D cA Z τ gi5 gr5 _ (A 12) t2 v7 v9) (cwV 2 hts gL_law_X12_fled rfl rfl rfl (by decide +kernel) ⟨Nat.le_of_ble_eq_true rfl, Nat.le_of_ble_eq_true rfl⟩) ⟨th_blind, th_recv hK hH t2 (ci := 11) (by decide) rfl rfl, th_pre hH hK hN hZ hS hA10⟩ rfl rfl hl.1 rfl (lv_room (Nat.le_of_ble_eq_true rfl)) dL_law_1021 (by refine ⟨?_, ?_⟩ <;> simp only [room_1] <;> omega)) hS (fun q _ h => hA10 q h) hA10 (fun r10 u t H locs ht hvm hw10 hB hz10 hk10 hS => ?_)
  try dsimp only at hw10 hB
  rw [ht] at hB
  have hH := hB
  obtain ⟨gi10, gr10⟩ := u
  try dsimp only at hw10 hH
  refine lv_pop hx hb dL_law_1024 rfl ?_
  refine lv_goto (tgt := 1146) hx hb dL_law_1025 (by decide) ?_
  have ea_v7 : v7 = v2 := by rw [ev7, ev2, e6, e1]
  rw [ea_v7] at hw10
  have ea_v9 : v9 = v4 := by rw [ev9, ev4, e8, e3]
  rw [ea_v9] at hw10
  have hsm := sim_fled hJ hJ1 hv hw5 hw10
  have hv := hsm
  refine W.widen (k := cells + 2) (n := slots + 32) (by omega) (by omega) ?_
  exact kk _ _ _ _ _ _ hH hS hT t1 t2 hv hl

set_option maxHeartbeats 8000000 in
set_option maxRecDepth 100000 in
theorem law_c28 {p : Program} {l : Launch} {e : Env} {s : State} {m : MethodId} {below : List Frame} {meth : Method} {c : Code} {D : va_G} {cA : Nat → ClassId} {Z : th_Zt} {b L : Nat} {xs : Nat → Int32} {A : Nat → Nat} {cells slots : Nat} {y : Int32} {Q : State → Prop} (C0 : lw_At p s m meth c b L xs) (hK : va_K D vwCl (th_tys cA) s) (hN : th_N s) (hZ : th_Z Z (fun q : Nat => s.heap.size ≤ q) s s.heap) (hL : L ≤ 2560) (hy : 0 ≤ y.toInt ∧ y.toInt + 5 ≤ (L : Int)) (hc : cells + 2 ≤ 600000) (hs : slots + 32 ≤ 7302249) (kk : lc_K p l e s m below meth c D cA b (A 11) (A 12) y (fun (t : th_t) (g : th_i) (r : th_r) => Rel Z t g r g r A) (cells + 2) (slots + 32) Q 1146) : lc_K p l e s m below meth c D cA b (A 11) (A 12) y (fun (t : th_t) (g : th_i) (r : th_r) => Rel Z t g r g r A) cells slots Q 1028 := by
  intro τ gi gr H locs ls hH hS hT t1 t2 hv hl
  obtain ⟨hx, hb, hr, hml, hown, hts, hX, hbl, hlocks, hgv⟩ := C0
  have hbA : ¬ (fun q : Nat => s.heap.size ≤ q) b := Nat.not_le.mpr hbl
  refine lv_aload_n hx hb dL_law_1028 rfl (lv_at hl 1 rfl) ?_
  refine lv_aload_n hx hb dL_law_1029 rfl (lv_at hl 0 rfl) ?_
  refine lv_iload_n hx hb dL_law_1030 rfl (lv_at hl 3 rfl) ?_
  refine lv_iconst (v := 1) hx hb dL_law_1031 (by decide) ?_
  refine lv_iadd hx hb dL_law_1032 ?_
  refine lv_topi (fun x1 e1 => ?_)
  refine va_sld hx hb hX hbl hbA hS (sc_in 1 (by decide) (by decide) (by decide) e1 hy hL) dL_law_1033 ?_
  refine lv_topi (fun v2 ev2 => ?_)
  have hJ := hH.J
  have hA3 := th_Al hT hS
  have hle3 := hS.1
  refine va_calli (va_runV (As := [.int v2]) (rest := []) ⟨hx, hb, hml, hown, hts⟩ (k_X11_rate l D cA Z τ gi gr _ (A 11) t1 v2) (cwV 1 hts gL_law_X11_rate rfl rfl rfl (by decide +kernel) ⟨Nat.le_of_ble_eq_true rfl, Nat.le_of_ble_eq_true rfl⟩) ⟨th_blind, th_recv hK hH t1 (ci := 10) (by decide) rfl rfl, th_pre hH hK hN hZ hS hA3⟩ rfl rfl hl.1 rfl (lv_room (Nat.le_of_ble_eq_true rfl)) dL_law_1034 (by refine ⟨?_, ?_⟩ <;> simp only [room_1] <;> omega)) hS (fun q _ h => hA3 q h) hA3 (fun r3 u t H locs ht hvm hw3 hB hz3 hk3 hS => ?_)
  try dsimp only at hw3 hB
  rw [ht] at hB
  have hH := hB
  obtain ⟨gi3, gr3⟩ := u
  try dsimp only at hw3 hH
  have hJ1 := hH.J
  refine lv_pop hx hb dL_law_1037 rfl ?_
  refine lv_aload_n hx hb dL_law_1038 rfl (lv_at hl 2 rfl) ?_
  refine lv_aload_n hx hb dL_law_1039 rfl (lv_at hl 0 rfl) ?_
  refine lv_iload_n hx hb dL_law_1040 rfl (lv_at hl 3 rfl) ?_
  refine lv_iconst (v := 1) hx hb dL_law_1041 (by decide) ?_
  refine lv_iadd hx hb dL_law_1042 ?_
  refine lv_topi (fun x4 e4 => ?_)
  refine va_sld hx hb hX hbl hbA hS (sc_in 1 (by decide) (by decide) (by decide) e4 hy hL) dL_law_1043 ?_
  refine lv_topi (fun v5 ev5 => ?_)
  have hA6 := th_Al hT hS
  have hle6 := hS.1
  refine va_calli (va_runV (As := [.int v5]) (rest := []) ⟨hx, hb, hml, hown, hts⟩ (k_X12_rate l D cA Z τ gi3 gr3 _ (A 12) t2 v5) (cwV 1 hts gL_law_X12_rate rfl rfl rfl (by decide +kernel) ⟨Nat.le_of_ble_eq_true rfl, Nat.le_of_ble_eq_true rfl⟩) ⟨th_blind, th_recv hK hH t2 (ci := 11) (by decide) rfl rfl, th_pre hH hK hN hZ hS hA6⟩ rfl rfl hl.1 rfl (lv_room (Nat.le_of_ble_eq_true rfl)) dL_law_1044 (by refine ⟨?_, ?_⟩ <;> simp only [room_1] <;> omega)) hS (fun q _ h => hA6 q h) hA6 (fun r6 u t H locs ht hvm hw6 hB hz6 hk6 hS => ?_)
  try dsimp only at hw6 hB
  rw [ht] at hB
  have hH := hB
  obtain ⟨gi6, gr6⟩ := u
  try dsimp only at hw6 hH
  refine lv_pop hx hb dL_law_1047 rfl ?_
  refine lv_goto (tgt := 1146) hx hb dL_law_1048 (by decide) ?_
  have ea_v5 : v5 = v2 := by rw [ev5, ev2, e4, e1]
  rw [ea_v5] at hw6
  have hsm := sim_rate hJ hJ1 hv hw3 hw6
  have hv := hsm
  refine W.widen (k := cells + 2) (n := slots + 32) (by omega) (by omega) ?_
  exact kk _ _ _ _ _ _ hH hS hT t1 t2 hv hl

set_option maxHeartbeats 8000000 in
set_option maxRecDepth 100000 in
theorem law_c29 {p : Program} {l : Launch} {e : Env} {s : State} {m : MethodId} {below : List Frame} {meth : Method} {c : Code} {D : va_G} {cA : Nat → ClassId} {Z : th_Zt} {b L : Nat} {xs : Nat → Int32} {A : Nat → Nat} {cells slots : Nat} {y : Int32} {Q : State → Prop} (C0 : lw_At p s m meth c b L xs) (hK : va_K D vwCl (th_tys cA) s) (hN : th_N s) (hZ : th_Z Z (fun q : Nat => s.heap.size ≤ q) s s.heap) (hL : L ≤ 2560) (hy : 0 ≤ y.toInt ∧ y.toInt + 5 ≤ (L : Int)) (hc : cells + 2 ≤ 600000) (hs : slots + 32 ≤ 7302249) (kk : lc_K p l e s m below meth c D cA b (A 11) (A 12) y (fun (t : th_t) (g : th_i) (r : th_r) => Rel Z t g r g r A) (cells + 2) (slots + 32) Q 1146) : lc_K p l e s m below meth c D cA b (A 11) (A 12) y (fun (t : th_t) (g : th_i) (r : th_r) => Rel Z t g r g r A) cells slots Q 1051 := by
  intro τ gi gr H locs ls hH hS hT t1 t2 hv hl
  obtain ⟨hx, hb, hr, hml, hown, hts, hX, hbl, hlocks, hgv⟩ := C0
  have hbA : ¬ (fun q : Nat => s.heap.size ≤ q) b := Nat.not_le.mpr hbl
  refine lv_aload_n hx hb dL_law_1051 rfl (lv_at hl 1 rfl) ?_
  have hJ := hH.J
  have hA1 := th_Al hT hS
  have hle1 := hS.1
  refine va_calli (va_runV (As := []) (rest := []) ⟨hx, hb, hml, hown, hts⟩ (k_X11_dues l D cA Z τ gi gr _ (A 11) t1) (cwV 0 hts gL_law_X11_dues rfl rfl rfl (by decide +kernel) ⟨Nat.le_of_ble_eq_true rfl, Nat.le_of_ble_eq_true rfl⟩) ⟨th_blind, th_recv hK hH t1 (ci := 10) (by decide) rfl rfl, th_pre hH hK hN hZ hS hA1⟩ rfl rfl hl.1 rfl (lv_room (Nat.le_of_ble_eq_true rfl)) dL_law_1052 (by refine ⟨?_, ?_⟩ <;> simp only [room_1] <;> omega)) hS (fun q _ h => hA1 q h) hA1 (fun r1 u t H locs ht hvm hw1 hB hz1 hk1 hS => ?_)
  try dsimp only at hw1 hB
  rw [ht] at hB
  have hH := hB
  have hJ1 := hH.J
  refine lv_pop hx hb dL_law_1055 rfl ?_
  refine lv_aload_n hx hb dL_law_1056 rfl (lv_at hl 2 rfl) ?_
  have hA2 := th_Al hT hS
  have hle2 := hS.1
  refine va_calli (va_runV (As := []) (rest := []) ⟨hx, hb, hml, hown, hts⟩ (k_X12_dues l D cA Z τ gi gr _ (A 12) t2) (cwV 0 hts gL_law_X12_dues rfl rfl rfl (by decide +kernel) ⟨Nat.le_of_ble_eq_true rfl, Nat.le_of_ble_eq_true rfl⟩) ⟨th_blind, th_recv hK hH t2 (ci := 11) (by decide) rfl rfl, th_pre hH hK hN hZ hS hA2⟩ rfl rfl hl.1 rfl (lv_room (Nat.le_of_ble_eq_true rfl)) dL_law_1057 (by refine ⟨?_, ?_⟩ <;> simp only [room_1] <;> omega)) hS (fun q _ h => hA2 q h) hA2 (fun r2 u t H locs ht hvm hw2 hB hz2 hk2 hS => ?_)
  try dsimp only at hw2 hB
  rw [ht] at hB
  have hH := hB
  refine lv_pop hx hb dL_law_1060 rfl ?_
  refine lv_goto (tgt := 1146) hx hb dL_law_1061 (by decide) ?_
  have hsm := sim_dues hJ hJ1 hv hw1 hw2
  have hv := hsm
  refine W.widen (k := cells + 2) (n := slots + 32) (by omega) (by omega) ?_
  exact kk _ _ _ _ _ _ hH hS hT t1 t2 hv hl

set_option maxHeartbeats 8000000 in
set_option maxRecDepth 100000 in
theorem law_c30 {p : Program} {l : Launch} {e : Env} {s : State} {m : MethodId} {below : List Frame} {meth : Method} {c : Code} {D : va_G} {cA : Nat → ClassId} {Z : th_Zt} {b L : Nat} {xs : Nat → Int32} {A : Nat → Nat} {cells slots : Nat} {y : Int32} {Q : State → Prop} (C0 : lw_At p s m meth c b L xs) (hK : va_K D vwCl (th_tys cA) s) (hN : th_N s) (hZ : th_Z Z (fun q : Nat => s.heap.size ≤ q) s s.heap) (hL : L ≤ 2560) (hy : 0 ≤ y.toInt ∧ y.toInt + 5 ≤ (L : Int)) (hc : cells + 2 ≤ 600000) (hs : slots + 32 ≤ 7302249) (kk : lc_K p l e s m below meth c D cA b (A 11) (A 12) y (fun (t : th_t) (g : th_i) (r : th_r) => Rel Z t g r g r A) (cells + 2) (slots + 32) Q 1146) : lc_K p l e s m below meth c D cA b (A 11) (A 12) y (fun (t : th_t) (g : th_i) (r : th_r) => Rel Z t g r g r A) cells slots Q 1064 := by
  intro τ gi gr H locs ls hH hS hT t1 t2 hv hl
  obtain ⟨hx, hb, hr, hml, hown, hts, hX, hbl, hlocks, hgv⟩ := C0
  have hbA : ¬ (fun q : Nat => s.heap.size ≤ q) b := Nat.not_le.mpr hbl
  refine lv_aload_n hx hb dL_law_1064 rfl (lv_at hl 1 rfl) ?_
  refine lv_aload_n hx hb dL_law_1065 rfl (lv_at hl 0 rfl) ?_
  refine lv_iload_n hx hb dL_law_1066 rfl (lv_at hl 3 rfl) ?_
  refine lv_iconst (v := 1) hx hb dL_law_1067 (by decide) ?_
  refine lv_iadd hx hb dL_law_1068 ?_
  refine lv_topi (fun x1 e1 => ?_)
  refine va_sld hx hb hX hbl hbA hS (sc_in 1 (by decide) (by decide) (by decide) e1 hy hL) dL_law_1069 ?_
  refine lv_topi (fun v2 ev2 => ?_)
  have hJ := hH.J
  have hA3 := th_Al hT hS
  have hle3 := hS.1
  refine va_calli (va_runV (As := [.int v2]) (rest := []) ⟨hx, hb, hml, hown, hts⟩ (k_X11_tell l D cA Z τ gi gr _ (A 11) t1 v2) (cwV 1 hts gL_law_X11_tell rfl rfl rfl (by decide +kernel) ⟨Nat.le_of_ble_eq_true rfl, Nat.le_of_ble_eq_true rfl⟩) ⟨th_blind, th_recv hK hH t1 (ci := 10) (by decide) rfl rfl, th_pre hH hK hN hZ hS hA3⟩ rfl rfl hl.1 rfl (lv_room (Nat.le_of_ble_eq_true rfl)) dL_law_1070 (by refine ⟨?_, ?_⟩ <;> simp only [room_1] <;> omega)) hS (fun q _ h => hA3 q h) hA3 (fun r3 u t H locs ht hvm hw3 hB hz3 hk3 hS => ?_)
  try dsimp only at hw3 hB
  rw [ht] at hB
  have hH := hB
  obtain ⟨gi3, gr3⟩ := u
  try dsimp only at hw3 hH
  have hJ1 := hH.J
  refine lv_pop hx hb dL_law_1073 rfl ?_
  refine lv_aload_n hx hb dL_law_1074 rfl (lv_at hl 2 rfl) ?_
  refine lv_aload_n hx hb dL_law_1075 rfl (lv_at hl 0 rfl) ?_
  refine lv_iload_n hx hb dL_law_1076 rfl (lv_at hl 3 rfl) ?_
  refine lv_iconst (v := 1) hx hb dL_law_1077 (by decide) ?_
  refine lv_iadd hx hb dL_law_1078 ?_
  refine lv_topi (fun x4 e4 => ?_)
  refine va_sld hx hb hX hbl hbA hS (sc_in 1 (by decide) (by decide) (by decide) e4 hy hL) dL_law_1079 ?_
  refine lv_topi (fun v5 ev5 => ?_)
  have hA6 := th_Al hT hS
  have hle6 := hS.1
  refine va_calli (va_runV (As := [.int v5]) (rest := []) ⟨hx, hb, hml, hown, hts⟩ (k_X12_tell l D cA Z τ gi3 gr3 _ (A 12) t2 v5) (cwV 1 hts gL_law_X12_tell rfl rfl rfl (by decide +kernel) ⟨Nat.le_of_ble_eq_true rfl, Nat.le_of_ble_eq_true rfl⟩) ⟨th_blind, th_recv hK hH t2 (ci := 11) (by decide) rfl rfl, th_pre hH hK hN hZ hS hA6⟩ rfl rfl hl.1 rfl (lv_room (Nat.le_of_ble_eq_true rfl)) dL_law_1080 (by refine ⟨?_, ?_⟩ <;> simp only [room_1] <;> omega)) hS (fun q _ h => hA6 q h) hA6 (fun r6 u t H locs ht hvm hw6 hB hz6 hk6 hS => ?_)
  try dsimp only at hw6 hB
  rw [ht] at hB
  have hH := hB
  obtain ⟨gi6, gr6⟩ := u
  try dsimp only at hw6 hH
  refine lv_pop hx hb dL_law_1083 rfl ?_
  refine lv_goto (tgt := 1146) hx hb dL_law_1084 (by decide) ?_
  have ea_v5 : v5 = v2 := by rw [ev5, ev2, e4, e1]
  rw [ea_v5] at hw6
  have hsm := sim_tell hJ hJ1 hv hw3 hw6
  have hv := hsm
  refine W.widen (k := cells + 2) (n := slots + 32) (by omega) (by omega) ?_
  exact kk _ _ _ _ _ _ hH hS hT t1 t2 hv hl

set_option maxHeartbeats 8000000 in
set_option maxRecDepth 100000 in
theorem law_c31 {p : Program} {l : Launch} {e : Env} {s : State} {m : MethodId} {below : List Frame} {meth : Method} {c : Code} {D : va_G} {cA : Nat → ClassId} {Z : th_Zt} {b L : Nat} {xs : Nat → Int32} {A : Nat → Nat} {cells slots : Nat} {y : Int32} {Q : State → Prop} (C0 : lw_At p s m meth c b L xs) (hK : va_K D vwCl (th_tys cA) s) (hN : th_N s) (hZ : th_Z Z (fun q : Nat => s.heap.size ≤ q) s s.heap) (hL : L ≤ 2560) (hy : 0 ≤ y.toInt ∧ y.toInt + 5 ≤ (L : Int)) (hc : cells + 2 ≤ 600000) (hs : slots + 32 ≤ 7302249) (kk : lc_K p l e s m below meth c D cA b (A 11) (A 12) y (fun (t : th_t) (g : th_i) (r : th_r) => Rel Z t g r g r A) (cells + 2) (slots + 32) Q 1146) : lc_K p l e s m below meth c D cA b (A 11) (A 12) y (fun (t : th_t) (g : th_i) (r : th_r) => Rel Z t g r g r A) cells slots Q 1087 := by
  intro τ gi gr H locs ls hH hS hT t1 t2 hv hl
  obtain ⟨hx, hb, hr, hml, hown, hts, hX, hbl, hlocks, hgv⟩ := C0
  have hbA : ¬ (fun q : Nat => s.heap.size ≤ q) b := Nat.not_le.mpr hbl
  refine lv_aload_n hx hb dL_law_1087 rfl (lv_at hl 1 rfl) ?_
  have hJ := hH.J
  have hA1 := th_Al hT hS
  have hle1 := hS.1
  refine va_calli (va_runV (As := []) (rest := []) ⟨hx, hb, hml, hown, hts⟩ (k_X11_check l D cA Z τ gi gr _ (A 11) t1) (cwV 0 hts gL_law_X11_check rfl rfl rfl (by decide +kernel) ⟨Nat.le_of_ble_eq_true rfl, Nat.le_of_ble_eq_true rfl⟩) ⟨th_blind, th_recv hK hH t1 (ci := 10) (by decide) rfl rfl, th_pre hH hK hN hZ hS hA1⟩ rfl rfl hl.1 rfl (lv_room (Nat.le_of_ble_eq_true rfl)) dL_law_1088 (by refine ⟨?_, ?_⟩ <;> simp only [room_1] <;> omega)) hS (fun q _ h => hA1 q h) hA1 (fun r1 u t H locs ht hvm hw1 hB hz1 hk1 hS => ?_)
  try dsimp only at hw1 hB
  rw [ht] at hB
  have hH := hB
  obtain ⟨gi1, gr1⟩ := u
  try dsimp only at hw1 hH
  have hJ1 := hH.J
  refine lv_pop hx hb dL_law_1091 rfl ?_
  refine lv_aload_n hx hb dL_law_1092 rfl (lv_at hl 2 rfl) ?_
  have hA2 := th_Al hT hS
  have hle2 := hS.1
  refine va_calli (va_runV (As := []) (rest := []) ⟨hx, hb, hml, hown, hts⟩ (k_X12_check l D cA Z τ gi1 gr1 _ (A 12) t2) (cwV 0 hts gL_law_X12_check rfl rfl rfl (by decide +kernel) ⟨Nat.le_of_ble_eq_true rfl, Nat.le_of_ble_eq_true rfl⟩) ⟨th_blind, th_recv hK hH t2 (ci := 11) (by decide) rfl rfl, th_pre hH hK hN hZ hS hA2⟩ rfl rfl hl.1 rfl (lv_room (Nat.le_of_ble_eq_true rfl)) dL_law_1093 (by refine ⟨?_, ?_⟩ <;> simp only [room_1] <;> omega)) hS (fun q _ h => hA2 q h) hA2 (fun r2 u t H locs ht hvm hw2 hB hz2 hk2 hS => ?_)
  try dsimp only at hw2 hB
  rw [ht] at hB
  have hH := hB
  obtain ⟨gi2, gr2⟩ := u
  try dsimp only at hw2 hH
  refine lv_pop hx hb dL_law_1096 rfl ?_
  refine lv_goto (tgt := 1146) hx hb dL_law_1097 (by decide) ?_
  have hsm := sim_check hJ hJ1 hv hw1 hw2
  have hv := hsm
  refine W.widen (k := cells + 2) (n := slots + 32) (by omega) (by omega) ?_
  exact kk _ _ _ _ _ _ hH hS hT t1 t2 hv hl

set_option maxHeartbeats 8000000 in
set_option maxRecDepth 100000 in
theorem law_c32 {p : Program} {l : Launch} {e : Env} {s : State} {m : MethodId} {below : List Frame} {meth : Method} {c : Code} {D : va_G} {cA : Nat → ClassId} {Z : th_Zt} {b L : Nat} {xs : Nat → Int32} {A : Nat → Nat} {cells slots : Nat} {y : Int32} {Q : State → Prop} (C0 : lw_At p s m meth c b L xs) (hK : va_K D vwCl (th_tys cA) s) (hN : th_N s) (hZ : th_Z Z (fun q : Nat => s.heap.size ≤ q) s s.heap) (hL : L ≤ 2560) (hy : 0 ≤ y.toInt ∧ y.toInt + 5 ≤ (L : Int)) (hc : cells + 2 ≤ 600000) (hs : slots + 32 ≤ 7302249) (kk : lc_K p l e s m below meth c D cA b (A 11) (A 12) y (fun (t : th_t) (g : th_i) (r : th_r) => Rel Z t g r g r A) (cells + 2) (slots + 32) Q 1146) : lc_K p l e s m below meth c D cA b (A 11) (A 12) y (fun (t : th_t) (g : th_i) (r : th_r) => Rel Z t g r g r A) cells slots Q 1100 := by
  intro τ gi gr H locs ls hH hS hT t1 t2 hv hl
  obtain ⟨hx, hb, hr, hml, hown, hts, hX, hbl, hlocks, hgv⟩ := C0
  have hbA : ¬ (fun q : Nat => s.heap.size ≤ q) b := Nat.not_le.mpr hbl
  refine lv_aload_n hx hb dL_law_1100 rfl (lv_at hl 1 rfl) ?_
  refine lv_aload_n hx hb dL_law_1101 rfl (lv_at hl 0 rfl) ?_
  refine lv_iload_n hx hb dL_law_1102 rfl (lv_at hl 3 rfl) ?_
  refine lv_iconst (v := 1) hx hb dL_law_1103 (by decide) ?_
  refine lv_iadd hx hb dL_law_1104 ?_
  refine lv_topi (fun x1 e1 => ?_)
  refine va_sld hx hb hX hbl hbA hS (sc_in 1 (by decide) (by decide) (by decide) e1 hy hL) dL_law_1105 ?_
  refine lv_topi (fun v2 ev2 => ?_)
  have hJ := hH.J
  have hA3 := th_Al hT hS
  have hle3 := hS.1
  refine va_calli (va_runV (As := [.int v2]) (rest := []) ⟨hx, hb, hml, hown, hts⟩ (k_X11_count l D cA Z τ gi gr _ (A 11) t1 v2) (cwV 1 hts gL_law_X11_count rfl rfl rfl (by decide +kernel) ⟨Nat.le_of_ble_eq_true rfl, Nat.le_of_ble_eq_true rfl⟩) ⟨th_blind, th_recv hK hH t1 (ci := 10) (by decide) rfl rfl, th_pre hH hK hN hZ hS hA3⟩ rfl rfl hl.1 rfl (lv_room (Nat.le_of_ble_eq_true rfl)) dL_law_1106 (by refine ⟨?_, ?_⟩ <;> simp only [room_1] <;> omega)) hS (fun q _ h => hA3 q h) hA3 (fun r3 u t H locs ht hvm hw3 hB hz3 hk3 hS => ?_)
  try dsimp only at hw3 hB
  rw [ht] at hB
  have hH := hB
  obtain ⟨gi3, gr3⟩ := u
  try dsimp only at hw3 hH
  have hJ1 := hH.J
  refine lv_pop hx hb dL_law_1109 rfl ?_
  refine lv_aload_n hx hb dL_law_1110 rfl (lv_at hl 2 rfl) ?_
  refine lv_aload_n hx hb dL_law_1111 rfl (lv_at hl 0 rfl) ?_
  refine lv_iload_n hx hb dL_law_1112 rfl (lv_at hl 3 rfl) ?_
  refine lv_iconst (v := 1) hx hb dL_law_1113 (by decide) ?_
  refine lv_iadd hx hb dL_law_1114 ?_
  refine lv_topi (fun x4 e4 => ?_)
  refine va_sld hx hb hX hbl hbA hS (sc_in 1 (by decide) (by decide) (by decide) e4 hy hL) dL_law_1115 ?_
  refine lv_topi (fun v5 ev5 => ?_)
  have hA6 := th_Al hT hS
  have hle6 := hS.1
  refine va_calli (va_runV (As := [.int v5]) (rest := []) ⟨hx, hb, hml, hown, hts⟩ (k_X12_count l D cA Z τ gi3 gr3 _ (A 12) t2 v5) (cwV 1 hts gL_law_X12_count rfl rfl rfl (by decide +kernel) ⟨Nat.le_of_ble_eq_true rfl, Nat.le_of_ble_eq_true rfl⟩) ⟨th_blind, th_recv hK hH t2 (ci := 11) (by decide) rfl rfl, th_pre hH hK hN hZ hS hA6⟩ rfl rfl hl.1 rfl (lv_room (Nat.le_of_ble_eq_true rfl)) dL_law_1116 (by refine ⟨?_, ?_⟩ <;> simp only [room_1] <;> omega)) hS (fun q _ h => hA6 q h) hA6 (fun r6 u t H locs ht hvm hw6 hB hz6 hk6 hS => ?_)
  try dsimp only at hw6 hB
  rw [ht] at hB
  have hH := hB
  obtain ⟨gi6, gr6⟩ := u
  try dsimp only at hw6 hH
  refine lv_pop hx hb dL_law_1119 rfl ?_
  refine lv_goto (tgt := 1146) hx hb dL_law_1120 (by decide) ?_
  have ea_v5 : v5 = v2 := by rw [ev5, ev2, e4, e1]
  rw [ea_v5] at hw6
  have hsm := sim_count hJ hJ1 hv hw3 hw6
  have hv := hsm
  refine W.widen (k := cells + 2) (n := slots + 32) (by omega) (by omega) ?_
  exact kk _ _ _ _ _ _ hH hS hT t1 t2 hv hl

set_option maxHeartbeats 8000000 in
set_option maxRecDepth 100000 in
theorem law_c33 {p : Program} {l : Launch} {e : Env} {s : State} {m : MethodId} {below : List Frame} {meth : Method} {c : Code} {D : va_G} {cA : Nat → ClassId} {Z : th_Zt} {b L : Nat} {xs : Nat → Int32} {A : Nat → Nat} {cells slots : Nat} {y : Int32} {Q : State → Prop} (C0 : lw_At p s m meth c b L xs) (hK : va_K D vwCl (th_tys cA) s) (hN : th_N s) (hZ : th_Z Z (fun q : Nat => s.heap.size ≤ q) s s.heap) (hL : L ≤ 2560) (hy : 0 ≤ y.toInt ∧ y.toInt + 5 ≤ (L : Int)) (hc : cells + 2 ≤ 600000) (hs : slots + 32 ≤ 7302249) (kk : lc_K p l e s m below meth c D cA b (A 11) (A 12) y (fun (t : th_t) (g : th_i) (r : th_r) => Rel Z t g r g r A) (cells + 2) (slots + 32) Q 1146) : lc_K p l e s m below meth c D cA b (A 11) (A 12) y (fun (t : th_t) (g : th_i) (r : th_r) => Rel Z t g r g r A) cells slots Q 1123 := by
  intro τ gi gr H locs ls hH hS hT t1 t2 hv hl
  obtain ⟨hx, hb, hr, hml, hown, hts, hX, hbl, hlocks, hgv⟩ := C0
  have hbA : ¬ (fun q : Nat => s.heap.size ≤ q) b := Nat.not_le.mpr hbl
  refine lv_aload_n hx hb dL_law_1123 rfl (lv_at hl 1 rfl) ?_
  refine lv_aload_n hx hb dL_law_1124 rfl (lv_at hl 0 rfl) ?_
  refine lv_iload_n hx hb dL_law_1125 rfl (lv_at hl 3 rfl) ?_
  refine lv_iconst (v := 1) hx hb dL_law_1126 (by decide) ?_
  refine lv_iadd hx hb dL_law_1127 ?_
  refine lv_topi (fun x1 e1 => ?_)
  refine va_sld hx hb hX hbl hbA hS (sc_in 1 (by decide) (by decide) (by decide) e1 hy hL) dL_law_1128 ?_
  refine lv_topi (fun v2 ev2 => ?_)
  have hJ := hH.J
  have hA3 := th_Al hT hS
  have hle3 := hS.1
  refine va_calli (va_runV (As := [.int v2]) (rest := []) ⟨hx, hb, hml, hown, hts⟩ (k_X11_found l D cA Z τ gi gr _ (A 11) t1 v2) (cwV 1 hts gL_law_X11_found rfl rfl rfl (by decide +kernel) ⟨Nat.le_of_ble_eq_true rfl, Nat.le_of_ble_eq_true rfl⟩) ⟨th_blind, th_recv hK hH t1 (ci := 10) (by decide) rfl rfl, th_pre hH hK hN hZ hS hA3⟩ rfl rfl hl.1 rfl (lv_room (Nat.le_of_ble_eq_true rfl)) dL_law_1129 (by refine ⟨?_, ?_⟩ <;> simp only [room_1] <;> omega)) hS (fun q _ h => hA3 q h) hA3 (fun r3 u t H locs ht hvm hw3 hB hz3 hk3 hS => ?_)
  try dsimp only at hw3 hB
  rw [ht] at hB
  have hH := hB
  obtain ⟨gi3, gr3⟩ := u
  try dsimp only at hw3 hH
  have hJ1 := hH.J
  refine lv_pop hx hb dL_law_1132 rfl ?_
  refine lv_aload_n hx hb dL_law_1133 rfl (lv_at hl 2 rfl) ?_
  refine lv_aload_n hx hb dL_law_1134 rfl (lv_at hl 0 rfl) ?_
  refine lv_iload_n hx hb dL_law_1135 rfl (lv_at hl 3 rfl) ?_
  refine lv_iconst (v := 1) hx hb dL_law_1136 (by decide) ?_
  refine lv_iadd hx hb dL_law_1137 ?_
  refine lv_topi (fun x4 e4 => ?_)
  refine va_sld hx hb hX hbl hbA hS (sc_in 1 (by decide) (by decide) (by decide) e4 hy hL) dL_law_1138 ?_
  refine lv_topi (fun v5 ev5 => ?_)
  have hA6 := th_Al hT hS
  have hle6 := hS.1
  refine va_calli (va_runV (As := [.int v5]) (rest := []) ⟨hx, hb, hml, hown, hts⟩ (k_X12_found l D cA Z τ gi3 gr3 _ (A 12) t2 v5) (cwV 1 hts gL_law_X12_found rfl rfl rfl (by decide +kernel) ⟨Nat.le_of_ble_eq_true rfl, Nat.le_of_ble_eq_true rfl⟩) ⟨th_blind, th_recv hK hH t2 (ci := 11) (by decide) rfl rfl, th_pre hH hK hN hZ hS hA6⟩ rfl rfl hl.1 rfl (lv_room (Nat.le_of_ble_eq_true rfl)) dL_law_1139 (by refine ⟨?_, ?_⟩ <;> simp only [room_1] <;> omega)) hS (fun q _ h => hA6 q h) hA6 (fun r6 u t H locs ht hvm hw6 hB hz6 hk6 hS => ?_)
  try dsimp only at hw6 hB
  rw [ht] at hB
  have hH := hB
  obtain ⟨gi6, gr6⟩ := u
  try dsimp only at hw6 hH
  refine lv_pop hx hb dL_law_1142 rfl ?_
  refine lv_goto (tgt := 1146) hx hb dL_law_1143 (by decide) ?_
  have ea_v5 : v5 = v2 := by rw [ev5, ev2, e4, e1]
  rw [ea_v5] at hw6
  have hsm := sim_found hJ hJ1 hv hw3 hw6
  have hv := hsm
  refine W.widen (k := cells + 2) (n := slots + 32) (by omega) (by omega) ?_
  exact kk _ _ _ _ _ _ hH hS hT t1 t2 hv hl
