set_option maxHeartbeats 20000000 in
set_option maxRecDepth 100000 in
theorem whole_start {p : Program} {e : Env} {s : State} {m : MethodId} {below : List Frame} {meth : Method} {c : Code} (l : Launch) {b L : Nat} {xs : Nat → Int32} (hL : L ≤ 2560) (C0 : lw_At p s m meth c b L xs) : W p l e room_1 s m #[Value.ref b] below meth c s.heap [] 0 0 (lw_Z below #[Value.ref b] s) (entryFrame m ([Value.ref b] : List Value).toArray 4) := by
  obtain ⟨hx, hb, hr, hml, hown, hts0, hX, hbl, hlocks, hgv⟩ := id C0
  have hts := hts0
  have hA : ∀ q : Nat, s.heap.size ≤ q → (fun q : Nat => s.heap.size ≤ q) q := fun _ h => h
  obtain ⟨D, cA, hK⟩ := law_K (args := #[Value.ref b]) hts0
  have hN := law_N (args := #[Value.ref b]) hts0
  obtain ⟨Z, hZ, hZx, hZy⟩ := law_Z hts0 hgv
  have hS : va_S (fun q : Nat => s.heap.size ≤ q) s.heap s.heap [] := va_S.rf
  have hH : th_H D cA (fun _ => 0) (fun _ _ => 0) (fun _ _ => none) s.heap := fun a ha => absurd rfl ha
  have hT : ∀ q, (fun _ : Nat => (0 : Nat)) q ≠ 0 → s.heap.size ≤ q := fun q hq => absurd rfl hq
  obtain ⟨τ0, et0⟩ : ∃ t : th_t, t = fun _ => 0 := ⟨_, rfl⟩
  rw [← et0] at hH hT
  obtain ⟨gi0, eg0⟩ : ∃ t : th_i, t = fun _ _ => 0 := ⟨_, rfl⟩
  rw [← eg0] at hH
  obtain ⟨gr0, er0⟩ : ∃ t : th_r, t = fun _ _ => none := ⟨_, rfl⟩
  rw [← er0] at hH
  have hl := lv_entry ([.ref b]) (n := 4) (Nat.le_of_ble_eq_true rfl)
  rw [lg_entry_eq]
  generalize (lg_sl ([.ref b]) ++ List.replicate (4 - (lg_sl ([.ref b])).length) Slot.unset).toArray = ls at hl ⊢
  have hl : lv_has ls 4 [(0, .ref b)] := hl
  have hle1a := hS.1
  refine th_newO (ci := 10) (fs := [.null, .null, .null, .null, .null, .null, .null, .int 0, .int 0, .int 0]) (C := RX11) (T := TX11) (N := 10) hx hb hts0 inX11 tyX11 tyX11_ok hown (hts0 (.classLink RL 7 RX11) mv_1_18) (hts0 (.instantiable RX11 10) mv_1_19) (hts0 (.initialized RX11) mw_1_1.1) hK hH hS hA rfl (fun j hj => by rcases (show j = 0 ∨ j = 1 ∨ j = 2 ∨ j = 3 ∨ j = 4 ∨ j = 5 ∨ j = 6 ∨ j = 7 ∨ j = 8 ∨ j = 9 by omega) with rfl | rfl | rfl | rfl | rfl | rfl | rfl | rfl | rfl | rfl <;> rfl) (by simp only [room_1]; omega) (by simp only [room_1]; omega) dL_law_0 (fun q1 H s1 y1 n1 o1 hR1 hH hS => ?_)
  have le1 : s.heap.size ≤ q1 := by rw [← s1]; exact hle1a
  refine W.widen (k := 1) (n := 10) (by omega) (by omega) ?_
  refine lv_dup hx hb dL_law_3 rfl ?_
  have hle1 := hS.1
  have hAC1 := th_AlC (a := q1) hT hS le1
  refine va_callv (va_runI (As := []) (rest := [.ref q1]) ⟨hx, hb, hml, hown, hts⟩ (k_X11_init l D cA Z τ0 gi0 gr0 _ q1) (cwI 0 hts gL_law_X11_init rfl rfl rfl (hts0 (.initialized RX11) mw_1_1.1) (hts0 (.methodLink RL 9 yX11_init) mv_1_20) (hts0 (.instanceMethod yX11_init) mv_1_21) rfl (by decide +kernel) ⟨Nat.le_of_ble_eq_true rfl, Nat.le_of_ble_eq_true rfl⟩) ⟨th_blindC, th_preC hH hK hN hZ hS hAC1 n1 hR1⟩ rfl rfl hl.1 rfl (lv_room (Nat.le_of_ble_eq_true rfl)) dL_law_4 (by refine ⟨?_, ?_⟩ <;> simp only [room_1] <;> omega)) hS (fun x _ h => hAC1 x h) hAC1 (fun u t H locs ht hvm hw1 hB hz1 hk1 hS => ?_)
  obtain ⟨τ1, gi1, gr1⟩ := u
  try dsimp only at hw1 hB
  rw [ht] at hB
  have hH := hB
  have hT := th_Tx hT hw1.1 hle1 le1
  have t1 := hw1.2.1
  have hH1J := hH.J
  refine W.widen (k := 26) (n := 590) (by omega) (by omega) ?_
  refine lv_astore_n (i := 1) (lv' := [(1, .ref q1), (0, .ref b)]) hx hb dL_law_7 rfl hl (by decide) rfl (fun ls hl => ?_)
  have hle2a := hS.1
  refine th_newO (ci := 11) (fs := [.int 0, .null, .null, .null, .null, .null, .null, .null, .int 0, .null, .null, .null, .null, .null, .int 0, .null, .null, .int 0, .null, .null, .int 0, .null, .null, .int 0, .int 0, .null, .null, .int 0, .null, .null, .null, .null, .null, .int 0, .null, .null, .null, .null]) (C := RX12) (T := TX12) (N := 38) hx hb hts0 inX12 tyX12 tyX12_ok hown (hts0 (.classLink RL 10 RX12) mv_4_130) (hts0 (.instantiable RX12 38) mv_4_131) (hts0 (.initialized RX12) mw_1_9.1) hK hH hS hA rfl (fun j hj => by rcases (show j = 0 ∨ j = 1 ∨ j = 2 ∨ j = 3 ∨ j = 4 ∨ j = 5 ∨ j = 6 ∨ j = 7 ∨ j = 8 ∨ j = 9 ∨ j = 10 ∨ j = 11 ∨ j = 12 ∨ j = 13 ∨ j = 14 ∨ j = 15 ∨ j = 16 ∨ j = 17 ∨ j = 18 ∨ j = 19 ∨ j = 20 ∨ j = 21 ∨ j = 22 ∨ j = 23 ∨ j = 24 ∨ j = 25 ∨ j = 26 ∨ j = 27 ∨ j = 28 ∨ j = 29 ∨ j = 30 ∨ j = 31 ∨ j = 32 ∨ j = 33 ∨ j = 34 ∨ j = 35 ∨ j = 36 ∨ j = 37 by omega) with rfl | rfl | rfl | rfl | rfl | rfl | rfl | rfl | rfl | rfl | rfl | rfl | rfl | rfl | rfl | rfl | rfl | rfl | rfl | rfl | rfl | rfl | rfl | rfl | rfl | rfl | rfl | rfl | rfl | rfl | rfl | rfl | rfl | rfl | rfl | rfl | rfl | rfl <;> rfl) (by simp only [room_1]; omega) (by simp only [room_1]; omega) dL_law_8 (fun q2 H s2 y2 n2 o2 hR2 hH hS => ?_)
  have le2 : s.heap.size ≤ q2 := by rw [← s2]; exact hle2a
  refine W.widen (k := 27) (n := 628) (by omega) (by omega) ?_
  refine lv_dup hx hb dL_law_11 rfl ?_
  have hle2 := hS.1
  have hAC2 := th_AlC (a := q2) hT hS le2
  refine va_callv (va_runI (As := []) (rest := [.ref q2]) ⟨hx, hb, hml, hown, hts⟩ (k_X12_init l D cA Z τ1 gi1 gr1 _ q2) (cwI 0 hts gL_law_X12_init rfl rfl rfl (hts0 (.initialized RX12) mw_1_9.1) (hts0 (.methodLink RL 12 yX12_init) mv_4_132) (hts0 (.instanceMethod yX12_init) mv_4_133) rfl (by decide +kernel) ⟨Nat.le_of_ble_eq_true rfl, Nat.le_of_ble_eq_true rfl⟩) ⟨th_blindC, th_preC hH hK hN hZ hS hAC2 n2 hR2⟩ rfl rfl hl.1 rfl (lv_room (Nat.le_of_ble_eq_true rfl)) dL_law_12 (by refine ⟨?_, ?_⟩ <;> simp only [room_1] <;> omega)) hS (fun x _ h => hAC2 x h) hAC2 (fun u t H locs ht hvm hw2 hB hz2 hk2 hS => ?_)
  obtain ⟨τ2, gi2, gr2⟩ := u
  try dsimp only at hw2 hB
  rw [ht] at hB
  have hH := hB
  have hT := th_Tx hT hw2.1 hle2 le2
  have t2 := hw2.2.1
  refine W.widen (k := 56) (n := 1337) (by omega) (by omega) ?_
  refine lv_astore_n (i := 2) (lv' := [(2, .ref q2), (1, .ref q1), (0, .ref b)]) hx hb dL_law_15 rfl hl (by decide) rfl (fun ls hl => ?_)
  obtain ⟨A, rfl, rfl, hCs, hQs, hC1s, vC, vB, vT⟩ := start_A (hw1.2.2.2.2.2) n1 hH1J t1 hw2.1 rfl hH.J t2
  have vR := st_v (hw1.2.2.2.2.2) n1 hC1s hw2.1 rfl
  have hv : Rel Z τ2 gi2 gr2 gi2 gr2 A := ⟨hCs, hQs, (vB 6 (by decide)).trans (hw2.2.2.2.1).symm, (vB 5 (by decide)).trans (hw2.2.2.1).symm, (fun i hi => by rw [hw2.2.2.2.1] at hi; exact absurd hi (by show ¬ (i : Int) < 0; omega)), (fun j _ => by rw [vT, hw2.2.2.2.2.2.2.2.2.2.2.2.1 (A 51) (hQs.e 13 51 (by decide))]), (fun i hi => by rw [hw2.2.2.1] at hi; exact absurd hi (by show ¬ (i : Int) < 0; omega)), ⟨fun i q hi => by rw [vB 5 (by decide)] at hi; exact absurd hi (by show ¬ (i : Int) < 0; omega), fun i i2 q q2 w hi => by rw [vB 5 (by decide)] at hi; exact absurd hi (by show ¬ (i : Int) < 0; omega)⟩, ⟨fun h _ => Int.le_of_eq (congrArg Int32.toInt ((vB 8 (by decide)).trans (congrFun vT h).symm)), 0, by decide, (vB 8 (by decide)).trans (congrFun vT 0).symm⟩, (st_rep vR.1 vT), (vB 7 (by decide)).trans (hw2.2.2.2.2.1).symm, (fun j hj => ⟨by rw [hZx], by rw [hZy], hw2.2.2.2.2.2.2.2.2.2.2.2.2.2.2.2.1 (A 52) (hQs.e 15 52 (by decide)) j hj, hw2.2.2.2.2.2.2.2.2.2.2.2.2.2.2.2.2 (A 53) (hQs.e 16 53 (by decide)) j hj⟩), ⟨fun i q hi => by rw [hw2.2.2.2.1] at hi; exact absurd hi (by show ¬ (i : Int) < 0; omega), fun i i2 q q2 w hi => by rw [hw2.2.2.2.1] at hi; exact absurd hi (by show ¬ (i : Int) < 0; omega), fun i _ _ => congrFun (hw2.2.2.2.2.2.2.2.2.2.2.2.2.2.1 (A 56) (hQs.e 21 56 (by decide))) i⟩, (vC 9 (by decide)).trans (hw2.2.2.2.2.2.2.1).symm, (fun i j _ hj => by rw [hw2.2.2.2.2.2.2.2.2.2.2.2.2.2.1 (A 56) (hQs.e 21 56 (by decide))] at hj; exact absurd hj (by show ¬ (j : Int) < 0; omega)), (st_core vR.2.1 vR.2.2.1 vR.2.2.2.1 hw2.2.2.2.1 hw2.2.2.1 hw2.2.2.2.2.2.1 (hw2.2.2.2.2.2.2.2.2.2.2.2.2.1 (A 55) (hQs.e 19 55 (by decide))))⟩
  have t1 := (hw2.1.1 (A 11) (by rw [t1]; decide)).trans t1
  refine lv_iconst (v := 0) hx hb dL_law_16 (by decide) ?_
  refine lv_istore_n (i := 3) (lv' := [(3, .int 0), (2, .ref (A 12)), (1, .ref (A 11)), (0, .ref b)]) hx hb dL_law_17 rfl hl (by decide) rfl (fun ls hl => ?_)
  refine W.cs (cells' := 56 + 2 * 0) (slots' := 1337 + 32 * 0) (by omega) (by omega) ?_
  exact law_loop hL C0 hK hN hZ (L + 1) 0 0 (by decide) (by omega) (by omega) _ _ _ _ _ _ hH hS hT t1 t2 hv (lv_sub hl [3, 2, 1, 0] rfl)
