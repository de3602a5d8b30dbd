set_option maxHeartbeats 20000000 in
set_option maxRecDepth 100000 in
theorem law_loop {p : Program} {l : Launch} {e : Env} {s : State} {m : MethodId} {below : List Frame} {meth : Method} {c : Code} {D : va_G} {cA : Nat → ClassId} {Z : th_Zt} {b L : Nat} {xs : Nat → Int32} {A : Nat → Nat} (hL : L ≤ 2560) (C0 : lw_At p s m meth c b L xs) (hK : va_K D vwCl (th_tys cA) s) (hN : th_N s) (hZ : th_Z Z (fun q : Nat => s.heap.size ≤ q) s s.heap) :
    ∀ (n i : Nat) (y : Int32), y.toInt = 5 * (i : Int) → 5 * i ≤ L → L - 5 * i < n → lc_K p l e s m below meth c D cA b (A 11) (A 12) y (fun (t : th_t) (g : th_i) (r : th_r) => Rel Z t g r g r A) (56 + 2 * i) (1337 + 32 * i) (lw_Z below #[Value.ref b] s) 18 := by
  intro n
  induction n with
  | zero =>
    intro i y h1 h2 h3
    exact absurd h3 (Nat.not_lt_zero _)
  | succ n ih =>
    intro i y hyi hi hn τ gi gr H locs ls hH hS hT t1 t2 hv hl
    obtain ⟨hx, hb, hr, hml, hown, hts0, hX, hbl, hlocks, hgv⟩ := id C0
    have hbA : ¬ (fun q : Nat => s.heap.size ≤ q) b := Nat.not_le.mpr hbl
    refine lv_iload_n hx hb dL_law_18 rfl (lv_at hl 3 rfl) ?_
    refine lv_aload_n hx hb dL_law_19 rfl (lv_at hl 0 rfl) ?_
    refine va_slen hx hb hX hbl hbA hS dL_law_20 ?_
    refine lv_iconst (v := 5) hx hb dL_law_21 (by decide) ?_
    refine lv_isub hx hb dL_law_22 ?_
    refine lv_topi (fun z ez => ?_)
    have h5 : (5 : Int32).toInt = 5 := by decide
    have hLt : (Int32.ofNat L).toInt = (L : Int) := nI_toInt (by omega)
    have hz : z.toInt = (L : Int) - 5 := by
      rw [ez, Int32.toInt_sub, hLt, h5]
      exact rg_bm (by omega) (by omega)
    refine lv_icmp_gt (tgt := 1152) hx hb dL_law_23 (by decide) (fun c1 => ?_) (fun c1 => ?_)
    · refine lv_iconst (v := 1) hx hb dL_law_1152 (by decide) ?_
      refine va_forget (fun q hq => hS.2.2 q hq) ?_
      refine W.widen (k := 600000) (n := 7302249) (by omega) (by omega) ?_
      exact lw_ret hx hb hr hlocks dL_law_1153
    · have c2 := Int32.le_iff_toInt_le.mp (Int32.not_lt.mp c1)
      have hy : 0 ≤ y.toInt ∧ y.toInt + 5 ≤ (L : Int) := ⟨by omega, by omega⟩
      have K : lc_K p l e s m below meth c D cA b (A 11) (A 12) y (fun (t : th_t) (g : th_i) (r : th_r) => Rel Z t g r g r A) (56 + 2 * i + 2) (1337 + 32 * i + 32) (lw_Z below #[Value.ref b] s) 1146 := by
        intro τ gi gr H locs ls hH hS hT t1 t2 hv hl
        obtain ⟨y5, e5⟩ : ∃ v : Int32, v = y + 5 := ⟨_, rfl⟩
        refine lv_iinc (v := y5) (lv' := [(3, .int y5), (0, .ref b), (1, .ref (A 11)), (2, .ref (A 12))]) hx hb dL_law_1146 hl (k := 3) rfl (by rw [e5]; rfl) (by decide) rfl (fun ls hl => ?_)
        refine lv_goto (tgt := 18) hx hb dL_law_1149 (by decide) ?_
        have hy5 : y5.toInt = 5 * ((i + 1 : Nat) : Int) := by
          rw [e5, Int32.toInt_add, h5, rg_bm (by omega) (by omega)]
          omega
        refine W.cs (cells' := 56 + 2 * (i + 1)) (slots' := 1337 + 32 * (i + 1)) (by omega) (by omega) ?_
        exact ih (i + 1) y5 hy5 (by omega) (by omega) τ gi gr H locs ls hH hS hT t1 t2 hv (lv_sub hl [1, 2, 3, 0] rfl)
      refine lv_aload_n hx hb dL_law_26 rfl (lv_at hl 0 rfl) ?_
      refine lv_iload_n hx hb dL_law_27 rfl (lv_at hl 3 rfl) ?_
      refine va_sld hx hb hX hbl hbA hS (vp_in_iff.mpr ⟨hy.1, by omega⟩) dL_law_28 ?_
      refine lv_bipush (v := 63) hx hb dL_law_29 (by decide) ?_
      refine lv_iand hx hb dL_law_31 ?_
      refine lv_topi (fun w ew => ?_)
      have fw : rg 0 63 w := by rw [ew]; exact rg_and 6 (by decide) (by decide) (by decide)
      have fw1 := fw.1
      rcases Int.lt_or_le 33 w.toInt with y9 | y9
      · refine lv_tableOut (tgt := 1146) hx hb dL_law_32 (Or.inr y9) (by decide) ?_
        refine W.widen (k := 56 + 2 * i + 2) (n := 1337 + 32 * i + 32) (by omega) (by omega) ?_
        exact K _ _ _ _ _ _ hH hS hT t1 t2 hv hl
      rcases (show w.toInt = 0 ∨ w.toInt = 1 ∨ w.toInt = 2 ∨ w.toInt = 3 ∨ w.toInt = 4 ∨ w.toInt = 5 ∨ w.toInt = 6 ∨ w.toInt = 7 ∨ w.toInt = 8 ∨ w.toInt = 9 ∨ w.toInt = 10 ∨ w.toInt = 11 ∨ w.toInt = 12 ∨ w.toInt = 13 ∨ w.toInt = 14 ∨ w.toInt = 15 ∨ w.toInt = 16 ∨ w.toInt = 17 ∨ w.toInt = 18 ∨ w.toInt = 19 ∨ w.toInt = 20 ∨ w.toInt = 21 ∨ w.toInt = 22 ∨ w.toInt = 23 ∨ w.toInt = 24 ∨ w.toInt = 25 ∨ w.toInt = 26 ∨ w.toInt = 27 ∨ w.toInt = 28 ∨ w.toInt = 29 ∨ w.toInt = 30 ∨ w.toInt = 31 ∨ w.toInt = 32 ∨ w.toInt = 33 by omega) with h | h | h | h | h | h | h | h | h | h | h | h | h | h | h | h | h | h | h | h | h | h | h | h | h | h | h | h | h | h | h | h | h | h
      · refine lv_tableIn (tgt := 184) hx hb dL_law_32 (by omega) (by omega) (by rw [h]; rfl) (by decide) ?_
        exact law_c0 C0 hK hN hZ hL hy (by omega) (by omega) K _ _ _ _ _ _ hH hS hT t1 t2 hv hl
      · refine lv_tableIn (tgt := 237) hx hb dL_law_32 (by omega) (by omega) (by rw [h]; rfl) (by decide) ?_
        exact law_c1 C0 hK hN hZ hL hy (by omega) (by omega) K _ _ _ _ _ _ hH hS hT t1 t2 hv hl
      · refine lv_tableIn (tgt := 280) hx hb dL_law_32 (by omega) (by omega) (by rw [h]; rfl) (by decide) ?_
        exact law_c2 C0 hK hN hZ hL hy (by omega) (by omega) K _ _ _ _ _ _ hH hS hT t1 t2 hv hl
      · refine lv_tableIn (tgt := 313) hx hb dL_law_32 (by omega) (by omega) (by rw [h]; rfl) (by decide) ?_
        exact law_c3 C0 hK hN hZ hL hy (by omega) (by omega) K _ _ _ _ _ _ hH hS hT t1 t2 hv hl
      · refine lv_tableIn (tgt := 346) hx hb dL_law_32 (by omega) (by omega) (by rw [h]; rfl) (by decide) ?_
        exact law_c4 C0 hK hN hZ hL hy (by omega) (by omega) K _ _ _ _ _ _ hH hS hT t1 t2 hv hl
      · refine lv_tableIn (tgt := 369) hx hb dL_law_32 (by omega) (by omega) (by rw [h]; rfl) (by decide) ?_
        exact law_c5 C0 hK hN hZ hL hy (by omega) (by omega) K _ _ _ _ _ _ hH hS hT t1 t2 hv hl
      · refine lv_tableIn (tgt := 402) hx hb dL_law_32 (by omega) (by omega) (by rw [h]; rfl) (by decide) ?_
        exact law_c6 C0 hK hN hZ hL hy (by omega) (by omega) K _ _ _ _ _ _ hH hS hT t1 t2 hv hl
      · refine lv_tableIn (tgt := 435) hx hb dL_law_32 (by omega) (by omega) (by rw [h]; rfl) (by decide) ?_
        exact law_c7 C0 hK hN hZ hL hy (by omega) (by omega) K _ _ _ _ _ _ hH hS hT t1 t2 hv hl
      · refine lv_tableIn (tgt := 478) hx hb dL_law_32 (by omega) (by omega) (by rw [h]; rfl) (by decide) ?_
        exact law_c8 C0 hK hN hZ hL hy (by omega) (by omega) K _ _ _ _ _ _ hH hS hT t1 t2 hv hl
      · refine lv_tableIn (tgt := 511) hx hb dL_law_32 (by omega) (by omega) (by rw [h]; rfl) (by decide) ?_
        exact law_c9 C0 hK hN hZ hL hy (by omega) (by omega) K _ _ _ _ _ _ hH hS hT t1 t2 hv hl
      · refine lv_tableIn (tgt := 564) hx hb dL_law_32 (by omega) (by omega) (by rw [h]; rfl) (by decide) ?_
        exact law_c10 C0 hK hN hZ hL hy (by omega) (by omega) K _ _ _ _ _ _ hH hS hT t1 t2 hv hl
      · refine lv_tableIn (tgt := 597) hx hb dL_law_32 (by omega) (by omega) (by rw [h]; rfl) (by decide) ?_
        exact law_c11 C0 hK hN hZ hL hy (by omega) (by omega) K _ _ _ _ _ _ hH hS hT t1 t2 hv hl
      · refine lv_tableIn (tgt := 620) hx hb dL_law_32 (by omega) (by omega) (by rw [h]; rfl) (by decide) ?_
        exact law_c12 C0 hK hN hZ hL hy (by omega) (by omega) K _ _ _ _ _ _ hH hS hT t1 t2 hv hl
      · refine lv_tableIn (tgt := 653) hx hb dL_law_32 (by omega) (by omega) (by rw [h]; rfl) (by decide) ?_
        exact law_c13 C0 hK hN hZ hL hy (by omega) (by omega) K _ _ _ _ _ _ hH hS hT t1 t2 hv hl
      · refine lv_tableIn (tgt := 676) hx hb dL_law_32 (by omega) (by omega) (by rw [h]; rfl) (by decide) ?_
        exact law_c14 C0 hK hN hZ hL hy (by omega) (by omega) K _ _ _ _ _ _ hH hS hT t1 t2 hv hl
      · refine lv_tableIn (tgt := 699) hx hb dL_law_32 (by omega) (by omega) (by rw [h]; rfl) (by decide) ?_
        exact law_c15 C0 hK hN hZ hL hy (by omega) (by omega) K _ _ _ _ _ _ hH hS hT t1 t2 hv hl
      · refine lv_tableIn (tgt := 722) hx hb dL_law_32 (by omega) (by omega) (by rw [h]; rfl) (by decide) ?_
        exact law_c16 C0 hK hN hZ hL hy (by omega) (by omega) K _ _ _ _ _ _ hH hS hT t1 t2 hv hl
      · refine lv_tableIn (tgt := 755) hx hb dL_law_32 (by omega) (by omega) (by rw [h]; rfl) (by decide) ?_
        exact law_c17 C0 hK hN hZ hL hy (by omega) (by omega) K _ _ _ _ _ _ hH hS hT t1 t2 hv hl
      · refine lv_tableIn (tgt := 778) hx hb dL_law_32 (by omega) (by omega) (by rw [h]; rfl) (by decide) ?_
        exact law_c18 C0 hK hN hZ hL hy (by omega) (by omega) K _ _ _ _ _ _ hH hS hT t1 t2 hv hl
      · refine lv_tableIn (tgt := 811) hx hb dL_law_32 (by omega) (by omega) (by rw [h]; rfl) (by decide) ?_
        exact law_c19 C0 hK hN hZ hL hy (by omega) (by omega) K _ _ _ _ _ _ hH hS hT t1 t2 hv hl
      · refine lv_tableIn (tgt := 834) hx hb dL_law_32 (by omega) (by omega) (by rw [h]; rfl) (by decide) ?_
        exact law_c20 C0 hK hN hZ hL hy (by omega) (by omega) K _ _ _ _ _ _ hH hS hT t1 t2 hv hl
      · refine lv_tableIn (tgt := 857) hx hb dL_law_32 (by omega) (by omega) (by rw [h]; rfl) (by decide) ?_
        exact law_c21 C0 hK hN hZ hL hy (by omega) (by omega) K _ _ _ _ _ _ hH hS hT t1 t2 hv hl
      · refine lv_tableIn (tgt := 870) hx hb dL_law_32 (by omega) (by omega) (by rw [h]; rfl) (by decide) ?_
        exact law_c22 C0 hK hN hZ hL hy (by omega) (by omega) K _ _ _ _ _ _ hH hS hT t1 t2 hv hl
      · refine lv_tableIn (tgt := 893) hx hb dL_law_32 (by omega) (by omega) (by rw [h]; rfl) (by decide) ?_
        exact law_c23 C0 hK hN hZ hL hy (by omega) (by omega) K _ _ _ _ _ _ hH hS hT t1 t2 hv hl
      · refine lv_tableIn (tgt := 936) hx hb dL_law_32 (by omega) (by omega) (by rw [h]; rfl) (by decide) ?_
        exact law_c24 C0 hK hN hZ hL hy (by omega) (by omega) K _ _ _ _ _ _ hH hS hT t1 t2 hv hl
      · refine lv_tableIn (tgt := 949) hx hb dL_law_32 (by omega) (by omega) (by rw [h]; rfl) (by decide) ?_
        exact law_c25 C0 hK hN hZ hL hy (by omega) (by omega) K _ _ _ _ _ _ hH hS hT t1 t2 hv hl
      · refine lv_tableIn (tgt := 972) hx hb dL_law_32 (by omega) (by omega) (by rw [h]; rfl) (by decide) ?_
        exact law_c26 C0 hK hN hZ hL hy (by omega) (by omega) K _ _ _ _ _ _ hH hS hT t1 t2 hv hl
      · refine lv_tableIn (tgt := 995) hx hb dL_law_32 (by omega) (by omega) (by rw [h]; rfl) (by decide) ?_
        exact law_c27 C0 hK hN hZ hL hy (by omega) (by omega) K _ _ _ _ _ _ hH hS hT t1 t2 hv hl
      · refine lv_tableIn (tgt := 1028) hx hb dL_law_32 (by omega) (by omega) (by rw [h]; rfl) (by decide) ?_
        exact law_c28 C0 hK hN hZ hL hy (by omega) (by omega) K _ _ _ _ _ _ hH hS hT t1 t2 hv hl
      · refine lv_tableIn (tgt := 1051) hx hb dL_law_32 (by omega) (by omega) (by rw [h]; rfl) (by decide) ?_
        exact law_c29 C0 hK hN hZ hL hy (by omega) (by omega) K _ _ _ _ _ _ hH hS hT t1 t2 hv hl
      · refine lv_tableIn (tgt := 1064) hx hb dL_law_32 (by omega) (by omega) (by rw [h]; rfl) (by decide) ?_
        exact law_c30 C0 hK hN hZ hL hy (by omega) (by omega) K _ _ _ _ _ _ hH hS hT t1 t2 hv hl
      · refine lv_tableIn (tgt := 1087) hx hb dL_law_32 (by omega) (by omega) (by rw [h]; rfl) (by decide) ?_
        exact law_c31 C0 hK hN hZ hL hy (by omega) (by omega) K _ _ _ _ _ _ hH hS hT t1 t2 hv hl
      · refine lv_tableIn (tgt := 1100) hx hb dL_law_32 (by omega) (by omega) (by rw [h]; rfl) (by decide) ?_
        exact law_c32 C0 hK hN hZ hL hy (by omega) (by omega) K _ _ _ _ _ _ hH hS hT t1 t2 hv hl
      · refine lv_tableIn (tgt := 1123) hx hb dL_law_32 (by omega) (by omega) (by rw [h]; rfl) (by decide) ?_
        exact law_c33 C0 hK hN hZ hL hy (by omega) (by omega) K _ _ _ _ _ _ hH hS hT t1 t2 hv hl
