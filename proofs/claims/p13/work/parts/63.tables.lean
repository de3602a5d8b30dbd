set_option maxHeartbeats 8000000 in
set_option maxRecDepth 100000 in
theorem law_K {s : State} {args : Array Value} (hts : ∀ w ∈ lw_tbl, w.before args s = true) : ∃ (D : va_G) (cA : Nat → ClassId), va_K D vwCl (th_tys cA) s := by
  obtain ⟨c0, iS0, hk0⟩ := u_known (C := RX0) (T := TX0) (N := 9) (n := 9) hts inX0 (hts (.instantiable RX0 9) mw_1_27.1)
  obtain ⟨c1, iS1, hk1⟩ := u_known (C := RX1) (T := TX1) (N := 2) (n := 2) hts inX1 (hts (.instantiable RX1 2) mw_1_37.1)
  obtain ⟨c2, iS2, hk2⟩ := u_known (C := RX3) (T := TX3) (N := 8) (n := 8) hts inX3 (hts (.instantiable RX3 8) mw_1_232.1)
  obtain ⟨c3, iS3, hk3⟩ := u_known (C := RX4) (T := TX4) (N := 6) (n := 6) hts inX4 (hts (.instantiable RX4 6) mw_2_103.1)
  obtain ⟨c4, iS4, hk4⟩ := u_known (C := RX5) (T := TX5) (N := 3) (n := 3) hts inX5 (hts (.instantiable RX5 3) mw_1_166.1)
  obtain ⟨c5, iS5, hk5⟩ := u_known (C := RX6) (T := TX6) (N := 4) (n := 4) hts inX6 (hts (.instantiable RX6 4) mw_1_147.1)
  obtain ⟨c6, iS6, hk6⟩ := u_known (C := RX7) (T := TX7) (N := 8) (n := 8) hts inX7 (hts (.instantiable RX7 8) mw_1_114.1)
  obtain ⟨c7, iS7, hk7⟩ := u_known (C := RX8) (T := TX8) (N := 6) (n := 6) hts inX8 (hts (.instantiable RX8 6) mw_2_116.1)
  obtain ⟨c8, iS8, hk8⟩ := u_known (C := RX9) (T := TX9) (N := 6) (n := 6) hts inX9 (hts (.instantiable RX9 6) mw_2_61.1)
  obtain ⟨c9, iS9, hk9⟩ := u_known (C := RX10) (T := TX10) (N := 3) (n := 3) hts inX10 (hts (.instantiable RX10 3) mw_1_97.1)
  obtain ⟨c10, iS10, hk10⟩ := u_known (C := RX11) (T := TX11) (N := 10) (n := 10) hts inX11 (hts (.instantiable RX11 10) mv_1_19)
  obtain ⟨c11, iS11, hk11⟩ := u_known (C := RX12) (T := TX12) (N := 38) (n := 38) hts inX12 (hts (.instantiable RX12 38) mv_4_131)
  obtain ⟨cI, kI, oI, i1, i2, i3⟩ := Cond.arrayClass_spec (hts (.arrayClass .int) mw_1_52.1)
  obtain ⟨cZ, kZ, oZ, z1, z2, z3⟩ := Cond.arrayClass_spec (hts (.arrayClass .boolean) mw_1_53.1)
  obtain ⟨oB, cB, kB, b1, b2, b3, b4, b5⟩ := Cond.arrayOver_spec (hts (.arrayOver (.object "BayMoorings$Buoy")) mv_1_33)
  obtain ⟨oT, cT, kT, a1, a2, a3, a4, a5⟩ := Cond.arrayOver_spec (hts (.arrayOver (.object "BayMoorings$Boat")) mv_1_35)
  refine ⟨(fun k => match k with | 0 => c0 | 1 => c1 | 2 => c2 | 3 => c3 | 4 => c4 | 5 => c5 | 6 => c6 | 7 => c7 | 8 => c8 | 9 => c9 | 10 => c10 | _ => c11, fun k => match k with | 0 => iS0 | 1 => iS1 | 2 => iS2 | 3 => iS3 | 4 => iS4 | 5 => iS5 | 6 => iS6 | 7 => iS7 | 8 => iS8 | 9 => iS9 | 10 => iS10 | _ => iS11), fun k => match k with | 0 => cI | 1 => cZ | 2 => cB | _ => cT, fun k q hq => ?_, fun k q hq => ?_⟩
  · match k, hq with
    | 0, hq => cases hq; exact hk0
    | 1, hq => cases hq; exact hk1
    | 2, hq => cases hq; exact hk2
    | 3, hq => cases hq; exact hk3
    | 4, hq => cases hq; exact hk4
    | 5, hq => cases hq; exact hk5
    | 6, hq => cases hq; exact hk6
    | 7, hq => cases hq; exact hk7
    | 8, hq => cases hq; exact hk8
    | 9, hq => cases hq; exact hk9
    | 10, hq => cases hq; exact hk10
    | 11, hq => cases hq; exact hk11
    | k + 12, hq => simp [vwCl] at hq
  · match k, hq with
    | 0, hq => cases hq; exact ⟨fun N z => ⟨fun k h => (by cases h), kI, i2, oI, i3⟩, i1⟩
    | 1, hq => cases hq; exact ⟨fun N z => ⟨fun k h => (by cases h), kZ, z2, oZ, z3⟩, z1⟩
    | 2, hq => cases hq; exact ⟨fun N z => ⟨fun k h => (by cases h), kB, b3, oB, b4⟩, kB, oB, b3, b4, b1, b5⟩
    | 3, hq => cases hq; exact ⟨fun N z => ⟨fun k h => (by cases h), kT, a3, oT, a4⟩, kT, oT, a3, a4, a1, a5⟩
    | k + 4, hq => simp [th_tys] at hq
set_option maxHeartbeats 8000000 in
set_option maxRecDepth 100000 in
theorem law_N {s : State} {args : Array Value} (hts : ∀ w ∈ lw_tbl, w.before args s = true) : th_N s := ⟨va_Nw.of rfl (hts (.methodLinkNest RX3 37 yX11_isHour RX11) mv_2_40), va_Nw.of rfl (hts (.methodLinkNest RX0 51 yX11_within RX11) mv_2_136), va_Nw.of rfl (hts (.methodLinkNest RX0 77 yX11_isHour RX11) mv_2_181), va_Nw.of rfl (hts (.methodLinkNest RX1 24 yX11_within RX11) mv_2_206), va_Nw.of rfl (hts (.methodLinkNest RX10 23 yX11_within RX11) mv_3_70), va_Nw.of rfl (hts (.methodLinkNest RX7 64 yX11_within RX11) mv_3_134), va_Nw.of rfl (hts (.methodLinkNest RX2 39 yX11_within RX11) mv_3_197), va_Nw.of rfl (hts (.methodLinkNest RX6 26 yX11_within RX11) mv_3_226), va_Nw.of rfl (hts (.fieldLinkNest RX0 159 "BayMoorings" "WIND_X" "[I" RX11) mv_3_45), va_Nw.of rfl (hts (.fieldLinkNest RX0 162 "BayMoorings" "WIND_Y" "[I" RX11) mv_3_47), va_Nw.of rfl (hts (.declares ⟨"BayMoorings$Boat", "kindNumber", "()I"⟩) mv_2_145), va_Nw.of rfl (hts (.declares ⟨"BayMoorings$Boat", "plainFee", "(I)I"⟩) mv_2_166), va_AO.of (hts (.arrayOver (.object "BayMoorings$Boat")) mv_1_35), va_AO.of (hts (.arrayOver (.object "BayMoorings$Buoy")) mv_1_33), va_Nw.of rfl (hts (.castable RX4 "BayMoorings$Boat") mv_6_38), va_Nw.of rfl (hts (.castable RX8 "BayMoorings$Boat") mv_6_39), va_Nw.of rfl (hts (.castable RX9 "BayMoorings$Boat") mv_6_37)⟩
set_option maxHeartbeats 8000000 in
set_option maxRecDepth 100000 in
theorem law_Z {s : State} {b : Nat} (hts : ∀ w ∈ lw_tbl, w.before #[Value.ref b] s = true) (hgv : (Jvm.Cond.and given_1 narrow_1).before #[Value.ref b] s = true) : ∃ Z : th_Zt, th_Z Z (fun q : Nat => s.heap.size ≤ q) s s.heap ∧ Z.2.1 = th_wX ∧ Z.2.2 = th_wY := by
  have hs := flat_of_before _ hgv
  have hA : ∀ a : Nat, a < s.heap.size → ¬ (fun q : Nat => s.heap.size ≤ q) a := fun a h => Nat.not_le.mpr h
  obtain ⟨tX, eX, TX⟩ := va_Tof (tm := (Term.static "BayMoorings" "WIND_X" "[I")) (N := 8) (f := fun j => .int (th_wX j)) (by decide) (hs (.arrayOf (Term.static "BayMoorings" "WIND_X" "[I") .int) (by decide +kernel)) (va_eqt (hs (.eq (.length (Term.static "BayMoorings" "WIND_X" "[I")) (.int 8)) (by decide +kernel))) (fun j hj => by
    rcases (show j = 0 ∨ j = 1 ∨ j = 2 ∨ j = 3 ∨ j = 4 ∨ j = 5 ∨ j = 6 ∨ j = 7 by omega) with rfl | rfl | rfl | rfl | rfl | rfl | rfl | rfl
    · exact va_eqt (hs (.eq (.elem (Term.static "BayMoorings" "WIND_X" "[I") (.int 0)) (.int (0))) (by decide +kernel))
    · exact va_eqt (hs (.eq (.elem (Term.static "BayMoorings" "WIND_X" "[I") (.int 1)) (.int (1))) (by decide +kernel))
    · exact va_eqt (hs (.eq (.elem (Term.static "BayMoorings" "WIND_X" "[I") (.int 2)) (.int (1))) (by decide +kernel))
    · exact va_eqt (hs (.eq (.elem (Term.static "BayMoorings" "WIND_X" "[I") (.int 3)) (.int (1))) (by decide +kernel))
    · exact va_eqt (hs (.eq (.elem (Term.static "BayMoorings" "WIND_X" "[I") (.int 4)) (.int (0))) (by decide +kernel))
    · exact va_eqt (hs (.eq (.elem (Term.static "BayMoorings" "WIND_X" "[I") (.int 5)) (.int (-1))) (by decide +kernel))
    · exact va_eqt (hs (.eq (.elem (Term.static "BayMoorings" "WIND_X" "[I") (.int 6)) (.int (-1))) (by decide +kernel))
    · exact va_eqt (hs (.eq (.elem (Term.static "BayMoorings" "WIND_X" "[I") (.int 7)) (.int (-1))) (by decide +kernel))) hA
  have ZX := va_Zref (C := "BayMoorings") (n := "WIND_X") (d := "[I") (hts (.laysStatic "BayMoorings" "WIND_X" "[I") mv_3_46) (hts (.initialized "BayMoorings") mw_1_1.1) eX hA
  obtain ⟨tY, eY, TY⟩ := va_Tof (tm := (Term.static "BayMoorings" "WIND_Y" "[I")) (N := 8) (f := fun j => .int (th_wY j)) (by decide) (hs (.arrayOf (Term.static "BayMoorings" "WIND_Y" "[I") .int) (by decide +kernel)) (va_eqt (hs (.eq (.length (Term.static "BayMoorings" "WIND_Y" "[I")) (.int 8)) (by decide +kernel))) (fun j hj => by
    rcases (show j = 0 ∨ j = 1 ∨ j = 2 ∨ j = 3 ∨ j = 4 ∨ j = 5 ∨ j = 6 ∨ j = 7 by omega) with rfl | rfl | rfl | rfl | rfl | rfl | rfl | rfl
    · exact va_eqt (hs (.eq (.elem (Term.static "BayMoorings" "WIND_Y" "[I") (.int 0)) (.int (-1))) (by decide +kernel))
    · exact va_eqt (hs (.eq (.elem (Term.static "BayMoorings" "WIND_Y" "[I") (.int 1)) (.int (-1))) (by decide +kernel))
    · exact va_eqt (hs (.eq (.elem (Term.static "BayMoorings" "WIND_Y" "[I") (.int 2)) (.int (0))) (by decide +kernel))
    · exact va_eqt (hs (.eq (.elem (Term.static "BayMoorings" "WIND_Y" "[I") (.int 3)) (.int (1))) (by decide +kernel))
    · exact va_eqt (hs (.eq (.elem (Term.static "BayMoorings" "WIND_Y" "[I") (.int 4)) (.int (1))) (by decide +kernel))
    · exact va_eqt (hs (.eq (.elem (Term.static "BayMoorings" "WIND_Y" "[I") (.int 5)) (.int (1))) (by decide +kernel))
    · exact va_eqt (hs (.eq (.elem (Term.static "BayMoorings" "WIND_Y" "[I") (.int 6)) (.int (0))) (by decide +kernel))
    · exact va_eqt (hs (.eq (.elem (Term.static "BayMoorings" "WIND_Y" "[I") (.int 7)) (.int (-1))) (by decide +kernel))) hA
  have ZY := va_Zref (C := "BayMoorings") (n := "WIND_Y") (d := "[I") (hts (.laysStatic "BayMoorings" "WIND_Y" "[I") mv_3_48) (hts (.initialized "BayMoorings") mw_1_1.1) eY hA
  exact ⟨((tX, tY), th_wX, th_wY), ⟨ZX, TX, ZY, TY⟩, rfl, rfl⟩
