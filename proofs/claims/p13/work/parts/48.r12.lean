/-! ===== FITS, OUT ===== -/
section FO
variable {τ τ1 : th_t} {Z : th_Zt} {gi gi1 gm gm2 : th_i} {gr gr1 rm rm2 : th_r} {A : Nat → Nat} {M1 M2 : List Nat}
def f_reach (k l : Int32) : Int32 := if k = 1 then l + l / 2 else l
def f_need (k d : Int32) : Int32 := if k = 2 then d / 2 else d
theorem re_at {q : Nat} {k : Int32} (h : b_kind τ q k) : FV_reach τ Z gi gr q = f_reach k (gi q 1) := by
  unfold f_reach
  rcases h with ⟨t, e⟩ | ⟨t, e⟩ | ⟨t, e⟩
  · rw [FV_reach_8 t, e, if_neg (by decide)]; rfl
  · rw [FV_reach_9 t, e, if_pos rfl]; rfl
  · rw [FV_reach_4 t, e, if_neg (by decide)]; rfl
theorem ne_at {q : Nat} {k : Int32} (h : b_kind τ q k) : FV_need τ Z gi gr q = f_need k (gi q 2) := by
  unfold f_need
  rcases h with ⟨t, e⟩ | ⟨t, e⟩ | ⟨t, e⟩
  · rw [FV_need_8 t, e, if_neg (by decide)]; rfl
  · rw [FV_need_9 t, e, if_neg (by decide)]; rfl
  · rw [FV_need_4 t, e, if_pos rfl]; rfl
theorem reach_at (hQ : ro_M τ rm A) {v : Int32} : F_X12_reachOf τ Z gm rm (A 12) v = f_reach (gm (A 47) v.toNatClampNeg) (gm (A 48) v.toNatClampNeg) := by
  unfold F_X12_reachOf f_reach
  dsimp only
  rw [hQ.g 10 48 (by decide), hQ.g 9 47 (by decide)]
theorem i_half {l : Int32} (h : 0 ≤ l.toInt) : (l / 2).toInt = l.toInt / 2 := by
  rw [i_div (by rw [k_2]; decide) h, k_2]
theorem reach_rg {k l : Int32} (h : rg 10 300 l) : rg 10 450 (f_reach k l) := by
  obtain ⟨h1, h2⟩ := h
  unfold f_reach
  by_cases hk : k = 1
  · rw [if_pos hk, rg]
    have e := i_half (l := l) (by omega)
    rw [i_add (by omega) (by omega), e]
    exact ⟨by omega, by omega⟩
  · rw [if_neg hk]
    exact ⟨h1, by omega⟩
theorem need_rg {k d : Int32} (h : rg 0 100 d) : rg 0 100 (f_need k d) := by
  obtain ⟨h1, h2⟩ := h
  unfold f_need
  by_cases hk : k = 2
  · rw [if_pos hk, rg, i_half h1]
    exact ⟨by omega, by omega⟩
  · rw [if_neg hk]
    exact ⟨h1, h2⟩
theorem cf_0 {v p nd : Int32} : ∀ (n : Nat) (y : Int32), 0 ≤ y.toInt → (24 - y.toInt).toNat < n → f_X12_canFit_53 τ Z gm rm (A 12) v p n nd 0 y = 0 := by
  intro n
  induction n with
  | zero => intro y _ h; exact absurd h (Nat.not_lt_zero _)
  | succ n ih =>
    intro y h0 h
    unfold f_X12_canFit_53 f_X12_canFit_87 f_X12_canFit_88
    dsimp only
    by_cases hc : (24 : Int32) ≤ y
    · rw [if_pos hc]
    · rw [if_neg hc, if_pos rfl]
      have hc' := i_ltI.mp (Int32.not_le.mp hc)
      rw [k_24] at hc'
      have e := y_1 (m := 24) (by decide) h0 (by omega)
      exact ih (y + 1) (by omega) (by omega)
theorem cf_1 (hQ : ro_M τ rm A) {v p nd : Int32} : ∀ (n : Nat) (y : Int32), 0 ≤ y.toInt → (24 - y.toInt).toNat < n → (f_X12_canFit_53 τ Z gm rm (A 12) v p n nd 1 y = 0 ∧ ∃ h : Nat, h < 24 ∧ gm (A 42) p.toNatClampNeg + gm (A 51) h < nd) ∨ (f_X12_canFit_53 τ Z gm rm (A 12) v p n nd 1 y = 1 ∧ ∀ h : Nat, h < 24 → y.toInt ≤ (h : Int) → ¬ gm (A 42) p.toNatClampNeg + gm (A 51) h < nd) := by
  intro n
  induction n with
  | zero => intro y _ h; exact absurd h (Nat.not_lt_zero _)
  | succ n ih =>
    intro y h0 h
    unfold f_X12_canFit_53 f_X12_canFit_87 f_X12_canFit_88
    dsimp only
    rw [hQ.g 3 42 (by decide), hQ.g 13 51 (by decide)]
    by_cases hc : (24 : Int32) ≤ y
    · rw [if_pos hc]
      have hc' := i_le.mp hc
      rw [k_24] at hc'
      exact Or.inr ⟨rfl, fun h h1 h2 => by omega⟩
    · rw [if_neg hc, if_neg (by decide)]
      have hc' := i_ltI.mp (Int32.not_le.mp hc)
      rw [k_24] at hc'
      have cy := i_cl h0
      have e := y_1 (m := 24) (by decide) h0 (by omega)
      by_cases hd : gm (A 42) p.toNatClampNeg + gm (A 51) y.toNatClampNeg < nd
      · rw [if_pos hd]
        exact Or.inl ⟨cf_0 n (y + 1) (by omega) (by omega), y.toNatClampNeg, by omega, hd⟩
      · rw [if_neg hd]
        rcases ih (y + 1) (by omega) (by omega) with k | ⟨k1, k2⟩
        · exact Or.inl k
        · refine Or.inr ⟨k1, fun h h1 h2 => ?_⟩
          by_cases hh : (h : Int) = y.toInt
          · rw [← cl_in hh]
            exact hd
          · exact k2 h h1 (by omega)
/-- FITS is the same -/
theorem fits_eq (hQ : ro_M τ rm A) (hJm : th_J τ gm rm) (ht : c_tid gi gm A) (hl : c_least gi A) {v p : Int32} {qb qp : Nat} (hb : b_at τ gi gr gm A v.toNatClampNeg qb) (hp : u_at τ gi gr gm A p.toNatClampNeg qp) : F_X0_suits τ Z gi gr (A 1) qb qp = F_X12_canFit τ Z gm rm (A 12) v p := by
  obtain ⟨a1, a2, a3, a4, a5, a6, a7⟩ := hb
  obtain ⟨b1, b2, b3, b4, b5, b6, b7, b8, b9, c1, c2⟩ := hp
  have tr := t_rg hJm hQ ht
  have hm : F_X12_canFit τ Z gm rm (A 12) v p = if gm (A 43) p.toNatClampNeg < gm (A 48) v.toNatClampNeg then f_X12_canFit_53 τ Z gm rm (A 12) v p ((24 - (0 : Int32).toInt).toNat + 1) (f_need (gm (A 47) v.toNatClampNeg) (gm (A 49) v.toNatClampNeg)) 0 0 else f_X12_canFit_53 τ Z gm rm (A 12) v p ((24 - (0 : Int32).toInt).toNat + 1) (f_need (gm (A 47) v.toNatClampNeg) (gm (A 49) v.toNatClampNeg)) 1 0 := by
    unfold F_X12_canFit f_X12_canFit_27 f_X12_canFit_48 f_need
    dsimp only
    rw [hQ.g 9 47 (by decide), hQ.g 11 49 (by decide), hQ.g 10 48 (by decide), hQ.g 4 43 (by decide)]
    by_cases hk : gm (A 47) v.toNatClampNeg = 2
    · rw [if_pos hk, if_pos hk]
    · rw [if_neg hk, if_neg hk]
  rw [hm]
  unfold F_X0_suits
  dsimp only
  rw [ne_at a5, b7, a3, a4]
  by_cases g1 : gm (A 43) p.toNatClampNeg < gm (A 48) v.toNatClampNeg
  · rw [if_pos g1, if_pos g1]
    exact (cf_0 _ 0 (by decide) (Nat.lt_add_one _)).symm
  · rw [if_neg g1, if_neg g1]
    rw [a4] at a7
    have nr := need_rg (k := gm (A 47) v.toNatClampNeg) a7
    obtain ⟨l1, h0, l2, l3⟩ := hl
    have d1 := c1.1
    have d2 := c1.2
    have sum : ∀ h : Nat, h < 24 → (gm (A 42) p.toNatClampNeg + gm (A 51) h).toInt = (gm (A 42) p.toNatClampNeg).toInt + (gm (A 51) h).toInt := fun h hh => by
      have t := tr h hh
      rw [ht h hh] at t
      have t1 := t.1
      have t2 := t.2
      rw [b6] at d1 d2
      exact i_add (by omega) (by omega)
    have s0 : gi qp 3 + gi (A 1) 8 = gm (A 42) p.toNatClampNeg + gm (A 51) h0 := by rw [b6, l3, ht h0 l2]
    rw [s0]
    rcases cf_1 (Z := Z) hQ (v := v) (p := p) (nd := f_need (gm (A 47) v.toNatClampNeg) (gm (A 49) v.toNatClampNeg)) ((24 - (0 : Int32).toInt).toNat + 1) 0 (by decide) (Nat.lt_add_one _) with ⟨k1, h, k2, k3⟩ | ⟨k1, k2⟩
    · rw [k1, if_pos]
      have e1 := l1 h k2
      rw [l3, ht h k2, ht h0 l2] at e1
      have e2 := i_ltI.mp k3
      rw [sum h k2] at e2
      rw [i_ltI, sum h0 l2]
      omega
    · rw [k1, if_neg (k2 h0 l2 (by rw [k_0]; omega))]
theorem s_fits (hJ : th_J τ gi gr) (hJm : th_J τ gm rm) (hC : ro_C τ gr A) (hQ : ro_M τ rm A) (no : c_eq 1 6 8 gi gm A) (nb : c_eq 1 5 0 gi gm A) (hb : c_boat τ gi gr gm A) (hu : c_buoy τ gi gr gm A) (ht : c_tid gi gm A) (hl : c_least gi A) {v p r1 r2 : Int32} (e1 : F_X11_fits τ Z gi gr (A 11) v p = (r1, gi1)) (e2 : F_X12_fits τ Z gm rm (A 12) v p = (r2, gm2)) : r1 = r2 := by
  have no' : gm (A 12) 8 = gi (A 1) 6 := no.symm
  have nb' : gm (A 12) 0 = gi (A 1) 5 := nb.symm
  unfold F_X11_fits f_X11_fits_28 at e1
  unfold F_X12_fits F_X12_isBoat F_X12_isBuoy f_X12_fits_16 at e2
  dsimp only at e1 e2
  rw [hC.g 11 0 1 (by decide)] at e1
  rw [w0_m, w0_m, no', nb'] at e2
  by_cases g1 : W0 v 0 (gi (A 1) 6 - 1) = 0
  · rw [bo_no hJ hC g1] at e1
    rw [if_pos g1] at e2
    exact (s_fip hC hQ (w1 := 1) (by decide) (by decide) e1 e2).1
  obtain ⟨f1, f2, f3, f4⟩ := bo_yes (Z := Z) hJ hC g1
  obtain ⟨qb, hqb⟩ := hb v.toNatClampNeg (by rw [f3, no']; exact f4)
  rw [f1, hqb.1] at e1
  rw [if_neg g1] at e2
  by_cases g2 : W0 p 0 (gi (A 1) 5 - 1) = 0
  · simp only [Option.elim_some, bu_no (Z := Z) hJ hC g2, Option.elim_none] at e1
    rw [if_pos g2] at e2
    exact (s_fip hC hQ (w1 := 1) (by decide) (by decide) e1 e2).1
  obtain ⟨m1, m2, m3, m4⟩ := bu_yes (Z := Z) hJ hC g2
  obtain ⟨qp, hqp⟩ := hu p.toNatClampNeg (by rw [m3, nb']; exact m4)
  rw [if_neg g2] at e2
  simp only [Option.elim_some, m1, hqp.1] at e1
  rw [fits_eq hQ hJm ht hl hqb hqp] at e1
  by_cases g3 : F_X12_canFit τ Z gm rm (A 12) v p = 0
  · rw [if_pos g3] at e1 e2
    exact (pr2 e1).1.symm.trans (pr2 e2).1
  · rw [if_neg g3] at e1 e2
    exact (pr2 e1).1.symm.trans (pr2 e2).1
/-- the chain's part is the same -/
theorem slack_eq (hQ : ro_M τ rm A) (hJm : th_J τ gm rm) (ht : c_tid gi gm A) {p h : Int32} {qp : Nat} (hp : u_at τ gi gr gm A p.toNatClampNeg qp) (hs : u_sl τ gi gr A qp) (h0 : 0 ≤ h.toInt) (h1 : h.toInt < 24) : F_X3_slackAt τ Z gi gr qp h = F_X12_slackOf τ Z gm rm (A 12) p h ∧ rg 0 400 (F_X12_slackOf τ Z gm rm (A 12) p h) := by
  obtain ⟨b1, b2, b3, b4, b5, b6, b7, b8, b9, c1, c2⟩ := hp
  obtain ⟨-, -, -, w, x1, x2, x3⟩ := hs
  have ch := i_cl h0
  have hh : h.toNatClampNeg < 24 := by omega
  have tr := t_rg hJm hQ ht h.toNatClampNeg hh
  have k := x3 h.toNatClampNeg hh
  rw [b6, b7, ht _ hh] at k
  rw [b6] at c1
  rw [b7] at c2
  rw [ht _ hh] at tr
  have k' := so_ok (Z := Z) hQ (p := p) (h := h) c1 c2 tr
  refine ⟨?_, sl_rg c2 k'⟩
  unfold F_X3_slackAt
  dsimp only
  rw [if_neg (fun q => by have := i_ltI.mp q; rw [k_0] at this; omega), if_neg (fun q => by have := i_le.mp q; rw [k_24] at this; omega), x1]
  exact sl_u k k'
theorem s_out (hJ : th_J τ gi gr) (hJm : th_J τ gm rm) (hC : ro_C τ gr A) (hQ : ro_M τ rm A) (no : c_eq 1 6 8 gi gm A) (nb : c_eq 1 5 0 gi gm A) (hb : c_boat τ gi gr gm A) (hu : c_buoy τ gi gr gm A) (ht : c_tid gi gm A) (hs : c_sl τ gi gr A) {v p h r1 r2 : Int32} (e1 : F_X11_out τ Z gi gr (A 11) v p h = (r1, gi1)) (e2 : F_X12_out τ Z gm rm (A 12) v p h = (r2, gm2)) : r1 = r2 := by
  have no' : gm (A 12) 8 = gi (A 1) 6 := no.symm
  have nb' : gm (A 12) 0 = gi (A 1) 5 := nb.symm
  unfold F_X11_out f_X11_out_37 F_X11_isHour at e1
  unfold F_X12_out F_X12_isBoat F_X12_isBuoy f_X12_out_26 at e2
  dsimp only at e1 e2
  rw [hC.g 11 0 1 (by decide), w0_c] at e1
  rw [w0_m, w0_m, w0_m, no', nb', reach_at hQ] at e2
  by_cases g1 : W0 v 0 (gi (A 1) 6 - 1) = 0
  · rw [bo_no hJ hC g1] at e1
    rw [if_pos g1] at e2
    exact (s_fip hC hQ (w1 := 1) (by decide) (by decide) e1 e2).1
  obtain ⟨f1, f2, f3, f4⟩ := bo_yes (Z := Z) hJ hC g1
  obtain ⟨qb, hqb⟩ := hb v.toNatClampNeg (by rw [f3, no']; exact f4)
  rw [f1, hqb.1] at e1
  rw [if_neg g1] at e2
  by_cases g2 : W0 p 0 (gi (A 1) 5 - 1) = 0
  · simp only [Option.elim_some, bu_no (Z := Z) hJ hC g2, Option.elim_none] at e1
    rw [if_pos g2] at e2
    exact (s_fip hC hQ (w1 := 1) (by decide) (by decide) e1 e2).1
  obtain ⟨m1, m2, m3, m4⟩ := bu_yes (Z := Z) hJ hC g2
  obtain ⟨qp, hqp⟩ := hu p.toNatClampNeg (by rw [m3, nb']; exact m4)
  rw [if_neg g2] at e2
  simp only [Option.elim_some, m1, hqp.1] at e1
  by_cases g3 : W0 h 0 23 = 0
  · rw [if_pos g3] at e1 e2
    exact (s_fip hC hQ (w1 := 1) (by decide) (by decide) e1 e2).1
  · rw [if_neg g3] at e1 e2
    have hr := w0_rg (l := 0) (h := 23) (by decide) (by decide) g3
    have hr2 := hr.2
    obtain ⟨k1, -⟩ := slack_eq (Z := Z) hQ hJm ht hqp (hs.1 _ qp (by rw [m3]; exact m4) hqp.1) hr.1 (by omega)
    rw [k1, re_at hqb.2.2.2.2.1, hqb.2.2.1] at e1
    exact (pr2 e1).1.symm.trans (pr2 e2).1
end FO
