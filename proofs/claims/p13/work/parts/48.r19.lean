/-! ===== acts of THE LIST ===== -/
section AL
variable {τ τ1 : th_t} {Z : th_Zt} {gi gi1 gm gm2 : th_i} {gr gr1 rm rm2 : th_r} {A : Nat → Nat} {M1 M2 : List Nat}
theorem b_ne {n : Int} (hb : ∀ i : Nat, (i : Int) < n → ∃ q, gr (A 21) i = some q ∧ (gi q 0).toInt = (i : Int)) {i j q q' : Nat} (hi : (i : Int) < n) (hj : (j : Int) < n) (hq : gr (A 21) i = some q) (hq' : gr (A 21) j = some q') (h : q = q') : i = j := by
  obtain ⟨a, a1, a2⟩ := hb i hi
  obtain ⟨b, b1, b2⟩ := hb j hj
  have e1 : a = q := Option.some.inj (a1.symm.trans hq)
  have e2 : b = q' := Option.some.inj (b1.symm.trans hq')
  rw [e1, h, ← e2, b2] at a2
  omega
theorem c_boat.num (h : c_boat τ gi gr gm A) : ∀ i : Nat, (i : Int) < (gm (A 12) 8).toInt → ∃ q, gr (A 21) i = some q ∧ (gi q 0).toInt = (i : Int) := fun i hi => by
  obtain ⟨q, a1, a2, -⟩ := h i hi
  exact ⟨q, a1, a2⟩
theorem s_wait (Q : q_all τ Z gi gr gm rm A) (K : c_core τ gi gr gm A) {v r1 r2 : Int32} (e1 : F_X11_wait τ Z gi gr (A 11) v = (r1, gi1)) (e2 : F_X12_wait τ Z gm rm (A 12) v = (r2, gm2)) : r1 = r2 ∧ c_core τ gi1 gr gm2 A := by
  obtain ⟨hJ, hJm, hC, hQ, no, nb, wi, cb, cu, ct, cs, cl, cr, cw⟩ := Q
  have K' := K
  obtain ⟨a1, a2, a3, a4, a5, a6, a7, a8⟩ := K'
  have no' : gm (A 12) 8 = gi (A 1) 6 := no.symm
  have n162 := (n_b hJ hC).2
  unfold F_X11_wait f_X11_wait_45 at e1
  unfold F_X12_wait F_X12_isBoat f_X12_wait_32 at e2
  dsimp only at e1 e2
  rw [hC.g 11 0 1 (by decide), hC.g 1 4 2 (by decide), hC.g 11 1 10 (by decide)] at e1
  rw [w0_m, no', hQ.g 12 50 (by decide), hQ.g 18 54 (by decide), hQ.g 19 55 (by decide), ← pl_eq (Z := Z) hC hQ (v := v) a4.1 a5 a6, ← a5] at e2
  by_cases g1 : W0 v 0 (gi (A 1) 6 - 1) = 0
  · rw [bo_no hJ hC g1] at e1
    rw [if_pos g1] at e2
    exact K.fip hC hQ (w1 := 1) (by decide) (by decide) e1 e2
  obtain ⟨f1, f2, f3, f4⟩ := bo_yes (Z := Z) hJ hC g1
  have hvi : ((v.toNatClampNeg : Nat) : Int) < (gm (A 12) 8).toInt := by rw [f3, no']; exact f4
  obtain ⟨qb, hqb⟩ := cb v.toNatClampNeg hvi
  rw [f1, hqb.1] at e1
  rw [if_neg g1] at e2
  simp only [Option.elim_some] at e1
  have hv0 : 0 ≤ v.toInt := by omega
  have rX := hC.e 2 0 24 (by decide)
  have t24 := hC.t 24 24 (by decide) rfl
  have t25 := hC.t 25 25 (by decide) rfl
  have t10 := hC.t 10 10 (by decide) rfl
  have t35 := hC.t 35 35 (by decide) rfl
  have t50 := hQ.t 12 50 (by decide)
  have t46 := hQ.t 7 46 (by decide)
  have t54 := hQ.t 18 54 (by decide)
  have t55 := hQ.t 19 55 (by decide)
  rw [bo_of rX hv0 (by omega)] at e1
  rw [← a2 v.toNatClampNeg hvi] at e2
  rcases be_x a1 (i := v.toNatClampNeg) (by omega) with z1 | ⟨z1, -⟩
  rotate_left
  · rw [if_neg (fun q => by rw [q, k_m1] at z1; omega)] at e1
    rw [if_pos (i_le.mpr (by rw [k_0]; exact z1))] at e2
    exact K.fip hC hQ (w1 := 3) (by decide) (by decide) e1 e2
  rw [z1, if_pos rfl] at e1
  rw [z1, if_neg (by decide)] at e2
  rcases pl_at (Z := Z) hC (g := gi) (v := v) a4.1 with ⟨k1, k2⟩ | ⟨k, k1, k2, k3⟩
  rotate_left
  · rw [if_neg (fun q => by have := i_ltI.mp q; rw [k_0] at this; omega)] at e1 e2
    exact K.fip hC hQ (w1 := 3) (by decide) (by decide) e1 e2
  rw [k1, if_pos (by decide)] at e1 e2
  by_cases g3 : gi (A 10) 2 < 10
  rotate_left
  · rw [if_neg g3] at e1
    rw [if_pos (i_lt 10 (by decide) a4.1 g3)] at e2
    exact K.fip hC hQ (w1 := 4) (by decide) (by decide) e1 e2
  have g3' := i_ltI.mp g3
  rw [k_10'] at g3'
  rw [if_pos g3] at e1
  rw [if_neg (fun q => by rw [q] at g3'; exact absurd g3' (by decide))] at e2
  have tb := (a7 v.toNatClampNeg qb hvi hqb.1).1
  have nb10 : A 10 ≠ qb := by rcases tb with t | t | t <;> exact ro_ne t10 t (by decide)
  have nb35 : A 35 ≠ qb := by rcases tb with t | t | t <;> exact ro_ne t35 t (by decide)
  have h10 : va_up gi qb (upd (gi qb) 5 0) (A 10) = gi (A 10) := up_n nb10
  obtain ⟨u1, u2, u3⟩ := ap_sp (τ := τ) (Z := Z) (gi := va_up gi qb (upd (gi qb) 5 0)) hC (v := v) (by rw [h10]; exact g3)
  rw [h10] at u1 u3
  rw [up_n nb35] at u3
  obtain ⟨b1, b2⟩ := pr2 e1
  obtain ⟨b3, b4⟩ := pr2 e2
  rw [b2] at u1 u2 u3 b1
  have n54_12 := ro_ne t54 hQ.1 (by decide)
  have n55_12 := ro_ne t55 hQ.1 (by decide)
  have n54_55 := ro_ne t54 t55 (by decide)
  have m12 : gm2 (A 12) = upd (gm (A 12)) 17 (gi (A 10) 2 + 1) := by rw [← b4, up_s, up_n (Ne.symm n55_12), up_n (Ne.symm n54_12)]
  have m54 : gm2 (A 54) = upd (gm (A 54)) (gi (A 10) 2).toNatClampNeg v := by rw [← b4, up_n n54_12, up_n n54_55, up_s]
  have m55 : gm2 (A 55) = upd (gm (A 55)) v.toNatClampNeg 0 := by rw [← b4, up_n n55_12, up_s, up_n (Ne.symm n54_55)]
  have mo : ∀ a, a ≠ A 12 → a ≠ A 54 → a ≠ A 55 → gm2 a = gm a := fun a h1 h2 h3 => by rw [← b4, up_n h1, up_n h3, up_n h2]
  have m50 := mo (A 50) (ro_ne t50 hQ.1 (by decide)) (ro_ne t50 t54 (by decide)) (ro_ne t50 t55 (by decide))
  have m46 := mo (A 46) (ro_ne t46 hQ.1 (by decide)) (ro_ne t46 t54 (by decide)) (ro_ne t46 t55 (by decide))
  have s24 : gi1 (A 24) = gi (A 24) := by
    rw [u2 _ (ro_ne t24 t10 (by decide)) (ro_ne t24 t35 (by decide))]
    rcases tb with t | t | t <;> exact up_n (ro_ne t24 t (by decide))
  have s25 : gi1 (A 25) = gi (A 25) := by
    rw [u2 _ (ro_ne t25 t10 (by decide)) (ro_ne t25 t35 (by decide))]
    rcases tb with t | t | t <;> exact up_n (ro_ne t25 t (by decide))
  have s2 : gi1 (A 10) 2 = gi (A 10) 2 + 1 := by rw [u1, ud_s]
  have sq : ∀ q, (τ q = 8 ∨ τ q = 9 ∨ τ q = 4) → gi1 q = va_up gi qb (upd (gi qb) 5 0) q := fun q t => by
    rcases t with t | t | t <;> exact u2 q (ro_ne t t10 (by decide)) (ro_ne t t35 (by decide))
  have e' := y_1 (m := 10) (by decide) a4.1.1 a4.1.2
  have cs' := i_cl a4.1.1
  refine ⟨by rw [← b1, ← b3, s2], ?_⟩
  unfold c_core
  rw [s24, s25, s2, u3, m12, m54, m55, m50, m46, ud_n (show (8 : Nat) ≠ 17 by decide), ud_n (show (0 : Nat) ≠ 17 by decide), ud_s]
  refine ⟨a1, a2, a3, li_app a4 g3' hv0 (by omega) z1 k2, rfl, fun k hk => ?_, fun i q hi hq => ?_, fun i hi hn => ?_⟩
  · rw [e'] at hk
    by_cases e : k = (gi (A 10) 2).toNatClampNeg
    · rw [e, ud_s, ud_s]
    · rw [ud_n e, ud_n e]
      exact a6 k (by omega)
  · obtain ⟨t, k⟩ := a7 i q hi hq
    refine ⟨t, ?_⟩
    rw [sq q t]
    by_cases e : i = v.toNatClampNeg
    · subst e
      have : q = qb := Option.some.inj (hq.symm.trans hqb.1)
      subst this
      rw [up_s, ud_s, ud_s]
    · rw [up_n (fun e' => e (b_ne cb.num hi hvi hq hqb.1 e')), ud_n e]
      exact k
  · rw [ud_n (by omega)]
    exact a8 i hi hn
theorem s_away (Q : q_all τ Z gi gr gm rm A) (K : c_core τ gi gr gm A) {v r1 r2 : Int32} (e1 : F_X11_away τ Z gi gr (A 11) v = (r1, gi1)) (e2 : F_X12_away τ Z gm rm (A 12) v = (r2, gm2)) : r1 = r2 ∧ c_core τ gi1 gr gm2 A := by
  obtain ⟨hJ, hJm, hC, hQ, no, nb, wi, cb, cu, ct, cs, cl, cr, cw⟩ := Q
  have K' := K
  obtain ⟨a1, a2, a3, a4, a5, a6, a7, a8⟩ := K'
  have no' : gm (A 12) 8 = gi (A 1) 6 := no.symm
  unfold F_X11_away at e1
  unfold F_X12_away F_X12_isBoat at e2
  dsimp only at e1 e2
  rw [hC.g 11 0 1 (by decide), hC.g 11 1 10 (by decide)] at e1
  rw [w0_m, no', ← pl_eq (Z := Z) hC hQ (v := v) a4.1 a5 a6] at e2
  by_cases g1 : W0 v 0 (gi (A 1) 6 - 1) = 0
  · rw [bo_no hJ hC g1] at e1
    rw [if_pos g1] at e2
    exact K.fip hC hQ (w1 := 1) (by decide) (by decide) e1 e2
  obtain ⟨f1, f2, f3, f4⟩ := bo_yes (Z := Z) hJ hC g1
  have hvi : ((v.toNatClampNeg : Nat) : Int) < (gm (A 12) 8).toInt := by rw [f3, no']; exact f4
  obtain ⟨qb, hqb⟩ := cb v.toNatClampNeg hvi
  rw [f1, hqb.1] at e1
  rw [if_neg g1] at e2
  simp only [Option.elim_some] at e1
  have t24 := hC.t 24 24 (by decide) rfl
  have t25 := hC.t 25 25 (by decide) rfl
  have t10 := hC.t 10 10 (by decide) rfl
  have t35 := hC.t 35 35 (by decide) rfl
  have t50 := hQ.t 12 50 (by decide)
  have t46 := hQ.t 7 46 (by decide)
  have t54 := hQ.t 18 54 (by decide)
  have t55 := hQ.t 19 55 (by decide)
  rcases pl_at (Z := Z) hC (g := gi) (v := v) a4.1 with ⟨k1, k2⟩ | ⟨k, k1, k2, k3⟩
  · rw [k1, if_neg (by decide)] at e1 e2
    exact K.fip hC hQ (w1 := 3) (by decide) (by decide) e1 e2
  · have hp0 : (0 : Int32) ≤ F_X10_placeOf τ Z gi gr (A 10) v := i_le.mpr (by rw [k_0]; omega)
    rw [if_pos hp0] at e1 e2
    have kc : (F_X10_placeOf τ Z gi gr (A 10) v).toNatClampNeg = k := cl_in k3.symm
    obtain ⟨u1, u2, u3⟩ := dr_sp (Z := Z) (gi := gi) hC (p := F_X10_placeOf τ Z gi gr (A 10) v) a4.1 (by omega) (by omega)
    obtain ⟨w1, w2, w3⟩ := go_sp (Z := Z) (gm := gm) hQ (p := F_X10_placeOf τ Z gi gr (A 10) v) (by rw [← a5]; exact a4.1) (by omega) (by rw [← a5]; omega)
    obtain ⟨b1, b2⟩ := pr2 e1
    obtain ⟨b3, b4⟩ := pr2 e2
    rw [kc] at u3
    rw [kc, ← a5] at w3
    rw [b2] at u1 u2 u3
    rw [b4] at w1 w2 w3
    have x8 : gm2 (A 12) 8 = gm (A 12) 8 := by rw [w1, ud_n (by decide)]
    have x0 : gm2 (A 12) 0 = gm (A 12) 0 := by rw [w1, ud_n (by decide)]
    have x17 : gm2 (A 12) 17 = gm (A 12) 17 - 1 := by rw [w1, ud_s]
    have v2 : gi1 (A 10) 2 = gi (A 10) 2 - 1 := by rw [u1, ud_s]
    have e' := s_m1 a4.1
    refine ⟨b1.symm.trans b3, ?_⟩
    unfold c_core
    rw [u2 _ (ro_ne t24 t10 (by decide)) (ro_ne t24 t35 (by decide)), u2 _ (ro_ne t25 t10 (by decide)) (ro_ne t25 t35 (by decide)), w2 _ (ro_ne t50 hQ.1 (by decide)) (ro_ne t50 t54 (by decide)), w2 _ (ro_ne t46 hQ.1 (by decide)) (ro_ne t46 t54 (by decide)), w2 _ (ro_ne t55 hQ.1 (by decide)) (ro_ne t55 t54 (by decide)), x8, x0, x17, v2]
    refine ⟨a1, a2, a3, li_drop a4 k1 u3, by rw [a5], fun j hj => ?_, fun i q hi hq => ?_, a8⟩
    · rw [e'] at hj
      rw [u3 j hj, w3 j hj]
      unfold li_dr
      by_cases c : j < k
      · rw [if_pos c, if_pos c]
        exact a6 j (by omega)
      · rw [if_neg c, if_neg c]
        exact a6 (j + 1) (by omega)
    · obtain ⟨t, k⟩ := a7 i q hi hq
      refine ⟨t, ?_⟩
      have : gi1 q = gi q := by
        rcases t with t | t | t <;> exact u2 q (ro_ne t t10 (by decide)) (ro_ne t t35 (by decide))
      rw [this]
      exact k
/-- to whom a free BUOY is offered -/
theorem fo_go (Q : q_all τ Z gi gr gm rm A) (K : c_core τ gi gr gm A) {p : Int32} {qp : Nat} (hp : u_at τ gi gr gm A p.toNatClampNeg qp) (hpp : 0 ≤ p.toInt) (hp2 : p.toInt < (gm (A 12) 0).toInt) : ∀ (n m : Nat) (y : Int32), 0 ≤ y.toInt → (10 - y.toInt).toNat < n → (10 - y.toInt).toNat < m → (f_X10_firstFor_2 τ Z gi gr (A 10) qp n y = -1 ∧ f_X12_offeredTo_2 τ Z gm rm (A 12) p m y = -1) ∨ ∃ k : Nat, (k : Int) < (gi (A 10) 2).toInt ∧ (f_X12_offeredTo_2 τ Z gm rm (A 12) p m y).toInt = (k : Int) ∧ f_X10_firstFor_2 τ Z gi gr (A 10) qp n y = gi (A 35) k := by
  have Q' := Q
  obtain ⟨hJ, hJm, hC, hQ, no, nb, wi, cb, cu, ct, cs, cl, cr, cw⟩ := Q'
  have K' := K
  obtain ⟨a1, a2, a3, a4, a5, a6, a7, a8⟩ := K'
  have no' : gm (A 12) 8 = gi (A 1) 6 := no.symm
  have n16 := n_b hJ hC
  have n162 := n16.2
  have hs2 := a4.1.2
  have hqp : gi qp 0 = p := i_inj (by rw [hp.2.2.1]; exact i_cl hpp)
  intro n
  induction n with
  | zero => intro m y _ h; exact absurd h (Nat.not_lt_zero _)
  | succ n ih =>
    intro m y h0 h hm
    cases m with
    | zero => exact absurd hm (Nat.not_lt_zero _)
    | succ m =>
      unfold f_X10_firstFor_2 f_X10_firstFor_65 f_X12_offeredTo_2 f_X12_offeredTo_48 F_X2_hasRefused
      dsimp only
      rw [hC.g 10 0 1 (by decide), hC.g 10 1 35 (by decide), hC.g 1 4 2 (by decide), hQ.g 18 54 (by decide), hQ.g 19 55 (by decide), hQ.g 12 50 (by decide), ← a5, hqp]
      by_cases hc : gi (A 10) 2 ≤ y
      · rw [if_pos hc, if_pos hc]
        exact Or.inl ⟨rfl, rfl⟩
      · rw [if_neg hc, if_neg hc]
        have hc' := i_ltI.mp (Int32.not_le.mp hc)
        have cy := i_cl h0
        have e := y_1 (m := 10) (by decide) h0 (by omega)
        have I := ih m (y + 1) (by omega) (by omega) (by omega)
        obtain ⟨o1, o2, o3⟩ := a4.2.1 y.toNatClampNeg (by omega)
        rw [← a6 y.toNatClampNeg (by omega)]
        have co := i_cl o1
        rw [bo_g hC n16 o1 (by rw [← no']; exact o2)]
        obtain ⟨qb, hqb⟩ := cb (gi (A 35) y.toNatClampNeg).toNatClampNeg (by omega)
        obtain ⟨-, er⟩ := a7 _ qb (by omega) hqb.1
        rw [hqb.1]
        simp only [Option.elim_some]
        rw [er]
        by_cases c1 : gm (A 55) (gi (A 35) y.toNatClampNeg).toNatClampNeg >>> (p &&& 31) &&& 1 = 0
        · rw [if_pos c1, if_pos c1, if_pos rfl, ml_eq Q hqb hp o1 hpp hp2 (hC.e 2 0 24 (by decide)) (hC.e 2 1 25 (by decide)) a1 (fun i hi _ => a2 i hi) (fun q => by rw [o3] at q; rw [← q, k_m1] at hpp; omega)]
          by_cases c2 : F_X12_mayLie τ Z gm rm (A 12) (gi (A 35) y.toNatClampNeg) p (A 50) = 0
          · rw [if_pos c2, if_pos c2]
            exact I
          · rw [if_neg c2, if_neg c2]
            exact Or.inr ⟨y.toNatClampNeg, by omega, cy.symm, rfl⟩
        · rw [if_neg c1, if_neg c1, if_neg (by decide)]
          exact I
theorem fo_at (Q : q_all τ Z gi gr gm rm A) (K : c_core τ gi gr gm A) {p : Int32} {qp : Nat} (hp : u_at τ gi gr gm A p.toNatClampNeg qp) (hpp : 0 ≤ p.toInt) (hp2 : p.toInt < (gm (A 12) 0).toInt) : (F_X10_firstFor τ Z gi gr (A 10) qp = -1 ∧ F_X12_offeredTo τ Z gm rm (A 12) p = -1) ∨ ∃ k : Nat, (k : Int) < (gi (A 10) 2).toInt ∧ (F_X12_offeredTo τ Z gm rm (A 12) p).toInt = (k : Int) ∧ F_X10_firstFor τ Z gi gr (A 10) qp = gi (A 35) k := by
  unfold F_X10_firstFor F_X12_offeredTo
  exact fo_go Q K hp hpp hp2 _ _ 0 (by decide) (Nat.lt_add_one _) (Nat.lt_add_one _)
theorem ob_at (Q : q_all τ Z gi gr gm rm A) (K : c_core τ gi gr gm A) {p : Int32} : (W0 p 0 (gi (A 1) 5 - 1) = 0 ∧ F_X11_offeredBoat τ Z gi gr (A 11) p = ((F_X11_finding τ Z gi gr (A 11) 1).1, (F_X11_finding τ Z gi gr (A 11) 1).2)) ∨ (¬ W0 p 0 (gi (A 1) 5 - 1) = 0 ∧ ¬ gm (A 46) p.toNatClampNeg < 0 ∧ F_X11_offeredBoat τ Z gi gr (A 11) p = ((F_X11_finding τ Z gi gr (A 11) 3).1, (F_X11_finding τ Z gi gr (A 11) 3).2)) ∨ (¬ W0 p 0 (gi (A 1) 5 - 1) = 0 ∧ gm (A 46) p.toNatClampNeg < 0 ∧ F_X12_offeredTo τ Z gm rm (A 12) p = -1 ∧ F_X11_offeredBoat τ Z gi gr (A 11) p = ((F_X11_finding τ Z gi gr (A 11) 2).1, (F_X11_finding τ Z gi gr (A 11) 2).2)) ∨ (¬ W0 p 0 (gi (A 1) 5 - 1) = 0 ∧ gm (A 46) p.toNatClampNeg < 0 ∧ gi (A 25) p.toNatClampNeg = -1 ∧ 0 ≤ p.toInt ∧ p.toInt < (gm (A 12) 0).toInt ∧ ∃ k : Nat, (k : Int) < (gi (A 10) 2).toInt ∧ (F_X12_offeredTo τ Z gm rm (A 12) p).toInt = (k : Int) ∧ F_X11_offeredBoat τ Z gi gr (A 11) p = (gi (A 35) k, gi)) := by
  have Q' := Q
  obtain ⟨hJ, hJm, hC, hQ, no, nb, wi, cb, cu, ct, cs, cl, cr, cw⟩ := Q'
  have K' := K
  obtain ⟨a1, a2, a3, a4, a5, a6, a7, a8⟩ := K'
  have nb' : gm (A 12) 0 = gi (A 1) 5 := nb.symm
  have n122 := (n_p hJ hC).2
  unfold F_X11_offeredBoat
  dsimp only
  rw [hC.g 11 0 1 (by decide), hC.g 1 4 2 (by decide), hC.g 11 1 10 (by decide)]
  by_cases g2 : W0 p 0 (gi (A 1) 5 - 1) = 0
  · rw [bu_no hJ hC g2]
    exact Or.inl ⟨g2, rfl⟩
  obtain ⟨m1, m2, m3, m4⟩ := bu_yes (Z := Z) hJ hC g2
  obtain ⟨qp, hqp⟩ := cu p.toNatClampNeg (by rw [m3, nb']; exact m4)
  rw [m1, hqp.1]
  simp only [Option.elim_some]
  have hp0 : 0 ≤ p.toInt := by omega
  rw [bu_of (hC.e 2 1 25 (by decide)) hp0 (by omega), ← a3 p.toNatClampNeg (by rw [nb']; omega)]
  rcases be_y a1 (p := p.toNatClampNeg) (by omega) with z2 | ⟨z2, -⟩
  rotate_left
  · rw [if_neg (fun q => by rw [q, k_m1] at z2; omega)]
    exact Or.inr (Or.inl ⟨g2, fun q => by have := i_ltI.mp q; rw [k_0] at this; omega, rfl⟩)
  · rw [if_pos z2]
    have lt : gi (A 25) p.toNatClampNeg < 0 := by rw [z2]; decide
    rcases fo_at Q K hqp hp0 (by rw [nb']; exact m4) with ⟨k1, k2⟩ | ⟨k, k1, k2, k3⟩
    · rw [k1, if_pos rfl]
      exact Or.inr (Or.inr (Or.inl ⟨g2, lt, k2, rfl⟩))
    · rw [k3, if_neg (fun q => by have := (a4.2.1 k k1).1; rw [q, k_m1] at this; omega)]
      exact Or.inr (Or.inr (Or.inr ⟨g2, lt, z2, hp0, by rw [nb']; exact m4, k, k1, k2, rfl⟩))
theorem s_offer (Q : q_all τ Z gi gr gm rm A) (K : c_core τ gi gr gm A) {p r1 r2 : Int32} (e1 : F_X11_offer τ Z gi gr (A 11) p = (r1, gi1)) (e2 : F_X12_offer τ Z gm rm (A 12) p = (r2, gm2)) : r1 = r2 ∧ c_core τ gi1 gr gm2 A := by
  have Q' := Q
  obtain ⟨hJ, hJm, hC, hQ, no, nb, wi, cb, cu, ct, cs, cl, cr, cw⟩ := Q'
  have nb' : gm (A 12) 0 = gi (A 1) 5 := nb.symm
  unfold F_X11_offer at e1
  unfold F_X12_offer F_X12_isBuoy at e2
  dsimp only at e1 e2
  rw [w0_m, nb', hQ.g 7 46 (by decide), hQ.g 18 54 (by decide)] at e2
  rcases ob_at Q K (p := p) with ⟨g, k⟩ | ⟨g, l, k⟩ | ⟨g, l, o, k⟩ | ⟨g, l, z, h0, h1, j, j1, j2, k⟩
  · rw [if_pos g] at e2
    rw [k] at e1
    exact K.fip hC hQ (w1 := 1) (by decide) (by decide) e1 e2
  · rw [if_neg g, if_neg l] at e2
    rw [k] at e1
    exact K.fip hC hQ (w1 := 3) (by decide) (by decide) e1 e2
  · rw [if_neg g, if_pos l, o, if_neg (by decide)] at e2
    rw [k] at e1
    exact K.fip hC hQ (w1 := 2) (by decide) (by decide) e1 e2
  · rw [if_neg g, if_pos l, if_pos (i_le.mpr (by rw [k_0]; omega)), cl_in j2.symm] at e2
    rw [k] at e1
    obtain ⟨b1, b2⟩ := pr2 e1
    obtain ⟨b3, b4⟩ := pr2 e2
    rw [← b2, ← b4]
    refine ⟨?_, K⟩
    rw [← b1, ← b3]
    exact K.2.2.2.2.2.1 j j1
end AL
