/-! ===== berths, THE LIST, what was refused: together ===== -/
section CO
variable {τ τ1 : th_t} {Z : th_Zt} {gi gi1 gm gm2 : th_i} {gr gr1 rm rm2 : th_r} {A : Nat → Nat} {M1 M2 : List Nat}
def c_core (τ : th_t) (gi : th_i) (gr : th_r) (gm : th_i) (A : Nat → Nat) : Prop := be_ok (gm (A 12) 8).toInt (gm (A 12) 0).toInt (gi (A 24)) (gi (A 25)) ∧ (∀ i : Nat, (i : Int) < (gm (A 12) 8).toInt → gi (A 24) i = gm (A 50) i) ∧ (∀ p : Nat, (p : Int) < (gm (A 12) 0).toInt → gi (A 25) p = gm (A 46) p) ∧ li_ok (gm (A 12) 8).toInt (gi (A 10) 2) (gi (A 35)) (gi (A 24)) ∧ gi (A 10) 2 = gm (A 12) 17 ∧ (∀ k : Nat, (k : Int) < (gi (A 10) 2).toInt → gi (A 35) k = gm (A 54) k) ∧ (∀ i q : Nat, (i : Int) < (gm (A 12) 8).toInt → gr (A 21) i = some q → (τ q = 8 ∨ τ q = 9 ∨ τ q = 4) ∧ gi q 5 = gm (A 55) i) ∧ ∀ i : Nat, i < 16 → (gm (A 12) 8).toInt ≤ (i : Int) → gm (A 55) i = 0
theorem c_core.of (h : c_core τ gi gr gm A) (e24 : gi1 (A 24) = gi (A 24)) (e25 : gi1 (A 25) = gi (A 25)) (e10 : gi1 (A 10) 2 = gi (A 10) 2) (e35 : gi1 (A 35) = gi (A 35)) (e21 : gr1 (A 21) = gr (A 21)) (e5 : ∀ q, (τ q = 8 ∨ τ q = 9 ∨ τ q = 4) → gi1 q 5 = gi q 5) (m8 : gm2 (A 12) 8 = gm (A 12) 8) (m0 : gm2 (A 12) 0 = gm (A 12) 0) (m17 : gm2 (A 12) 17 = gm (A 12) 17) (m50 : gm2 (A 50) = gm (A 50)) (m46 : gm2 (A 46) = gm (A 46)) (m54 : gm2 (A 54) = gm (A 54)) (m55 : gm2 (A 55) = gm (A 55)) : c_core τ gi1 gr1 gm2 A := by
  obtain ⟨a1, a2, a3, a4, a5, a6, a7, a8⟩ := h
  unfold c_core
  rw [e24, e25, e10, e35, e21, m8, m0, m17, m50, m46, m54, m55]
  refine ⟨a1, a2, a3, a4, a5, a6, fun i q hi hq => ?_, a8⟩
  obtain ⟨k1, k2⟩ := a7 i q hi hq
  exact ⟨k1, by rw [e5 q k1]; exact k2⟩
theorem c_core.fr (hC : ro_C τ gr A) (hQ : ro_M τ rm A) (h1 : th_Mod M1 τ gi gr gi1 gr1) (h2 : th_Mod M2 τ gm rm gm2 rm2) (k1 : ∀ k ∈ [2400, 2500, 1002, 3500, 2100, 805, 905, 405], k ∉ M1) (k2 : ∀ k ∈ [1208, 1200, 1217, 5000, 4600, 5400, 5500], k ∉ M2) (h : c_core τ gi gr gm A) : c_core τ gi1 gr1 gm2 A :=
  h.of (ro_ka h1 (hC.t 24 24 (by decide) rfl) (by decide) (k1 2400 (by decide))).1 (ro_ka h1 (hC.t 25 25 (by decide) rfl) (by decide) (k1 2500 (by decide))).1 (ro_k h1 2 (hC.t 10 10 (by decide) rfl) (by decide) (k1 1002 (by decide))).1 (ro_ka h1 (hC.t 35 35 (by decide) rfl) (by decide) (k1 3500 (by decide))).1 (ro_ka h1 (hC.t 21 21 (by decide) rfl) (by decide) (k1 2100 (by decide))).2 (fun q t => (b_cell (k := 5) h1 t (k1 805 (by decide)) (k1 905 (by decide)) (k1 405 (by decide))).1) (ro_k h2 8 hQ.1 (by decide) (k2 1208 (by decide))).1 (ro_k h2 0 hQ.1 (by decide) (k2 1200 (by decide))).1 (ro_k h2 17 hQ.1 (by decide) (k2 1217 (by decide))).1 (ro_ka h2 (hQ.t 12 50 (by decide)) (by decide) (k2 5000 (by decide))).1 (ro_ka h2 (hQ.t 7 46 (by decide)) (by decide) (k2 4600 (by decide))).1 (ro_ka h2 (hQ.t 18 54 (by decide)) (by decide) (k2 5400 (by decide))).1 (ro_ka h2 (hQ.t 19 55 (by decide)) (by decide) (k2 5500 (by decide))).1
theorem c_core.ext (hx : ∀ b, τ b ≠ 0 → τ1 b = τ b) (h : c_core τ gi gr gm A) : c_core τ1 gi gr gm A := by
  obtain ⟨a1, a2, a3, a4, a5, a6, a7, a8⟩ := h
  refine ⟨a1, a2, a3, a4, a5, a6, fun i q hi hq => ?_, a8⟩
  obtain ⟨k1, k2⟩ := a7 i q hi hq
  refine ⟨?_, k2⟩
  rcases k1 with t | t | t
  · exact Or.inl ((hx q (by rw [t]; decide)).trans t)
  · exact Or.inr (Or.inl ((hx q (by rw [t]; decide)).trans t))
  · exact Or.inr (Or.inr ((hx q (by rw [t]; decide)).trans t))
/-- an act that only finds -/
theorem c_core.fip (hC : ro_C τ gr A) (hQ : ro_M τ rm A) (h : c_core τ gi gr gm A) {w1 w2 r1 r2 : Int32} (hw : ¬ W0 w1 1 5 = 0) (hww : (-1000000) - w1 = w2) (e1 : ((F_X11_finding τ Z gi gr (A 11) w1).1, (F_X11_finding τ Z gi gr (A 11) w1).2) = (r1, gi1)) (e2 : ((F_X12_finding τ Z gm rm (A 12) w2).1, (F_X12_finding τ Z gm rm (A 12) w2).2) = (r2, gm2)) : r1 = r2 ∧ c_core τ gi1 gr gm2 A := by
  obtain ⟨k1, k2, k3⟩ := s_fip hC hQ hw hww e1 e2
  exact ⟨k1, h.fr hC hQ (fm_c hC k2) (fm_m hQ k3) (by decide) (by decide)⟩
theorem pu_eq {B X Y : Nat} {v p : Int32} (hX : gr B 0 = some X) (hY : gr B 1 = some Y) (nXY : X ≠ Y) (hv : 0 ≤ v.toInt) (hv2 : v.toInt < 16) (hp : 0 ≤ p.toInt) (hp2 : p.toInt < 12) : F_X1_put τ Z gi gr B v p X = upd (gi X) v.toNatClampNeg p ∧ F_X1_put τ Z gi gr B v p Y = upd (gi Y) p.toNatClampNeg v ∧ ∀ a, a ≠ X → a ≠ Y → F_X1_put τ Z gi gr B v p a = gi a := by
  unfold F_X1_put
  dsimp only
  rw [w0_c, w0_c, if_neg (w0_in (by rw [k_0]; exact hv) (by rw [k_15]; omega)), if_neg (w0_in (by rw [k_0]; exact hp) (by rw [k_11]; omega)), hX, hY]
  simp only [Option.getD_some]
  exact ⟨by rw [up_n nXY, up_s], by rw [up_s, up_n (Ne.symm nXY)], fun a h1 h2 => by rw [up_n h2, up_n h1]⟩
theorem lf_eq {B X Y : Nat} {v : Int32} (hX : gr B 0 = some X) (hY : gr B 1 = some Y) (nXY : X ≠ Y) (hv : 0 ≤ v.toInt) (hv2 : v.toInt < 16) (hp : 0 ≤ (gi X v.toNatClampNeg).toInt) (hp2 : (gi X v.toNatClampNeg).toInt < 12) : F_X1_lift τ Z gi gr B v X = upd (gi X) v.toNatClampNeg (-1) ∧ F_X1_lift τ Z gi gr B v Y = upd (gi Y) (gi X v.toNatClampNeg).toNatClampNeg (-1) ∧ ∀ a, a ≠ X → a ≠ Y → F_X1_lift τ Z gi gr B v a = gi a := by
  unfold F_X1_lift
  dsimp only
  rw [bo_of hX hv hv2, w0_c, w0_c, if_neg (w0_in (by rw [k_0]; exact hv) (by rw [k_15]; omega)), if_neg (w0_in (by rw [k_0]; exact hp) (by rw [k_11]; omega)), hX, hY]
  simp only [Option.getD_some]
  exact ⟨by rw [up_s, up_n nXY], by rw [up_n (Ne.symm nXY), up_s], fun a h1 h2 => by rw [up_n h1, up_n h2]⟩
theorem li_eq (hQ : ro_M τ rm A) {v p : Int32} : F_X12_lies τ Z gm rm (A 12) v p (A 50) = upd (gm (A 50)) v.toNatClampNeg p ∧ F_X12_lies τ Z gm rm (A 12) v p (A 46) = upd (gm (A 46)) p.toNatClampNeg v ∧ ∀ a, a ≠ A 50 → a ≠ A 46 → F_X12_lies τ Z gm rm (A 12) v p a = gm a := by
  have n1 := ro_ne (hQ.t 12 50 (by decide)) (hQ.t 7 46 (by decide)) (by decide)
  unfold F_X12_lies
  rw [hQ.g 12 50 (by decide), hQ.g 7 46 (by decide)]
  exact ⟨by rw [up_n n1, up_s], by rw [up_s, up_n (Ne.symm n1)], fun a h1 h2 => by rw [up_n h2, up_n h1]⟩
theorem li_drn {n : Int} {s v : Int32} {q x : Nat → Int32} {k : Nat} (h : li_ok n s q x) (hk : (k : Int) < s.toInt) (hv : q k = v) : ∀ j : Nat, (j : Int) < s.toInt - 1 → ¬ li_dr q k j = v := fun j hj e => by
  unfold li_dr at e
  by_cases c : j < k
  · rw [if_pos c] at e
    have := h.2.2 j k (by omega) hk (e.trans hv.symm)
    omega
  · rw [if_neg c] at e
    have := h.2.2 (j + 1) k (by omega) hk (e.trans hv.symm)
    omega
theorem ud_row {x m : Nat → Int32} {n : Int} {v : Nat} {p : Int32} (h : ∀ i : Nat, (i : Int) < n → x i = m i) : ∀ i : Nat, (i : Int) < n → upd x v p i = upd m v p i := fun i hi => by
  by_cases e : i = v
  · rw [e, ud_s, ud_s]
  · rw [ud_n e, ud_n e]
    exact h i hi
theorem s_moor (Q : q_all τ Z gi gr gm rm A) (K : c_core τ gi gr gm A) {v p r1 r2 : Int32} (e1 : F_X11_moor τ Z gi gr (A 11) v p = (r1, gi1)) (e2 : F_X12_moor τ Z gm rm (A 12) v p = (r2, gm2)) : r1 = r2 ∧ c_core τ gi1 gr gm2 A := by
  have Q' := Q
  obtain ⟨hJ, hJm, hC, hQ, no, nb, wi, cb, cu, ct, cs, cl, cr, cw⟩ := Q'
  have K' := K
  obtain ⟨a1, a2, a3, a4, a5, a6, a7, a8⟩ := K'
  have no' : gm (A 12) 8 = gi (A 1) 6 := no.symm
  have nb' : gm (A 12) 0 = gi (A 1) 5 := nb.symm
  have n162 := (n_b hJ hC).2
  have n122 := (n_p hJ hC).2
  unfold F_X11_moor f_X11_moor_28 f_X11_moor_64 at e1
  unfold F_X12_moor F_X12_isBoat F_X12_isBuoy f_X12_moor_16 f_X12_moor_41 at e2
  dsimp only at e1 e2
  rw [hC.g 11 0 1 (by decide), hC.g 1 4 2 (by decide), hC.g 11 1 10 (by decide)] at e1
  rw [w0_m, w0_m, no', nb', hQ.g 12 50 (by decide), hQ.g 7 46 (by decide)] at e2
  by_cases g1 : W0 v 0 (gi (A 1) 6 - 1) = 0
  · rw [bo_no hJ hC g1] at e1
    rw [if_pos g1] at e2
    exact K.fip hC hQ (w1 := 1) (by decide) (by decide) e1 e2
  obtain ⟨f1, f2, f3, f4⟩ := bo_yes (Z := Z) hJ hC g1
  obtain ⟨qb, hqb⟩ := cb v.toNatClampNeg (by rw [f3, no']; exact f4)
  rw [f1, hqb.1] at e1
  rw [if_neg g1] at e2
  by_cases g2 : W0 p 0 (gi (A 1) 5 - 1) = 0
  · simp only [Option.elim_some, bu_no (Z := Z) hJ hC g2, Option.elim_none] at e1
    rw [if_pos g2] at e2
    exact K.fip hC hQ (w1 := 1) (by decide) (by decide) e1 e2
  obtain ⟨m1, m2, m3, m4⟩ := bu_yes (Z := Z) hJ hC g2
  obtain ⟨qp, hqp⟩ := cu p.toNatClampNeg (by rw [m3, nb']; exact m4)
  rw [if_neg g2] at e2
  simp only [Option.elim_some, m1, hqp.1] at e1
  have hv0 : 0 ≤ v.toInt := by omega
  have hp0 : 0 ≤ p.toInt := by omega
  have rX := hC.e 2 0 24 (by decide)
  have rY := hC.e 2 1 25 (by decide)
  have t24 := hC.t 24 24 (by decide) rfl
  have t25 := hC.t 25 25 (by decide) rfl
  have t10 := hC.t 10 10 (by decide) rfl
  have t35 := hC.t 35 35 (by decide) rfl
  have t50 := hQ.t 12 50 (by decide)
  have t46 := hQ.t 7 46 (by decide)
  have t54 := hQ.t 18 54 (by decide)
  have t55 := hQ.t 19 55 (by decide)
  have nXY := ro_ne t24 t25 (by decide)
  rw [bo_of rX hv0 (by omega), bu_of rY hp0 (by omega)] at e1
  rw [← a2 v.toNatClampNeg (by rw [no']; omega), ← a3 p.toNatClampNeg (by rw [nb']; omega)] at e2
  rcases be_x a1 (i := v.toNatClampNeg) (by omega) with z1 | ⟨z1, -⟩
  rotate_left
  · rw [if_neg (fun q => by rw [q, k_m1] at z1; omega)] at e1
    rw [if_pos (i_le.mpr (by rw [k_0]; exact z1))] at e2
    exact K.fip hC hQ (w1 := 3) (by decide) (by decide) e1 e2
  rw [z1, if_pos rfl] at e1
  rw [z1, if_neg (by decide)] at e2
  rcases be_y a1 (p := p.toNatClampNeg) (by omega) with z2 | ⟨z2, -⟩
  rotate_left
  · rw [if_neg (fun q => by rw [q, k_m1] at z2; omega)] at e1
    rw [if_neg (fun q => by have := i_ltI.mp q; rw [k_0] at this; omega)] at e2
    exact K.fip hC hQ (w1 := 3) (by decide) (by decide) e1 e2
  rw [z2, if_pos rfl] at e1
  rw [z2, if_pos (by decide)] at e2
  rw [ml_eq Q hqb hqp hv0 hp0 (by rw [nb']; exact m4) rX rY a1 (fun i hi _ => a2 i hi) (fun q => by rw [← q, z1, k_m1] at hp0; omega)] at e1
  by_cases g3 : F_X12_mayLie τ Z gm rm (A 12) v p (A 50) = 0
  · rw [if_pos g3] at e1 e2
    exact K.fip hC hQ (w1 := 2) (by decide) (by decide) e1 e2
  rw [if_neg g3] at e1 e2
  obtain ⟨p1, p2, p3⟩ := pu_eq (τ := τ) (Z := Z) (gi := gi) (v := v) (p := p) rX rY nXY hv0 (by omega) hp0 (by omega)
  obtain ⟨l1, l2, l3⟩ := li_eq (τ := τ) (Z := Z) (gm := gm) hQ (v := v) (p := p)
  generalize F_X1_put τ Z gi gr (A 2) v p = g35 at e1 p1 p2 p3
  generalize F_X12_lies τ Z gm rm (A 12) v p = g31 at e2 l1 l2 l3
  have c10 : g35 (A 10) = gi (A 10) := p3 _ (ro_ne t10 t24 (by decide)) (ro_ne t10 t25 (by decide))
  have c35 : g35 (A 35) = gi (A 35) := p3 _ (ro_ne t35 t24 (by decide)) (ro_ne t35 t25 (by decide))
  have c5 : ∀ q, (τ q = 8 ∨ τ q = 9 ∨ τ q = 4) → g35 q = gi q := fun q t => by
    rcases t with t | t | t <;> exact p3 q (ro_ne t t24 (by decide)) (ro_ne t t25 (by decide))
  have d12 : g31 (A 12) = gm (A 12) := l3 _ (ro_ne hQ.1 t50 (by decide)) (ro_ne hQ.1 t46 (by decide))
  have d54 : g31 (A 54) = gm (A 54) := l3 _ (ro_ne t54 t50 (by decide)) (ro_ne t54 t46 (by decide))
  have d55 : g31 (A 55) = gm (A 55) := l3 _ (ro_ne t55 t50 (by decide)) (ro_ne t55 t46 (by decide))
  have hs : rg 0 10 (g35 (A 10) 2) := by rw [c10]; exact a4.1
  have es : g35 (A 10) 2 = g31 (A 12) 17 := by rw [c10, d12]; exact a5
  rw [← pl_eq (Z := Z) (gi := g35) (gm := g31) hC hQ (v := v) hs es (by rw [c10, c35, d54]; exact a6)] at e2
  have bnew := be_put a1 hv0 (by rw [no']; exact f4) (by rw [no']; exact n162) hp0 (by rw [nb']; exact m4) (by rw [nb']; exact n122) z1 z2
  have r1' := ud_row (v := v.toNatClampNeg) (p := p) a2
  have r2' := ud_row (v := p.toNatClampNeg) (p := v) a3
  rcases pl_at (Z := Z) hC (g := g35) (v := v) hs with ⟨k1, k2⟩ | ⟨k, k1, k2, k3⟩
  · rw [k1, dr_no hC hs (by decide)] at e1
    rw [k1, if_pos (by decide)] at e2
    obtain ⟨b1, b2⟩ := pr2 e1
    obtain ⟨b3, b4⟩ := pr2 e2
    rw [c10, c35] at k2
    refine ⟨b1.symm.trans b3, ?_⟩
    rw [← b2, ← b4]
    unfold c_core
    rw [p1, p2, l1, l2, c10, c35, d12, d54, d55]
    exact ⟨bnew, r1', r2', li_lie a4 hv0 k2, a5, a6, fun i q hi hq => ⟨(a7 i q hi hq).1, by rw [c5 q (a7 i q hi hq).1]; exact (a7 i q hi hq).2⟩, a8⟩
  · rw [if_neg (fun q => by have := i_ltI.mp q; rw [k_0] at this; omega)] at e2
    obtain ⟨b1, b2⟩ := pr2 e1
    obtain ⟨b3, b4⟩ := pr2 e2
    have kc : (F_X10_placeOf τ Z g35 gr (A 10) v).toNatClampNeg = k := cl_in k3.symm
    obtain ⟨u1, u2, u3⟩ := dr_sp (Z := Z) (gi := g35) hC (p := F_X10_placeOf τ Z g35 gr (A 10) v) hs (by omega) (by omega)
    obtain ⟨w1, w2, w3⟩ := go_sp (Z := Z) (gm := g31) hQ (p := F_X10_placeOf τ Z g35 gr (A 10) v) (by rw [← es]; exact hs) (by omega) (by rw [← es]; omega)
    rw [kc, c10, c35] at u3
    rw [kc, d12, d54, ← a5] at w3
    rw [c10] at u1 k1
    rw [c35] at k2
    rw [d12] at w1
    rw [b2] at u1 u2 u3
    rw [b4] at w1 w2 w3
    have v24 : gi1 (A 24) = upd (gi (A 24)) v.toNatClampNeg p := by rw [u2 _ (ro_ne t24 t10 (by decide)) (ro_ne t24 t35 (by decide)), p1]
    have v25 : gi1 (A 25) = upd (gi (A 25)) p.toNatClampNeg v := by rw [u2 _ (ro_ne t25 t10 (by decide)) (ro_ne t25 t35 (by decide)), p2]
    have x50 : gm2 (A 50) = upd (gm (A 50)) v.toNatClampNeg p := by rw [w2 _ (ro_ne t50 hQ.1 (by decide)) (ro_ne t50 t54 (by decide)), l1]
    have x46 : gm2 (A 46) = upd (gm (A 46)) p.toNatClampNeg v := by rw [w2 _ (ro_ne t46 hQ.1 (by decide)) (ro_ne t46 t54 (by decide)), l2]
    have x55 : gm2 (A 55) = gm (A 55) := by rw [w2 _ (ro_ne t55 hQ.1 (by decide)) (ro_ne t55 t54 (by decide)), d55]
    have x8 : gm2 (A 12) 8 = gm (A 12) 8 := by rw [w1, ud_n (by decide)]
    have x0 : gm2 (A 12) 0 = gm (A 12) 0 := by rw [w1, ud_n (by decide)]
    have x17 : gm2 (A 12) 17 = gm (A 12) 17 - 1 := by rw [w1, ud_s]
    have v2 : gi1 (A 10) 2 = gi (A 10) 2 - 1 := by rw [u1, ud_s]
    have e' := s_m1 a4.1
    refine ⟨b1.symm.trans b3, ?_⟩
    unfold c_core
    rw [v24, v25, x50, x46, x55, x8, x0, x17, v2]
    refine ⟨bnew, r1', r2', li_lie (li_drop a4 k1 u3) hv0 (fun j hj => ?_), by rw [a5], fun j hj => ?_, fun i q hi hq => ?_, a8⟩
    · rw [e'] at hj
      rw [u3 j hj]
      exact li_drn a4 k1 k2 j hj
    · rw [e'] at hj
      rw [u3 j hj, w3 j hj]
      unfold li_dr
      by_cases c : j < k
      · rw [if_pos c, if_pos c]
        exact a6 j (by omega)
      · rw [if_neg c, if_neg c]
        exact a6 (j + 1) (by omega)
    · obtain ⟨t, k⟩ := a7 i q hi hq
      refine ⟨t, ?_⟩
      have : gi1 q = gi q := by
        rw [← c5 q t]
        rcases t with t | t | t <;> exact u2 q (ro_ne t t10 (by decide)) (ro_ne t t35 (by decide))
      rw [this]
      exact k
theorem s_leave (Q : q_all τ Z gi gr gm rm A) (K : c_core τ gi gr gm A) {v r1 r2 : Int32} (e1 : F_X11_leave τ Z gi gr (A 11) v = (r1, gi1)) (e2 : F_X12_leave τ Z gm rm (A 12) v = (r2, gm2)) : r1 = r2 ∧ c_core τ gi1 gr gm2 A := by
  obtain ⟨hJ, hJm, hC, hQ, no, nb, wi, cb, cu, ct, cs, cl, cr, cw⟩ := Q
  have K' := K
  obtain ⟨a1, a2, a3, a4, a5, a6, a7, a8⟩ := K'
  have no' : gm (A 12) 8 = gi (A 1) 6 := no.symm
  have n162 := (n_b hJ hC).2
  unfold F_X11_leave at e1
  unfold F_X12_leave F_X12_isBoat at e2
  dsimp only at e1 e2
  rw [hC.g 11 0 1 (by decide), hC.g 1 4 2 (by decide)] at e1
  rw [w0_m, no', hQ.g 12 50 (by decide), hQ.g 7 46 (by decide)] at e2
  by_cases g1 : W0 v 0 (gi (A 1) 6 - 1) = 0
  · rw [bo_no hJ hC g1] at e1
    rw [if_pos g1] at e2
    exact K.fip hC hQ (w1 := 1) (by decide) (by decide) e1 e2
  obtain ⟨f1, f2, f3, f4⟩ := bo_yes (Z := Z) hJ hC g1
  obtain ⟨qb, hqb⟩ := cb v.toNatClampNeg (by rw [f3, no']; exact f4)
  rw [f1, hqb.1] at e1
  rw [if_neg g1] at e2
  simp only [Option.elim_some] at e1
  have hv0 : 0 ≤ v.toInt := by omega
  have rX := hC.e 2 0 24 (by decide)
  have rY := hC.e 2 1 25 (by decide)
  have t24 := hC.t 24 24 (by decide) rfl
  have t25 := hC.t 25 25 (by decide) rfl
  have t10 := hC.t 10 10 (by decide) rfl
  have t35 := hC.t 35 35 (by decide) rfl
  have t50 := hQ.t 12 50 (by decide)
  have t46 := hQ.t 7 46 (by decide)
  have t54 := hQ.t 18 54 (by decide)
  have t55 := hQ.t 19 55 (by decide)
  have nXY := ro_ne t24 t25 (by decide)
  have n56 := ro_ne t50 t46 (by decide)
  rw [bo_of rX hv0 (by omega)] at e1
  rw [← a2 v.toNatClampNeg (by rw [no']; omega)] at e2
  rcases be_x a1 (i := v.toNatClampNeg) (by omega) with z1 | ⟨z1, z2, z3, -⟩
  · rw [z1, if_pos rfl] at e1
    rw [z1, if_neg (by decide)] at e2
    exact K.fip hC hQ (w1 := 3) (by decide) (by decide) e1 e2
  · rw [if_neg (fun q => by rw [q, k_m1] at z1; omega)] at e1
    rw [if_pos (i_le.mpr (by rw [k_0]; exact z1))] at e2
    obtain ⟨p1, p2, p3⟩ := lf_eq (τ := τ) (Z := Z) (gi := gi) (v := v) rX rY nXY hv0 (by omega) z1 (by omega)
    obtain ⟨b1, b2⟩ := pr2 e1
    obtain ⟨b3, b4⟩ := pr2 e2
    rw [b2] at p1 p2 p3
    have bnew := be_lift a1 hv0 (by omega) z1
    have q50 : gm2 (A 50) = upd (gm (A 50)) v.toNatClampNeg (-1) := by rw [← b4, up_n n56, up_s]
    have q46 : gm2 (A 46) = upd (gm (A 46)) (gi (A 24) v.toNatClampNeg).toNatClampNeg (-1) := by rw [← b4, up_s, up_n (Ne.symm n56)]
    have qo : ∀ a, a ≠ A 50 → a ≠ A 46 → gm2 a = gm a := fun a h1 h2 => by rw [← b4, up_n h2, up_n h1]
    refine ⟨b1.symm.trans b3, ?_⟩
    unfold c_core
    rw [p1, p2, p3 _ (ro_ne t10 t24 (by decide)) (ro_ne t10 t25 (by decide)), p3 _ (ro_ne t35 t24 (by decide)) (ro_ne t35 t25 (by decide)), q50, q46, qo _ (ro_ne hQ.1 t50 (by decide)) (ro_ne hQ.1 t46 (by decide)), qo _ (ro_ne t54 t50 (by decide)) (ro_ne t54 t46 (by decide)), qo _ (ro_ne t55 t50 (by decide)) (ro_ne t55 t46 (by decide))]
    refine ⟨bnew, ud_row a2, ud_row a3, li_mono a4 (Int.le_refl _) (fun k hk => ?_), a5, a6, fun i q hi hq => ?_, a8⟩
    · by_cases e : k = v.toNatClampNeg
      · rw [e, ud_s]
      · rw [ud_n e]
        exact hk
    · obtain ⟨t, k⟩ := a7 i q hi hq
      refine ⟨t, ?_⟩
      have : gi1 q = gi q := by
        rcases t with t | t | t <;> exact p3 q (ro_ne t t24 (by decide)) (ro_ne t t25 (by decide))
      rw [this]
      exact k
end CO
