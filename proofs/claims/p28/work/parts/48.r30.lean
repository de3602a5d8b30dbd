/-! ===== WEAR ===== -/
section WE
variable {τ τ1 : th_t} {Z : th_Zt} {gi gi1 gm gm2 : th_i} {gr gr1 rm rm2 : th_r} {A : Nat → Nat} {M1 M2 : List Nat}
def w_at (τ : th_t) (gi gm : th_i) (A : Nat → Nat) (i q : Nat) : Prop := τ q = 3 ∧ gi q 6 = gm (A 44) i ∧ gi q 7 = gm (A 45) i ∧ rg 0 100 (gi q 6) ∧ rg 0 100 (gi q 7)
def c_wear (τ : th_t) (gi : th_i) (gr : th_r) (gm : th_i) (A : Nat → Nat) : Prop := (∀ i q : Nat, (i : Int) < (gm (A 12) 0).toInt → gr (A 20) i = some q → w_at τ gi gm A i q) ∧ ∀ i : Nat, i < 12 → (gm (A 12) 0).toInt ≤ (i : Int) → gm (A 44) i = 0 ∧ gm (A 45) i = 0
theorem c_wear.fr (hC : ro_C τ gr A) (hQ : ro_M τ rm A) (h1 : th_Mod M1 τ gi gr gi1 gr1) (h2 : th_Mod M2 τ gm rm gm2 rm2) (k1 : ∀ k ∈ [2000, 306, 307], k ∉ M1) (k2 : ∀ k ∈ [1200, 4400, 4500], k ∉ M2) (h : c_wear τ gi gr gm A) : c_wear τ gi1 gr1 gm2 A := by
  unfold c_wear w_at
  rw [(ro_k h2 0 hQ.1 (by decide) (k2 1200 (by decide))).1, (ro_ka h2 (hQ.t 5 44 (by decide)) (by decide) (k2 4400 (by decide))).1, (ro_ka h2 (hQ.t 6 45 (by decide)) (by decide) (k2 4500 (by decide))).1, (ro_ka h1 (hC.t 20 20 (by decide) rfl) (by decide) (k1 2000 (by decide))).2]
  refine ⟨fun i q hi hq => ?_, h.2⟩
  obtain ⟨x0, x1, x2, x3, x4⟩ := h.1 i q hi hq
  rw [(ro_k h1 6 x0 (by decide) (k1 306 (by decide))).1, (ro_k h1 7 x0 (by decide) (k1 307 (by decide))).1]
  exact ⟨x0, x1, x2, x3, x4⟩
theorem c_wear.ext (hx : ∀ b, τ b ≠ 0 → τ1 b = τ b) (h : c_wear τ gi gr gm A) : c_wear τ1 gi gr gm A := by
  refine ⟨fun i q hi hq => ?_, h.2⟩
  obtain ⟨x0, x1⟩ := h.1 i q hi hq
  exact ⟨(hx q (by rw [x0]; decide)).trans x0, x1⟩
theorem c_wear.fin (hC : ro_C τ gr A) (hQ : ro_M τ1 rm A) (f : x_fin τ gi gr gm A τ1 gi1 gr1 gm2) (h : c_wear τ gi gr gm A) : c_wear τ1 gi1 gr1 gm2 A := by
  obtain ⟨rfl, rfl, k2, k3⟩ := f
  exact c_wear.fr hC hQ (fm_c hC k2) (fm_m hQ k3) (by decide) (by decide) h
theorem c_wear.fip (hC : ro_C τ gr A) (hQ : ro_M τ rm A) (h : c_wear τ gi gr gm A) {w1 w2 r1 r2 : Int32} (hw : ¬ W0 w1 1 5 = 0) (hww : (-1000000) - w1 = w2) (e1 : ((F_X11_finding τ Z gi gr (A 11) w1).1, (F_X11_finding τ Z gi gr (A 11) w1).2) = (r1, gi1)) (e2 : ((F_X12_finding τ Z gm rm (A 12) w2).1, (F_X12_finding τ Z gm rm (A 12) w2).2) = (r2, gm2)) : r1 = r2 ∧ c_wear τ gi1 gr gm2 A := by
  obtain ⟨k1, k2, k3⟩ := s_fip hC hQ hw hww e1 e2
  exact ⟨k1, h.fr hC hQ (fm_c hC k2) (fm_m hQ k3) (by decide) (by decide)⟩
theorem c_wear.buoy (hJ : th_J τ gi gr) (hC : ro_C τ gr A) (hQ : ro_M τ rm A) (nb : c_eq 1 5 0 gi gm A) (hw : c_wear τ gi gr gm A) {v1 v2 v3 v4 : Int32} (h : bu_ok τ gi gr gm A τ1 gi1 gr1 gm2 v1 v2 v3 v4) : c_wear τ1 gi1 gr1 gm2 A := by
  obtain ⟨g5, -, -, -, -, ⟨q, w, g, zq, zw, nqw, et, ei, er, go, gq, gw⟩, m12, m40, m41, m42, m43, m46, mo⟩ := h
  obtain ⟨l1, l2, l3⟩ := nI12 (n_p hJ hC) g5
  have nb' : gm (A 12) 0 = gi (A 1) 5 := nb.symm
  have t1 := hC.t 1 1 (by decide) rfl
  have nq1 : q ≠ A 1 := fun e => by rw [e, t1] at zq; exact absurd zq (by decide)
  have t44 := hQ.t 5 44 (by decide)
  have t45 := hQ.t 6 45 (by decide)
  have t40 := hQ.t 1 40 (by decide)
  have t41 := hQ.t 2 41 (by decide)
  have t42 := hQ.t 3 42 (by decide)
  have t43 := hQ.t 4 43 (by decide)
  have t46 := hQ.t 7 46 (by decide)
  have m44 := mo _ (ro_ne t44 hQ.1 (by decide)) (ro_ne t44 t40 (by decide)) (ro_ne t44 t41 (by decide)) (ro_ne t44 t42 (by decide)) (ro_ne t44 t43 (by decide)) (ro_ne t44 t46 (by decide))
  have m45 := mo _ (ro_ne t45 hQ.1 (by decide)) (ro_ne t45 t40 (by decide)) (ro_ne t45 t41 (by decide)) (ro_ne t45 t42 (by decide)) (ro_ne t45 t43 (by decide)) (ro_ne t45 t46 (by decide))
  obtain ⟨w1, w2⟩ := hw
  unfold c_wear w_at
  rw [m12, m44, m45, ud_s, l3]
  refine ⟨fun i b hi hq => ?_, fun i hi hn => w2 i hi (by rw [nb']; omega)⟩
  by_cases hin : i = (gi (A 1) 5).toNatClampNeg
  · rw [hin, er, up_s, up_s] at hq
    have : q = b := Option.some.inj hq
    subst this
    obtain ⟨z1, z2⟩ := w2 i (by omega) (by rw [nb']; omega)
    have g6 : gi1 q 6 = 0 := by rw [ei, up_n nq1, gq]; rfl
    have g7 : gi1 q 7 = 0 := by rw [ei, up_n nq1, gq]; rfl
    rw [g6, g7, z1, z2, rg, k_0]
    exact ⟨by rw [et, up_s], rfl, rfl, by omega, by omega⟩
  · rw [er, up_s, up_n hin] at hq
    obtain ⟨x0, x1⟩ := w1 i b (by rw [nb']; omega) hq
    have bq : b ≠ q := fun e => by rw [e, zq] at x0; exact absurd x0 (by decide)
    have bw : b ≠ w := fun e => by rw [e, zw] at x0; exact absurd x0 (by decide)
    have gb : gi1 b = gi b := by rw [ei, up_n (ro_ne x0 t1 (by decide)), go b bq bw]
    rw [gb]
    exact ⟨by rw [et, up_n bq, up_n bw]; exact x0, x1⟩
/-- BUOYS apart -/
theorem c_buoy.ne (h : c_buoy τ gi gr gm A) {i j q q' : Nat} (hi : (i : Int) < (gm (A 12) 0).toInt) (hj : (j : Int) < (gm (A 12) 0).toInt) (hq : gr (A 20) i = some q) (hq' : gr (A 20) j = some q') (e : q = q') : i = j := by
  obtain ⟨a, a1, -, a2, -⟩ := h i hi
  obtain ⟨b, b1, -, b2, -⟩ := h j hj
  have e1 : a = q := Option.some.inj (a1.symm.trans hq)
  have e2 : b = q' := Option.some.inj (b1.symm.trans hq')
  rw [e1, e, ← e2, b2] at a2
  omega
/-- one BUOY's wear set anew -/
theorem c_wear.set (hC : ro_C τ gr A) (hQ : ro_M τ rm A) (cu : c_buoy τ gi gr gm A) (h : c_wear τ gi gr gm A) {j qp : Nat} (hj : (j : Int) < (gm (A 12) 0).toInt) (hq : gr (A 20) j = some qp) {lo hi : Int32} (rl : rg 0 100 lo) (rh : rg 0 100 hi) (e6 : gi1 qp 6 = lo) (e7 : gi1 qp 7 = hi) (eo : ∀ a, a ≠ qp → gi1 a = gi a) (m44 : gm2 (A 44) = upd (gm (A 44)) j lo) (m45 : gm2 (A 45) = upd (gm (A 45)) j hi) (m12 : gm2 (A 12) = gm (A 12)) : c_wear τ gi1 gr gm2 A := by
  obtain ⟨w1, w2⟩ := h
  unfold c_wear w_at
  rw [m12, m44, m45]
  refine ⟨fun i q hi' hqi => ?_, fun i hi' hn => ?_⟩
  · obtain ⟨x0, x1, x2, x3, x4⟩ := w1 i q hi' hqi
    by_cases e : i = j
    · subst e
      have : q = qp := Option.some.inj (hqi.symm.trans hq)
      subst this
      rw [e6, e7, ud_s, ud_s]
      exact ⟨x0, rfl, rfl, rl, rh⟩
    · rw [eo q (fun e' => e (cu.ne hi' hj hqi hq e')), ud_n e, ud_n e]
      exact ⟨x0, x1, x2, x3, x4⟩
  · rw [ud_n (by omega), ud_n (by omega)]
    exact w2 i hi' hn
theorem s_renew (Q : q_all τ Z gi gr gm rm A) (we : c_wear τ gi gr gm A) {p r1 r2 : Int32} (e1 : F_X11_renew τ Z gi gr (A 11) p = (r1, gi1)) (e2 : F_X12_renew τ Z gm rm (A 12) p = (r2, gm2)) : r1 = r2 ∧ c_wear τ gi1 gr gm2 A := by
  obtain ⟨hJ, hJm, hC, hQ, no, nb, wi, cb, cu, ct, cs, cl, cr, cw⟩ := Q
  have nb' : gm (A 12) 0 = gi (A 1) 5 := nb.symm
  unfold F_X11_renew at e1
  unfold F_X12_renew F_X12_isBuoy at e2
  dsimp only at e1 e2
  rw [hC.g 11 0 1 (by decide)] at e1
  rw [w0_m, nb', hQ.g 6 45 (by decide), hQ.g 5 44 (by decide)] at e2
  by_cases g2 : W0 p 0 (gi (A 1) 5 - 1) = 0
  · rw [bu_no hJ hC g2] at e1
    rw [if_pos g2] at e2
    exact we.fip hC hQ (w1 := 1) (by decide) (by decide) e1 e2
  obtain ⟨m1, m2, m3, m4⟩ := bu_yes (Z := Z) hJ hC g2
  have hj : ((p.toNatClampNeg : Nat) : Int) < (gm (A 12) 0).toInt := by rw [m3, nb']; exact m4
  obtain ⟨qp, hqp⟩ := cu p.toNatClampNeg hj
  obtain ⟨x0, x1, x2, x3, x4⟩ := we.1 _ qp hj hqp.1
  rw [m1, hqp.1] at e1
  rw [if_neg g2] at e2
  simp only [Option.elim_some] at e1
  obtain ⟨b1, b2⟩ := pr2 e1
  obtain ⟨b3, b4⟩ := pr2 e2
  have t44 := hQ.t 5 44 (by decide)
  have t45 := hQ.t 6 45 (by decide)
  have n45 := ro_ne t44 t45 (by decide)
  refine ⟨by rw [← b1, ← b3, x2], we.set hC hQ cu hj hqp.1 (lo := 0) (hi := 0) ⟨by decide, by decide⟩ ⟨by decide, by decide⟩ ?_ ?_ (fun a ha => ?_) ?_ ?_ ?_⟩
  · rw [← b2, up_s, ud_n (by decide), up_s, ud_s]
  · rw [← b2, up_s, ud_s]
  · rw [← b2, up_n ha, up_n ha]
  · rw [← b4, up_s, up_n n45]
  · rw [← b4, up_n (Ne.symm n45), up_s]
  · rw [← b4, up_n (ro_ne hQ.1 t44 (by decide)), up_n (ro_ne hQ.1 t45 (by decide))]
theorem k_100 : (100 : Int32).toInt = 100 := by decide
theorem s_look (Q : q_all τ Z gi gr gm rm A) (we : c_wear τ gi gr gm A) {p v s r1 r2 : Int32} (e1 : F_X11_look τ Z gi gr (A 11) p v s = (r1, gi1)) (e2 : F_X12_look τ Z gm rm (A 12) p v s = (r2, gm2)) : r1 = r2 ∧ c_wear τ gi1 gr gm2 A := by
  obtain ⟨hJ, hJm, hC, hQ, no, nb, wi, cb, cu, ct, cs, cl, cr, cw⟩ := Q
  have nb' : gm (A 12) 0 = gi (A 1) 5 := nb.symm
  unfold F_X11_look f_X11_look_32 f_X11_look_74 f_X11_look_125 F_X11_isFlag F_X3_doubt at e1
  unfold F_X12_look F_X12_isBuoy f_X12_look_27 f_X12_look_69 f_X12_look_111 f_X12_look_62 at e2
  dsimp only at e1 e2
  rw [hC.g 11 0 1 (by decide), w0_c, w0_c] at e1
  rw [w0_m, w0_m, w0_m, nb', hQ.g 6 45 (by decide), hQ.g 5 44 (by decide)] at e2
  by_cases g2 : W0 p 0 (gi (A 1) 5 - 1) = 0
  · rw [bu_no hJ hC g2] at e1
    rw [if_pos g2] at e2
    exact we.fip hC hQ (w1 := 1) (by decide) (by decide) e1 e2
  obtain ⟨m1, m2, m3, m4⟩ := bu_yes (Z := Z) hJ hC g2
  have hj : ((p.toNatClampNeg : Nat) : Int) < (gm (A 12) 0).toInt := by rw [m3, nb']; exact m4
  obtain ⟨qp, hqp⟩ := cu p.toNatClampNeg hj
  obtain ⟨x0, x1, x2, x3, x4⟩ := we.1 _ qp hj hqp.1
  rw [m1, hqp.1] at e1
  rw [if_neg g2] at e2
  simp only [Option.elim_some] at e1
  by_cases g3 : W0 v 0 100 = 0
  · rw [if_pos g3] at e1 e2
    exact we.fip hC hQ (w1 := 1) (by decide) (by decide) e1 e2
  rw [if_neg g3] at e1 e2
  by_cases g4 : W0 s 0 1 = 0
  · rw [if_pos g4] at e1 e2
    exact we.fip hC hQ (w1 := 1) (by decide) (by decide) e1 e2
  rw [if_neg g4] at e1 e2
  have hv := w0_rg (l := 0) (h := 100) (by decide) (by decide) g3
  have t44 := hQ.t 5 44 (by decide)
  have t45 := hQ.t 6 45 (by decide)
  have n45 := ro_ne t44 t45 (by decide)
  have ev1 : (v - 1).toInt = v.toInt - 1 := by
    have := hv.1
    have := hv.2
    rw [i_sub (by rw [k_1]; omega) (by rw [k_1]; omega), k_1]
  have h10 : ¬ (1 : Int32) = 0 := by decide
  obtain ⟨l1, l2⟩ := x3
  obtain ⟨h1, h2⟩ := x4
  have hv1 := hv.1
  have hv2 := hv.2
  by_cases c1 : s = 1
  · rw [if_pos c1] at e1 e2
    rw [← x2] at e2
    by_cases c2 : gi qp 7 < v
    · rw [if_pos c2, if_pos trivial] at e1
      rw [if_neg (Int32.not_le.mpr c2)] at e2
      exact we.fip hC hQ (w1 := 2) (by decide) (by decide) e1 e2
    · rw [if_neg c2, if_neg h10, if_pos c1] at e1
      rw [if_pos (Int32.not_lt.mp c2), if_pos c1, ← x1] at e2
      obtain ⟨y1, y2, y3⟩ := mx_c (gi qp 6) v
      have rl : rg 0 100 (th_mx (gi qp 6) v) := by
        rcases y3 with y | y <;> rw [y] <;> exact ⟨by omega, by omega⟩
      obtain ⟨b1, b2⟩ := pr2 e1
      obtain ⟨b3, b4⟩ := pr2 e2
      rw [up_s, ud_s, ud_n (show (7 : Nat) ≠ 6 by decide)] at b1
      rw [up_s, ud_s, up_n (Ne.symm n45), ← x2] at b3
      refine ⟨b1.symm.trans b3, we.set hC hQ cu hj hqp.1 (lo := th_mx (gi qp 6) v) (hi := gi qp 7) rl ⟨h1, h2⟩ ?_ ?_ (fun a ha => ?_) ?_ ?_ ?_⟩
      · rw [← b2, up_s, ud_s]
      · rw [← b2, up_s, ud_n (by decide)]
      · rw [← b2, up_n ha]
      · rw [← b4, up_s]
      · rw [← b4, up_n (Ne.symm n45)]
        funext k
        by_cases e : k = p.toNatClampNeg
        · rw [e, ud_s, x2]
        · rw [ud_n e]
      · rw [← b4, up_n (ro_ne hQ.1 t44 (by decide))]
  · rw [if_neg c1] at e1 e2
    rw [← x1] at e2
    by_cases c2 : v ≤ gi qp 6
    · rw [if_pos c2, if_pos trivial] at e1
      rw [if_neg (Int32.not_lt.mpr c2)] at e2
      exact we.fip hC hQ (w1 := 2) (by decide) (by decide) e1 e2
    · have c2' := i_ltI.mp (Int32.not_le.mp c2)
      rw [if_neg c2, if_neg h10, if_neg c1] at e1
      rw [if_pos (Int32.not_le.mp c2), if_neg c1, ← x2] at e2
      obtain ⟨y1, y2, y3⟩ := mn_c (gi qp 7) (v - 1)
      have rh : rg 0 100 (th_mn (gi qp 7) (v - 1)) := by
        rcases y3 with y | y <;> rw [y] <;> exact ⟨by omega, by omega⟩
      obtain ⟨b1, b2⟩ := pr2 e1
      obtain ⟨b3, b4⟩ := pr2 e2
      rw [up_s, ud_s, ud_n (show (6 : Nat) ≠ 7 by decide)] at b1
      rw [up_s, ud_s, up_n n45, ← x1] at b3
      refine ⟨b1.symm.trans b3, we.set hC hQ cu hj hqp.1 (lo := gi qp 6) (hi := th_mn (gi qp 7) (v - 1)) ⟨l1, l2⟩ rh ?_ ?_ (fun a ha => ?_) ?_ ?_ ?_⟩
      · rw [← b2, up_s, ud_n (by decide)]
      · rw [← b2, up_s, ud_s]
      · rw [← b2, up_n ha]
      · rw [← b4, up_n n45]
        funext k
        by_cases e : k = p.toNatClampNeg
        · rw [e, ud_s, x1]
        · rw [ud_n e]
      · rw [← b4, up_s]
      · rw [← b4, up_n (ro_ne hQ.1 t45 (by decide))]
theorem pa_at {q i : Nat} {v : Int32} (hQ : ro_M τ rm A) (hv : v.toNatClampNeg = i) (h : gi q 6 = gm (A 44) i) : F_X3_isParted τ Z gi gr q = F_X12_isParted τ Z gm rm (A 12) v := by
  unfold F_X3_isParted F_X12_isParted
  dsimp only
  rw [hQ.g 5 44 (by decide), hv, h]
theorem s_of (Q : q_all τ Z gi gr gm rm A) (K : c_core τ gi gr gm A) (we : c_wear τ gi gr gm A) {p w r1 r2 : Int32} (e1 : F_X11_of τ Z gi gr (A 11) p w = (r1, gi1)) (e2 : F_X12_of τ Z gm rm (A 12) p w = (r2, gm2)) : r1 = r2 := by
  obtain ⟨hJ, hJm, hC, hQ, no, nb, wi, cb, cu, ct, cs, cl, cr, cw⟩ := Q
  obtain ⟨a1, a2, a3, a4, a5, a6, a7, a8⟩ := K
  have nb' : gm (A 12) 0 = gi (A 1) 5 := nb.symm
  have n122 := (n_p hJ hC).2
  unfold F_X11_of at e1
  unfold F_X12_of F_X12_isBuoy at e2
  dsimp only at e1 e2
  rw [hC.g 11 0 1 (by decide), hC.g 1 4 2 (by decide)] at e1
  rw [w0_m, nb', hQ.g 1 40 (by decide), hQ.g 2 41 (by decide), hQ.g 3 42 (by decide), hQ.g 4 43 (by decide), hQ.g 7 46 (by decide), hQ.g 6 45 (by decide), hQ.g 5 44 (by decide)] at e2
  by_cases g2 : W0 p 0 (gi (A 1) 5 - 1) = 0
  · rw [bu_no hJ hC g2] at e1
    rw [if_pos g2] at e2
    exact (s_fip hC hQ (w1 := 1) (by decide) (by decide) e1 e2).1
  obtain ⟨m1, m2, m3, m4⟩ := bu_yes (Z := Z) hJ hC g2
  have hj : ((p.toNatClampNeg : Nat) : Int) < (gm (A 12) 0).toInt := by rw [m3, nb']; exact m4
  obtain ⟨qp, hqp⟩ := cu p.toNatClampNeg hj
  obtain ⟨x0, x1, x2, x3, x4⟩ := we.1 _ qp hj hqp.1
  obtain ⟨u1, u2, u3, u4, u5, u6, u7, -⟩ := hqp
  rw [m1, u1] at e1
  rw [if_neg g2] at e2
  simp only [Option.elim_some] at e1
  rw [u4, u5, u6, u7, x1, x2, bu_of (hC.e 2 1 25 (by decide)) (by omega) (by omega), a3 _ hj, pa_at (Z := Z) (gr := gr) (rm := rm) hQ rfl x1] at e1
  by_cases c0 : w.toInt < 0
  · rw [if_pos c0] at e1 e2
    exact (s_fip hC hQ (w1 := 1) (by decide) (by decide) e1 e2).1
  rw [if_neg c0] at e1 e2
  by_cases c1 : 7 < w.toInt
  · rw [if_pos c1] at e1 e2
    exact (s_fip hC hQ (w1 := 1) (by decide) (by decide) e1 e2).1
  rw [if_neg c1] at e1 e2
  by_cases c2 : w.toInt = 0
  · rw [if_pos c2] at e1 e2
    exact (pr2 e1).1.symm.trans (pr2 e2).1
  rw [if_neg c2] at e1 e2
  by_cases c3 : w.toInt = 1
  · rw [if_pos c3] at e1 e2
    exact (pr2 e1).1.symm.trans (pr2 e2).1
  rw [if_neg c3] at e1 e2
  by_cases c4 : w.toInt = 2
  · rw [if_pos c4] at e1 e2
    exact (pr2 e1).1.symm.trans (pr2 e2).1
  rw [if_neg c4] at e1 e2
  by_cases c5 : w.toInt = 3
  · rw [if_pos c5] at e1 e2
    exact (pr2 e1).1.symm.trans (pr2 e2).1
  rw [if_neg c5] at e1 e2
  by_cases c6 : w.toInt = 4
  · rw [if_pos c6] at e1 e2
    exact (pr2 e1).1.symm.trans (pr2 e2).1
  rw [if_neg c6] at e1 e2
  by_cases c7 : w.toInt = 5
  · rw [if_pos c7] at e1 e2
    exact (pr2 e1).1.symm.trans (pr2 e2).1
  rw [if_neg c7] at e1 e2
  by_cases c8 : w.toInt = 6
  · rw [if_pos c8] at e1 e2
    exact (pr2 e1).1.symm.trans (pr2 e2).1
  rw [if_neg c8] at e1 e2
  by_cases c9 : w.toInt = 7
  · rw [if_pos c9] at e1 e2
    by_cases d : F_X12_isParted τ Z gm rm (A 12) p = 0
    · rw [if_pos d] at e1 e2
      exact (pr2 e1).1.symm.trans (pr2 e2).1
    · rw [if_neg d] at e1 e2
      exact (pr2 e1).1.symm.trans (pr2 e2).1
  · rw [if_neg c9] at e1 e2
    exact (pr2 e1).1.symm.trans (pr2 e2).1
end WE
