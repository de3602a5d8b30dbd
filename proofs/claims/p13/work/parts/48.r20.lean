/-! ===== an OFFER is answered; a BOAT, a BUOY comes ===== -/
section AN
variable {τ τ1 : th_t} {Z : th_Zt} {gi gi1 gm gm2 : th_i} {gr gr1 rm rm2 : th_r} {A : Nat → Nat} {M1 M2 : List Nat}
theorem fn_bo (hJ : th_J τ gi gr) (hC : ro_C τ gr A) {w : Int32} (hw : ¬ W0 w 1 5 = 0) (hn : ((-1000000) - w).toInt < 0) : F_X0_boatAt τ Z (F_X11_finding τ Z gi gr (A 11) w).2 gr (A 1) (F_X11_finding τ Z gi gr (A 11) w).1 = none := by
  rw [fi_c hC hw]
  dsimp only
  have n1 := ro_ne (hC.t 1 1 (by decide) rfl) (hC.t 36 36 (by decide) rfl) (by decide)
  refine bo_gn ?_ ?_
  · rw [up_n n1]
    exact n_b hJ hC
  · omega
/-- the class and the reference take the same place off THE LIST -/
theorem off_eq (hC : ro_C τ gr A) (hQ : ro_M τ rm A) {n : Int} {g m : th_i} {x : Nat → Int32} {v p1 p2 : Int32} {j : Nat} (l : li_ok n (g (A 10) 2) (g (A 35)) x) (es : g (A 10) 2 = m (A 12) 17) (er : ∀ k : Nat, (k : Int) < (g (A 10) 2).toInt → g (A 35) k = m (A 54) k) (hj : (j : Int) < (g (A 10) 2).toInt) (hv : g (A 35) j = v) (h1 : p1 = F_X10_placeOf τ Z g gr (A 10) v) (h2 : p2.toInt = (j : Int)) : (F_X10_drop τ Z g gr (A 10) p1 (A 10) = upd (g (A 10)) 2 (g (A 10) 2 - 1) ∧ (∀ a, a ≠ A 10 → a ≠ A 35 → F_X10_drop τ Z g gr (A 10) p1 a = g a)) ∧ (F_X12_goesOff τ Z m rm (A 12) p2 (A 12) = upd (m (A 12)) 17 (g (A 10) 2 - 1) ∧ (∀ a, a ≠ A 12 → a ≠ A 54 → F_X12_goesOff τ Z m rm (A 12) p2 a = m a)) ∧ li_ok n (g (A 10) 2 - 1) (F_X10_drop τ Z g gr (A 10) p1 (A 35)) x ∧ (∀ k : Nat, (k : Int) < (g (A 10) 2).toInt - 1 → F_X10_drop τ Z g gr (A 10) p1 (A 35) k = F_X12_goesOff τ Z m rm (A 12) p2 (A 54) k) ∧ ∀ k : Nat, (k : Int) < (g (A 10) 2).toInt - 1 → ¬ F_X10_drop τ Z g gr (A 10) p1 (A 35) k = v := by
  have hp : p1.toInt = (j : Int) := by
    rcases pl_at (Z := Z) hC (g := g) (v := v) l.1 with ⟨-, k2⟩ | ⟨k, k1, k2, k3⟩
    · exact absurd hv (k2 j hj)
    · rw [h1, k3]
      exact Int.ofNat_inj.mpr (l.2.2 k j k1 hj (k2.trans hv.symm))
  obtain ⟨u1, u2, u3⟩ := dr_sp (Z := Z) (gi := g) hC (p := p1) l.1 (by omega) (by omega)
  obtain ⟨w1, w2, w3⟩ := go_sp (Z := Z) (gm := m) hQ (p := p2) (by rw [← es]; exact l.1) (by omega) (by rw [← es]; omega)
  rw [cl_in hp.symm] at u3
  rw [cl_in h2.symm] at w3
  rw [← es] at w1 w3
  refine ⟨⟨u1, u2⟩, ⟨w1, w2⟩, li_drop l hj u3, fun k hk => ?_, fun k hk => ?_⟩
  · rw [u3 k hk, w3 k hk]
    unfold li_dr
    by_cases c : k < j
    · rw [if_pos c, if_pos c]
      exact er k (by omega)
    · rw [if_neg c, if_neg c]
      exact er (k + 1) (by omega)
  · rw [u3 k hk]
    exact li_drn l hj hv k hk
theorem s_answer (Q : q_all τ Z gi gr gm rm A) (st : c_eq 11 9 20 gi gm A) (K : c_core τ gi gr gm A) {p s r1 r2 : Int32} (e1 : F_X11_answer τ Z gi gr (A 11) p s = (r1, gi1)) (e2 : F_X12_answer τ Z gm rm (A 12) p s = (r2, gm2)) : r1 = r2 ∧ c_core τ gi1 gr gm2 A := by
  have Q' := Q
  obtain ⟨hJ, hJm, hC, hQ, no, nb, wi, cb, cu, ct, cs, cl, cr, cw⟩ := Q'
  have K' := K
  obtain ⟨a1, a2, a3, a4, a5, a6, a7, a8⟩ := K'
  have no' : gm (A 12) 8 = gi (A 1) 6 := no.symm
  have nb' : gm (A 12) 0 = gi (A 1) 5 := nb.symm
  have n16 := n_b hJ hC
  have n162 := n16.2
  have n122 := (n_p hJ hC).2
  have n162' : (gm (A 12) 8).toInt ≤ 16 := by rw [no']; exact n162
  have n122' : (gm (A 12) 0).toInt ≤ 12 := by rw [nb']; exact n122
  unfold F_X11_answer F_X11_isFlag at e1
  unfold F_X12_answer F_X12_isBuoy f_X12_answer_17 at e2
  dsimp only at e1 e2
  rw [w0_c, hC.g 11 0 1 (by decide), hC.g 1 4 2 (by decide), hC.g 11 1 10 (by decide)] at e1
  rw [w0_m, w0_m, nb', hQ.g 7 46 (by decide), hQ.g 18 54 (by decide), hQ.g 19 55 (by decide)] at e2
  by_cases g0 : W0 s 0 1 = 0
  · rw [if_pos g0] at e1 e2
    have e2' : ((F_X12_finding τ Z gm rm (A 12) (-1000001)).1, (F_X12_finding τ Z gm rm (A 12) (-1000001)).2) = (r2, gm2) := by
      by_cases c : W0 p 0 (gi (A 1) 5 - 1) = 0
      · rw [if_pos c] at e2
        exact e2
      · rw [if_neg c] at e2
        exact e2
    exact K.fip hC hQ (w1 := 1) (by decide) (by decide) e1 e2'
  rw [if_neg g0] at e1 e2
  have t24 := hC.t 24 24 (by decide) rfl
  have t25 := hC.t 25 25 (by decide) rfl
  have t10 := hC.t 10 10 (by decide) rfl
  have t35 := hC.t 35 35 (by decide) rfl
  have t11 := hC.t 11 11 (by decide) rfl
  have t50 := hQ.t 12 50 (by decide)
  have t46 := hQ.t 7 46 (by decide)
  have t54 := hQ.t 18 54 (by decide)
  have t55 := hQ.t 19 55 (by decide)
  have nXY := ro_ne t24 t25 (by decide)
  rcases ob_at Q K (p := p) with ⟨g, k⟩ | ⟨g, l, k⟩ | ⟨g, l, o, k⟩ | ⟨g, l, z, h0, h1, j, j1, j2, k⟩
  · rw [if_pos g] at e2
    rw [k] at e1
    dsimp only at e1
    rw [fn_bo hJ hC (by decide) (by decide)] at e1
    exact K.fip hC hQ (w1 := 1) (by decide) (by decide) e1 e2
  · rw [if_neg g, if_neg l] at e2
    rw [k] at e1
    dsimp only at e1
    rw [fn_bo hJ hC (by decide) (by decide)] at e1
    exact K.fip hC hQ (w1 := 3) (by decide) (by decide) e1 e2
  · rw [if_neg g, if_pos l, o, if_neg (by decide)] at e2
    rw [k] at e1
    dsimp only at e1
    rw [fn_bo hJ hC (by decide) (by decide)] at e1
    exact K.fip hC hQ (w1 := 2) (by decide) (by decide) e1 e2
  · rw [if_neg g, if_pos l, if_pos (i_le.mpr (by rw [k_0]; omega)), cl_in j2.symm, ← a6 j j1] at e2
    rw [k] at e1
    dsimp only at e1
    obtain ⟨o1, o2, o3⟩ := a4.2.1 j j1
    have co := i_cl o1
    rw [bo_g hC n16 o1 (by rw [← no']; exact o2)] at e1
    have hvi : (((gi (A 35) j).toNatClampNeg : Nat) : Int) < (gm (A 12) 8).toInt := by omega
    obtain ⟨qb, hqb⟩ := cb (gi (A 35) j).toNatClampNeg hvi
    rw [hqb.1] at e1
    simp only [Option.elim_some] at e1
    obtain ⟨tb, er⟩ := a7 _ qb hvi hqb.1
    have e' := s_m1 a4.1
    by_cases c1 : s = 1
    · rw [if_pos c1] at e1 e2
      obtain ⟨⟨u1, u2⟩, ⟨w1, w2⟩, l1, l2, l3⟩ := off_eq (Z := Z) hC hQ (g := gi) (m := gm) (v := gi (A 35) j) a4 a5 a6 j1 rfl rfl j2
      generalize F_X10_drop τ Z gi gr (A 10) (F_X10_placeOf τ Z gi gr (A 10) (gi (A 35) j)) = g40 at e1 u1 u2 l1 l2 l3
      generalize F_X12_goesOff τ Z gm rm (A 12) (F_X12_offeredTo τ Z gm rm (A 12) p) = g66 at e2 w1 w2 l2
      have c24 : g40 (A 24) = gi (A 24) := u2 _ (ro_ne t24 t10 (by decide)) (ro_ne t24 t35 (by decide))
      have c25 : g40 (A 25) = gi (A 25) := u2 _ (ro_ne t25 t10 (by decide)) (ro_ne t25 t35 (by decide))
      have d50 : g66 (A 50) = gm (A 50) := w2 _ (ro_ne t50 hQ.1 (by decide)) (ro_ne t50 t54 (by decide))
      have d46 : g66 (A 46) = gm (A 46) := w2 _ (ro_ne t46 hQ.1 (by decide)) (ro_ne t46 t54 (by decide))
      have d55 : g66 (A 55) = gm (A 55) := w2 _ (ro_ne t55 hQ.1 (by decide)) (ro_ne t55 t54 (by decide))
      obtain ⟨p1, p2, p3⟩ := pu_eq (τ := τ) (Z := Z) (gi := g40) (v := gi (A 35) j) (p := p) (hC.e 2 0 24 (by decide)) (hC.e 2 1 25 (by decide)) nXY o1 (by omega) h0 (by omega)
      obtain ⟨q1, q2, q3⟩ := li_eq (τ := τ) (Z := Z) (gm := g66) hQ (v := gi (A 35) j) (p := p)
      obtain ⟨b1, b2⟩ := pr2 e1
      obtain ⟨b3, b4⟩ := pr2 e2
      rw [b2] at p1 p2 p3
      rw [b4] at q1 q2 q3
      rw [c24] at p1
      rw [c25] at p2
      rw [d50] at q1
      rw [d46] at q2
      have f10 : gi1 (A 10) 2 = gi (A 10) 2 - 1 := by rw [p3 _ (ro_ne t10 t24 (by decide)) (ro_ne t10 t25 (by decide)), u1, ud_s]
      have f35 : gi1 (A 35) = g40 (A 35) := p3 _ (ro_ne t35 t24 (by decide)) (ro_ne t35 t25 (by decide))
      have f12 : gm2 (A 12) = upd (gm (A 12)) 17 (gi (A 10) 2 - 1) := by rw [q3 _ (ro_ne hQ.1 t50 (by decide)) (ro_ne hQ.1 t46 (by decide)), w1]
      have f54 : gm2 (A 54) = g66 (A 54) := q3 _ (ro_ne t54 t50 (by decide)) (ro_ne t54 t46 (by decide))
      have f55 : gm2 (A 55) = gm (A 55) := by rw [q3 _ (ro_ne t55 t50 (by decide)) (ro_ne t55 t46 (by decide)), d55]
      refine ⟨b1.symm.trans b3, ?_⟩
      unfold c_core
      rw [p1, p2, q1, q2, f10, f35, f12, f54, f55, ud_n (show (8 : Nat) ≠ 17 by decide), ud_n (show (0 : Nat) ≠ 17 by decide), ud_s]
      refine ⟨be_put a1 o1 o2 (by omega) h0 h1 (by omega) o3 z, ud_row a2, ud_row a3, li_lie l1 o1 (fun k hk => l3 k (by omega)), rfl, fun k hk => l2 k (by omega), fun i q hi hq => ?_, a8⟩
      obtain ⟨t, k⟩ := a7 i q hi hq
      refine ⟨t, ?_⟩
      have : gi1 q = gi q := by
        rcases t with t | t | t <;> exact (p3 q (ro_ne t t24 (by decide)) (ro_ne t t25 (by decide))).trans (u2 q (ro_ne t t10 (by decide)) (ro_ne t t35 (by decide)))
      rw [this]
      exact k
    · rw [if_neg c1] at e1 e2
      have s11 : va_up gi qb (upd (gi qb) 5 (gi qb 5 ||| 1 <<< (p &&& 31))) (A 11) = gi (A 11) := by
        rcases tb with t | t | t <;> exact up_n (ro_ne t11 t (by decide))
      have s12 : va_up gm (A 55) (upd (gm (A 55)) (gi (A 35) j).toNatClampNeg (gm (A 55) (gi (A 35) j).toNatClampNeg ||| 1 <<< (p &&& 31))) (A 12) = gm (A 12) := up_n (ro_ne hQ.1 t55 (by decide))
      have st' : gm (A 12) 20 = gi (A 11) 9 := st.symm
      rw [s11] at e1
      rw [s12, st'] at e2
      have x10 : va_up gi qb (upd (gi qb) 5 (gi qb 5 ||| 1 <<< (p &&& 31))) (A 10) = gi (A 10) := by
        rcases tb with t | t | t <;> exact up_n (ro_ne t10 t (by decide))
      have x35 : va_up gi qb (upd (gi qb) 5 (gi qb 5 ||| 1 <<< (p &&& 31))) (A 35) = gi (A 35) := by
        rcases tb with t | t | t <;> exact up_n (ro_ne t35 t (by decide))
      have x24 : va_up gi qb (upd (gi qb) 5 (gi qb 5 ||| 1 <<< (p &&& 31))) (A 24) = gi (A 24) := by
        rcases tb with t | t | t <;> exact up_n (ro_ne t24 t (by decide))
      have x25 : va_up gi qb (upd (gi qb) 5 (gi qb 5 ||| 1 <<< (p &&& 31))) (A 25) = gi (A 25) := by
        rcases tb with t | t | t <;> exact up_n (ro_ne t25 t (by decide))
      have y54 : va_up gm (A 55) (upd (gm (A 55)) (gi (A 35) j).toNatClampNeg (gm (A 55) (gi (A 35) j).toNatClampNeg ||| 1 <<< (p &&& 31))) (A 54) = gm (A 54) := up_n (ro_ne t54 t55 (by decide))
      have y50 : va_up gm (A 55) (upd (gm (A 55)) (gi (A 35) j).toNatClampNeg (gm (A 55) (gi (A 35) j).toNatClampNeg ||| 1 <<< (p &&& 31))) (A 50) = gm (A 50) := up_n (ro_ne t50 t55 (by decide))
      have y46 : va_up gm (A 55) (upd (gm (A 55)) (gi (A 35) j).toNatClampNeg (gm (A 55) (gi (A 35) j).toNatClampNeg ||| 1 <<< (p &&& 31))) (A 46) = gm (A 46) := up_n (ro_ne t46 t55 (by decide))
      have ref : ∀ i q : Nat, (i : Int) < (gm (A 12) 8).toInt → gr (A 21) i = some q → (τ q = 8 ∨ τ q = 9 ∨ τ q = 4) ∧ va_up gi qb (upd (gi qb) 5 (gi qb 5 ||| 1 <<< (p &&& 31))) q 5 = va_up gm (A 55) (upd (gm (A 55)) (gi (A 35) j).toNatClampNeg (gm (A 55) (gi (A 35) j).toNatClampNeg ||| 1 <<< (p &&& 31))) (A 55) i := fun i q hi hq => by
        obtain ⟨t, k⟩ := a7 i q hi hq
        refine ⟨t, ?_⟩
        rw [up_s]
        by_cases e : i = (gi (A 35) j).toNatClampNeg
        · subst e
          have : q = qb := Option.some.inj (hq.symm.trans hqb.1)
          subst this
          rw [up_s, ud_s, ud_s, er]
        · rw [up_n (fun e' => e (b_ne cb.num hi hvi hq hqb.1 e')), ud_n e]
          exact k
      have ref0 : ∀ i : Nat, i < 16 → (gm (A 12) 8).toInt ≤ (i : Int) → va_up gm (A 55) (upd (gm (A 55)) (gi (A 35) j).toNatClampNeg (gm (A 55) (gi (A 35) j).toNatClampNeg ||| 1 <<< (p &&& 31))) (A 55) i = 0 := fun i hi hn => by
        rw [up_s, ud_n (by omega)]
        exact a8 i hi hn
      generalize va_up gi qb (upd (gi qb) 5 (gi qb 5 ||| 1 <<< (p &&& 31))) = g17 at e1 x10 x35 x24 x25 ref
      generalize va_up gm (A 55) (upd (gm (A 55)) (gi (A 35) j).toNatClampNeg (gm (A 55) (gi (A 35) j).toNatClampNeg ||| 1 <<< (p &&& 31))) = g33 at e2 s12 y54 y50 y46 ref ref0
      by_cases c2 : gi (A 11) 9 = 0
      · rw [if_pos c2] at e1 e2
        obtain ⟨⟨u1, u2⟩, ⟨w1, w2⟩, l1, l2, l3⟩ := off_eq (Z := Z) hC hQ (g := g17) (m := g33) (x := gi (A 24)) (v := gi (A 35) j) (by rw [x10, x35]; exact a4) (by rw [x10, s12]; exact a5) (by rw [x10, x35, y54]; exact a6) (by rw [x10]; exact j1) (by rw [x35]) rfl j2
        rw [x10] at u1 l1 l2 l3 w1
        rw [s12] at w1
        generalize F_X10_drop τ Z g17 gr (A 10) (F_X10_placeOf τ Z g17 gr (A 10) (gi (A 35) j)) = g28 at e1 u1 u2 l1 l2 l3
        generalize F_X12_goesOff τ Z g33 rm (A 12) (F_X12_offeredTo τ Z gm rm (A 12) p) = g43 at e2 w1 w2 l2
        have s2 : g28 (A 10) 2 = gi (A 10) 2 - 1 := by rw [u1, ud_s]
        have s17 : g43 (A 12) 17 = gi (A 10) 2 - 1 := by rw [w1, ud_s]
        have lt : g28 (A 10) 2 < 10 := by
          rw [s2, i_ltI, e', k_10']
          have := a4.1.2
          omega
        obtain ⟨v1, v2, v3⟩ := ap_sp (τ := τ) (Z := Z) (gi := g28) hC (v := gi (A 35) j) lt
        rw [s2] at v1 v3
        obtain ⟨b1, b2⟩ := pr2 e1
        obtain ⟨b3, b4⟩ := pr2 e2
        rw [b2] at v1 v2 v3
        have n54 := ro_ne t54 hQ.1 (by decide)
        have m12 : gm2 (A 12) = upd (g43 (A 12)) 17 (g43 (A 12) 17 + 1) := by rw [← b4, up_s, up_n (Ne.symm n54)]
        have m54 : gm2 (A 54) = upd (g43 (A 54)) (g43 (A 12) 17).toNatClampNeg (gi (A 35) j) := by rw [← b4, up_n n54, up_s]
        have mo : ∀ a, a ≠ A 12 → a ≠ A 54 → gm2 a = g33 a := fun a h1 h2 => by rw [← b4, up_n h1, up_n h2, w2 a h1 h2]
        have f24 : gi1 (A 24) = gi (A 24) := by rw [v2 _ (ro_ne t24 t10 (by decide)) (ro_ne t24 t35 (by decide)), u2 _ (ro_ne t24 t10 (by decide)) (ro_ne t24 t35 (by decide)), x24]
        have f25 : gi1 (A 25) = gi (A 25) := by rw [v2 _ (ro_ne t25 t10 (by decide)) (ro_ne t25 t35 (by decide)), u2 _ (ro_ne t25 t10 (by decide)) (ro_ne t25 t35 (by decide)), x25]
        have f2 : gi1 (A 10) 2 = gi (A 10) 2 := by
          rw [v1, ud_s]
          exact Int32.sub_add_cancel _ _
        have m17 : gm2 (A 12) 17 = gi (A 10) 2 := by
          rw [m12, ud_s, s17]
          exact Int32.sub_add_cancel _ _
        have m8 : gm2 (A 12) 8 = gm (A 12) 8 := by rw [m12, ud_n (by decide), w1, ud_n (by decide)]
        have m0 : gm2 (A 12) 0 = gm (A 12) 0 := by rw [m12, ud_n (by decide), w1, ud_n (by decide)]
        have m50 : gm2 (A 50) = gm (A 50) := by rw [mo _ (ro_ne t50 hQ.1 (by decide)) (ro_ne t50 t54 (by decide)), y50]
        have m46 : gm2 (A 46) = gm (A 46) := by rw [mo _ (ro_ne t46 hQ.1 (by decide)) (ro_ne t46 t54 (by decide)), y46]
        have m55 : gm2 (A 55) = g33 (A 55) := mo _ (ro_ne t55 hQ.1 (by decide)) (ro_ne t55 t54 (by decide))
        rw [s17] at m54
        have s10 := a4.1.1
        have hsz : 0 ≤ (gi (A 10) 2 - 1).toInt := by omega
        have csz := i_cl hsz
        have L := li_app l1 (by rw [e']; have := a4.1.2; omega) o1 o2 o3 (fun k hk => l3 k (by omega))
        rw [show gi (A 10) 2 - 1 + 1 = gi (A 10) 2 from Int32.sub_add_cancel _ _] at L
        refine ⟨b1.symm.trans b3, ?_⟩
        unfold c_core
        rw [f24, f25, f2, v3, m8, m0, m17, m50, m46, m54, m55]
        refine ⟨a1, a2, a3, L, rfl, fun k hk => ?_, fun i q hi hq => ?_, ref0⟩
        · by_cases e : k = (gi (A 10) 2 - 1).toNatClampNeg
          · rw [e, ud_s, ud_s]
          · rw [ud_n e, ud_n e]
            exact l2 k (by omega)
        · obtain ⟨t, k⟩ := ref i q hi hq
          refine ⟨t, ?_⟩
          have : gi1 q = g17 q := by
            rcases t with t | t | t <;> exact (v2 q (ro_ne t t10 (by decide)) (ro_ne t t35 (by decide))).trans (u2 q (ro_ne t t10 (by decide)) (ro_ne t t35 (by decide)))
          rw [this]
          exact k
      · rw [if_neg c2] at e1 e2
        obtain ⟨b1, b2⟩ := pr2 e1
        obtain ⟨b3, b4⟩ := pr2 e2
        refine ⟨b1.symm.trans b3, ?_⟩
        rw [← b2, ← b4]
        unfold c_core
        rw [x10, x35, x24, x25, s12, y54, y50, y46]
        exact ⟨a1, a2, a3, a4, a5, a6, ref, ref0⟩
theorem c_core.fin (hC : ro_C τ gr A) (hQ : ro_M τ1 rm A) (f : x_fin τ gi gr gm A τ1 gi1 gr1 gm2) (h : c_core τ gi gr gm A) : c_core τ1 gi1 gr1 gm2 A := by
  obtain ⟨rfl, rfl, k2, k3⟩ := f
  exact c_core.fr hC hQ (fm_c hC k2) (fm_m hQ k3) (by decide) (by decide) h
theorem c_core.boat (hJ : th_J τ gi gr) (hC : ro_C τ gr A) (hQ : ro_M τ rm A) (no : c_eq 1 6 8 gi gm A) (hb : c_boat τ gi gr gm A) (K : c_core τ gi gr gm A) {v1 v2 v3 : Int32} (h : bt_ok τ gi gr gm A τ1 gi1 gr1 gm2 v1 v2 v3) : c_core τ1 gi1 gr1 gm2 A := by
  obtain ⟨g5, r1, r2, r3, ⟨q, g, r, ⟨f, n0, n1, n2, n4, n5, w, hw, tw, zw⟩, kd, zq, e1, e2⟩, m12, m47, m48, m49, m50, mo⟩ := h
  obtain ⟨l1, l2, l3⟩ := nB16 (n_b hJ hC) g5
  obtain ⟨a1, a2, a3, a4, a5, a6, a7, a8⟩ := K
  have no' : gm (A 12) 8 = gi (A 1) 6 := no.symm
  have t1 := hC.t 1 1 (by decide) rfl
  have t21 := hC.t 21 21 (by decide) rfl
  have nq1 : q ≠ A 1 := ne_z' zq (by rw [t1]; decide)
  have old : ∀ b, τ b ≠ 0 → τ b ≠ 1 → τ1 b = τ b ∧ gi1 b = gi b := fun b hb0 hb1 => by
    obtain ⟨f1, f2, f3⟩ := f b hb0
    have n1' : b ≠ A 1 := fun e => hb1 (by rw [e]; exact t1)
    exact ⟨f1, by rw [e1, up_n n1', f2]⟩
  have o : ∀ i, i ∈ rc_L → ro_c i ≠ 1 → gi1 (A i) = gi (A i) := fun i hi h1 => (old (A i) (by rw [hC.1 i hi]; exact rc_ok i hi) (by rw [hC.1 i hi]; exact h1)).2
  have t46 := hQ.t 7 46 (by decide)
  have t54 := hQ.t 18 54 (by decide)
  have t55 := hQ.t 19 55 (by decide)
  have t47 := hQ.t 9 47 (by decide)
  have t48 := hQ.t 10 48 (by decide)
  have t49 := hQ.t 11 49 (by decide)
  have t50 := hQ.t 12 50 (by decide)
  have m46 := mo _ (ro_ne t46 hQ.1 (by decide)) (ro_ne t46 t47 (by decide)) (ro_ne t46 t48 (by decide)) (ro_ne t46 t49 (by decide)) (ro_ne t46 t50 (by decide))
  have m54 := mo _ (ro_ne t54 hQ.1 (by decide)) (ro_ne t54 t47 (by decide)) (ro_ne t54 t48 (by decide)) (ro_ne t54 t49 (by decide)) (ro_ne t54 t50 (by decide))
  have m55 := mo _ (ro_ne t55 hQ.1 (by decide)) (ro_ne t55 t47 (by decide)) (ro_ne t55 t48 (by decide)) (ro_ne t55 t49 (by decide)) (ro_ne t55 t50 (by decide))
  have er : r (A 21) = gr (A 21) := (f (A 21) (by rw [t21]; decide)).2.2
  unfold c_core
  rw [o 24 (by decide) (by decide), o 25 (by decide) (by decide), o 10 (by decide) (by decide), o 35 (by decide) (by decide), m12, m50, m46, m54, m55, ud_s, ud_n (show (0 : Nat) ≠ 8 by decide), ud_n (show (17 : Nat) ≠ 8 by decide), l3]
  rw [no'] at a1 a2 a4 a7 a8
  refine ⟨be_mono a1 (by omega) (Int.le_refl _), fun i hi => ?_, a3, li_mono a4 (by omega) (fun _ h => h), a5, a6, fun i b hi hq => ?_, fun i hi hn => a8 i hi (by omega)⟩
  · by_cases e : i = (gi (A 1) 6).toNatClampNeg
    · rw [e, ud_s]
      rcases be_x a1 (i := (gi (A 1) 6).toNatClampNeg) l1 with z | ⟨-, -, -, z, -⟩
      · exact z
      · omega
    · rw [ud_n e]
      exact a2 i (by omega)
  · by_cases e : i = (gi (A 1) 6).toNatClampNeg
    · rw [e, e2, up_s, up_s] at hq
      have : q = b := Option.some.inj hq
      subst this
      refine ⟨kd.nz, ?_⟩
      rw [e1, up_n nq1, n5, e, a8 _ l1 (by omega)]
    · rw [e2, up_s, up_n e, er] at hq
      obtain ⟨t, k⟩ := a7 i b (by omega) hq
      have ob : τ1 b = τ b ∧ gi1 b = gi b := by
        rcases t with t | t | t <;> exact old b (by rw [t]; decide) (by rw [t]; decide)
      rw [ob.1, ob.2]
      exact ⟨t, k⟩
theorem c_core.buoy (hJ : th_J τ gi gr) (hC : ro_C τ gr A) (hQ : ro_M τ rm A) (nb : c_eq 1 5 0 gi gm A) (K : c_core τ gi gr gm A) {v1 v2 v3 v4 : Int32} (h : bu_ok τ gi gr gm A τ1 gi1 gr1 gm2 v1 v2 v3 v4) : c_core τ1 gi1 gr1 gm2 A := by
  obtain ⟨g5, s1, s2, s3, s4, ⟨q, w, g, zq, zw, nqw, et, ei, er, go, gq, gw⟩, m12, m40, m41, m42, m43, m46, mo⟩ := h
  obtain ⟨l1, l2, l3⟩ := nI12 (n_p hJ hC) g5
  obtain ⟨a1, a2, a3, a4, a5, a6, a7, a8⟩ := K
  have nb' : gm (A 12) 0 = gi (A 1) 5 := nb.symm
  have t1 := hC.t 1 1 (by decide) rfl
  have t20 := hC.t 20 20 (by decide) rfl
  have t21 := hC.t 21 21 (by decide) rfl
  have old : ∀ b, τ b ≠ 0 → τ b ≠ 1 → τ1 b = τ b ∧ gi1 b = gi b := fun b b0 b1 => by
    have bq : b ≠ q := fun e => b0 (by rw [e]; exact zq)
    have bw : b ≠ w := fun e => b0 (by rw [e]; exact zw)
    have n1 : b ≠ A 1 := fun e => b1 (by rw [e]; exact t1)
    exact ⟨by rw [et, up_n bq, up_n bw], by rw [ei, up_n n1, go b bq bw]⟩
  have o : ∀ i, i ∈ rc_L → ro_c i ≠ 1 → gi1 (A i) = gi (A i) := fun i hi h1 => (old (A i) (by rw [hC.1 i hi]; exact rc_ok i hi) (by rw [hC.1 i hi]; exact h1)).2
  have n21q : A 21 ≠ q := fun e => by rw [← e, t21] at zq; exact absurd zq (by decide)
  have r21 : gr1 (A 21) = gr (A 21) := by rw [er, up_n (ro_ne t21 t20 (by decide)), up_n n21q]
  have t46 := hQ.t 7 46 (by decide)
  have t54 := hQ.t 18 54 (by decide)
  have t55 := hQ.t 19 55 (by decide)
  have t50 := hQ.t 12 50 (by decide)
  have t40 := hQ.t 1 40 (by decide)
  have t41 := hQ.t 2 41 (by decide)
  have t42 := hQ.t 3 42 (by decide)
  have t43 := hQ.t 4 43 (by decide)
  have m50 := mo _ (ro_ne t50 hQ.1 (by decide)) (ro_ne t50 t40 (by decide)) (ro_ne t50 t41 (by decide)) (ro_ne t50 t42 (by decide)) (ro_ne t50 t43 (by decide)) (ro_ne t50 t46 (by decide))
  have m54 := mo _ (ro_ne t54 hQ.1 (by decide)) (ro_ne t54 t40 (by decide)) (ro_ne t54 t41 (by decide)) (ro_ne t54 t42 (by decide)) (ro_ne t54 t43 (by decide)) (ro_ne t54 t46 (by decide))
  have m55 := mo _ (ro_ne t55 hQ.1 (by decide)) (ro_ne t55 t40 (by decide)) (ro_ne t55 t41 (by decide)) (ro_ne t55 t42 (by decide)) (ro_ne t55 t43 (by decide)) (ro_ne t55 t46 (by decide))
  unfold c_core
  rw [o 24 (by decide) (by decide), o 25 (by decide) (by decide), o 10 (by decide) (by decide), o 35 (by decide) (by decide), r21, m12, m50, m46, m54, m55, ud_s, ud_n (show (8 : Nat) ≠ 0 by decide), ud_n (show (17 : Nat) ≠ 0 by decide), l3]
  rw [nb'] at a1 a3
  refine ⟨be_mono a1 (Int.le_refl _) (by omega), a2, fun i hi => ?_, a4, a5, a6, fun i b hi hq => ?_, a8⟩
  · by_cases e : i = (gi (A 1) 5).toNatClampNeg
    · rw [e, ud_s]
      rcases be_y a1 (p := (gi (A 1) 5).toNatClampNeg) l1 with z | ⟨-, -, -, z, -⟩
      · exact z
      · omega
    · rw [ud_n e]
      exact a3 i (by omega)
  · obtain ⟨t, k⟩ := a7 i b hi hq
    have ob : τ1 b = τ b ∧ gi1 b = gi b := by
      rcases t with t | t | t <;> exact old b (by rw [t]; decide) (by rw [t]; decide)
    rw [ob.1, ob.2]
    exact ⟨t, k⟩
end AN
