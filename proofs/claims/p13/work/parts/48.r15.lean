/-! ===== the start: what rows hold ===== -/
section SV
variable {τ tO : th_t} {Z : th_Zt} {gi gO : th_i} {gr qO : th_r} {h0 h1 : Nat}
theorem fl_24v {q : Nat} {v : Int32} : ∀ (n : Nat) (g : th_i) (y z : Int32), 0 ≤ y.toInt → z.toInt ≤ 100 → (z.toInt - y.toInt).toNat < n → (∀ j : Nat, (j : Int) < y.toInt → f_J7_fill_53178_24_5 τ Z gi gr q v n g y z q j = g q j) ∧ ∀ j : Nat, y.toInt ≤ (j : Int) → (j : Int) < z.toInt → f_J7_fill_53178_24_5 τ Z gi gr q v n g y z q j = v := by
  intro n
  induction n with
  | zero => intro g y z _ _ h; exact absurd h (Nat.not_lt_zero _)
  | succ n ih =>
    intro g y z h0 h1 h
    unfold f_J7_fill_53178_24_5
    dsimp only
    by_cases hc : z ≤ y
    · rw [if_pos hc]
      have hc' := i_le.mp hc
      exact ⟨fun _ _ => rfl, fun j h1 h2 => by omega⟩
    · rw [if_neg hc]
      have hc' := i_ltI.mp (Int32.not_le.mp hc)
      have e := y_1 (m := 100) (by decide) h0 (by omega)
      have cy := i_cl h0
      obtain ⟨k1, k2⟩ := ih (va_up g q (upd (g q) y.toNatClampNeg v)) (y + 1) z (by omega) h1 (by omega)
      refine ⟨fun j hj => ?_, fun j j1 j2 => ?_⟩
      · rw [k1 j (by omega), up_s, ud_n (by omega)]
      · by_cases hj : j = y.toNatClampNeg
        · rw [k1 j (by omega), up_s, hj, ud_s]
        · exact k2 j (by omega) j2
theorem fl_25v {q : Nat} {v : Int32} : ∀ (n : Nat) (g : th_i) (y z : Int32), 0 ≤ y.toInt → z.toInt ≤ 100 → (z.toInt - y.toInt).toNat < n → (∀ j : Nat, (j : Int) < y.toInt → f_J7_fill_53178_25_5 τ Z gi gr q v n g y z q j = g q j) ∧ ∀ j : Nat, y.toInt ≤ (j : Int) → (j : Int) < z.toInt → f_J7_fill_53178_25_5 τ Z gi gr q v n g y z q j = v := by
  intro n
  induction n with
  | zero => intro g y z _ _ h; exact absurd h (Nat.not_lt_zero _)
  | succ n ih =>
    intro g y z h0 h1 h
    unfold f_J7_fill_53178_25_5
    dsimp only
    by_cases hc : z ≤ y
    · rw [if_pos hc]
      have hc' := i_le.mp hc
      exact ⟨fun _ _ => rfl, fun j h1 h2 => by omega⟩
    · rw [if_neg hc]
      have hc' := i_ltI.mp (Int32.not_le.mp hc)
      have e := y_1 (m := 100) (by decide) h0 (by omega)
      have cy := i_cl h0
      obtain ⟨k1, k2⟩ := ih (va_up g q (upd (g q) y.toNatClampNeg v)) (y + 1) z (by omega) h1 (by omega)
      refine ⟨fun j hj => ?_, fun j j1 j2 => ?_⟩
      · rw [k1 j (by omega), up_s, ud_n (by omega)]
      · by_cases hj : j = y.toNatClampNeg
        · rw [k1 j (by omega), up_s, hj, ud_s]
        · exact k2 j (by omega) j2
theorem k_16 : (16 : Int32).toInt = 16 := by decide
theorem k_12 : (12 : Int32).toInt = 12 := by decide
theorem mk_X1v (h : M_X1_init τ Z gi gr h0 tO gO qO) : ∀ a b, qO h0 0 = some a → qO h0 1 = some b → (∀ j : Nat, j < 16 → gO a j = -1) ∧ ∀ j : Nat, j < 12 → gO b j = -1 := by
  unfold M_X1_init at h
  obtain ⟨q1, z1, n1, q4, z4, n4, e1, e2, e3⟩ := h
  obtain ⟨z4', n41⟩ := z_up z4 (by decide)
  intro a b ha hb
  have : q1 = a := Option.some.inj ((mk_at e3 0).symm.trans ha)
  subst this
  have : q4 = b := Option.some.inj ((mk_at e3 1).symm.trans hb)
  subst this
  unfold F_J7_fill_53178_25 F_J7_fill_53178_24 at e2
  refine ⟨fun j hj => ?_, fun j hj => ?_⟩
  · rw [e2, up_n (Ne.symm n1), fl_25 _ _ _ _ _ (Ne.symm n41)]
    exact (fl_24v _ _ 0 16 (by decide) (by decide) (by rw [k_16]; exact Nat.lt_add_one _)).2 j (by rw [k_0]; omega) (by rw [k_16]; omega)
  · rw [e2, up_n (Ne.symm n4)]
    exact (fl_25v _ _ 0 12 (by decide) (by decide) (by rw [k_12]; exact Nat.lt_add_one _)).2 j (by rw [k_0]; omega) (by rw [k_12]; omega)
theorem mk_73v {τ20 : th_t} {q1 q4 q8 q13 q19 : Nat} (hq : q13 ≠ h0) : ∀ (n : Nat) (g : th_i) (r : th_r) (y : Int32), 0 ≤ y.toInt → f_X0_init_73 τ Z gi gr h0 tO gO qO τ20 q1 q4 q8 q13 q19 n g r y → (∀ j : Nat, (j : Int) < y.toInt → gO q13 j = g q13 j) ∧ ∀ j : Nat, j < 24 → y.toInt ≤ (j : Int) → gO q13 j = 1 := by
  intro n
  induction n with
  | zero => intro g r y _ h; exact absurd h (by unfold f_X0_init_73; exact fun q => q)
  | succ n ih =>
    intro g r y y0 h
    unfold f_X0_init_73 at h
    dsimp only at h
    by_cases hc : (24 : Int32) ≤ y
    · rw [if_pos hc] at h
      have hc' := i_le.mp hc
      rw [k_24] at hc'
      exact ⟨fun j _ => by rw [h.2.1, up_n hq], fun j h1 h2 => by omega⟩
    · rw [if_neg hc] at h
      have hc' := i_ltI.mp (Int32.not_le.mp hc)
      rw [k_24] at hc'
      have e := y_1 (m := 100) (by decide) y0 (by omega)
      have cy := i_cl y0
      obtain ⟨g34, hg, h⟩ := h
      obtain ⟨k1, k2⟩ := ih _ _ _ (by omega) h
      refine ⟨fun j hj => ?_, fun j j1 j2 => ?_⟩
      · rw [k1 j (by omega), hg, up_s, ud_n (by omega)]
      · by_cases hj : j = y.toNatClampNeg
        · rw [k1 j (by omega), hg, up_s, hj, ud_s]
        · exact k2 j j1 (by omega)
theorem mk_X0v (h : M_X0_init τ Z gi gr h0 tO gO qO) (hz : τ h0 = 0) : (∀ a, qO h0 3 = some a → ∀ j : Nat, j < 24 → (gO a j = 0 ↔ j = 0)) ∧ ∀ b x y, qO h0 4 = some b → qO b 0 = some x → qO b 1 = some y → (∀ j : Nat, j < 16 → gO x j = -1) ∧ ∀ j : Nat, j < 12 → gO y j = -1 := by
  unfold M_X0_init at h
  obtain ⟨q1, z1, n1, q4, z4, n4, q8, z8, n8, q13, z13, n13, q19, z19, n19, τ20, gi20, gr20, hm, zh, hl⟩ := h
  obtain ⟨f, t1, x0, y0, r0, r1, tx, ty, zx, zy⟩ := mk_X1 hm z19
  obtain ⟨k1, ⟨g', k2, k3⟩, k4⟩ := mk_73 _ _ _ _ hl
  have t13 : va_up (va_up (va_up (va_up τ q1 20) q4 21) q8 22) q13 23 q13 = 23 := up_s
  obtain ⟨u1, u2, u3⟩ := f q13 (by rw [t13]; decide)
  have n13' : q13 ≠ h0 := Ne.symm n13
  refine ⟨fun a ha j hj => ?_, fun b x y hb hx hy => ?_⟩
  · have : q13 = a := Option.some.inj ((mk_at k4 3).symm.trans ha)
    subst this
    obtain ⟨l1, l2⟩ := mk_73v n13' _ _ _ _ (by decide) hl
    by_cases j0 : j = 0
    · subst j0
      rw [l1 0 (by rw [k_1]; decide), u2, up_s]
      exact ⟨fun _ => rfl, fun _ => rfl⟩
    · rw [l2 j hj (by rw [k_1]; omega)]
      exact ⟨fun q => absurd q (by decide), fun q => absurd q j0⟩
  · have bx : x0 ≠ h0 := ne_z (τ := τ20) (by rw [tx]; decide) zh
    have by_ : y0 ≠ h0 := ne_z (τ := τ20) (by rw [ty]; decide) zh
    have bb : q19 ≠ h0 := ne_z (τ := τ20) (by rw [t1]; decide) zh
    have : q19 = b := Option.some.inj ((mk_at k4 4).symm.trans hb)
    subst this
    rw [k4, up_n bb] at hx hy
    have : x0 = x := Option.some.inj (r0.symm.trans hx)
    subst this
    have : y0 = y := Option.some.inj (r1.symm.trans hy)
    subst this
    obtain ⟨v1, v2⟩ := mk_X1v hm x0 y0 r0 r1
    have nx : x0 ≠ q13 := fun e => by rw [e, u1, t13] at tx; exact absurd tx (by decide)
    have ny : y0 ≠ q13 := fun e => by rw [e, u1, t13] at ty; exact absurd ty (by decide)
    refine ⟨fun j hj => ?_, fun j hj => ?_⟩
    · rw [k2, up_n bx, k3 _ nx]
      exact v1 j hj
    · rw [k2, up_n by_, k3 _ ny]
      exact v2 j hj
theorem mk_X10v (h : M_X10_init τ Z gi gr h0 h1 tO gO qO) : gO h0 2 = 0 := by
  unfold M_X10_init at h
  obtain ⟨q1, z1, n1, e1, e2, e3⟩ := h
  rw [e2, up_s]
/-- the class's rows at the start -/
theorem mk_v {A : Nat → Nat} (h : M_X11_init τ Z gi gr h0 tO gO qO) (hz : τ h0 = 0) (hC : ro_C tO qO A) (ha : A 11 = h0) : (∀ j : Nat, j < 24 → (gO (A 23) j = 0 ↔ j = 0)) ∧ (∀ j : Nat, j < 16 → gO (A 24) j = -1) ∧ (∀ j : Nat, j < 12 → gO (A 25) j = -1) ∧ gO (A 10) 2 = 0 ∧ gO (A 36) = fun _ => 0 := by
  unfold M_X11_init at h
  obtain ⟨q1, z1, n1, τ2, gi2, gr2, m0, y2, q5, z5, n5, τ6, gi6, gr6, m10, y6, q10, z10, n10, τ11, gi11, gr11, m7, y11, q16, z16, n16, τ17, gi17, gr17, m6, y17, q23, z23, n23, τ24, gi24, gr24, m5, y24, q31, z31, n31, q39, z39, n39, e1, e2, e3⟩ := h
  obtain ⟨z39', n391⟩ := z_up z39 (by decide)
  obtain ⟨tB, gB, b, x, y, td, rb, rx, ry, tb, tx, ty, rtd, ttd, gtd⟩ := mk_X0 m0 z1
  obtain ⟨f10, t10, r10⟩ := mk_X10 m10 z5
  obtain ⟨f7, t7, r7⟩ := mk_X7 m7 z10
  obtain ⟨f6, t6, r6⟩ := mk_X6 m6 z16
  obtain ⟨f5, t5, r5, b', x', y', rb', rx', ry', zb', zx', zy'⟩ := mk_X5 m5 z23
  have F2 := (f10.tr f7).tr (f6.tr f5)
  have F6 := f7.tr (f6.tr f5)
  have G : ∀ a, τ24 a ≠ 0 → tO a = τ24 a ∧ gO a = gi24 a ∧ qO a = gr24 a := fun a ha => by
    have a0 := ne_z ha y24
    have a1 := ne_z ha z31
    have a2 := ne_z ha z39'
    refine ⟨?_, ?_, ?_⟩
    · rw [e1, va_up_ne _ _ a0, va_up_ne _ _ a2, va_up_ne _ _ a1]
    · rw [e2, va_up_ne _ _ a0, va_up_ne _ _ a2, va_up_ne _ _ a1]
    · rw [e3, va_up_ne _ _ a0]
  have P2 : ∀ a, τ2 a ≠ 0 → tO a = τ2 a ∧ gO a = gi2 a ∧ qO a = gr2 a := fun a ha => by
    obtain ⟨k1, k2, k3⟩ := F2 a ha
    obtain ⟨l0, l1, l2⟩ := G a (by rw [k1]; exact ha)
    exact ⟨l0.trans k1, l1.trans k2, l2.trans k3⟩
  have P6 : gO q5 = gi6 q5 := by
    obtain ⟨k1, k2, k3⟩ := F6 q5 (by rw [t10]; decide)
    obtain ⟨-, l1, l2⟩ := G q5 (by rw [k1, t10]; decide)
    exact l1.trans k2
  have cB : A 1 = q1 := (Option.some.inj ((hC.e 11 0 1 (by decide)).symm.trans (by rw [ha]; exact mk_at e3 0)))
  have cW : A 10 = q5 := (Option.some.inj ((hC.e 11 1 10 (by decide)).symm.trans (by rw [ha]; exact mk_at e3 1)))
  have cF : A 36 = q31 := (Option.some.inj ((hC.e 11 5 36 (by decide)).symm.trans (by rw [ha]; exact mk_at e3 5)))
  have rB := (P2 q1 (by rw [tB]; decide)).2.2
  obtain ⟨v1, v2⟩ := mk_X0v m0 z1
  have r3 : gr2 q1 3 = some (A 23) := by
    rw [← rB, ← cB]
    exact hC.e 1 3 23 (by decide)
  have r4 : gr2 q1 4 = some (A 2) := by
    rw [← rB, ← cB]
    exact hC.e 1 4 2 (by decide)
  have cb : b = A 2 := Option.some.inj (rb.symm.trans r4)
  rw [cb] at rx ry tb
  have rb2 := (P2 (A 2) (by rw [tb]; decide)).2.2
  have cx : x = A 24 := Option.some.inj (rx.symm.trans (by rw [← rb2]; exact hC.e 2 0 24 (by decide)))
  have cy : y = A 25 := Option.some.inj (ry.symm.trans (by rw [← rb2]; exact hC.e 2 1 25 (by decide)))
  rw [cx] at rx tx
  rw [cy] at ry ty
  obtain ⟨w1, w2⟩ := v2 (A 2) (A 24) (A 25) r4 rx ry
  have t23 : τ2 (A 23) ≠ 0 := fun e => by
    unfold M_X0_init at m0
    obtain ⟨p1, u1, s1, p4, u4, s4, p8, u8, s8, p13, u13, s13, p19, u19, s19, τ20, gi20, gr20, hm, zh, hl⟩ := m0
    obtain ⟨f, -⟩ := mk_X1 hm u19
    obtain ⟨k1, -, k4⟩ := mk_73 _ _ _ _ hl
    have e13 : p13 = A 23 := Option.some.inj ((mk_at k4 3).symm.trans r3)
    have t13 : va_up (va_up (va_up (va_up τ p1 20) p4 21) p8 22) p13 23 p13 = 23 := up_s
    have := (f p13 (by rw [t13]; decide)).1
    rw [← e13, k1, up_n (Ne.symm s13), this, t13] at e
    exact absurd e (by decide)
  refine ⟨?_, ?_, ?_, ?_, ?_⟩
  · rw [(P2 _ t23).2.1]
    exact v1 _ r3
  · rw [(P2 _ (by rw [tx]; decide)).2.1]
    exact w1
  · rw [(P2 _ (by rw [ty]; decide)).2.1]
    exact w2
  · rw [cW, P6]
    exact mk_X10v m10
  · rw [cF, e2, up_n (Ne.symm n31), up_n (Ne.symm n391), up_s]
end SV
section SW2
variable {τ0 τ1 τ2 : th_t} {Z : th_Zt} {gi0 gi1 gi2 : th_i} {gr0 gr1 gr2 : th_r} {A : Nat → Nat} {M : List Nat} {sz q2 : Nat}
theorem st_v (m1 : M_X11_init τ0 Z gi0 gr0 (A 11) τ1 gi1 gr1) (z1 : τ0 (A 11) = 0) (hC1 : ro_C τ1 gr1 A) (hx : th_Ext M τ1 gi1 gr1 sz q2 τ2 gi2 gr2) (hM : M = [5200, 5300]) : (∀ j : Nat, j < 24 → (gi2 (A 23) j = 0 ↔ j = 0)) ∧ (∀ j : Nat, j < 16 → gi2 (A 24) j = -1) ∧ (∀ j : Nat, j < 12 → gi2 (A 25) j = -1) ∧ gi2 (A 10) 2 = 0 ∧ gi2 (A 36) = fun _ => 0 := by
  subst hM
  have h := mk_v m1 z1 hC1 rfl
  rw [(ro_ka hx.2.2 (hC1.t 23 23 (by decide) rfl) (by decide) (by decide)).1, (ro_ka hx.2.2 (hC1.t 24 24 (by decide) rfl) (by decide) (by decide)).1, (ro_ka hx.2.2 (hC1.t 25 25 (by decide) rfl) (by decide) (by decide)).1, (ro_ka hx.2.2 (hC1.t 36 36 (by decide) rfl) (by decide) (by decide)).1, (ro_k hx.2.2 2 (hC1.t 10 10 (by decide) rfl) (by decide) (by decide)).1]
  exact h
theorem st_rep (h : ∀ j : Nat, j < 24 → (gi2 (A 23) j = 0 ↔ j = 0)) (ht : gi2 (A 22) = fun _ => 0) : c_rep gi2 A := by
  intro j hj
  rw [h j hj, ht]
  refine ⟨fun q k hk => ?_, fun q => ?_⟩
  · omega
  · by_cases j0 : j = 0
    · exact j0
    · exact absurd rfl (q 0 (by omega))
end SW2
