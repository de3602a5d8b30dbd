/-! ===== a BOAT comes: the components behind it ===== -/
section BC
variable {τ τ1 : th_t} {Z : th_Zt} {gi gi1 gm gm2 : th_i} {gr gr1 rm rm2 : th_r} {A : Nat → Nat} {M1 M2 : List Nat}
/-- nothing but findings -/
def x_fin (τ : th_t) (gi : th_i) (gr : th_r) (gm : th_i) (A : Nat → Nat) (τ1 : th_t) (gi1 : th_i) (gr1 : th_r) (gm2 : th_i) : Prop := τ1 = τ ∧ gr1 = gr ∧ (∀ a, a ≠ A 36 → gi1 a = gi a) ∧ (∀ a, a ≠ A 59 → gm2 a = gm a)
theorem x_of (hC : ro_C τ gr A) (hQ : ro_M τ1 rm A) {w1 w2 r1 r2 : Int32} {tO : th_t} (hw : ¬ W0 w1 1 5 = 0) (hww : (-1000000) - w1 = w2) (e1 : r1 = (F_X11_finding τ Z gi gr (A 11) w1).1 ∧ tO = τ ∧ gi1 = (F_X11_finding τ Z gi gr (A 11) w1).2 ∧ gr1 = gr) (e2 : ((F_X12_finding τ1 Z gm rm (A 12) w2).1, (F_X12_finding τ1 Z gm rm (A 12) w2).2) = (r2, gm2)) : r1 = r2 ∧ x_fin τ gi gr gm A tO gi1 gr1 gm2 := by
  rw [fi_c hC hw] at e1
  rw [fi_m hQ] at e2
  dsimp only at e1 e2
  obtain ⟨a1, a2, a3, a4⟩ := e1
  obtain ⟨b1, b2⟩ := pr2 e2
  refine ⟨by rw [a1, ← b1]; exact hww, a2, a4, fun a ha => by rw [a3]; exact va_up_ne _ _ ha, fun a ha => by rw [← b2]; exact va_up_ne _ _ ha⟩
def bt_ok (τ : th_t) (gi : th_i) (gr : th_r) (gm : th_i) (A : Nat → Nat) (τ1 : th_t) (gi1 : th_i) (gr1 : th_r) (gm2 : th_i) (v1 v2 v3 : Int32) : Prop := gi (A 1) 6 < 16 ∧ rg 0 2 v1 ∧ rg 10 300 v2 ∧ rg 0 100 v3 ∧ (∃ q g r, b_new τ gi gr τ1 g r q (gi (A 1) 6) v2 v3 ∧ b_kind τ1 q v1 ∧ τ q = 0 ∧ gi1 = va_up g (A 1) (upd (g (A 1)) 6 (gi (A 1) 6 + 1)) ∧ gr1 = va_up r (A 21) (va_up (r (A 21)) (gi (A 1) 6).toNatClampNeg (some q))) ∧ gm2 (A 12) = upd (gm (A 12)) 8 (gi (A 1) 6 + 1) ∧ gm2 (A 47) = upd (gm (A 47)) (gi (A 1) 6).toNatClampNeg v1 ∧ gm2 (A 48) = upd (gm (A 48)) (gi (A 1) 6).toNatClampNeg v2 ∧ gm2 (A 49) = upd (gm (A 49)) (gi (A 1) 6).toNatClampNeg v3 ∧ gm2 (A 50) = upd (gm (A 50)) (gi (A 1) 6).toNatClampNeg (-1) ∧ ∀ a, a ≠ A 12 → a ≠ A 47 → a ≠ A 48 → a ≠ A 49 → a ≠ A 50 → gm2 a = gm a
theorem w0_rg {v a b : Int32} {l h : Int} (hl : a.toInt = l) (hh : b.toInt = h) (g : ¬ W0 v a b = 0) : rg l h v := by
  obtain ⟨q1, q2⟩ := w0_no g
  exact ⟨by rw [← hl]; exact Int32.le_iff_toInt_le.mp q1, by rw [← hh]; exact Int32.le_iff_toInt_le.mp q2⟩
theorem bt_cases (hJ : th_J τ gi gr) (hC : ro_C τ gr A) (hQ : ro_M τ1 rm A) (h : c_eq 1 6 8 gi gm A) {v1 v2 v3 r1 r2 : Int32} (e1 : M_X11_boat τ Z gi gr (A 11) v1 v2 v3 r1 τ1 gi1 gr1) (e2 : F_X12_boat τ1 Z gm rm (A 12) v1 v2 v3 = (r2, gm2)) : r1 = r2 ∧ (x_fin τ gi gr gm A τ1 gi1 gr1 gm2 ∨ bt_ok τ gi gr gm A τ1 gi1 gr1 gm2 v1 v2 v3) := by
  have hr : rg 0 16 (gi (A 1) 6) := n_b hJ hC
  have h10 : ((1 : Int32) = 0) = False := by decide
  have e1' := e1
  unfold M_X11_boat at e1
  unfold F_X12_boat at e2
  simp only [F_X11_isKind, w0_c, w0_m, f_X11_boat_29, f_X12_boat_31, h10, if_true, if_false, hC.g 11 0 1 (by decide)] at e1 e2
  have fin : ∀ {w1 w2 : Int32}, ¬ W0 w1 1 5 = 0 → (-1000000) - w1 = w2 → (r1 = (F_X11_finding τ Z gi gr (A 11) w1).1 ∧ τ1 = τ ∧ gi1 = (F_X11_finding τ Z gi gr (A 11) w1).2 ∧ gr1 = gr) → ((F_X12_finding τ1 Z gm rm (A 12) w2).1, (F_X12_finding τ1 Z gm rm (A 12) w2).2) = (r2, gm2) → r1 = r2 ∧ (x_fin τ gi gr gm A τ1 gi1 gr1 gm2 ∨ bt_ok τ gi gr gm A τ1 gi1 gr1 gm2 v1 v2 v3) := fun q1 q2 q3 q4 => by
    obtain ⟨k1, k2⟩ := x_of hC hQ q1 q2 q3 q4
    exact ⟨k1, Or.inl k2⟩
  by_cases g1 : W0 v1 0 2 = 0
  · rw [if_pos g1] at e1 e2
    exact fin (by decide) (by decide) e1 e2
  rw [if_neg g1] at e1 e2
  by_cases g2 : W0 v2 10 300 = 0
  · rw [if_pos g2] at e1 e2
    exact fin (by decide) (by decide) e1 e2
  rw [if_neg g2] at e1 e2
  by_cases g3 : W0 v3 0 100 = 0
  · rw [if_pos g3] at e1 e2
    exact fin (by decide) (by decide) e1 e2
  rw [if_neg g3] at e1 e2
  have h' : gm (A 12) 8 = gi (A 1) 6 := h.symm
  rw [h'] at e2
  by_cases g5 : gi (A 1) 6 < 16
  · have hn : ¬ gi (A 1) 6 = 16 := fun q => by
      rw [q] at g5
      exact absurd g5 (by decide)
    rw [if_neg hn, hQ.g 9 47 (by decide), hQ.g 10 48 (by decide), hQ.g 11 49 (by decide), hQ.g 12 50 (by decide)] at e2
    obtain ⟨q, g, r, k1, k2, k3, k4, k5, k6⟩ := b_come hC e1' ⟨g1, g2, g3, g5⟩
    obtain ⟨b1, b2⟩ := pr2 e2
    have t47 := hQ.t 9 47 (by decide)
    have t48 := hQ.t 10 48 (by decide)
    have t49 := hQ.t 11 49 (by decide)
    have t50 := hQ.t 12 50 (by decide)
    refine ⟨?_, Or.inr ⟨g5, w0_rg (by decide) (by decide) g1, w0_rg (by decide) (by decide) g2, w0_rg (by decide) (by decide) g3, ⟨q, g, r, k1, k2, k3, k5, k6⟩, ?_, ?_, ?_, ?_, ?_, fun a a1 a2 a3 a4 a5 => ?_⟩⟩
    · rw [k4, ← b1]
      exact (Int32.add_sub_cancel _ _).symm
    · rw [← b2, up_s, up_n (ro_ne hQ.1 t50 (by decide)), up_n (ro_ne hQ.1 t49 (by decide)), up_n (ro_ne hQ.1 t48 (by decide)), up_n (ro_ne hQ.1 t47 (by decide))]
    · rw [← b2, up_n (ro_ne t47 hQ.1 (by decide)), up_n (ro_ne t47 t50 (by decide)), up_n (ro_ne t47 t49 (by decide)), up_n (ro_ne t47 t48 (by decide)), up_s]
    · rw [← b2, up_n (ro_ne t48 hQ.1 (by decide)), up_n (ro_ne t48 t50 (by decide)), up_n (ro_ne t48 t49 (by decide)), up_s, up_n (ro_ne t48 t47 (by decide))]
    · rw [← b2, up_n (ro_ne t49 hQ.1 (by decide)), up_n (ro_ne t49 t50 (by decide)), up_s, up_n (ro_ne t49 t48 (by decide)), up_n (ro_ne t49 t47 (by decide))]
    · rw [← b2, up_n (ro_ne t50 hQ.1 (by decide)), up_s, up_n (ro_ne t50 t49 (by decide)), up_n (ro_ne t50 t48 (by decide)), up_n (ro_ne t50 t47 (by decide))]
    · rw [← b2, up_n a1, up_n a5, up_n a4, up_n a3, up_n a2]
  · have hn := i_lt 16 (by decide) hr g5
    rw [if_neg g5] at e1
    rw [if_pos hn] at e2
    exact fin (by decide) (by decide) e1 e2
theorem ne_z' {τ : th_t} {q a : Nat} (hq : τ q = 0) (ha : τ a ≠ 0) : q ≠ a := fun e => ha (by rw [← e]; exact hq)
theorem nB16 {n : Int32} (h : rg 0 16 n) (hl : n < 16) : n.toNatClampNeg < 16 ∧ ((n.toNatClampNeg : Nat) : Int) = n.toInt ∧ (n + 1).toInt = n.toInt + 1 := by
  have h1 := Int32.lt_iff_toInt_lt.mp hl
  have h2 : (16 : Int32).toInt = 16 := by decide
  have h3 := h.1
  exact ⟨cl_lt h3 (by omega), i_cl h3, y_1 (m := 16) (by decide) h3 h.2⟩
theorem c_boat.fin (hC : ro_C τ gr A) (hQ : ro_M τ1 rm A) (f : x_fin τ gi gr gm A τ1 gi1 gr1 gm2) (h : c_boat τ gi gr gm A) : c_boat τ1 gi1 gr1 gm2 A := by
  obtain ⟨rfl, rfl, k2, k3⟩ := f
  exact c_boat.fr hC hQ (fm_c hC k2) (fm_m hQ k3) (by decide) (by decide) h
theorem c_wish.fin (hC : ro_C τ gr A) (hQ : ro_M τ1 rm A) (f : x_fin τ gi gr gm A τ1 gi1 gr1 gm2) (h : c_wish τ gi gr gm A) : c_wish τ1 gi1 gr1 gm2 A := by
  obtain ⟨rfl, rfl, k2, k3⟩ := f
  exact c_wish.fr hC hQ (fm_c hC k2) (fm_m hQ k3) (by decide) (by decide) h
theorem c_boat.boat (hJ : th_J τ gi gr) (hC : ro_C τ gr A) (no : c_eq 1 6 8 gi gm A) (hb : c_boat τ gi gr gm A) {v1 v2 v3 : Int32} (h : bt_ok τ gi gr gm A τ1 gi1 gr1 gm2 v1 v2 v3) : c_boat τ1 gi1 gr1 gm2 A := by
  obtain ⟨g5, r1, r2, r3, ⟨q, g, r, ⟨f, n0, n1, n2, n4, n5, w, hw, tw, zw⟩, kd, zq, e1, e2⟩, m12, m47, m48, m49, m50, mo⟩ := h
  obtain ⟨l1, l2, l3⟩ := nB16 (n_b hJ hC) g5
  have no' : gm (A 12) 8 = gi (A 1) 6 := no.symm
  have q1 : q ≠ A 1 := fun e => by
    rw [e, hC.t 1 1 (by decide) rfl] at zq
    exact absurd zq (by decide)
  have t21 := hC.t 21 21 (by decide) rfl
  have er : r (A 21) = gr (A 21) := (f (A 21) (by rw [t21]; decide)).2.2
  intro i hi
  rw [m12, ud_s, l3] at hi
  by_cases hin : i = (gi (A 1) 6).toNatClampNeg
  · subst hin
    refine ⟨q, by rw [e2, up_s, up_s], ?_, ?_, ?_, by rw [m47, ud_s]; exact kd, ?_, ?_⟩
    · rw [e1, up_n q1, n0, l2]
    · rw [e1, up_n q1, n1, m48, ud_s]
    · rw [e1, up_n q1, n2, m49, ud_s]
    · rw [e1, up_n q1, n1]; exact r2
    · rw [e1, up_n q1, n2]; exact r3
  · obtain ⟨b, a1, a2, a3, a4, a5, a6, a7⟩ := hb i (by rw [no']; omega)
    have tb : τ b ≠ 0 := by
      rcases a5.nz with t | t | t <;> (rw [t]; decide)
    have b1 : b ≠ A 1 := by
      rcases a5.nz with t | t | t <;> exact ro_ne t (hC.t 1 1 (by decide) rfl) (by decide)
    obtain ⟨f1, f2, f3⟩ := f b tb
    have gb : gi1 b = gi b := by rw [e1, up_n b1, f2]
    refine ⟨b, by rw [e2, up_s, up_n hin, er]; exact a1, by rw [gb]; exact a2, by rw [gb, m48, ud_n hin]; exact a3, by rw [gb, m49, ud_n hin]; exact a4, ?_, by rw [gb]; exact a6, by rw [gb]; exact a7⟩
    rw [m47, ud_n hin]
    rcases a5 with ⟨t, k⟩ | ⟨t, k⟩ | ⟨t, k⟩
    · exact Or.inl ⟨f1.trans t, k⟩
    · exact Or.inr (Or.inl ⟨f1.trans t, k⟩)
    · exact Or.inr (Or.inr ⟨f1.trans t, k⟩)
theorem c_wish.boat (hJ : th_J τ gi gr) (hC : ro_C τ gr A) (hQ : ro_M τ rm A) (no : c_eq 1 6 8 gi gm A) (hb : c_boat τ gi gr gm A) (hw0 : c_wish τ gi gr gm A) {v1 v2 v3 : Int32} (h : bt_ok τ gi gr gm A τ1 gi1 gr1 gm2 v1 v2 v3) : c_wish τ1 gi1 gr1 gm2 A := by
  obtain ⟨g5, r1, r2, r3, ⟨q, g, r, ⟨f, n0, n1, n2, n4, n5, w, hw, tw, zw⟩, kd, zq, e1, e2⟩, m12, m47, m48, m49, m50, mo⟩ := h
  obtain ⟨l1, l2, l3⟩ := nB16 (n_b hJ hC) g5
  have no' : gm (A 12) 8 = gi (A 1) 6 := no.symm
  have t1 := hC.t 1 1 (by decide) rfl
  have t21 := hC.t 21 21 (by decide) rfl
  have q1 : q ≠ A 1 := ne_z' zq (by rw [t1]; decide)
  have q21 : q ≠ A 21 := ne_z' zq (by rw [t21]; decide)
  have w1_ : w ≠ A 1 := ne_z' zw (by rw [t1]; decide)
  have er : r (A 21) = gr (A 21) := (f (A 21) (by rw [t21]; decide)).2.2
  have t56 := hQ.t 21 56 (by decide)
  have t57 := hQ.t 22 57 (by decide)
  have m56 : gm2 (A 56) = gm (A 56) := mo _ (ro_ne t56 hQ.1 (by decide)) (ro_ne t56 (hQ.t 9 47 (by decide)) (by decide)) (ro_ne t56 (hQ.t 10 48 (by decide)) (by decide)) (ro_ne t56 (hQ.t 11 49 (by decide)) (by decide)) (ro_ne t56 (hQ.t 12 50 (by decide)) (by decide))
  have m57 : gm2 (A 57) = gm (A 57) := mo _ (ro_ne t57 hQ.1 (by decide)) (ro_ne t57 (hQ.t 9 47 (by decide)) (by decide)) (ro_ne t57 (hQ.t 10 48 (by decide)) (by decide)) (ro_ne t57 (hQ.t 11 49 (by decide)) (by decide)) (ro_ne t57 (hQ.t 12 50 (by decide)) (by decide))
  obtain ⟨w1, w2, w3⟩ := hw0
  have z56 := w3 _ l1 (by rw [no', l2]; exact Int.le_refl _)
  have at_n : ∀ b, gr1 (A 21) (gi (A 1) 6).toNatClampNeg = some b → b = q := fun b hb' => by
    rw [e2, up_s, up_s] at hb'
    exact (Option.some.inj hb').symm
  have at_o : ∀ i b, i ≠ (gi (A 1) 6).toNatClampNeg → gr1 (A 21) i = some b → gr (A 21) i = some b := fun i b hi hb' => by
    rw [e2, up_s, up_n hi, er] at hb'
    exact hb'
  have g3q : gr1 q 3 = some w := by rw [e2, up_n q21, hw]
  have old : ∀ b, τ b ≠ 0 → τ b ≠ 1 → τ b ≠ 21 → τ1 b = τ b ∧ gi1 b = gi b ∧ gr1 b = gr b := fun b hb0 hb1 hb21 => by
    obtain ⟨f1, f2, f3⟩ := f b hb0
    have n1' : b ≠ A 1 := fun e => hb1 (by rw [e]; exact t1)
    have n21' : b ≠ A 21 := fun e => hb21 (by rw [e]; exact t21)
    exact ⟨f1, by rw [e1, up_n n1', f2], by rw [e2, up_n n21', f3]⟩
  have oldb : ∀ b, (τ b = 8 ∨ τ b = 9 ∨ τ b = 4) → τ1 b = τ b ∧ gi1 b = gi b ∧ gr1 b = gr b := fun b hb' => by
    rcases hb' with t | t | t <;> exact old b (by rw [t]; decide) (by rw [t]; decide) (by rw [t]; decide)
  refine ⟨fun i b hi hq => ?_, fun i i' b b' x hi hi' hq hq' hx hx' => ?_, fun i hi hn => ?_⟩
  · rw [m12, ud_s, l3] at hi
    by_cases hin : i = (gi (A 1) 6).toNatClampNeg
    · subst hin
      have := at_n b hq
      subst this
      refine ⟨kd.nz, by rw [e1, up_n q1, n4, m56, z56], w, g3q, tw, fun j hj => ?_⟩
      rw [m56, z56] at hj
      have z0 : (0 : Int32).toInt = 0 := by decide
      omega
    · have hq0 := at_o i b hin hq
      obtain ⟨x0, x1, x, x2, tx, x3⟩ := w1 i b (by rw [no']; omega) hq0
      obtain ⟨o1, o2, o3⟩ := oldb b x0
      obtain ⟨p1, p2, p3⟩ := old x (by rw [tx]; decide) (by rw [tx]; decide) (by rw [tx]; decide)
      refine ⟨by rw [o1]; exact x0, by rw [o2, m56]; exact x1, x, by rw [o3]; exact x2, by rw [p1]; exact tx, fun j hj => ?_⟩
      rw [m56] at hj
      rw [p2, m57]
      exact x3 j hj
  · rw [m12, ud_s, l3] at hi hi'
    have fresh : ∀ k c x', k ≠ (gi (A 1) 6).toNatClampNeg → (k : Int) < (gi (A 1) 6).toInt + 1 → gr1 (A 21) k = some c → gr1 c 3 = some x' → x' ≠ w := fun k c x' hk hk2 hkc hcx e => by
      have hkc0 := at_o k c hk hkc
      obtain ⟨x0, x1, x2', x2, tx, x3⟩ := w1 k c (by rw [no']; omega) hkc0
      obtain ⟨o1, o2, o3⟩ := oldb c x0
      rw [o3] at hcx
      have : x2' = x' := Option.some.inj (x2.symm.trans hcx)
      rw [this, e] at tx
      rw [tx] at zw
      exact absurd zw (by decide)
    by_cases hin : i = (gi (A 1) 6).toNatClampNeg
    · by_cases hin' : i' = (gi (A 1) 6).toNatClampNeg
      · rw [hin, hin']
      · rw [hin] at hq
        have hbq := at_n b hq
        rw [hbq, g3q] at hx
        exact absurd (Option.some.inj hx).symm (fresh i' b' x hin' hi' hq' hx')
    · by_cases hin' : i' = (gi (A 1) 6).toNatClampNeg
      · rw [hin'] at hq'
        have hbq := at_n b' hq'
        rw [hbq, g3q] at hx'
        exact absurd (Option.some.inj hx').symm (fresh i b x hin hi hq hx)
      · have h1 := at_o i b hin hq
        have h2 := at_o i' b' hin' hq'
        have k1 : (i : Int) < (gm (A 12) 8).toInt := by rw [no']; omega
        have k2 : (i' : Int) < (gm (A 12) 8).toInt := by rw [no']; omega
        rw [(oldb b (w1 i b k1 h1).1).2.2] at hx
        rw [(oldb b' (w1 i' b' k2 h2).1).2.2] at hx'
        exact w2 i i' b b' x k1 k2 h1 h2 hx hx'
  · rw [m12, ud_s, l3] at hn
    rw [m56]
    exact w3 i hi (by rw [no']; omega)
end BC
