/-! ===== BUOYS: their cells, the chain's part of OUT ===== -/
section BU
variable {τ τ1 tO : th_t} {Z : th_Zt} {gi gi1 gm gm2 gO : th_i} {gr gr1 rm rm2 qO : th_r} {A : Nat → Nat} {M1 M2 : List Nat}
def u_at (τ : th_t) (gi : th_i) (gr : th_r) (gm : th_i) (A : Nat → Nat) (i q : Nat) : Prop := gr (A 20) i = some q ∧ τ q = 3 ∧ (gi q 0).toInt = (i : Int) ∧ gi q 1 = gm (A 40) i ∧ gi q 2 = gm (A 41) i ∧ gi q 3 = gm (A 42) i ∧ gi q 4 = gm (A 43) i ∧ rg 0 999 (gi q 1) ∧ rg 0 999 (gi q 2) ∧ rg 0 300 (gi q 3) ∧ rg 10 400 (gi q 4)
def c_buoy (τ : th_t) (gi : th_i) (gr : th_r) (gm : th_i) (A : Nat → Nat) : Prop := ∀ i : Nat, (i : Int) < (gm (A 12) 0).toInt → ∃ q, u_at τ gi gr gm A i q
def u_sl (τ : th_t) (gi : th_i) (gr : th_r) (A : Nat → Nat) (q : Nat) : Prop := τ q = 3 ∧ rg 0 300 (gi q 3) ∧ rg 10 400 (gi q 4) ∧ ∃ w, gr q 5 = some w ∧ τ w = 26 ∧ ∀ h : Nat, h < 24 → sl_ok (gi q 3) (gi q 4) (gi (A 22) h) (gi w h)
def c_sl (τ : th_t) (gi : th_i) (gr : th_r) (A : Nat → Nat) : Prop := (∀ i q : Nat, (i : Int) < (gi (A 1) 5).toInt → gr (A 20) i = some q → u_sl τ gi gr A q) ∧ (∀ i i' q q' w : Nat, (i : Int) < (gi (A 1) 5).toInt → (i' : Int) < (gi (A 1) 5).toInt → gr (A 20) i = some q → gr (A 20) i' = some q' → gr q 5 = some w → gr q' 5 = some w → i = i')
theorem c_buoy.fr (hC : ro_C τ gr A) (hQ : ro_M τ rm A) (h1 : th_Mod M1 τ gi gr gi1 gr1) (h2 : th_Mod M2 τ gm rm gm2 rm2) (k1 : ∀ k ∈ [2000, 300, 301, 302, 303, 304], k ∉ M1) (k2 : ∀ k ∈ [1200, 4000, 4100, 4200, 4300], k ∉ M2) (h : c_buoy τ gi gr gm A) : c_buoy τ gi1 gr1 gm2 A := by
  have e12 := (ro_k h2 0 hQ.1 (by decide) (k2 1200 (by decide))).1
  have e40 := (ro_ka h2 (hQ.t 1 40 (by decide)) (by decide) (k2 4000 (by decide))).1
  have e41 := (ro_ka h2 (hQ.t 2 41 (by decide)) (by decide) (k2 4100 (by decide))).1
  have e42 := (ro_ka h2 (hQ.t 3 42 (by decide)) (by decide) (k2 4200 (by decide))).1
  have e43 := (ro_ka h2 (hQ.t 4 43 (by decide)) (by decide) (k2 4300 (by decide))).1
  have e20 := (ro_ka h1 (hC.t 20 20 (by decide) rfl) (by decide) (k1 2000 (by decide))).2
  intro i hi
  rw [e12] at hi
  obtain ⟨q, a1, a2, a3, a4, a5, a6, a7, a8, a9, b1, b2⟩ := h i hi
  have f0 := (ro_k h1 0 a2 (by decide) (k1 300 (by decide))).1
  have f1 := (ro_k h1 1 a2 (by decide) (k1 301 (by decide))).1
  have f2 := (ro_k h1 2 a2 (by decide) (k1 302 (by decide))).1
  have f3 := (ro_k h1 3 a2 (by decide) (k1 303 (by decide))).1
  have f4 := (ro_k h1 4 a2 (by decide) (k1 304 (by decide))).1
  refine ⟨q, ?_⟩
  unfold u_at
  rw [e20, e40, e41, e42, e43, f0, f1, f2, f3, f4]
  exact ⟨a1, a2, a3, a4, a5, a6, a7, a8, a9, b1, b2⟩
theorem c_buoy.ext (hx : ∀ b, τ b ≠ 0 → τ1 b = τ b) (h : c_buoy τ gi gr gm A) : c_buoy τ1 gi gr gm A := fun i hi => by
  obtain ⟨q, a1, a2, a3⟩ := h i hi
  exact ⟨q, a1, (hx q (by rw [a2]; decide)).trans a2, a3⟩
theorem c_sl.fr (hC : ro_C τ gr A) (h1 : th_Mod M1 τ gi gr gi1 gr1) (k1 : ∀ k ∈ [105, 2000, 303, 304, 305, 2200, 2600], k ∉ M1) (h : c_sl τ gi gr A) : c_sl τ gi1 gr1 A := by
  have e1 := (ro_k h1 5 (hC.t 1 1 (by decide) rfl) (by decide) (k1 105 (by decide))).1
  have e20 := (ro_ka h1 (hC.t 20 20 (by decide) rfl) (by decide) (k1 2000 (by decide))).2
  have e22 := (ro_ka h1 (hC.t 22 22 (by decide) rfl) (by decide) (k1 2200 (by decide))).1
  obtain ⟨w1, w2⟩ := h
  have e5 : ∀ q, τ q = 3 → gr1 q 5 = gr q 5 := fun q t => (ro_k h1 5 t (by decide) (k1 305 (by decide))).2
  unfold c_sl
  rw [e1, e20]
  refine ⟨fun i q hi hq => ?_, fun i i' q q' w hi hi' hq hq' hw hw' => ?_⟩
  · obtain ⟨x0, r3, r4, w, x1, x2, x3⟩ := w1 i q hi hq
    have f3 := (ro_k h1 3 x0 (by decide) (k1 303 (by decide))).1
    have f4 := (ro_k h1 4 x0 (by decide) (k1 304 (by decide))).1
    have fw := (ro_ka h1 x2 (by decide) (k1 2600 (by decide))).1
    refine ⟨x0, by rw [f3]; exact r3, by rw [f4]; exact r4, w, by rw [e5 q x0]; exact x1, x2, fun h hh => ?_⟩
    rw [f3, f4, e22, fw]
    exact x3 h hh
  · rw [e5 q (w1 i q hi hq).1] at hw
    rw [e5 q' (w1 i' q' hi' hq').1] at hw'
    exact w2 i i' q q' w hi hi' hq hq' hw hw'
theorem c_sl.ext (hx : ∀ b, τ b ≠ 0 → τ1 b = τ b) (h : c_sl τ gi gr A) : c_sl τ1 gi gr A := by
  refine ⟨fun i q hi hq => ?_, h.2⟩
  obtain ⟨x0, r3, r4, w, x1, x2, x3⟩ := h.1 i q hi hq
  exact ⟨(hx q (by rw [x0]; decide)).trans x0, r3, r4, w, x1, (hx w (by rw [x2]; decide)).trans x2, x3⟩
theorem w0_in {v a b : Int32} (h1 : a.toInt ≤ v.toInt) (h2 : v.toInt ≤ b.toInt) : ¬ W0 v a b = 0 := fun q => w0_iff.mp q ⟨i_le.mpr h1, i_le.mpr h2⟩
theorem k_23 : (23 : Int32).toInt = 23 := by decide
theorem t_rg (hJm : th_J τ gm rm) (hQ : ro_M τ rm A) (ht : c_tid gi gm A) : ∀ h : Nat, h < 24 → rg 0 200 (gi (A 22) h) := fun h hh => by
  rw [ht h hh]
  exact (hJm.at (hQ.t 13 51 (by decide)) (by decide)) h hh
/-- a BUOY comes -/
theorem ab_sp {q w : Nat} {r : th_r} {p1 p2 p3 p4 rO x1 : Int32} {τ6 : th_t} (r0 : (r (A 1) 0).getD 0 = A 20) (r2 : (r (A 1) 2).getD 0 = A 22) (r5 : r q 5 = some w) (nq : q ≠ w) (n22 : A 22 ≠ w) : ∀ (n : Nat) (g : th_i) (y : Int32), 0 ≤ y.toInt → y.toInt ≤ 24 → rg 0 300 (g q 3) → rg 10 400 (g q 4) → (∀ h : Nat, h < 24 → rg 0 200 (g (A 22) h)) → f_X0_addBuoy_32 τ Z gi gr (A 1) p1 p2 p3 p4 rO tO gO qO x1 q τ6 n g r y → ∃ g', rO = x1 ∧ tO = τ6 ∧ gO = va_up g' (A 1) (upd (g' (A 1)) 5 (x1 + 1)) ∧ qO = va_up r (A 20) (va_up (r (A 20)) x1.toNatClampNeg (some q)) ∧ (∀ a, a ≠ w → g' a = g a) ∧ (∀ h : Nat, (h : Int) < y.toInt → g' w h = g w h) ∧ (∀ h : Nat, h < 24 → y.toInt ≤ (h : Int) → sl_ok (g q 3) (g q 4) (g (A 22) h) (g' w h)) := by
  intro n
  induction n with
  | zero => intro g y _ _ _ _ _ h; exact absurd h (by unfold f_X0_addBuoy_32; exact fun q => q)
  | succ n ih =>
    intro g y h0 h24 hd hc ht h
    unfold f_X0_addBuoy_32 at h
    dsimp only at h
    by_cases c : (24 : Int32) ≤ y
    · rw [if_pos c, r0] at h
      obtain ⟨g15, hg, k1, k2, k3, k4⟩ := h
      have c' := i_le.mp c
      rw [k_24] at c'
      exact ⟨g, k1, k2, by rw [k3, hg], k4, fun _ _ => rfl, fun _ _ => rfl, fun h h1 h2 => by omega⟩
    · rw [if_neg c, r2] at h
      have c' := i_ltI.mp (Int32.not_le.mp c)
      rw [k_24] at c'
      have hy := i_cl h0
      obtain ⟨s, es, ks⟩ := fd_at (τ := τ6) (Z := Z) (g := g) r5 (p := y) (w0_in (by rw [k_0]; exact h0) (by rw [k_23]; omega)) hd hc (ht y.toNatClampNeg (by omega))
      rw [es] at h
      have eq : va_up g w (upd (g w) y.toNatClampNeg s) q = g q := up_n nq
      have e22 : va_up g w (upd (g w) y.toNatClampNeg s) (A 22) = g (A 22) := up_n n22
      have e1 := y_1 (m := 24) (by decide) h0 h24
      obtain ⟨g', k1, k2, k3, k4, k5, k6, k7⟩ := ih _ (y + 1) (by omega) (by omega) (by rw [eq]; exact hd) (by rw [eq]; exact hc) (by rw [e22]; exact ht) h
      rw [eq, e22] at k7
      refine ⟨g', k1, k2, k3, k4, fun a ha => by rw [k5 a ha, up_n ha], fun h hh => ?_, fun h hh hy' => ?_⟩
      · rw [k6 h (by omega), up_s, ud_n (by omega)]
      · by_cases e : h = y.toNatClampNeg
        · rw [k6 h (by omega), up_s, e, ud_s]
          exact ks
        · exact k7 h hh (by omega)
def bu_ok (τ : th_t) (gi : th_i) (gr : th_r) (gm : th_i) (A : Nat → Nat) (τ1 : th_t) (gi1 : th_i) (gr1 : th_r) (gm2 : th_i) (v1 v2 v3 v4 : Int32) : Prop := gi (A 1) 5 < 12 ∧ rg 0 999 v1 ∧ rg 0 999 v2 ∧ rg 0 300 v3 ∧ rg 10 400 v4 ∧ (∃ q w g, τ q = 0 ∧ τ w = 0 ∧ q ≠ w ∧ τ1 = va_up (va_up τ w 26) q 3 ∧ gi1 = va_up g (A 1) (upd (g (A 1)) 5 (gi (A 1) 5 + 1)) ∧ gr1 = va_up (va_up gr q (fun k => match k with | 5 => some w | _ => none)) (A 20) (va_up (gr (A 20)) (gi (A 1) 5).toNatClampNeg (some q)) ∧ (∀ a, a ≠ q → a ≠ w → g a = gi a) ∧ (g q = fun k => match k with | 0 => gi (A 1) 5 | 1 => v1 | 2 => v2 | 3 => v3 | 4 => v4 | _ => 0) ∧ ∀ h : Nat, h < 24 → sl_ok v3 v4 (gi (A 22) h) (g w h)) ∧ gm2 (A 12) = upd (gm (A 12)) 0 (gi (A 1) 5 + 1) ∧ gm2 (A 40) = upd (gm (A 40)) (gi (A 1) 5).toNatClampNeg v1 ∧ gm2 (A 41) = upd (gm (A 41)) (gi (A 1) 5).toNatClampNeg v2 ∧ gm2 (A 42) = upd (gm (A 42)) (gi (A 1) 5).toNatClampNeg v3 ∧ gm2 (A 43) = upd (gm (A 43)) (gi (A 1) 5).toNatClampNeg v4 ∧ gm2 (A 46) = upd (gm (A 46)) (gi (A 1) 5).toNatClampNeg (-1) ∧ ∀ a, a ≠ A 12 → a ≠ A 40 → a ≠ A 41 → a ≠ A 42 → a ≠ A 43 → a ≠ A 46 → gm2 a = gm a
theorem bu_cases (hJ : th_J τ gi gr) (hC : ro_C τ gr A) (hQ : ro_M τ1 rm A) (h : c_eq 1 5 0 gi gm A) (ht : ∀ h : Nat, h < 24 → rg 0 200 (gi (A 22) h)) {v1 v2 v3 v4 r1 r2 : Int32} (e1 : M_X11_buoy τ Z gi gr (A 11) v1 v2 v3 v4 r1 τ1 gi1 gr1) (e2 : F_X12_buoy τ1 Z gm rm (A 12) v1 v2 v3 v4 = (r2, gm2)) : r1 = r2 ∧ (x_fin τ gi gr gm A τ1 gi1 gr1 gm2 ∨ bu_ok τ gi gr gm A τ1 gi1 gr1 gm2 v1 v2 v3 v4) := by
  have hr : rg 0 12 (gi (A 1) 5) := n_p hJ hC
  have h10 : ((1 : Int32) = 0) = False := by decide
  unfold M_X11_buoy at e1
  unfold F_X12_buoy at e2
  simp only [w0_c, w0_m, f_X11_buoy_26, f_X11_buoy_27, f_X11_buoy_58, f_X12_buoy_46, h10, if_true, if_false, hC.g 11 0 1 (by decide)] at e1 e2
  have fin : ∀ {w1 w2 : Int32}, ¬ W0 w1 1 5 = 0 → (-1000000) - w1 = w2 → (r1 = (F_X11_finding τ Z gi gr (A 11) w1).1 ∧ τ1 = τ ∧ gi1 = (F_X11_finding τ Z gi gr (A 11) w1).2 ∧ gr1 = gr) → ((F_X12_finding τ1 Z gm rm (A 12) w2).1, (F_X12_finding τ1 Z gm rm (A 12) w2).2) = (r2, gm2) → r1 = r2 ∧ (x_fin τ gi gr gm A τ1 gi1 gr1 gm2 ∨ bu_ok τ gi gr gm A τ1 gi1 gr1 gm2 v1 v2 v3 v4) := fun q1 q2 q3 q4 => by
    obtain ⟨k1, k2⟩ := x_of hC hQ q1 q2 q3 q4
    exact ⟨k1, Or.inl k2⟩
  by_cases g1 : W0 v1 0 999 = 0
  · rw [if_pos g1] at e1 e2
    exact fin (by decide) (by decide) e1 e2
  rw [if_neg g1] at e1 e2
  by_cases g2 : W0 v2 0 999 = 0
  · rw [if_pos g2] at e1 e2
    exact fin (by decide) (by decide) e1 e2
  rw [if_neg g2] at e1 e2
  by_cases g3 : W0 v3 0 300 = 0
  · rw [if_pos g3] at e1 e2
    exact fin (by decide) (by decide) e1 e2
  rw [if_neg g3] at e1 e2
  by_cases g4 : W0 v4 10 400 = 0
  · rw [if_pos g4] at e1 e2
    exact fin (by decide) (by decide) e1 e2
  rw [if_neg g4] at e1 e2
  have h' : gm (A 12) 0 = gi (A 1) 5 := h.symm
  rw [h'] at e2
  by_cases g5 : gi (A 1) 5 < 12
  · have hn : ¬ gi (A 1) 5 = 12 := fun q => by
      rw [q] at g5
      exact absurd g5 (by decide)
    rw [if_pos g5] at e1
    rw [if_neg hn, hQ.g 1 40 (by decide), hQ.g 2 41 (by decide), hQ.g 3 42 (by decide), hQ.g 4 43 (by decide), hQ.g 7 46 (by decide)] at e2
    obtain ⟨x, t, g0, r0, hm, f1, f2, f3, f4⟩ := e1
    unfold M_X0_addBuoy at hm
    dsimp only at hm
    rw [if_neg (Int32.not_le.mpr g5)] at hm
    obtain ⟨q, zq, τ6, gi6, gr6, hi, hm⟩ := hm
    unfold M_X3_init at hi
    obtain ⟨w, zw, nqw, t6, i6, r6⟩ := hi
    have t1 := hC.t 1 1 (by decide) rfl
    have t20 := hC.t 20 20 (by decide) rfl
    have t22 := hC.t 22 22 (by decide) rfl
    have n1q : A 1 ≠ q := fun e => by rw [← e, t1] at zq; exact absurd zq (by decide)
    have n1w : A 1 ≠ w := fun e => by rw [← e, t1] at zw; exact absurd zw (by decide)
    have n20 : A 20 ≠ q := fun e => by rw [← e, t20] at zq; exact absurd zq (by decide)
    have n22q : A 22 ≠ q := fun e => by rw [← e, t22] at zq; exact absurd zq (by decide)
    have n22w : A 22 ≠ w := fun e => by rw [← e, t22] at zw; exact absurd zw (by decide)
    have s3 := w0_rg (l := 0) (h := 300) (by decide) (by decide) g3
    have s4 := w0_rg (l := 10) (h := 400) (by decide) (by decide) g4
    have i22 : gi6 (A 22) = gi (A 22) := by rw [i6, up_n n22q, up_n n22w]
    obtain ⟨g', k1, k2, k3, k4, k5, k6, k7⟩ := ab_sp (A := A) (q := q) (w := w) (r := gr6) (by rw [r6, up_n n1q]; exact hC.g 1 0 20 (by decide)) (by rw [r6, up_n n1q]; exact hC.g 1 2 22 (by decide)) (by rw [r6, up_s]; rfl) nqw n22w _ _ 0 (by decide) (by decide) (by rw [i6, up_s]; exact s3) (by rw [i6, up_s]; exact s4) (by rw [i22]; exact ht) hm
    obtain ⟨b1, b2⟩ := pr2 e2
    have t40 := hQ.t 1 40 (by decide)
    have t41 := hQ.t 2 41 (by decide)
    have t42 := hQ.t 3 42 (by decide)
    have t43 := hQ.t 4 43 (by decide)
    have t46 := hQ.t 7 46 (by decide)
    refine ⟨?_, Or.inr ⟨g5, w0_rg (by decide) (by decide) g1, w0_rg (by decide) (by decide) g2, s3, s4, ⟨q, w, g', zq, zw, nqw, by rw [f2, k2, t6], by rw [f3, k3], ?_, fun a h1 h2 => ?_, ?_, fun h hh => ?_⟩, ?_, ?_, ?_, ?_, ?_, ?_, fun a a1 a2 a3 a4 a5 a6 => ?_⟩⟩
    · rw [f1, k1, ← b1]
      exact (Int32.add_sub_cancel _ _).symm
    · rw [f4, k4, r6, up_n n20]
      rfl
    · rw [k5 a h2, i6, up_n h1, up_n h2]
    · rw [k5 q nqw, i6, up_s]
      rfl
    · have k := k7 h hh (by rw [k_0]; omega)
      rw [i22, i6, up_s] at k
      exact k
    · rw [← b2, up_s, up_n (ro_ne hQ.1 t46 (by decide)), up_n (ro_ne hQ.1 t43 (by decide)), up_n (ro_ne hQ.1 t42 (by decide)), up_n (ro_ne hQ.1 t41 (by decide)), up_n (ro_ne hQ.1 t40 (by decide))]
    · rw [← b2, up_n (ro_ne t40 hQ.1 (by decide)), up_n (ro_ne t40 t46 (by decide)), up_n (ro_ne t40 t43 (by decide)), up_n (ro_ne t40 t42 (by decide)), up_n (ro_ne t40 t41 (by decide)), up_s]
    · rw [← b2, up_n (ro_ne t41 hQ.1 (by decide)), up_n (ro_ne t41 t46 (by decide)), up_n (ro_ne t41 t43 (by decide)), up_n (ro_ne t41 t42 (by decide)), up_s, up_n (ro_ne t41 t40 (by decide))]
    · rw [← b2, up_n (ro_ne t42 hQ.1 (by decide)), up_n (ro_ne t42 t46 (by decide)), up_n (ro_ne t42 t43 (by decide)), up_s, up_n (ro_ne t42 t41 (by decide)), up_n (ro_ne t42 t40 (by decide))]
    · rw [← b2, up_n (ro_ne t43 hQ.1 (by decide)), up_n (ro_ne t43 t46 (by decide)), up_s, up_n (ro_ne t43 t42 (by decide)), up_n (ro_ne t43 t41 (by decide)), up_n (ro_ne t43 t40 (by decide))]
    · rw [← b2, up_n (ro_ne t46 hQ.1 (by decide)), up_s, up_n (ro_ne t46 t43 (by decide)), up_n (ro_ne t46 t42 (by decide)), up_n (ro_ne t46 t41 (by decide)), up_n (ro_ne t46 t40 (by decide))]
    · rw [← b2, up_n a1, up_n a6, up_n a5, up_n a4, up_n a3, up_n a2]
  · have hn := i_lt 12 (by decide) hr g5
    rw [if_neg g5] at e1
    rw [if_pos hn] at e2
    exact fin (by decide) (by decide) e1 e2
theorem nI12 {n : Int32} (h : rg 0 12 n) (hl : n < 12) : n.toNatClampNeg < 12 ∧ ((n.toNatClampNeg : Nat) : Int) = n.toInt ∧ (n + 1).toInt = n.toInt + 1 := by
  have h1 := i_ltI.mp hl
  have h2 : (12 : Int32).toInt = 12 := by decide
  have h3 := h.1
  exact ⟨cl_lt h3 (by omega), i_cl h3, y_1 (m := 16) (by decide) h3 (by omega)⟩
theorem c_buoy.fin (hC : ro_C τ gr A) (hQ : ro_M τ1 rm A) (f : x_fin τ gi gr gm A τ1 gi1 gr1 gm2) (h : c_buoy τ gi gr gm A) : c_buoy τ1 gi1 gr1 gm2 A := by
  obtain ⟨rfl, rfl, k2, k3⟩ := f
  exact c_buoy.fr hC hQ (fm_c hC k2) (fm_m hQ k3) (by decide) (by decide) h
theorem c_sl.fin (hC : ro_C τ gr A) (f : x_fin τ gi gr gm A τ1 gi1 gr1 gm2) (h : c_sl τ gi gr A) : c_sl τ1 gi1 gr1 A := by
  obtain ⟨rfl, rfl, k2, k3⟩ := f
  exact c_sl.fr hC (fm_c hC k2) (by decide) h
theorem c_buoy.buoy (hJ : th_J τ gi gr) (hC : ro_C τ gr A) (nb : c_eq 1 5 0 gi gm A) (hb : c_buoy τ gi gr gm A) {v1 v2 v3 v4 : Int32} (h : bu_ok τ gi gr gm A τ1 gi1 gr1 gm2 v1 v2 v3 v4) : c_buoy τ1 gi1 gr1 gm2 A := by
  obtain ⟨g5, s1, s2, s3, s4, ⟨q, w, g, zq, zw, nqw, et, ei, er, go, gq, gw⟩, m12, m40, m41, m42, m43, m46, mo⟩ := h
  obtain ⟨l1, l2, l3⟩ := nI12 (n_p hJ hC) g5
  have nb' : gm (A 12) 0 = gi (A 1) 5 := nb.symm
  have t1 := hC.t 1 1 (by decide) rfl
  have nq1 : q ≠ A 1 := fun e => by rw [e, t1] at zq; exact absurd zq (by decide)
  intro i hi
  rw [m12, ud_s, l3] at hi
  by_cases hin : i = (gi (A 1) 5).toNatClampNeg
  · subst hin
    have gq1 : gi1 q = fun k => match k with | 0 => gi (A 1) 5 | 1 => v1 | 2 => v2 | 3 => v3 | 4 => v4 | _ => 0 := by rw [ei, up_n nq1, gq]
    refine ⟨q, by rw [er, up_s, up_s], by rw [et, up_s], by rw [gq1]; exact l2.symm, by rw [gq1, m40, ud_s]; rfl, by rw [gq1, m41, ud_s]; rfl, by rw [gq1, m42, ud_s]; rfl, by rw [gq1, m43, ud_s]; rfl, by rw [gq1]; exact s1, by rw [gq1]; exact s2, by rw [gq1]; exact s3, by rw [gq1]; exact s4⟩
  · obtain ⟨b, a1, a2, a3⟩ := hb i (by rw [nb']; omega)
    have tb : τ b ≠ 0 := by rw [a2]; decide
    have bq : b ≠ q := fun e => tb (by rw [e]; exact zq)
    have bw : b ≠ w := fun e => tb (by rw [e]; exact zw)
    have b1 : b ≠ A 1 := ro_ne a2 t1 (by decide)
    have gb : gi1 b = gi b := by rw [ei, up_n b1, go b bq bw]
    refine ⟨b, by rw [er, up_s, up_n hin]; exact a1, by rw [et, up_n bq, up_n bw]; exact a2, ?_⟩
    rw [gb, m40, m41, m42, m43, ud_n hin, ud_n hin, ud_n hin, ud_n hin]
    exact a3
theorem c_sl.buoy (hJ : th_J τ gi gr) (hC : ro_C τ gr A) (hb : c_sl τ gi gr A) {v1 v2 v3 v4 : Int32} (h : bu_ok τ gi gr gm A τ1 gi1 gr1 gm2 v1 v2 v3 v4) : c_sl τ1 gi1 gr1 A := by
  obtain ⟨g5, s1, s2, s3, s4, ⟨q, w, g, zq, zw, nqw, et, ei, er, go, gq, gw⟩, m12, m40, m41, m42, m43, m46, mo⟩ := h
  obtain ⟨l1, l2, l3⟩ := nI12 (n_p hJ hC) g5
  have t1 := hC.t 1 1 (by decide) rfl
  have t20 := hC.t 20 20 (by decide) rfl
  have t22 := hC.t 22 22 (by decide) rfl
  have nq1 : q ≠ A 1 := fun e => by rw [e, t1] at zq; exact absurd zq (by decide)
  have nw1 : w ≠ A 1 := fun e => by rw [e, t1] at zw; exact absurd zw (by decide)
  have nq20 : q ≠ A 20 := fun e => by rw [e, t20] at zq; exact absurd zq (by decide)
  have n22q : A 22 ≠ q := fun e => by rw [← e, t22] at zq; exact absurd zq (by decide)
  have n22w : A 22 ≠ w := fun e => by rw [← e, t22] at zw; exact absurd zw (by decide)
  have c5 : gi1 (A 1) 5 = gi (A 1) 5 + 1 := by rw [ei, up_s, ud_s]
  have e22 : gi1 (A 22) = gi (A 22) := by rw [ei, up_n (ro_ne t22 t1 (by decide)), go _ n22q n22w]
  have old : ∀ b, τ b ≠ 0 → τ b ≠ 1 → τ b ≠ 20 → τ1 b = τ b ∧ gi1 b = gi b ∧ gr1 b = gr b := fun b b0 b1 b20 => by
    have bq : b ≠ q := fun e => b0 (by rw [e]; exact zq)
    have bw : b ≠ w := fun e => b0 (by rw [e]; exact zw)
    have n1 : b ≠ A 1 := fun e => b1 (by rw [e]; exact t1)
    have n20 : b ≠ A 20 := fun e => b20 (by rw [e]; exact t20)
    exact ⟨by rw [et, up_n bq, up_n bw], by rw [ei, up_n n1, go b bq bw], by rw [er, up_n n20, up_n bq]⟩
  have at_n : ∀ b, gr1 (A 20) (gi (A 1) 5).toNatClampNeg = some b → b = q := fun b hb' => by
    rw [er, up_s, up_s] at hb'
    exact (Option.some.inj hb').symm
  have at_o : ∀ i b, i ≠ (gi (A 1) 5).toNatClampNeg → gr1 (A 20) i = some b → gr (A 20) i = some b := fun i b hi hb' => by
    rw [er, up_s, up_n hi] at hb'
    exact hb'
  have g5q : gr1 q 5 = some w := by rw [er, up_n nq20, up_s]; rfl
  obtain ⟨w1, w2⟩ := hb
  unfold c_sl
  rw [c5, l3]
  refine ⟨fun i b hi hq => ?_, fun i i' b b' x hi hi' hq hq' hx hx' => ?_⟩
  · by_cases hin : i = (gi (A 1) 5).toNatClampNeg
    · subst hin
      have := at_n b hq
      subst this
      have gq1 : gi1 b = fun k => match k with | 0 => gi (A 1) 5 | 1 => v1 | 2 => v2 | 3 => v3 | 4 => v4 | _ => 0 := by rw [ei, up_n nq1, gq]
      refine ⟨by rw [et, up_s], by rw [gq1]; exact s3, by rw [gq1]; exact s4, w, g5q, by rw [et, up_n (Ne.symm nqw), up_s], fun h hh => ?_⟩
      rw [gq1, e22, ei, up_n nw1]
      exact gw h hh
    · obtain ⟨x0, r3, r4, x, x1, x2, x3⟩ := w1 i b (by omega) (at_o i b hin hq)
      obtain ⟨o1, o2, o3⟩ := old b (by rw [x0]; decide) (by rw [x0]; decide) (by rw [x0]; decide)
      obtain ⟨p1, p2, p3⟩ := old x (by rw [x2]; decide) (by rw [x2]; decide) (by rw [x2]; decide)
      unfold u_sl
      rw [o1, o2, o3, e22]
      refine ⟨x0, r3, r4, x, x1, by rw [p1]; exact x2, fun h hh => ?_⟩
      rw [p2]
      exact x3 h hh
  · have fresh : ∀ k c x', k ≠ (gi (A 1) 5).toNatClampNeg → (k : Int) < (gi (A 1) 5).toInt + 1 → gr1 (A 20) k = some c → gr1 c 5 = some x' → x' ≠ w := fun k c x' hk hk2 hkc hcx e => by
      obtain ⟨x0, r3, r4, x2', x1, x2, x3⟩ := w1 k c (by omega) (at_o k c hk hkc)
      rw [(old c (by rw [x0]; decide) (by rw [x0]; decide) (by rw [x0]; decide)).2.2] at hcx
      have : x2' = x' := Option.some.inj (x1.symm.trans hcx)
      rw [this, e, zw] at x2
      exact absurd x2 (by decide)
    by_cases hin : i = (gi (A 1) 5).toNatClampNeg
    · by_cases hin' : i' = (gi (A 1) 5).toNatClampNeg
      · rw [hin, hin']
      · rw [hin] at hq
        rw [at_n b hq, g5q] at hx
        exact absurd (Option.some.inj hx).symm (fresh i' b' x hin' hi' hq' hx')
    · by_cases hin' : i' = (gi (A 1) 5).toNatClampNeg
      · rw [hin'] at hq'
        rw [at_n b' hq', g5q] at hx'
        exact absurd (Option.some.inj hx').symm (fresh i b x hin hi hq hx)
      · have h1 := at_o i b hin hq
        have h2 := at_o i' b' hin' hq'
        have o1 := (w1 i b (by omega) h1).1
        have o2 := (w1 i' b' (by omega) h2).1
        rw [(old b (by rw [o1]; decide) (by rw [o1]; decide) (by rw [o1]; decide)).2.2] at hx
        rw [(old b' (by rw [o2]; decide) (by rw [o2]; decide) (by rw [o2]; decide)).2.2] at hx'
        exact w2 i i' b b' x (by omega) (by omega) h1 h2 hx hx'
end BU
