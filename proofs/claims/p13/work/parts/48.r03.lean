/-! ===== BOATS: their cells ===== -/
section BT
variable {τ τ1 tO : th_t} {Z : th_Zt} {gi gi1 gm gm2 gO : th_i} {gr gr1 rm rm2 qO : th_r} {A : Nat → Nat} {M1 M2 : List Nat} {h0 : Nat}
def b_kind (τ : th_t) (q : Nat) (k : Int32) : Prop := τ q = 8 ∧ k = 0 ∨ τ q = 9 ∧ k = 1 ∨ τ q = 4 ∧ k = 2
/-- what is there of a BOAT that came: its number, LENGTH, DRAUGHT, its KIND -/
def b_at (τ : th_t) (gi : th_i) (gr : th_r) (gm : th_i) (A : Nat → Nat) (i q : Nat) : Prop := gr (A 21) i = some q ∧ (gi q 0).toInt = (i : Int) ∧ gi q 1 = gm (A 48) i ∧ gi q 2 = gm (A 49) i ∧ b_kind τ q (gm (A 47) i) ∧ rg 10 300 (gi q 1) ∧ rg 0 100 (gi q 2)
def c_boat (τ : th_t) (gi : th_i) (gr : th_r) (gm : th_i) (A : Nat → Nat) : Prop := ∀ i : Nat, (i : Int) < (gm (A 12) 8).toInt → ∃ q, b_at τ gi gr gm A i q
theorem b_kind.nz {q : Nat} {k : Int32} (h : b_kind τ q k) : τ q = 8 ∨ τ q = 9 ∨ τ q = 4 := by
  rcases h with h | h | h
  · exact Or.inl h.1
  · exact Or.inr (Or.inl h.1)
  · exact Or.inr (Or.inr h.1)
theorem b_cell (h1 : th_Mod M1 τ gi gr gi1 gr1) {q k : Nat} (ht : τ q = 8 ∨ τ q = 9 ∨ τ q = 4) (k8 : 800 + k ∉ M1) (k9 : 900 + k ∉ M1) (k4 : 400 + k ∉ M1) : gi1 q k = gi q k ∧ gr1 q k = gr q k := by
  rcases ht with t | t | t
  · exact ro_k h1 k t (by decide) k8
  · exact ro_k h1 k t (by decide) k9
  · exact ro_k h1 k t (by decide) k4
theorem c_boat.fr (hC : ro_C τ gr A) (hQ : ro_M τ rm A) (h1 : th_Mod M1 τ gi gr gi1 gr1) (h2 : th_Mod M2 τ gm rm gm2 rm2) (k1 : ∀ k ∈ [2100, 800, 801, 802, 900, 901, 902, 400, 401, 402], k ∉ M1) (k2 : ∀ k ∈ [1208, 4700, 4800, 4900], k ∉ M2) (h : c_boat τ gi gr gm A) : c_boat τ gi1 gr1 gm2 A := by
  have e12 := (ro_k h2 8 hQ.1 (by decide) (k2 1208 (by decide))).1
  have e47 := (ro_ka h2 (hQ.t 9 47 (by decide)) (by decide) (k2 4700 (by decide))).1
  have e48 := (ro_ka h2 (hQ.t 10 48 (by decide)) (by decide) (k2 4800 (by decide))).1
  have e49 := (ro_ka h2 (hQ.t 11 49 (by decide)) (by decide) (k2 4900 (by decide))).1
  have e21 := (ro_ka h1 (hC.t 21 21 (by decide) rfl) (by decide) (k1 2100 (by decide))).2
  intro i hi
  rw [e12] at hi
  obtain ⟨q, a1, a2, a3, a4, a5, a6, a7⟩ := h i hi
  have t := a5.nz
  refine ⟨q, by rw [e21]; exact a1, ?_, ?_, ?_, by rw [e47]; exact a5, ?_, ?_⟩
  · rw [(b_cell (k := 0) h1 t (k1 800 (by decide)) (k1 900 (by decide)) (k1 400 (by decide))).1]; exact a2
  · rw [(b_cell (k := 1) h1 t (k1 801 (by decide)) (k1 901 (by decide)) (k1 401 (by decide))).1, e48]; exact a3
  · rw [(b_cell (k := 2) h1 t (k1 802 (by decide)) (k1 902 (by decide)) (k1 402 (by decide))).1, e49]; exact a4
  · rw [(b_cell (k := 1) h1 t (k1 801 (by decide)) (k1 901 (by decide)) (k1 401 (by decide))).1]; exact a6
  · rw [(b_cell (k := 2) h1 t (k1 802 (by decide)) (k1 902 (by decide)) (k1 402 (by decide))).1]; exact a7
theorem b_kind.ext {q : Nat} {k : Int32} (hx : ∀ b, τ b ≠ 0 → τ1 b = τ b) (h : b_kind τ q k) : b_kind τ1 q k := by
  rcases h with h | h | h
  · exact Or.inl ⟨(hx q (by rw [h.1]; decide)).trans h.1, h.2⟩
  · exact Or.inr (Or.inl ⟨(hx q (by rw [h.1]; decide)).trans h.1, h.2⟩)
  · exact Or.inr (Or.inr ⟨(hx q (by rw [h.1]; decide)).trans h.1, h.2⟩)
theorem c_boat.ext (hx : ∀ b, τ b ≠ 0 → τ1 b = τ b) (h : c_boat τ gi gr gm A) : c_boat τ1 gi gr gm A := fun i hi => by
  obtain ⟨q, a1, a2, a3, a4, a5, a6, a7⟩ := h i hi
  exact ⟨q, a1, a2, a3, a4, a5.ext hx, a6, a7⟩
/-- the makers of a BOAT -/
def b_new (τ : th_t) (gi : th_i) (gr : th_r) (tO : th_t) (gO : th_i) (qO : th_r) (h0 : Nat) (p1 p2 p3 : Int32) : Prop := mk_fr τ gi gr tO gO qO ∧ gO h0 0 = p1 ∧ gO h0 1 = p2 ∧ gO h0 2 = p3 ∧ gO h0 4 = 0 ∧ gO h0 5 = 0 ∧ ∃ w, qO h0 3 = some w ∧ tO w = 27 ∧ τ w = 0
theorem b_X8 {p1 p2 p3 : Int32} (h : M_X8_init τ Z gi gr h0 p1 p2 p3 tO gO qO) (hz : τ h0 = 0) : b_new τ gi gr tO gO qO h0 p1 p2 p3 ∧ tO h0 = 8 := by
  unfold M_X8_init M_X2_init_8 at h
  obtain ⟨τ1, gi1, gr1, ⟨q1, z1, n1, e1, e2, e3⟩, f1, f2, f3⟩ := h
  subst f1 f2 f3
  refine ⟨⟨fun a ha => ?_, mk_at e2 0, mk_at e2 1, mk_at e2 2, mk_at e2 4, mk_at e2 5, q1, mk_at e3 3, ?_, z1⟩, ?_⟩
  · have a0 := ne_z ha hz
    have a1 := ne_z ha z1
    exact ⟨by rw [e1, va_up_ne _ _ a0, va_up_ne _ _ a1], by rw [e2, va_up_ne _ _ a0, va_up_ne _ _ a1], by rw [e3, va_up_ne _ _ a0]⟩
  · rw [e1, va_up_ne _ _ (Ne.symm n1), va_up_self]
  · rw [e1, va_up_self]
theorem b_X9 {p1 p2 p3 : Int32} (h : M_X9_init τ Z gi gr h0 p1 p2 p3 tO gO qO) (hz : τ h0 = 0) : b_new τ gi gr tO gO qO h0 p1 p2 p3 ∧ tO h0 = 9 := by
  unfold M_X9_init M_X2_init_9 at h
  obtain ⟨τ1, gi1, gr1, ⟨q1, z1, n1, e1, e2, e3⟩, f1, f2, f3⟩ := h
  subst f1 f2 f3
  refine ⟨⟨fun a ha => ?_, mk_at e2 0, mk_at e2 1, mk_at e2 2, mk_at e2 4, mk_at e2 5, q1, mk_at e3 3, ?_, z1⟩, ?_⟩
  · have a0 := ne_z ha hz
    have a1 := ne_z ha z1
    exact ⟨by rw [e1, va_up_ne _ _ a0, va_up_ne _ _ a1], by rw [e2, va_up_ne _ _ a0, va_up_ne _ _ a1], by rw [e3, va_up_ne _ _ a0]⟩
  · rw [e1, va_up_ne _ _ (Ne.symm n1), va_up_self]
  · rw [e1, va_up_self]
theorem b_X4 {p1 p2 p3 : Int32} (h : M_X4_init τ Z gi gr h0 p1 p2 p3 tO gO qO) (hz : τ h0 = 0) : b_new τ gi gr tO gO qO h0 p1 p2 p3 ∧ tO h0 = 4 := by
  unfold M_X4_init M_X2_init_4 at h
  obtain ⟨τ1, gi1, gr1, ⟨q1, z1, n1, e1, e2, e3⟩, f1, f2, f3⟩ := h
  subst f1 f2 f3
  refine ⟨⟨fun a ha => ?_, mk_at e2 0, mk_at e2 1, mk_at e2 2, mk_at e2 4, mk_at e2 5, q1, mk_at e3 3, ?_, z1⟩, ?_⟩
  · have a0 := ne_z ha hz
    have a1 := ne_z ha z1
    exact ⟨by rw [e1, va_up_ne _ _ a0, va_up_ne _ _ a1], by rw [e2, va_up_ne _ _ a0, va_up_ne _ _ a1], by rw [e3, va_up_ne _ _ a0]⟩
  · rw [e1, va_up_ne _ _ (Ne.symm n1), va_up_self]
  · rw [e1, va_up_self]
theorem b_nb {k p1 p2 p3 : Int32} {q : Nat} (hk : ¬ W0 k 0 2 = 0) (h : M_X0_newBoat τ Z gi gr k p1 p2 p3 q tO gO qO) : b_new τ gi gr tO gO qO q p1 p2 p3 ∧ b_kind tO q k ∧ τ q = 0 := by
  unfold M_X0_newBoat at h
  by_cases c1 : k.toInt = 1
  · rw [if_pos c1] at h
    obtain ⟨q2, z, t3, g3, r3, hm, e1, e2, e3, e4⟩ := h
    subst e1 e2 e3 e4
    obtain ⟨b1, b2⟩ := b_X9 hm z
    exact ⟨b1, Or.inr (Or.inl ⟨b2, Int32.toInt_inj.mp (by rw [c1]; decide)⟩), z⟩
  rw [if_neg c1] at h
  by_cases c2 : k.toInt = 2
  · rw [if_pos c2] at h
    obtain ⟨q2, z, t3, g3, r3, hm, e1, e2, e3, e4⟩ := h
    subst e1 e2 e3 e4
    obtain ⟨b1, b2⟩ := b_X4 hm z
    exact ⟨b1, Or.inr (Or.inr ⟨b2, Int32.toInt_inj.mp (by rw [c2]; decide)⟩), z⟩
  rw [if_neg c2] at h
  obtain ⟨q2, z, t3, g3, r3, hm, e1, e2, e3, e4⟩ := h
  subst e1 e2 e3 e4
  obtain ⟨b1, b2⟩ := b_X8 hm z
  refine ⟨b1, Or.inl ⟨b2, Int32.toInt_inj.mp ?_⟩, z⟩
  obtain ⟨w1, w2⟩ := w0_no hk
  have l1 := Int32.le_iff_toInt_le.mp w1
  have l2 := Int32.le_iff_toInt_le.mp w2
  have l3 : (2 : Int32).toInt = 2 := by decide
  have l4 : (0 : Int32).toInt = 0 := by decide
  omega
/-- a BOAT comes: either a finding, or a new cell at the end of the row -/
theorem b_come (hC : ro_C τ gr A) {v1 v2 v3 r1 : Int32} (e1 : M_X11_boat τ Z gi gr (A 11) v1 v2 v3 r1 τ1 gi1 gr1) (hg : ¬ W0 v1 0 2 = 0 ∧ ¬ W0 v2 10 300 = 0 ∧ ¬ W0 v3 0 100 = 0 ∧ gi (A 1) 6 < 16) : ∃ q g r, b_new τ gi gr τ1 g r q (gi (A 1) 6) v2 v3 ∧ b_kind τ1 q v1 ∧ τ q = 0 ∧ r1 = gi (A 1) 6 ∧ gi1 = va_up g (A 1) (upd (g (A 1)) 6 (gi (A 1) 6 + 1)) ∧ gr1 = va_up r (A 21) (va_up (r (A 21)) (gi (A 1) 6).toNatClampNeg (some q)) := by
  obtain ⟨g1, g2, g3, g5⟩ := hg
  unfold M_X11_boat at e1
  simp only [F_X11_isKind, w0_c, hC.g 11 0 1 (by decide)] at e1
  rw [if_neg g1, if_neg g2, if_neg g3, if_pos g5] at e1
  obtain ⟨x, t, g, r, hm, rfl, rfl, rfl, rfl⟩ := e1
  unfold M_X0_addBoat at hm
  dsimp only at hm
  rw [if_neg (Int32.not_le.mpr g5), hC.g 1 1 21 (by decide)] at hm
  obtain ⟨q6, τ6, gi6, gr6, hn, g14, hg, k1, k2, k3, k4⟩ := hm
  subst k2
  obtain ⟨b1, b2, b3⟩ := b_nb g1 hn
  exact ⟨q6, gi6, gr6, b1, b2, b3, k1, by rw [k3, hg], k4⟩
end BT
