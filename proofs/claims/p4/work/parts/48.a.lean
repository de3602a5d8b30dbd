section
/-! ===== BOATS: their cells ===== -/
section BT
variable {τ τ1 tO : th_t} {Z : th_Zt} {gi gi1 gm gm2 gO : th_i} {gr gr1 rm rm2 qO : th_r} {A : Nat → Nat} {M1 M2 : List Nat} {h0 : Nat}
def b_kind (τ : th_t) (q : Nat) (k : Int32) : Prop := τ q = 8 ∧ k = 0 ∨ τ q = 9 ∧ k = 1 ∨ τ q = 4 ∧ k = 2
/-- what is there of a BOAT that came: its number, LENGTH, DRAUGHT, its KIND -/
def b_at (τ : th_t) (gi : th_i) (gr : th_r) (gm : th_i) (A : Nat → Nat) (i q : Nat) : Prop := gr (A 21) i = some q ∧ (gi q 0).toInt = (i : Int) ∧ gi q 1 = gm (A 48) i ∧ gi q 2 = gm (A 49) i ∧ b_kind τ q (gm (A 47) i) ∧ rg 10 300 (gi q 1) ∧ rg 0 100 (gi q 2)
def c_boat (τ : th_t) (gi : th_i) (gr : th_r) (gm : th_i) (A : Nat → Nat) : Prop := ∀ i : Nat, (i : Int) < (gm (A 12) 8).toInt → ∃ q, b_at τ gi gr gm A i q
theorem b_kind.nz {q : Nat} {k : Int32} (h : b_kind τ q k) : τ q = 8 ∨ τ q = 9 ∨ τ q = 4 := by
  rcases h with h | h | h
  · exact Or.inl h.1
  · exact Or.inr (Or.inl h.1)
  · exact Or.inr (Or.inr h.1)
theorem b_cell (h1 : th_Mod M1 τ gi gr gi1 gr1) {q k : Nat} (ht : τ q = 8 ∨ τ q = 9 ∨ τ q = 4) (k8 : 800 + k ∉ M1) (k9 : 900 + k ∉ M1) (k4 : 400 + k ∉ M1) : gi1 q k = gi q k ∧ gr1 q k = gr q k := by
  rcases ht with t | t | t
  · exact ro_k h1 k t (by decide) k8
  · exact ro_k h1 k t (by decide) k9
  · exact ro_k h1 k t (by decide) k4
theorem c_boat.fr (hC : ro_C τ gr A) (hQ : ro_M τ rm A) (h1 : th_Mod M1 τ gi gr gi1 gr1) (h2 : th_Mod M2 τ gm rm gm2 rm2) (k1 : ∀ k ∈ [2100, 800, 801, 802, 900, 901, 902, 400, 401, 402], k ∉ M1) (k2 : ∀ k ∈ [1208, 4700, 4800, 4900], k ∉ M2) (h : c_boat τ gi gr gm A) : c_boat τ gi1 gr1 gm2 A := by
  have e12 := (ro_k h2 8 hQ.1 (by decide) (k2 1208 (by decide))).1
  have e47 := (ro_ka h2 (hQ.t 9 47 (by decide)) (by decide) (k2 4700 (by decide))).1
  have e48 := (ro_ka h2 (hQ.t 10 48 (by decide)) (by decide) (k2 4800 (by decide))).1
  have e49 := (ro_ka h2 (hQ.t 11 49 (by decide)) (by decide) (k2 4900 (by decide))).1
  have e21 := (ro_ka h1 (hC.t 21 21 (by decide) rfl) (by decide) (k1 2100 (by decide))).2
  intro i hi
  rw [e12] at hi
  obtain ⟨q, a1, a2, a3, a4, a5, a6, a7⟩ := h i hi
  have t := a5.nz
  refine ⟨q, by rw [e21]; exact a1, ?_, ?_, ?_, by rw [e47]; exact a5, ?_, ?_⟩
  · rw [(b_cell (k := 0) h1 t (k1 800 (by decide)) (k1 900 (by decide)) (k1 400 (by decide))).1]; exact a2
  · rw [(b_cell (k := 1) h1 t (k1 801 (by decide)) (k1 901 (by decide)) (k1 401 (by decide))).1, e48]; exact a3
  · rw [(b_cell (k := 2) h1 t (k1 802 (by decide)) (k1 902 (by decide)) (k1 402 (by decide))).1, e49]; exact a4
  · rw [(b_cell (k := 1) h1 t (k1 801 (by decide)) (k1 901 (by decide)) (k1 401 (by decide))).1]; exact a6
  · rw [(b_cell (k := 2) h1 t (k1 802 (by decide)) (k1 902 (by decide)) (k1 402 (by decide))).1]; exact a7
theorem b_kind.ext {q : Nat} {k : Int32} (hx : ∀ b, τ b ≠ 0 → τ1 b = τ b) (h : b_kind τ q k) : b_kind τ1 q k := by
  rcases h with h | h | h
  · exact Or.inl ⟨(hx q (by rw [h.1]; decide)).trans h.1, h.2⟩
  · exact Or.inr (Or.inl ⟨(hx q (by rw [h.1]; decide)).trans h.1, h.2⟩)
  · exact Or.inr (Or.inr ⟨(hx q (by rw [h.1]; decide)).trans h.1, h.2⟩)
theorem c_boat.ext (hx : ∀ b, τ b ≠ 0 → τ1 b = τ b) (h : c_boat τ gi gr gm A) : c_boat τ1 gi gr gm A := fun i hi => by
  obtain ⟨q, a1, a2, a3, a4, a5, a6, a7⟩ := h i hi
  exact ⟨q, a1, a2, a3, a4, a5.ext hx, a6, a7⟩
/-- the makers of a BOAT -/
def b_new (τ : th_t) (gi : th_i) (gr : th_r) (tO : th_t) (gO : th_i) (qO : th_r) (h0 : Nat) (p1 p2 p3 : Int32) : Prop := mk_fr τ gi gr tO gO qO ∧ gO h0 0 = p1 ∧ gO h0 1 = p2 ∧ gO h0 2 = p3 ∧ gO h0 4 = 0 ∧ gO h0 5 = 0 ∧ ∃ w, qO h0 3 = some w ∧ tO w = 27 ∧ τ w = 0
theorem b_X8 {p1 p2 p3 : Int32} (h : M_X8_init τ Z gi gr h0 p1 p2 p3 tO gO qO) (hz : τ h0 = 0) : b_new τ gi gr tO gO qO h0 p1 p2 p3 ∧ tO h0 = 8 := by
  unfold M_X8_init M_X2_init_8 at h
  obtain ⟨τ1, gi1, gr1, ⟨q1, z1, n1, e1, e2, e3⟩, f1, f2, f3⟩ := h
  subst f1 f2 f3
  refine ⟨⟨fun a ha => ?_, mk_at e2 0, mk_at e2 1, mk_at e2 2, mk_at e2 4, mk_at e2 5, q1, mk_at e3 3, ?_, z1⟩, ?_⟩
  · have a0 := ne_z ha hz
    have a1 := ne_z ha z1
    exact ⟨by rw [e1, va_up_ne _ _ a0, va_up_ne _ _ a1], by rw [e2, va_up_ne _ _ a0, va_up_ne _ _ a1], by rw [e3, va_up_ne _ _ a0]⟩
  · rw [e1, va_up_ne _ _ (Ne.symm n1), va_up_self]
  · rw [e1, va_up_self]
theorem b_X9 {p1 p2 p3 : Int32} (h : M_X9_init τ Z gi gr h0 p1 p2 p3 tO gO qO) (hz : τ h0 = 0) : b_new τ gi gr tO gO qO h0 p1 p2 p3 ∧ tO h0 = 9 := by
  unfold M_X9_init M_X2_init_9 at h
  obtain ⟨τ1, gi1, gr1, ⟨q1, z1, n1, e1, e2, e3⟩, f1, f2, f3⟩ := h
  subst f1 f2 f3
  refine ⟨⟨fun a ha => ?_, mk_at e2 0, mk_at e2 1, mk_at e2 2, mk_at e2 4, mk_at e2 5, q1, mk_at e3 3, ?_, z1⟩, ?_⟩
  · have a0 := ne_z ha hz
    have a1 := ne_z ha z1
    exact ⟨by rw [e1, va_up_ne _ _ a0, va_up_ne _ _ a1], by rw [e2, va_up_ne _ _ a0, va_up_ne _ _ a1], by rw [e3, va_up_ne _ _ a0]⟩
  · rw [e1, va_up_ne _ _ (Ne.symm n1), va_up_self]
  · rw [e1, va_up_self]
theorem b_X4 {p1 p2 p3 : Int32} (h : M_X4_init τ Z gi gr h0 p1 p2 p3 tO gO qO) (hz : τ h0 = 0) : b_new τ gi gr tO gO qO h0 p1 p2 p3 ∧ tO h0 = 4 := by
  unfold M_X4_init M_X2_init_4 at h
  obtain ⟨τ1, gi1, gr1, ⟨q1, z1, n1, e1, e2, e3⟩, f1, f2, f3⟩ := h
  subst f1 f2 f3
  refine ⟨⟨fun a ha => ?_, mk_at e2 0, mk_at e2 1, mk_at e2 2, mk_at e2 4, mk_at e2 5, q1, mk_at e3 3, ?_, z1⟩, ?_⟩
  · have a0 := ne_z ha hz
    have a1 := ne_z ha z1
    exact ⟨by rw [e1, va_up_ne _ _ a0, va_up_ne _ _ a1], by rw [e2, va_up_ne _ _ a0, va_up_ne _ _ a1], by rw [e3, va_up_ne _ _ a0]⟩
  · rw [e1, va_up_ne _ _ (Ne.symm n1), va_up_self]
  · rw [e1, va_up_self]
theorem b_nb {k p1 p2 p3 : Int32} {q : Nat} (hk : ¬ W0 k 0 2 = 0) (h : M_X0_newBoat τ Z gi gr k p1 p2 p3 q tO gO qO) : b_new τ gi gr tO gO qO q p1 p2 p3 ∧ b_kind tO q k ∧ τ q = 0 := by
  unfold M_X0_newBoat at h
  by_cases c1 : k.toInt = 1
  · rw [if_pos c1] at h
    obtain ⟨q2, z, t3, g3, r3, hm, e1, e2, e3, e4⟩ := h
    subst e1 e2 e3 e4
    obtain ⟨b1, b2⟩ := b_X9 hm z
    exact ⟨b1, Or.inr (Or.inl ⟨b2, Int32.toInt_inj.mp (by rw [c1]; decide)⟩), z⟩
  rw [if_neg c1] at h
  by_cases c2 : k.toInt = 2
  · rw [if_pos c2] at h
    obtain ⟨q2, z, t3, g3, r3, hm, e1, e2, e3, e4⟩ := h
    subst e1 e2 e3 e4
    obtain ⟨b1, b2⟩ := b_X4 hm z
    exact ⟨b1, Or.inr (Or.inr ⟨b2, Int32.toInt_inj.mp (by rw [c2]; decide)⟩), z⟩
  rw [if_neg c2] at h
  obtain ⟨q2, z, t3, g3, r3, hm, e1, e2, e3, e4⟩ := h
  subst e1 e2 e3 e4
  obtain ⟨b1, b2⟩ := b_X8 hm z
  refine ⟨b1, Or.inl ⟨b2, Int32.toInt_inj.mp ?_⟩, z⟩
  obtain ⟨w1, w2⟩ := w0_no hk
  have l1 := Int32.le_iff_toInt_le.mp w1
  have l2 := Int32.le_iff_toInt_le.mp w2
  have l3 : (2 : Int32).toInt = 2 := by decide
  have l4 : (0 : Int32).toInt = 0 := by decide
  omega
/-- a BOAT comes: either a finding, or a new cell at the end of the row -/
theorem b_come (hC : ro_C τ gr A) {v1 v2 v3 r1 : Int32} (e1 : M_X11_boat τ Z gi gr (A 11) v1 v2 v3 r1 τ1 gi1 gr1) (hg : ¬ W0 v1 0 2 = 0 ∧ ¬ W0 v2 10 300 = 0 ∧ ¬ W0 v3 0 100 = 0 ∧ gi (A 1) 6 < 16) : ∃ q g r, b_new τ gi gr τ1 g r q (gi (A 1) 6) v2 v3 ∧ b_kind τ1 q v1 ∧ τ q = 0 ∧ r1 = gi (A 1) 6 ∧ gi1 = va_up g (A 1) (upd (g (A 1)) 6 (gi (A 1) 6 + 1)) ∧ gr1 = va_up r (A 21) (va_up (r (A 21)) (gi (A 1) 6).toNatClampNeg (some q)) := by
  obtain ⟨g1, g2, g3, g5⟩ := hg
  unfold M_X11_boat at e1
  simp only [F_X11_isKind, w0_c, hC.g 11 0 1 (by decide)] at e1
  rw [if_neg g1, if_neg g2, if_neg g3, if_pos g5] at e1
  obtain ⟨x, t, g, r, hm, rfl, rfl, rfl, rfl⟩ := e1
  unfold M_X0_addBoat at hm
  dsimp only at hm
  rw [if_neg (Int32.not_le.mpr g5), hC.g 1 1 21 (by decide)] at hm
  obtain ⟨q6, τ6, gi6, gr6, hn, g14, hg, k1, k2, k3, k4⟩ := hm
  subst k2
  obtain ⟨b1, b2, b3⟩ := b_nb g1 hn
  exact ⟨q6, gi6, gr6, b1, b2, b3, k1, by rw [k3, hg], k4⟩
end BT
end
section
/-! ===== what a BOAT would rather have ===== -/
section WI
variable {τ τ1 : th_t} {Z : th_Zt} {gi gi1 gm gm2 : th_i} {gr gr1 rm rm2 : th_r} {A : Nat → Nat} {M1 M2 : List Nat}
theorem w0_n {v n : Int32} {m : Int} (hm : m ≤ 100) (hn : rg 0 m n) : W0 v 0 (n - 1) = 0 ↔ ¬ (0 ≤ v.toInt ∧ v.toInt < n.toInt) := by
  have e : (n - 1).toInt = n.toInt - 1 := by
    have h1 : (1 : Int32).toInt = 1 := by decide
    rw [Int32.toInt_sub, h1]
    have := hn.1
    have := hn.2
    exact rg_bm (by omega) (by omega)
  have h0 : (0 : Int32).toInt = 0 := by decide
  rw [w0_iff, Int32.le_iff_toInt_le, Int32.le_iff_toInt_le, e, h0]
  constructor
  · intro h q
    exact h ⟨q.1, by omega⟩
  · intro h q
    exact h ⟨q.1, by omega⟩
theorem i_cl {v : Int32} (h : 0 ≤ v.toInt) : ((v.toNatClampNeg : Nat) : Int) = v.toInt := Int.toNat_of_nonneg h
theorem cl_in {v : Int32} {n : Nat} (h : (n : Int) = v.toInt) : v.toNatClampNeg = n := by
  show v.toInt.toNat = n
  omega
theorem n_b (hJ : th_J τ gi gr) (hC : ro_C τ gr A) : rg 0 16 (gi (A 1) 6) := (hJ.at (hC.t 1 1 (by decide) rfl) (by decide)).2.2.2.2.2.2
theorem bo_no (hJ : th_J τ gi gr) (hC : ro_C τ gr A) {v : Int32} (h : W0 v 0 (gi (A 1) 6 - 1) = 0) : F_X0_boatAt τ Z gi gr (A 1) v = none := by
  unfold F_X0_boatAt
  dsimp only
  rw [w0_c, if_pos h]
theorem bo_yes (hJ : th_J τ gi gr) (hC : ro_C τ gr A) {v : Int32} (h : ¬ W0 v 0 (gi (A 1) 6 - 1) = 0) : F_X0_boatAt τ Z gi gr (A 1) v = gr (A 21) v.toNatClampNeg ∧ v.toNatClampNeg < 16 ∧ ((v.toNatClampNeg : Nat) : Int) = v.toInt ∧ v.toInt < (gi (A 1) 6).toInt := by
  have hn := n_b hJ hC
  have h1 := Decidable.not_not.mp (fun q => h ((w0_n (by decide) hn).mpr q))
  have h2 := hn.2
  have h16 : ¬ (16 : Int32) ≤ v := fun q => by
    have q1 := Int32.le_iff_toInt_le.mp q
    have q2 : (16 : Int32).toInt = 16 := by decide
    omega
  refine ⟨?_, cl_lt h1.1 (by omega), i_cl h1.1, h1.2⟩
  unfold F_X0_boatAt
  dsimp only
  rw [w0_c, if_neg h, if_neg h16, hC.g 1 1 21 (by decide)]
/-- wishes: how many, and which; rows of their own; none of BOATS that haven't come -/
def b_wish (τ : th_t) (gi : th_i) (gr : th_r) (gm : th_i) (A : Nat → Nat) (i q : Nat) : Prop := (τ q = 8 ∨ τ q = 9 ∨ τ q = 4) ∧ gi q 4 = gm (A 56) i ∧ ∃ w, gr q 3 = some w ∧ τ w = 27 ∧ ∀ j : Nat, (j : Int) < (gm (A 56) i).toInt → gi w j = gm (A 57) (4 * i + j)
def c_wish (τ : th_t) (gi : th_i) (gr : th_r) (gm : th_i) (A : Nat → Nat) : Prop := (∀ i q : Nat, (i : Int) < (gm (A 12) 8).toInt → gr (A 21) i = some q → b_wish τ gi gr gm A i q) ∧ (∀ i i' q q' w : Nat, (i : Int) < (gm (A 12) 8).toInt → (i' : Int) < (gm (A 12) 8).toInt → gr (A 21) i = some q → gr (A 21) i' = some q' → gr q 3 = some w → gr q' 3 = some w → i = i') ∧ ∀ i : Nat, i < 16 → (gm (A 12) 8).toInt ≤ (i : Int) → gm (A 56) i = 0
theorem fm_c (hC : ro_C τ gr A) (k : ∀ a, a ≠ A 36 → gi1 a = gi a) : th_Mod [3600] τ gi gr gi1 gr := fun b j _ hk => ⟨congrFun (k b (fun e => hk (by rw [e, hC.t 36 36 (by decide) rfl]; show (3600 : Nat) ∈ _; decide))) j, rfl⟩
theorem fm_m (hQ : ro_M τ rm A) (k : ∀ a, a ≠ A 59 → gm2 a = gm a) : th_Mod [5900] τ gm rm gm2 rm := fun b j _ hk => ⟨congrFun (k b (fun e => hk (by rw [e, hQ.t 26 59 (by decide)]; show (5900 : Nat) ∈ _; decide))) j, rfl⟩
theorem c_wish.fr (hC : ro_C τ gr A) (hQ : ro_M τ rm A) (h1 : th_Mod M1 τ gi gr gi1 gr1) (h2 : th_Mod M2 τ gm rm gm2 rm2) (k1 : ∀ k ∈ [2100, 2700, 803, 804, 903, 904, 403, 404], k ∉ M1) (k2 : ∀ k ∈ [1208, 5600, 5700], k ∉ M2) (h : c_wish τ gi gr gm A) : c_wish τ gi1 gr1 gm2 A := by
  have e12 := (ro_k h2 8 hQ.1 (by decide) (k2 1208 (by decide))).1
  have e56 := (ro_ka h2 (hQ.t 21 56 (by decide)) (by decide) (k2 5600 (by decide))).1
  have e57 := (ro_ka h2 (hQ.t 22 57 (by decide)) (by decide) (k2 5700 (by decide))).1
  have e21 := (ro_ka h1 (hC.t 21 21 (by decide) rfl) (by decide) (k1 2100 (by decide))).2
  have e3 : ∀ q, (τ q = 8 ∨ τ q = 9 ∨ τ q = 4) → gr1 q 3 = gr q 3 := fun q t => (b_cell (k := 3) h1 t (k1 803 (by decide)) (k1 903 (by decide)) (k1 403 (by decide))).2
  obtain ⟨w1, w2, w3⟩ := h
  refine ⟨fun i q hi hq => ?_, fun i i' q q' w hi hi' hq hq' hw hw' => ?_, ?_⟩
  · rw [e12] at hi
    rw [e21] at hq
    obtain ⟨x0, x1, w, x2, tw, x3⟩ := w1 i q hi hq
    refine ⟨x0, ?_, w, by rw [e3 q x0]; exact x2, tw, fun j hj => ?_⟩
    · rw [(b_cell (k := 4) h1 x0 (k1 804 (by decide)) (k1 904 (by decide)) (k1 404 (by decide))).1, e56]
      exact x1
    · rw [e56] at hj
      rw [(ro_ka h1 tw (by decide) (k1 2700 (by decide))).1, e57]
      exact x3 j hj
  · rw [e12] at hi hi'
    rw [e21] at hq hq'
    rw [e3 q (w1 i q hi hq).1] at hw
    rw [e3 q' (w1 i' q' hi' hq').1] at hw'
    exact w2 i i' q q' w hi hi' hq hq' hw hw'
  · rw [e12, e56]
    exact w3
theorem c_wish.ext (hx : ∀ b, τ b ≠ 0 → τ1 b = τ b) (h : c_wish τ gi gr gm A) : c_wish τ1 gi gr gm A := by
  obtain ⟨w1, w2, w3⟩ := h
  refine ⟨fun i q hi hq => ?_, w2, w3⟩
  obtain ⟨x0, x1, w, x2, tw, x3⟩ := w1 i q hi hq
  refine ⟨?_, x1, w, x2, (hx w (by rw [tw]; decide)).trans tw, x3⟩
  rcases x0 with t | t | t
  · exact Or.inl ((hx q (by rw [t]; decide)).trans t)
  · exact Or.inr (Or.inl ((hx q (by rw [t]; decide)).trans t))
  · exact Or.inr (Or.inr ((hx q (by rw [t]; decide)).trans t))
theorem s_content (hJ : th_J τ gi gr) (hC : ro_C τ gr A) (hQ : ro_M τ rm A) (no : c_eq 1 6 8 gi gm A) (hb : c_boat τ gi gr gm A) (h : c_wish τ gi gr gm A) {v r1 r2 : Int32} (e1 : F_X11_content τ Z gi gr (A 11) v = (r1, gi1)) (e2 : F_X12_content τ Z gm rm (A 12) v = (r2, gm2)) : r1 = r2 ∧ c_wish τ gi1 gr gm2 A := by
  have no' : gm (A 12) 8 = gi (A 1) 6 := no.symm
  unfold F_X11_content at e1
  unfold F_X12_content F_X12_isBoat at e2
  dsimp only at e1 e2
  rw [hC.g 11 0 1 (by decide)] at e1
  rw [w0_m, no', hQ.g 21 56 (by decide)] at e2
  by_cases g1 : W0 v 0 (gi (A 1) 6 - 1) = 0
  · rw [bo_no hJ hC g1] at e1
    rw [if_pos g1] at e2
    obtain ⟨k1, k2, k3⟩ := s_fip hC hQ (w1 := 1) (by decide) (by decide) e1 e2
    exact ⟨k1, c_wish.fr hC hQ (fm_c hC k2) (fm_m hQ k3) (by decide) (by decide) h⟩
  · obtain ⟨f1, f2, f3, f4⟩ := bo_yes (Z := Z) hJ hC g1
    obtain ⟨q, a1, a2, a3, a4, a5, a6, a7⟩ := hb v.toNatClampNeg (by rw [f3, no']; exact f4)
    rw [f1, a1] at e1
    rw [if_neg g1] at e2
    obtain ⟨c1, c2⟩ := pr2 e1
    obtain ⟨d1, d2⟩ := pr2 e2
    obtain ⟨w1, w2, w3⟩ := h
    have hv := w1 v.toNatClampNeg q (by rw [f3, no']; exact f4) a1
    have m12 : gm2 (A 12) = gm (A 12) := by rw [← d2]; exact up_n (ro_ne hQ.1 (hQ.t 21 56 (by decide)) (by decide))
    have m57 : gm2 (A 57) = gm (A 57) := by rw [← d2]; exact up_n (ro_ne (hQ.t 22 57 (by decide)) (hQ.t 21 56 (by decide)) (by decide))
    refine ⟨by rw [← c1, ← d1]; exact hv.2.1, fun i q' hi hq' => ?_, by rw [m12]; exact w2, fun i hi hn => ?_⟩
    · rw [m12] at hi
      obtain ⟨x0, x1, w, x2, tw, x3⟩ := w1 i q' hi hq'
      obtain ⟨q2, b1, b2, b3, b4, b5, b6, b7⟩ := hb i hi
      have hqq : q2 = q' := Option.some.inj (b1.symm.trans hq')
      subst hqq
      have nw : w ≠ q := by
        rcases a5.nz with t | t | t <;> exact ro_ne tw t (by decide)
      have g57 : gi1 w = gi w := by rw [← c2]; exact up_n nw
      by_cases hiv : i = v.toNatClampNeg
      · subst hiv
        have : q2 = q := Option.some.inj (b1.symm.trans a1)
        subst this
        have z56 : gm2 (A 56) v.toNatClampNeg = 0 := by rw [← d2, up_s, ud_s]
        refine ⟨x0, by rw [z56, ← c2, up_s, ud_s], w, x2, tw, fun j hj => ?_⟩
        rw [z56] at hj
        have : (0 : Int32).toInt = 0 := by decide
        omega
      · have nq : q2 ≠ q := fun e => by
          rw [e] at b2
          rw [b2] at a2
          exact hiv (Int.ofNat_inj.mp a2)
        have z56 : gm2 (A 56) i = gm (A 56) i := by rw [← d2, up_s, ud_n hiv]
        refine ⟨x0, by rw [z56, ← c2, up_n nq]; exact x1, w, x2, tw, fun j hj => ?_⟩
        rw [z56] at hj
        rw [g57, m57]
        exact x3 j hj
    · rw [m12] at hn
      have : i ≠ v.toNatClampNeg := fun e => by
        subst e
        rw [f3, no'] at hn
        omega
      rw [← d2, up_s, ud_n this]
      exact w3 i hi hn
end WI
section WJ
variable {τ τ1 : th_t} {Z : th_Zt} {gi gi1 gm gm2 : th_i} {gr gr1 rm rm2 : th_r} {A : Nat → Nat} {M1 M2 : List Nat}
theorem n_p (hJ : th_J τ gi gr) (hC : ro_C τ gr A) : rg 0 12 (gi (A 1) 5) := (hJ.at (hC.t 1 1 (by decide) rfl) (by decide)).2.2.2.2.2.1
theorem bu_no (hJ : th_J τ gi gr) (hC : ro_C τ gr A) {v : Int32} (h : W0 v 0 (gi (A 1) 5 - 1) = 0) : F_X0_buoyAt τ Z gi gr (A 1) v = none := by
  unfold F_X0_buoyAt
  dsimp only
  rw [w0_c, if_pos h]
theorem bu_yes (hJ : th_J τ gi gr) (hC : ro_C τ gr A) {v : Int32} (h : ¬ W0 v 0 (gi (A 1) 5 - 1) = 0) : F_X0_buoyAt τ Z gi gr (A 1) v = gr (A 20) v.toNatClampNeg ∧ v.toNatClampNeg < 12 ∧ ((v.toNatClampNeg : Nat) : Int) = v.toInt ∧ v.toInt < (gi (A 1) 5).toInt := by
  have hn := n_p hJ hC
  have h1 := Decidable.not_not.mp (fun q => h ((w0_n (by decide) hn).mpr q))
  have h2 := hn.2
  have h16 : ¬ (12 : Int32) ≤ v := fun q => by
    have q1 := Int32.le_iff_toInt_le.mp q
    have q2 : (12 : Int32).toInt = 12 := by decide
    omega
  refine ⟨?_, cl_lt h1.1 (by omega), i_cl h1.1, h1.2⟩
  unfold F_X0_buoyAt
  dsimp only
  rw [w0_c, if_neg h, if_neg h16, hC.g 1 0 20 (by decide)]
/-- every BUOY that came has its cell -/
def c_bsh (gi : th_i) (gr : th_r) (gm : th_i) (A : Nat → Nat) : Prop := ∀ i : Nat, (i : Int) < (gm (A 12) 0).toInt → ∃ q, gr (A 20) i = some q
/-- the wish at a place -/
theorem wa_at {q w : Nat} {y : Int32} (hw : gr q 3 = some w) (hn : rg 0 4 (gi q 4)) (h0 : 0 ≤ y.toInt) (h1 : y.toInt < (gi q 4).toInt) : F_X2_wishAt τ Z gi gr q y = gi w y.toNatClampNeg := by
  have h2 := hn.2
  have g1 : ¬ W0 y 0 (gi q 4 - 1) = 0 := fun e => (w0_n (by decide) hn).mp e ⟨h0, h1⟩
  have g2 : ¬ (4 : Int32) ≤ y := fun e => by
    have q1 := Int32.le_iff_toInt_le.mp e
    have q2 : (4 : Int32).toInt = 4 := by decide
    omega
  unfold F_X2_wishAt
  dsimp only
  rw [w0_c, if_neg g1, if_neg g2, hw]
  rfl
theorem y_1 {y : Int32} {m : Int} (hm : m ≤ 1000) (h0 : 0 ≤ y.toInt) (h1 : y.toInt ≤ m) : (y + 1).toInt = y.toInt + 1 := by
  have e : (1 : Int32).toInt = 1 := by decide
  rw [Int32.toInt_add, e]
  exact rg_bm (by omega) (by omega)
theorem wf_sp {q w : Nat} {p : Int32} (hw : gr q 3 = some w) (hn : rg 0 4 (gi q 4)) : ∀ (n : Nat) (y : Int32), 0 ≤ y.toInt → (4 - y.toInt).toNat < n → (f_X2_wishesFor_2 τ Z gi gr q p n y = 1 ∧ ∃ j : Nat, y.toInt ≤ (j : Int) ∧ (j : Int) < (gi q 4).toInt ∧ gi w j = p) ∨ (f_X2_wishesFor_2 τ Z gi gr q p n y = 0 ∧ ∀ j : Nat, y.toInt ≤ (j : Int) → (j : Int) < (gi q 4).toInt → ¬ gi w j = p) := by
  intro n
  induction n with
  | zero => intro y h0 h; exact absurd h (Nat.not_lt_zero _)
  | succ n ih =>
    intro y h0 h
    have hn2 := hn.2
    unfold f_X2_wishesFor_2
    dsimp only
    by_cases hc : gi q 4 ≤ y
    · rw [if_pos hc]
      have hc' := Int32.le_iff_toInt_le.mp hc
      exact Or.inr ⟨rfl, fun j h1 h2 => by omega⟩
    · rw [if_neg hc]
      have hc' := Int32.lt_iff_toInt_lt.mp (Int32.not_le.mp hc)
      rw [wa_at hw hn h0 hc']
      by_cases hp : gi w y.toNatClampNeg = p
      · rw [if_pos hp]
        refine Or.inl ⟨rfl, y.toNatClampNeg, ?_, ?_, hp⟩
        · rw [i_cl h0]; exact Int.le_refl _
        · rw [i_cl h0]; exact hc'
      · rw [if_neg hp]
        have e := y_1 (m := 4) (by decide) h0 (by omega)
        rcases ih (y + 1) (by omega) (by omega) with ⟨k1, j, k2, k3, k4⟩ | ⟨k1, k2⟩
        · exact Or.inl ⟨k1, j, by omega, k3, k4⟩
        · refine Or.inr ⟨k1, fun j h1 h2 => ?_⟩
          by_cases hj : (j : Int) = y.toInt
          · rw [← cl_in hj]
            exact hp
          · exact k2 j (by omega) h2
/-- the reference: the row is looked through, then there is room or not -/
theorem ra_sp (hQ : ro_M τ rm A) {v p : Int32} (hv : 0 ≤ v.toInt ∧ v.toInt < 16) (hn : rg 0 4 (gm (A 56) v.toNatClampNeg)) : ∀ (n : Nat) (y : Int32), 0 ≤ y.toInt → (4 - y.toInt).toNat < n → (f_X12_rather_25 τ Z gi rm (A 12) v p n gm y = ((F_X12_finding τ Z gm rm (A 12) (-1000003)).1, (F_X12_finding τ Z gm rm (A 12) (-1000003)).2) ∧ ∃ j : Nat, y.toInt ≤ (j : Int) ∧ (j : Int) < (gm (A 56) v.toNatClampNeg).toInt ∧ gm (A 57) (4 * v.toNatClampNeg + j) = p) ∨ ((f_X12_rather_25 τ Z gi rm (A 12) v p n gm y = if gm (A 56) v.toNatClampNeg = 4 then ((F_X12_finding τ Z gm rm (A 12) (-1000004)).1, (F_X12_finding τ Z gm rm (A 12) (-1000004)).2) else (gm (A 56) v.toNatClampNeg + 1, va_up (va_up gm (A 57) (upd (gm (A 57)) (4 * v.toNatClampNeg + (gm (A 56) v.toNatClampNeg).toNatClampNeg) p)) (A 56) (upd (va_up gm (A 57) (upd (gm (A 57)) (4 * v.toNatClampNeg + (gm (A 56) v.toNatClampNeg).toNatClampNeg) p) (A 56)) v.toNatClampNeg (gm (A 56) v.toNatClampNeg + 1)))) ∧ ∀ j : Nat, y.toInt ≤ (j : Int) → (j : Int) < (gm (A 56) v.toNatClampNeg).toInt → ¬ gm (A 57) (4 * v.toNatClampNeg + j) = p) := by
  have ix : ∀ y : Int32, 0 ≤ y.toInt → y.toInt ≤ 4 → (4 * v + y).toNatClampNeg = 4 * v.toNatClampNeg + y.toNatClampNeg := fun y h0 h4 => by
    have e4 : (4 : Int32).toInt = 4 := by decide
    have m : (4 * v).toInt = 4 * v.toInt := by
      rw [Int32.toInt_mul, e4]
      exact rg_bm (by omega) (by omega)
    have s : (4 * v + y).toInt = 4 * v.toInt + y.toInt := by
      rw [Int32.toInt_add, m]
      exact rg_bm (by omega) (by omega)
    show (4 * v + y).toInt.toNat = 4 * v.toInt.toNat + y.toInt.toNat
    rw [s]
    omega
  intro n
  induction n with
  | zero => intro y h0 h; exact absurd h (Nat.not_lt_zero _)
  | succ n ih =>
    intro y h0 h
    have hn1 := hn.1
    have hn2 := hn.2
    unfold f_X12_rather_25
    dsimp only
    rw [hQ.g 21 56 (by decide), hQ.g 22 57 (by decide)]
    by_cases hc : gm (A 56) v.toNatClampNeg ≤ y
    · rw [if_pos hc, ix _ hn1 hn2]
      have hc' := Int32.le_iff_toInt_le.mp hc
      exact Or.inr ⟨rfl, fun j h1 h2 => by omega⟩
    · rw [if_neg hc]
      have hc' := Int32.lt_iff_toInt_lt.mp (Int32.not_le.mp hc)
      rw [ix y h0 (by omega)]
      by_cases hp : gm (A 57) (4 * v.toNatClampNeg + y.toNatClampNeg) = p
      · rw [if_pos hp]
        refine Or.inl ⟨rfl, y.toNatClampNeg, ?_, ?_, hp⟩
        · rw [i_cl h0]; exact Int.le_refl _
        · rw [i_cl h0]; exact hc'
      · rw [if_neg hp]
        have e := y_1 (m := 4) (by decide) h0 (by omega)
        rcases ih (y + 1) (by omega) (by omega) with ⟨k1, j, k2, k3, k4⟩ | ⟨k1, k2⟩
        · exact Or.inl ⟨k1, j, by omega, k3, k4⟩
        · refine Or.inr ⟨k1, fun j h1 h2 => ?_⟩
          by_cases hj : (j : Int) = y.toInt
          · rw [← cl_in hj]
            exact hp
          · exact k2 j (by omega) h2
theorem s_rather (hJ : th_J τ gi gr) (hJm : th_J τ gm rm) (hC : ro_C τ gr A) (hQ : ro_M τ rm A) (nb : c_eq 1 5 0 gi gm A) (no : c_eq 1 6 8 gi gm A) (hb : c_boat τ gi gr gm A) (hs : c_bsh gi gr gm A) (h : c_wish τ gi gr gm A) {v p r1 r2 : Int32} (e1 : F_X11_rather τ Z gi gr (A 11) v p = (r1, gi1)) (e2 : F_X12_rather τ Z gm rm (A 12) v p = (r2, gm2)) : r1 = r2 ∧ c_wish τ gi1 gr gm2 A := by
  have nb' : gm (A 12) 0 = gi (A 1) 5 := nb.symm
  have no' : gm (A 12) 8 = gi (A 1) 6 := no.symm
  unfold F_X11_rather f_X11_rather_24 at e1
  unfold F_X12_rather F_X12_isBoat F_X12_isBuoy f_X12_rather_16 at e2
  dsimp only at e1 e2
  rw [hC.g 11 0 1 (by decide)] at e1
  rw [w0_m, w0_m, no', nb'] at e2
  have fin : ∀ {w1 w2 : Int32}, ¬ W0 w1 1 5 = 0 → (-1000000) - w1 = w2 → ((F_X11_finding τ Z gi gr (A 11) w1).1, (F_X11_finding τ Z gi gr (A 11) w1).2) = (r1, gi1) → ((F_X12_finding τ Z gm rm (A 12) w2).1, (F_X12_finding τ Z gm rm (A 12) w2).2) = (r2, gm2) → r1 = r2 ∧ c_wish τ gi1 gr gm2 A := fun q1 q2 q3 q4 => by
    obtain ⟨k1, k2, k3⟩ := s_fip hC hQ q1 q2 q3 q4
    exact ⟨k1, c_wish.fr hC hQ (fm_c hC k2) (fm_m hQ k3) (by decide) (by decide) h⟩
  by_cases g1 : W0 v 0 (gi (A 1) 6 - 1) = 0
  · rw [bo_no hJ hC g1] at e1
    rw [if_pos g1] at e2
    exact fin (w1 := 1) (by decide) (by decide) e1 e2
  obtain ⟨f1, f2, f3, f4⟩ := bo_yes (Z := Z) hJ hC g1
  have hvi : ((v.toNatClampNeg : Nat) : Int) < (gm (A 12) 8).toInt := by rw [f3, no']; exact f4
  obtain ⟨q, a1, a2, a3, a4, a5, a6, a7⟩ := hb v.toNatClampNeg hvi
  rw [f1, a1] at e1
  rw [if_neg g1] at e2
  by_cases g2 : W0 p 0 (gi (A 1) 5 - 1) = 0
  · simp only [Option.elim_some, bu_no (Z := Z) hJ hC g2, Option.elim_none] at e1
    rw [if_pos g2] at e2
    exact fin (w1 := 1) (by decide) (by decide) e1 e2
  obtain ⟨m1, m2, m3, m4⟩ := bu_yes (Z := Z) hJ hC g2
  obtain ⟨qp, hqp⟩ := hs p.toNatClampNeg (by rw [m3, nb']; exact m4)
  rw [if_neg g2] at e2
  simp only [Option.elim_some, m1, hqp] at e1
  obtain ⟨w1, w2, w3⟩ := h
  obtain ⟨x0, x1, w, x2, tw, x3⟩ := w1 v.toNatClampNeg q hvi a1
  have rn : ∀ i, i < 16 → rg 0 4 (gm (A 56) i) := fun i hi => (hJm.at (hQ.t 21 56 (by decide)) (by decide)) i hi
  have hc := rn v.toNatClampNeg f2
  have hcg : rg 0 4 (gi q 4) := by rw [x1]; exact hc
  have hc1 := hc.1
  have hc2 := hc.2
  have n16 := (n_b hJ hC).2
  have hA := wf_sp (τ := τ) (Z := Z) (p := p) x2 hcg ((4 - (0 : Int32).toInt).toNat + 1) 0 (by decide) (Nat.lt_add_one _)
  have hB := ra_sp (Z := Z) (gi := gm) hQ (p := p) (v := v) ⟨by omega, by omega⟩ hc ((4 - (0 : Int32).toInt).toNat + 1) 0 (by decide) (Nat.lt_add_one _)
  have z0 : (0 : Int32).toInt = 0 := by decide
  have same : ∀ j : Nat, (j : Int) < (gm (A 56) v.toNatClampNeg).toInt → gi w j = gm (A 57) (4 * v.toNatClampNeg + j) := x3
  unfold F_X2_wishesFor at e1
  rcases hA with ⟨b1, j, b2, b3, b4⟩ | ⟨b1, b2⟩
  · rcases hB with ⟨d1, -⟩ | ⟨-, d2⟩
    · rw [b1, if_neg (by decide)] at e1
      rw [d1] at e2
      exact fin (w1 := 3) (by decide) (by decide) e1 e2
    · rw [x1] at b3
      exact absurd ((same j b3).symm.trans b4) (d2 j b2 b3)
  · rcases hB with ⟨-, j, d2, d3, d4⟩ | ⟨d1, -⟩
    · exact absurd ((same j d3).trans d4) (b2 j d2 (by rw [x1]; exact d3))
    · rw [b1, if_pos rfl] at e1
      rw [d1] at e2
      by_cases g4 : gi q 4 < 4
      · have hn4 : ¬ gm (A 56) v.toNatClampNeg = 4 := fun e => by
          rw [x1, e] at g4
          exact absurd g4 (by decide)
        have hlt : (gm (A 56) v.toNatClampNeg).toInt < 4 := by
          have e := Int32.lt_iff_toInt_lt.mp g4
          rw [x1] at e
          exact e
        rw [if_pos g4] at e1
        rw [if_neg hn4] at e2
        unfold F_X2_addWish at e1
        dsimp only at e1
        rw [if_neg (Int32.not_le.mpr g4), x2] at e1
        obtain ⟨c1, c2⟩ := pr2 e1
        obtain ⟨l1, l2⟩ := pr2 e2
        have nqw : q ≠ w := by
          rcases x0 with t | t | t <;> exact ro_ne t tw (by decide)
        have n57 : A 56 ≠ A 57 := ro_ne (hQ.t 21 56 (by decide)) (hQ.t 22 57 (by decide)) (by decide)
        have gq : gi1 q 4 = gi q 4 + 1 := by rw [← c2, up_s, ud_s]
        have go : ∀ a, a ≠ q → a ≠ w → gi1 a = gi a := fun a h1 h2 => by rw [← c2, up_n h1]; exact up_n h2
        have gw : gi1 w = upd (gi w) (gi q 4).toNatClampNeg p := by rw [← c2, up_n (Ne.symm nqw)]; exact up_s
        have m12 : gm2 (A 12) = gm (A 12) := by rw [← l2, up_n (ro_ne hQ.1 (hQ.t 21 56 (by decide)) (by decide)), up_n (ro_ne hQ.1 (hQ.t 22 57 (by decide)) (by decide))]
        have m56 : gm2 (A 56) = upd (gm (A 56)) v.toNatClampNeg (gm (A 56) v.toNatClampNeg + 1) := by rw [← l2, up_s, up_n n57]
        have m57 : gm2 (A 57) = upd (gm (A 57)) (4 * v.toNatClampNeg + (gm (A 56) v.toNatClampNeg).toNatClampNeg) p := by rw [← l2, up_n (Ne.symm n57), up_s]
        have cn := i_cl hc1
        have e1' := y_1 (m := 4) (by decide) hc1 hc2
        refine ⟨?_, fun i q' hi hq' => ?_, ?_, fun i hi hn => ?_⟩
        · rw [← l1, ← x1, ← gq]
          rw [← c2, ← c1]
        · rw [m12] at hi
          obtain ⟨y0, y1, w', y2, tw', y3⟩ := w1 i q' hi hq'
          have hi16 : i < 16 := by rw [no'] at hi; omega
          have hci := (rn i hi16).2
          by_cases hiv : i = v.toNatClampNeg
          · subst hiv
            have eq : q' = q := Option.some.inj (hq'.symm.trans a1)
            subst eq
            have ew : w' = w := Option.some.inj (y2.symm.trans x2)
            subst ew
            refine ⟨x0, by rw [gq, m56, ud_s, x1], w', x2, tw, fun j hj => ?_⟩
            rw [m56, ud_s, e1'] at hj
            rw [gw, m57, x1]
            by_cases hjn : j = (gm (A 56) v.toNatClampNeg).toNatClampNeg
            · rw [hjn, ud_s, ud_s]
            · rw [ud_n hjn, ud_n (by omega)]
              exact y3 j (by omega)
          · have nq : q' ≠ q := fun e => by
              obtain ⟨q2, o1, o2, -⟩ := hb i hi
              have : q2 = q' := Option.some.inj (o1.symm.trans hq')
              subst this
              rw [e, a2] at o2
              exact hiv (Int.ofNat_inj.mp o2).symm
            have nw : w' ≠ w := fun e => hiv (w2 i v.toNatClampNeg q' q w hi hvi hq' a1 (by rw [← e]; exact y2) x2)
            have nq' : q' ≠ w := by
              rcases y0 with t | t | t <;> exact ro_ne t tw (by decide)
            have nw' : w' ≠ q := by
              rcases x0 with t | t | t <;> exact ro_ne tw' t (by decide)
            refine ⟨y0, by rw [go q' nq nq', m56, ud_n hiv]; exact y1, w', y2, tw', fun j hj => ?_⟩
            rw [m56, ud_n hiv] at hj
            rw [go w' nw' nw, m57, ud_n (by omega)]
            exact y3 j hj
        · rw [m12]; exact w2
        · rw [m12] at hn
          have : i ≠ v.toNatClampNeg := fun e => by
            subst e
            omega
          rw [m56, ud_n this]
          exact w3 i hi hn
      · have h4 : gm (A 56) v.toNatClampNeg = 4 := by
          rw [← x1]
          exact i_lt 4 (by decide) hcg g4
        rw [if_neg g4] at e1
        rw [if_pos h4] at e2
        exact fin (w1 := 4) (by decide) (by decide) e1 e2
end WJ
end
section
/-! ===== a BOAT comes: the components behind it ===== -/
section BC
variable {τ τ1 : th_t} {Z : th_Zt} {gi gi1 gm gm2 : th_i} {gr gr1 rm rm2 : th_r} {A : Nat → Nat} {M1 M2 : List Nat}
/-- nothing but findings -/
def x_fin (τ : th_t) (gi : th_i) (gr : th_r) (gm : th_i) (A : Nat → Nat) (τ1 : th_t) (gi1 : th_i) (gr1 : th_r) (gm2 : th_i) : Prop := τ1 = τ ∧ gr1 = gr ∧ (∀ a, a ≠ A 36 → gi1 a = gi a) ∧ (∀ a, a ≠ A 59 → gm2 a = gm a)
theorem x_of (hC : ro_C τ gr A) (hQ : ro_M τ1 rm A) {w1 w2 r1 r2 : Int32} {tO : th_t} (hw : ¬ W0 w1 1 5 = 0) (hww : (-1000000) - w1 = w2) (e1 : r1 = (F_X11_finding τ Z gi gr (A 11) w1).1 ∧ tO = τ ∧ gi1 = (F_X11_finding τ Z gi gr (A 11) w1).2 ∧ gr1 = gr) (e2 : ((F_X12_finding τ1 Z gm rm (A 12) w2).1, (F_X12_finding τ1 Z gm rm (A 12) w2).2) = (r2, gm2)) : r1 = r2 ∧ x_fin τ gi gr gm A tO gi1 gr1 gm2 := by
  rw [fi_c hC hw] at e1
  rw [fi_m hQ] at e2
  dsimp only at e1 e2
  obtain ⟨a1, a2, a3, a4⟩ := e1
  obtain ⟨b1, b2⟩ := pr2 e2
  refine ⟨by rw [a1, ← b1]; exact hww, a2, a4, fun a ha => by rw [a3]; exact va_up_ne _ _ ha, fun a ha => by rw [← b2]; exact va_up_ne _ _ ha⟩
def bt_ok (τ : th_t) (gi : th_i) (gr : th_r) (gm : th_i) (A : Nat → Nat) (τ1 : th_t) (gi1 : th_i) (gr1 : th_r) (gm2 : th_i) (v1 v2 v3 : Int32) : Prop := gi (A 1) 6 < 16 ∧ rg 0 2 v1 ∧ rg 10 300 v2 ∧ rg 0 100 v3 ∧ (∃ q g r, b_new τ gi gr τ1 g r q (gi (A 1) 6) v2 v3 ∧ b_kind τ1 q v1 ∧ τ q = 0 ∧ gi1 = va_up g (A 1) (upd (g (A 1)) 6 (gi (A 1) 6 + 1)) ∧ gr1 = va_up r (A 21) (va_up (r (A 21)) (gi (A 1) 6).toNatClampNeg (some q))) ∧ gm2 (A 12) = upd (gm (A 12)) 8 (gi (A 1) 6 + 1) ∧ gm2 (A 47) = upd (gm (A 47)) (gi (A 1) 6).toNatClampNeg v1 ∧ gm2 (A 48) = upd (gm (A 48)) (gi (A 1) 6).toNatClampNeg v2 ∧ gm2 (A 49) = upd (gm (A 49)) (gi (A 1) 6).toNatClampNeg v3 ∧ gm2 (A 50) = upd (gm (A 50)) (gi (A 1) 6).toNatClampNeg (-1) ∧ ∀ a, a ≠ A 12 → a ≠ A 47 → a ≠ A 48 → a ≠ A 49 → a ≠ A 50 → gm2 a = gm a
theorem w0_rg {v a b : Int32} {l h : Int} (hl : a.toInt = l) (hh : b.toInt = h) (g : ¬ W0 v a b = 0) : rg l h v := by
  obtain ⟨q1, q2⟩ := w0_no g
  exact ⟨by rw [← hl]; exact Int32.le_iff_toInt_le.mp q1, by rw [← hh]; exact Int32.le_iff_toInt_le.mp q2⟩
theorem bt_cases (hJ : th_J τ gi gr) (hC : ro_C τ gr A) (hQ : ro_M τ1 rm A) (h : c_eq 1 6 8 gi gm A) {v1 v2 v3 r1 r2 : Int32} (e1 : M_X11_boat τ Z gi gr (A 11) v1 v2 v3 r1 τ1 gi1 gr1) (e2 : F_X12_boat τ1 Z gm rm (A 12) v1 v2 v3 = (r2, gm2)) : r1 = r2 ∧ (x_fin τ gi gr gm A τ1 gi1 gr1 gm2 ∨ bt_ok τ gi gr gm A τ1 gi1 gr1 gm2 v1 v2 v3) := by
  have hr : rg 0 16 (gi (A 1) 6) := n_b hJ hC
  have h10 : ((1 : Int32) = 0) = False := by decide
  have e1' := e1
  unfold M_X11_boat at e1
  unfold F_X12_boat at e2
  simp only [F_X11_isKind, w0_c, w0_m, f_X11_boat_29, f_X12_boat_31, h10, if_true, if_false, hC.g 11 0 1 (by decide)] at e1 e2
  have fin : ∀ {w1 w2 : Int32}, ¬ W0 w1 1 5 = 0 → (-1000000) - w1 = w2 → (r1 = (F_X11_finding τ Z gi gr (A 11) w1).1 ∧ τ1 = τ ∧ gi1 = (F_X11_finding τ Z gi gr (A 11) w1).2 ∧ gr1 = gr) → ((F_X12_finding τ1 Z gm rm (A 12) w2).1, (F_X12_finding τ1 Z gm rm (A 12) w2).2) = (r2, gm2) → r1 = r2 ∧ (x_fin τ gi gr gm A τ1 gi1 gr1 gm2 ∨ bt_ok τ gi gr gm A τ1 gi1 gr1 gm2 v1 v2 v3) := fun q1 q2 q3 q4 => by
    obtain ⟨k1, k2⟩ := x_of hC hQ q1 q2 q3 q4
    exact ⟨k1, Or.inl k2⟩
  by_cases g1 : W0 v1 0 2 = 0
  · rw [if_pos g1] at e1 e2
    exact fin (by decide) (by decide) e1 e2
  rw [if_neg g1] at e1 e2
  by_cases g2 : W0 v2 10 300 = 0
  · rw [if_pos g2] at e1 e2
    exact fin (by decide) (by decide) e1 e2
  rw [if_neg g2] at e1 e2
  by_cases g3 : W0 v3 0 100 = 0
  · rw [if_pos g3] at e1 e2
    exact fin (by decide) (by decide) e1 e2
  rw [if_neg g3] at e1 e2
  have h' : gm (A 12) 8 = gi (A 1) 6 := h.symm
  rw [h'] at e2
  by_cases g5 : gi (A 1) 6 < 16
  · have hn : ¬ gi (A 1) 6 = 16 := fun q => by
      rw [q] at g5
      exact absurd g5 (by decide)
    rw [if_neg hn, hQ.g 9 47 (by decide), hQ.g 10 48 (by decide), hQ.g 11 49 (by decide), hQ.g 12 50 (by decide)] at e2
    obtain ⟨q, g, r, k1, k2, k3, k4, k5, k6⟩ := b_come hC e1' ⟨g1, g2, g3, g5⟩
    obtain ⟨b1, b2⟩ := pr2 e2
    have t47 := hQ.t 9 47 (by decide)
    have t48 := hQ.t 10 48 (by decide)
    have t49 := hQ.t 11 49 (by decide)
    have t50 := hQ.t 12 50 (by decide)
    refine ⟨?_, Or.inr ⟨g5, w0_rg (by decide) (by decide) g1, w0_rg (by decide) (by decide) g2, w0_rg (by decide) (by decide) g3, ⟨q, g, r, k1, k2, k3, k5, k6⟩, ?_, ?_, ?_, ?_, ?_, fun a a1 a2 a3 a4 a5 => ?_⟩⟩
    · rw [k4, ← b1]
      exact (Int32.add_sub_cancel _ _).symm
    · rw [← b2, up_s, up_n (ro_ne hQ.1 t50 (by decide)), up_n (ro_ne hQ.1 t49 (by decide)), up_n (ro_ne hQ.1 t48 (by decide)), up_n (ro_ne hQ.1 t47 (by decide))]
    · rw [← b2, up_n (ro_ne t47 hQ.1 (by decide)), up_n (ro_ne t47 t50 (by decide)), up_n (ro_ne t47 t49 (by decide)), up_n (ro_ne t47 t48 (by decide)), up_s]
    · rw [← b2, up_n (ro_ne t48 hQ.1 (by decide)), up_n (ro_ne t48 t50 (by decide)), up_n (ro_ne t48 t49 (by decide)), up_s, up_n (ro_ne t48 t47 (by decide))]
    · rw [← b2, up_n (ro_ne t49 hQ.1 (by decide)), up_n (ro_ne t49 t50 (by decide)), up_s, up_n (ro_ne t49 t48 (by decide)), up_n (ro_ne t49 t47 (by decide))]
    · rw [← b2, up_n (ro_ne t50 hQ.1 (by decide)), up_s, up_n (ro_ne t50 t49 (by decide)), up_n (ro_ne t50 t48 (by decide)), up_n (ro_ne t50 t47 (by decide))]
    · rw [← b2, up_n a1, up_n a5, up_n a4, up_n a3, up_n a2]
  · have hn := i_lt 16 (by decide) hr g5
    rw [if_neg g5] at e1
    rw [if_pos hn] at e2
    exact fin (by decide) (by decide) e1 e2
theorem ne_z' {τ : th_t} {q a : Nat} (hq : τ q = 0) (ha : τ a ≠ 0) : q ≠ a := fun e => ha (by rw [← e]; exact hq)
theorem nB16 {n : Int32} (h : rg 0 16 n) (hl : n < 16) : n.toNatClampNeg < 16 ∧ ((n.toNatClampNeg : Nat) : Int) = n.toInt ∧ (n + 1).toInt = n.toInt + 1 := by
  have h1 := Int32.lt_iff_toInt_lt.mp hl
  have h2 : (16 : Int32).toInt = 16 := by decide
  have h3 := h.1
  exact ⟨cl_lt h3 (by omega), i_cl h3, y_1 (m := 16) (by decide) h3 h.2⟩
theorem c_boat.fin (hC : ro_C τ gr A) (hQ : ro_M τ1 rm A) (f : x_fin τ gi gr gm A τ1 gi1 gr1 gm2) (h : c_boat τ gi gr gm A) : c_boat τ1 gi1 gr1 gm2 A := by
  obtain ⟨rfl, rfl, k2, k3⟩ := f
  exact c_boat.fr hC hQ (fm_c hC k2) (fm_m hQ k3) (by decide) (by decide) h
theorem c_wish.fin (hC : ro_C τ gr A) (hQ : ro_M τ1 rm A) (f : x_fin τ gi gr gm A τ1 gi1 gr1 gm2) (h : c_wish τ gi gr gm A) : c_wish τ1 gi1 gr1 gm2 A := by
  obtain ⟨rfl, rfl, k2, k3⟩ := f
  exact c_wish.fr hC hQ (fm_c hC k2) (fm_m hQ k3) (by decide) (by decide) h
theorem c_boat.boat (hJ : th_J τ gi gr) (hC : ro_C τ gr A) (no : c_eq 1 6 8 gi gm A) (hb : c_boat τ gi gr gm A) {v1 v2 v3 : Int32} (h : bt_ok τ gi gr gm A τ1 gi1 gr1 gm2 v1 v2 v3) : c_boat τ1 gi1 gr1 gm2 A := by
  obtain ⟨g5, r1, r2, r3, ⟨q, g, r, ⟨f, n0, n1, n2, n4, n5, w, hw, tw, zw⟩, kd, zq, e1, e2⟩, m12, m47, m48, m49, m50, mo⟩ := h
  obtain ⟨l1, l2, l3⟩ := nB16 (n_b hJ hC) g5
  have no' : gm (A 12) 8 = gi (A 1) 6 := no.symm
  have q1 : q ≠ A 1 := fun e => by
    rw [e, hC.t 1 1 (by decide) rfl] at zq
    exact absurd zq (by decide)
  have t21 := hC.t 21 21 (by decide) rfl
  have er : r (A 21) = gr (A 21) := (f (A 21) (by rw [t21]; decide)).2.2
  intro i hi
  rw [m12, ud_s, l3] at hi
  by_cases hin : i = (gi (A 1) 6).toNatClampNeg
  · subst hin
    refine ⟨q, by rw [e2, up_s, up_s], ?_, ?_, ?_, by rw [m47, ud_s]; exact kd, ?_, ?_⟩
    · rw [e1, up_n q1, n0, l2]
    · rw [e1, up_n q1, n1, m48, ud_s]
    · rw [e1, up_n q1, n2, m49, ud_s]
    · rw [e1, up_n q1, n1]; exact r2
    · rw [e1, up_n q1, n2]; exact r3
  · obtain ⟨b, a1, a2, a3, a4, a5, a6, a7⟩ := hb i (by rw [no']; omega)
    have tb : τ b ≠ 0 := by
      rcases a5.nz with t | t | t <;> (rw [t]; decide)
    have b1 : b ≠ A 1 := by
      rcases a5.nz with t | t | t <;> exact ro_ne t (hC.t 1 1 (by decide) rfl) (by decide)
    obtain ⟨f1, f2, f3⟩ := f b tb
    have gb : gi1 b = gi b := by rw [e1, up_n b1, f2]
    refine ⟨b, by rw [e2, up_s, up_n hin, er]; exact a1, by rw [gb]; exact a2, by rw [gb, m48, ud_n hin]; exact a3, by rw [gb, m49, ud_n hin]; exact a4, ?_, by rw [gb]; exact a6, by rw [gb]; exact a7⟩
    rw [m47, ud_n hin]
    rcases a5 with ⟨t, k⟩ | ⟨t, k⟩ | ⟨t, k⟩
    · exact Or.inl ⟨f1.trans t, k⟩
    · exact Or.inr (Or.inl ⟨f1.trans t, k⟩)
    · exact Or.inr (Or.inr ⟨f1.trans t, k⟩)
theorem c_wish.boat (hJ : th_J τ gi gr) (hC : ro_C τ gr A) (hQ : ro_M τ rm A) (no : c_eq 1 6 8 gi gm A) (hb : c_boat τ gi gr gm A) (hw0 : c_wish τ gi gr gm A) {v1 v2 v3 : Int32} (h : bt_ok τ gi gr gm A τ1 gi1 gr1 gm2 v1 v2 v3) : c_wish τ1 gi1 gr1 gm2 A := by
  obtain ⟨g5, r1, r2, r3, ⟨q, g, r, ⟨f, n0, n1, n2, n4, n5, w, hw, tw, zw⟩, kd, zq, e1, e2⟩, m12, m47, m48, m49, m50, mo⟩ := h
  obtain ⟨l1, l2, l3⟩ := nB16 (n_b hJ hC) g5
  have no' : gm (A 12) 8 = gi (A 1) 6 := no.symm
  have t1 := hC.t 1 1 (by decide) rfl
  have t21 := hC.t 21 21 (by decide) rfl
  have q1 : q ≠ A 1 := ne_z' zq (by rw [t1]; decide)
  have q21 : q ≠ A 21 := ne_z' zq (by rw [t21]; decide)
  have w1_ : w ≠ A 1 := ne_z' zw (by rw [t1]; decide)
  have er : r (A 21) = gr (A 21) := (f (A 21) (by rw [t21]; decide)).2.2
  have t56 := hQ.t 21 56 (by decide)
  have t57 := hQ.t 22 57 (by decide)
  have m56 : gm2 (A 56) = gm (A 56) := mo _ (ro_ne t56 hQ.1 (by decide)) (ro_ne t56 (hQ.t 9 47 (by decide)) (by decide)) (ro_ne t56 (hQ.t 10 48 (by decide)) (by decide)) (ro_ne t56 (hQ.t 11 49 (by decide)) (by decide)) (ro_ne t56 (hQ.t 12 50 (by decide)) (by decide))
  have m57 : gm2 (A 57) = gm (A 57) := mo _ (ro_ne t57 hQ.1 (by decide)) (ro_ne t57 (hQ.t 9 47 (by decide)) (by decide)) (ro_ne t57 (hQ.t 10 48 (by decide)) (by decide)) (ro_ne t57 (hQ.t 11 49 (by decide)) (by decide)) (ro_ne t57 (hQ.t 12 50 (by decide)) (by decide))
  obtain ⟨w1, w2, w3⟩ := hw0
  have z56 := w3 _ l1 (by rw [no', l2]; exact Int.le_refl _)
  have at_n : ∀ b, gr1 (A 21) (gi (A 1) 6).toNatClampNeg = some b → b = q := fun b hb' => by
    rw [e2, up_s, up_s] at hb'
    exact (Option.some.inj hb').symm
  have at_o : ∀ i b, i ≠ (gi (A 1) 6).toNatClampNeg → gr1 (A 21) i = some b → gr (A 21) i = some b := fun i b hi hb' => by
    rw [e2, up_s, up_n hi, er] at hb'
    exact hb'
  have g3q : gr1 q 3 = some w := by rw [e2, up_n q21, hw]
  have old : ∀ b, τ b ≠ 0 → τ b ≠ 1 → τ b ≠ 21 → τ1 b = τ b ∧ gi1 b = gi b ∧ gr1 b = gr b := fun b hb0 hb1 hb21 => by
    obtain ⟨f1, f2, f3⟩ := f b hb0
    have n1' : b ≠ A 1 := fun e => hb1 (by rw [e]; exact t1)
    have n21' : b ≠ A 21 := fun e => hb21 (by rw [e]; exact t21)
    exact ⟨f1, by rw [e1, up_n n1', f2], by rw [e2, up_n n21', f3]⟩
  have oldb : ∀ b, (τ b = 8 ∨ τ b = 9 ∨ τ b = 4) → τ1 b = τ b ∧ gi1 b = gi b ∧ gr1 b = gr b := fun b hb' => by
    rcases hb' with t | t | t <;> exact old b (by rw [t]; decide) (by rw [t]; decide) (by rw [t]; decide)
  refine ⟨fun i b hi hq => ?_, fun i i' b b' x hi hi' hq hq' hx hx' => ?_, fun i hi hn => ?_⟩
  · rw [m12, ud_s, l3] at hi
    by_cases hin : i = (gi (A 1) 6).toNatClampNeg
    · subst hin
      have := at_n b hq
      subst this
      refine ⟨kd.nz, by rw [e1, up_n q1, n4, m56, z56], w, g3q, tw, fun j hj => ?_⟩
      rw [m56, z56] at hj
      have z0 : (0 : Int32).toInt = 0 := by decide
      omega
    · have hq0 := at_o i b hin hq
      obtain ⟨x0, x1, x, x2, tx, x3⟩ := w1 i b (by rw [no']; omega) hq0
      obtain ⟨o1, o2, o3⟩ := oldb b x0
      obtain ⟨p1, p2, p3⟩ := old x (by rw [tx]; decide) (by rw [tx]; decide) (by rw [tx]; decide)
      refine ⟨by rw [o1]; exact x0, by rw [o2, m56]; exact x1, x, by rw [o3]; exact x2, by rw [p1]; exact tx, fun j hj => ?_⟩
      rw [m56] at hj
      rw [p2, m57]
      exact x3 j hj
  · rw [m12, ud_s, l3] at hi hi'
    have fresh : ∀ k c x', k ≠ (gi (A 1) 6).toNatClampNeg → (k : Int) < (gi (A 1) 6).toInt + 1 → gr1 (A 21) k = some c → gr1 c 3 = some x' → x' ≠ w := fun k c x' hk hk2 hkc hcx e => by
      have hkc0 := at_o k c hk hkc
      obtain ⟨x0, x1, x2', x2, tx, x3⟩ := w1 k c (by rw [no']; omega) hkc0
      obtain ⟨o1, o2, o3⟩ := oldb c x0
      rw [o3] at hcx
      have : x2' = x' := Option.some.inj (x2.symm.trans hcx)
      rw [this, e] at tx
      rw [tx] at zw
      exact absurd zw (by decide)
    by_cases hin : i = (gi (A 1) 6).toNatClampNeg
    · by_cases hin' : i' = (gi (A 1) 6).toNatClampNeg
      · rw [hin, hin']
      · rw [hin] at hq
        have hbq := at_n b hq
        rw [hbq, g3q] at hx
        exact absurd (Option.some.inj hx).symm (fresh i' b' x hin' hi' hq' hx')
    · by_cases hin' : i' = (gi (A 1) 6).toNatClampNeg
      · rw [hin'] at hq'
        have hbq := at_n b' hq'
        rw [hbq, g3q] at hx'
        exact absurd (Option.some.inj hx').symm (fresh i b x hin hi hq hx)
      · have h1 := at_o i b hin hq
        have h2 := at_o i' b' hin' hq'
        have k1 : (i : Int) < (gm (A 12) 8).toInt := by rw [no']; omega
        have k2 : (i' : Int) < (gm (A 12) 8).toInt := by rw [no']; omega
        rw [(oldb b (w1 i b k1 h1).1).2.2] at hx
        rw [(oldb b' (w1 i' b' k2 h2).1).2.2] at hx'
        exact w2 i i' b b' x k1 k2 h1 h2 hx hx'
  · rw [m12, ud_s, l3] at hn
    rw [m56]
    exact w3 i hi (by rw [no']; omega)
end BC
end
section
/-! ===== a BOAT as one of a KIND: its DUES ===== -/
section AS
variable {τ τ1 : th_t} {Z : th_Zt} {gi gi1 gm gm2 : th_i} {gr gr1 rm rm2 : th_r} {A : Nat → Nat} {M1 M2 : List Nat}
theorem kn_at {q : Nat} {k : Int32} (h : b_kind τ q k) : FV_kindNumber τ Z gi gr q = k := by
  rcases h with ⟨t, e⟩ | ⟨t, e⟩ | ⟨t, e⟩
  · rw [FV_kindNumber_8 t, e]; rfl
  · rw [FV_kindNumber_9 t, e]; rfl
  · rw [FV_kindNumber_4 t, e]; rfl
/-- DUES at a rate -/
def f_due (k l r : Int32) : Int32 := if k = 1 then (l * r + 9) / 10 + (l * r + 9) / 10 / 2 else (l * r + 9) / 10
theorem fee_at {q : Nat} {k r : Int32} (h : b_kind τ q k) : FV_fee τ Z gi gr q r = f_due k (gi q 1) r := by
  unfold f_due
  rcases h with ⟨t, e⟩ | ⟨t, e⟩ | ⟨t, e⟩
  · rw [FV_fee_8 t, e, if_neg (by decide)]; rfl
  · rw [FV_fee_9 t, e, if_pos rfl]; rfl
  · rw [FV_fee_4 t, e, if_neg (by decide)]; rfl
theorem due_at (hQ : ro_M τ rm A) {v : Int32} : F_X12_duesOf τ Z gm rm (A 12) v = f_due (gm (A 47) v.toNatClampNeg) (gm (A 48) v.toNatClampNeg) (gm (A 12) 23) := by
  unfold F_X12_duesOf f_due
  dsimp only
  rw [hQ.g 10 48 (by decide), hQ.g 9 47 (by decide)]
theorem s_as (hJ : th_J τ gi gr) (hC : ro_C τ gr A) (hQ : ro_M τ rm A) (no : c_eq 1 6 8 gi gm A) (ra : c_eq 11 8 23 gi gm A) (hb : c_boat τ gi gr gm A) {v k r1 r2 : Int32} (e1 : F_X11_as τ Z gi gr (A 11) v k = (r1, gi1)) (e2 : F_X12_as τ Z gm rm (A 12) v k = (r2, gm2)) : r1 = r2 := by
  have no' : gm (A 12) 8 = gi (A 1) 6 := no.symm
  have ra' : gm (A 12) 23 = gi (A 11) 8 := ra.symm
  unfold F_X11_as f_X11_as_20 F_X11_isKind at e1
  unfold F_X12_as F_X12_isBoat f_X12_as_17 f_X12_as_38 at e2
  dsimp only at e1 e2
  rw [hC.g 11 0 1 (by decide)] at e1
  rw [w0_m, w0_m, no', due_at hQ, hQ.g 9 47 (by decide), ra'] at e2
  by_cases g1 : W0 v 0 (gi (A 1) 6 - 1) = 0
  · rw [bo_no hJ hC g1] at e1
    rw [if_pos g1] at e2
    exact (s_fip hC hQ (w1 := 1) (by decide) (by decide) e1 e2).1
  obtain ⟨f1, f2, f3, f4⟩ := bo_yes (Z := Z) hJ hC g1
  obtain ⟨q, a1, a2, a3, a4, a5, a6, a7⟩ := hb v.toNatClampNeg (by rw [f3, no']; exact f4)
  rw [f1, a1] at e1
  rw [if_neg g1] at e2
  simp only [Option.elim_some] at e1
  rw [w0_c] at e1
  by_cases g2 : W0 k 0 2 = 0
  · rw [if_pos g2] at e1 e2
    exact (s_fip hC hQ (w1 := 1) (by decide) (by decide) e1 e2).1
  rw [if_neg g2] at e1 e2
  unfold F_X2_isOf at e1
  dsimp only at e1
  rw [kn_at a5, fee_at a5, a3] at e1
  have h10 : ¬ (1 : Int32) = 0 := by decide
  by_cases g3 : k = 0
  · rw [if_pos g3, if_neg h10] at e1
    rw [if_pos g3] at e2
    exact (pr2 e1).1.symm.trans (pr2 e2).1
  · rw [if_neg g3] at e1 e2
    by_cases g4 : k = gm (A 47) v.toNatClampNeg
    · rw [if_pos g4, if_neg h10] at e1
      rw [if_pos g4.symm] at e2
      exact (pr2 e1).1.symm.trans (pr2 e2).1
    · rw [if_neg g4, if_pos rfl] at e1
      rw [if_neg (fun q => g4 q.symm)] at e2
      exact (s_fip hC hQ (w1 := 5) (by decide) (by decide) e1 e2).1
end AS
end
