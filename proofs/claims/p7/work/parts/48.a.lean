section
/-! ===== BOATS: their cells ===== -/
section BT
variable {τ τ1 tO : th_t} {Z : th_Zt} {gi gi1 gm gm2 gO : th_i} {gr gr1 rm rm2 qO : th_r} {A : Nat → Nat} {M1 M2 : List Nat} {h0 : Nat}
def b_kind (τ : th_t) (q : Nat) (k : Int32) : Prop := τ q = 8 ∧ k = 0 ∨ τ q = 9 ∧ k = 1 ∨ τ q = 4 ∧ k = 2
/-- what is there of a BOAT that came: its number, LENGTH, DRAUGHT, its KIND -/
def b_at (τ : th_t) (gi : th_i) (gr : th_r) (gm : th_i) (A : Nat → Nat) (i q : Nat) : Prop := gr (A 21) i = some q ∧ (gi q 0).toInt = (i : Int) ∧ gi q 1 = gm (A 48) i ∧ gi q 2 = gm (A 49) i ∧ b_kind τ q (gm (A 47) i) ∧ rg 10 300 (gi q 1) ∧ rg 0 100 (gi q 2)
def c_boat (τ : th_t) (gi : th_i) (gr : th_r) (gm : th_i) (A : Nat → Nat) : Prop := ∀ i : Nat, (i : Int) < (gm (A 12) 8).toInt → ∃ q, b_at τ gi gr gm A i q
theorem b_kind.nz {q : Nat} {k : Int32} (h : b_kind τ q k) : τ q = 8 ∨ τ q = 9 ∨ τ q = 4 := by
  rcases h with h | h | h
  · exact Or.inl h.1
  · exact Or.inr (Or.inl h.1)
  · exact Or.inr (Or.inr h.1)
theorem b_cell (h1 : th_Mod M1 τ gi gr gi1 gr1) {q k : Nat} (ht : τ q = 8 ∨ τ q = 9 ∨ τ q = 4) (k8 : 800 + k ∉ M1) (k9 : 900 + k ∉ M1) (k4 : 400 + k ∉ M1) : gi1 q k = gi q k ∧ gr1 q k = gr q k := by
  rcases ht with t | t | t
  · exact ro_k h1 k t (by decide) k8
  · exact ro_k h1 k t (by decide) k9
  · exact ro_k h1 k t (by decide) k4
theorem c_boat.fr (hC : ro_C τ gr A) (hQ : ro_M τ rm A) (h1 : th_Mod M1 τ gi gr gi1 gr1) (h2 : th_Mod M2 τ gm rm gm2 rm2) (k1 : ∀ k ∈ [2100, 800, 801, 802, 900, 901, 902, 400, 401, 402], k ∉ M1) (k2 : ∀ k ∈ [1208, 4700, 4800, 4900], k ∉ M2) (h : c_boat τ gi gr gm A) : c_boat τ gi1 gr1 gm2 A := by
  have e12 := (ro_k h2 8 hQ.1 (by decide) (k2 1208 (by decide))).1
  have e47 := (ro_ka h2 (hQ.t 9 47 (by decide)) (by decide) (k2 4700 (by decide))).1
  have e48 := (ro_ka h2 (hQ.t 10 48 (by decide)) (by decide) (k2 4800 (by decide))).1
  have e49 := (ro_ka h2 (hQ.t 11 49 (by decide)) (by decide) (k2 4900 (by decide))).1
  have e21 := (ro_ka h1 (hC.t 21 21 (by decide) rfl) (by decide) (k1 2100 (by decide))).2
  intro i hi
  rw [e12] at hi
  obtain ⟨q, a1, a2, a3, a4, a5, a6, a7⟩ := h i hi
  have t := a5.nz
  refine ⟨q, by rw [e21]; exact a1, ?_, ?_, ?_, by rw [e47]; exact a5, ?_, ?_⟩
  · rw [(b_cell (k := 0) h1 t (k1 800 (by decide)) (k1 900 (by decide)) (k1 400 (by decide))).1]; exact a2
  · rw [(b_cell (k := 1) h1 t (k1 801 (by decide)) (k1 901 (by decide)) (k1 401 (by decide))).1, e48]; exact a3
  · rw [(b_cell (k := 2) h1 t (k1 802 (by decide)) (k1 902 (by decide)) (k1 402 (by decide))).1, e49]; exact a4
  · rw [(b_cell (k := 1) h1 t (k1 801 (by decide)) (k1 901 (by decide)) (k1 401 (by decide))).1]; exact a6
  · rw [(b_cell (k := 2) h1 t (k1 802 (by decide)) (k1 902 (by decide)) (k1 402 (by decide))).1]; exact a7
theorem b_kind.ext {q : Nat} {k : Int32} (hx : ∀ b, τ b ≠ 0 → τ1 b = τ b) (h : b_kind τ q k) : b_kind τ1 q k := by
  rcases h with h | h | h
  · exact Or.inl ⟨(hx q (by rw [h.1]; decide)).trans h.1, h.2⟩
  · exact Or.inr (Or.inl ⟨(hx q (by rw [h.1]; decide)).trans h.1, h.2⟩)
  · exact Or.inr (Or.inr ⟨(hx q (by rw [h.1]; decide)).trans h.1, h.2⟩)
theorem c_boat.ext (hx : ∀ b, τ b ≠ 0 → τ1 b = τ b) (h : c_boat τ gi gr gm A) : c_boat τ1 gi gr gm A := fun i hi => by
  obtain ⟨q, a1, a2, a3, a4, a5, a6, a7⟩ := h i hi
  exact ⟨q, a1, a2, a3, a4, a5.ext hx, a6, a7⟩
/-- the makers of a BOAT -/
def b_new (τ : th_t) (gi : th_i) (gr : th_r) (tO : th_t) (gO : th_i) (qO : th_r) (h0 : Nat) (p1 p2 p3 : Int32) : Prop := mk_fr τ gi gr tO gO qO ∧ gO h0 0 = p1 ∧ gO h0 1 = p2 ∧ gO h0 2 = p3 ∧ gO h0 4 = 0 ∧ gO h0 5 = 0 ∧ ∃ w, qO h0 3 = some w ∧ tO w = 27 ∧ τ w = 0
theorem b_X8 {p1 p2 p3 : Int32} (h : M_X8_init τ Z gi gr h0 p1 p2 p3 tO gO qO) (hz : τ h0 = 0) : b_new τ gi gr tO gO qO h0 p1 p2 p3 ∧ tO h0 = 8 := by
  unfold M_X8_init M_X2_init_8 at h
  obtain ⟨τ1, gi1, gr1, ⟨q1, z1, n1, e1, e2, e3⟩, f1, f2, f3⟩ := h
  subst f1 f2 f3
  refine ⟨⟨fun a ha => ?_, mk_at e2 0, mk_at e2 1, mk_at e2 2, mk_at e2 4, mk_at e2 5, q1, mk_at e3 3, ?_, z1⟩, ?_⟩
  · have a0 := ne_z ha hz
    have a1 := ne_z ha z1
    exact ⟨by rw [e1, va_up_ne _ _ a0, va_up_ne _ _ a1], by rw [e2, va_up_ne _ _ a0, va_up_ne _ _ a1], by rw [e3, va_up_ne _ _ a0]⟩
  · rw [e1, va_up_ne _ _ (Ne.symm n1), va_up_self]
  · rw [e1, va_up_self]
theorem b_X9 {p1 p2 p3 : Int32} (h : M_X9_init τ Z gi gr h0 p1 p2 p3 tO gO qO) (hz : τ h0 = 0) : b_new τ gi gr tO gO qO h0 p1 p2 p3 ∧ tO h0 = 9 := by
  unfold M_X9_init M_X2_init_9 at h
  obtain ⟨τ1, gi1, gr1, ⟨q1, z1, n1, e1, e2, e3⟩, f1, f2, f3⟩ := h
  subst f1 f2 f3
  refine ⟨⟨fun a ha => ?_, mk_at e2 0, mk_at e2 1, mk_at e2 2, mk_at e2 4, mk_at e2 5, q1, mk_at e3 3, ?_, z1⟩, ?_⟩
  · have a0 := ne_z ha hz
    have a1 := ne_z ha z1
    exact ⟨by rw [e1, va_up_ne _ _ a0, va_up_ne _ _ a1], by rw [e2, va_up_ne _ _ a0, va_up_ne _ _ a1], by rw [e3, va_up_ne _ _ a0]⟩
  · rw [e1, va_up_ne _ _ (Ne.symm n1), va_up_self]
  · rw [e1, va_up_self]
theorem b_X4 {p1 p2 p3 : Int32} (h : M_X4_init τ Z gi gr h0 p1 p2 p3 tO gO qO) (hz : τ h0 = 0) : b_new τ gi gr tO gO qO h0 p1 p2 p3 ∧ tO h0 = 4 := by
  unfold M_X4_init M_X2_init_4 at h
  obtain ⟨τ1, gi1, gr1, ⟨q1, z1, n1, e1, e2, e3⟩, f1, f2, f3⟩ := h
  subst f1 f2 f3
  refine ⟨⟨fun a ha => ?_, mk_at e2 0, mk_at e2 1, mk_at e2 2, mk_at e2 4, mk_at e2 5, q1, mk_at e3 3, ?_, z1⟩, ?_⟩
  · have a0 := ne_z ha hz
    have a1 := ne_z ha z1
    exact ⟨by rw [e1, va_up_ne _ _ a0, va_up_ne _ _ a1], by rw [e2, va_up_ne _ _ a0, va_up_ne _ _ a1], by rw [e3, va_up_ne _ _ a0]⟩
  · rw [e1, va_up_ne _ _ (Ne.symm n1), va_up_self]
  · rw [e1, va_up_self]
theorem b_nb {k p1 p2 p3 : Int32} {q : Nat} (hk : ¬ W0 k 0 2 = 0) (h : M_X0_newBoat τ Z gi gr k p1 p2 p3 q tO gO qO) : b_new τ gi gr tO gO qO q p1 p2 p3 ∧ b_kind tO q k ∧ τ q = 0 := by
  unfold M_X0_newBoat at h
  by_cases c1 : k.toInt = 1
  · rw [if_pos c1] at h
    obtain ⟨q2, z, t3, g3, r3, hm, e1, e2, e3, e4⟩ := h
    subst e1 e2 e3 e4
    obtain ⟨b1, b2⟩ := b_X9 hm z
    exact ⟨b1, Or.inr (Or.inl ⟨b2, Int32.toInt_inj.mp (by rw [c1]; decide)⟩), z⟩
  rw [if_neg c1] at h
  by_cases c2 : k.toInt = 2
  · rw [if_pos c2] at h
    obtain ⟨q2, z, t3, g3, r3, hm, e1, e2, e3, e4⟩ := h
    subst e1 e2 e3 e4
    obtain ⟨b1, b2⟩ := b_X4 hm z
    exact ⟨b1, Or.inr (Or.inr ⟨b2, Int32.toInt_inj.mp (by rw [c2]; decide)⟩), z⟩
  rw [if_neg c2] at h
  obtain ⟨q2, z, t3, g3, r3, hm, e1, e2, e3, e4⟩ := h
  subst e1 e2 e3 e4
  obtain ⟨b1, b2⟩ := b_X8 hm z
  refine ⟨b1, Or.inl ⟨b2, Int32.toInt_inj.mp ?_⟩, z⟩
  obtain ⟨w1, w2⟩ := w0_no hk
  have l1 := Int32.le_iff_toInt_le.mp w1
  have l2 := Int32.le_iff_toInt_le.mp w2
  have l3 : (2 : Int32).toInt = 2 := by decide
  have l4 : (0 : Int32).toInt = 0 := by decide
  omega
/-- a BOAT comes: either a finding, or a new cell at the end of the row -/
theorem b_come (hC : ro_C τ gr A) {v1 v2 v3 r1 : Int32} (e1 : M_X11_boat τ Z gi gr (A 11) v1 v2 v3 r1 τ1 gi1 gr1) (hg : ¬ W0 v1 0 2 = 0 ∧ ¬ W0 v2 10 300 = 0 ∧ ¬ W0 v3 0 100 = 0 ∧ gi (A 1) 6 < 16) : ∃ q g r, b_new τ gi gr τ1 g r q (gi (A 1) 6) v2 v3 ∧ b_kind τ1 q v1 ∧ τ q = 0 ∧ r1 = gi (A 1) 6 ∧ gi1 = va_up g (A 1) (upd (g (A 1)) 6 (gi (A 1) 6 + 1)) ∧ gr1 = va_up r (A 21) (va_up (r (A 21)) (gi (A 1) 6).toNatClampNeg (some q)) := by
  obtain ⟨g1, g2, g3, g5⟩ := hg
  unfold M_X11_boat at e1
  simp only [F_X11_isKind, w0_c, hC.g 11 0 1 (by decide)] at e1
  rw [if_neg g1, if_neg g2, if_neg g3, if_pos g5] at e1
  obtain ⟨x, t, g, r, hm, rfl, rfl, rfl, rfl⟩ := e1
  unfold M_X0_addBoat at hm
  dsimp only at hm
  rw [if_neg (Int32.not_le.mpr g5), hC.g 1 1 21 (by decide)] at hm
  obtain ⟨q6, τ6, gi6, gr6, hn, g14, hg, k1, k2, k3, k4⟩ := hm
  subst k2
  obtain ⟨b1, b2, b3⟩ := b_nb g1 hn
  exact ⟨q6, gi6, gr6, b1, b2, b3, k1, by rw [k3, hg], k4⟩
end BT
end
section
/-! ===== what a BOAT would rather have ===== -/
section WI
variable {τ τ1 : th_t} {Z : th_Zt} {gi gi1 gm gm2 : th_i} {gr gr1 rm rm2 : th_r} {A : Nat → Nat} {M1 M2 : List Nat}
theorem w0_n {v n : Int32} {m : Int} (hm : m ≤ 100) (hn : rg 0 m n) : W0 v 0 (n - 1) = 0 ↔ ¬ (0 ≤ v.toInt ∧ v.toInt < n.toInt) := by
  have e : (n - 1).toInt = n.toInt - 1 := by
    have h1 : (1 : Int32).toInt = 1 := by decide
    rw [Int32.toInt_sub, h1]
    have := hn.1
    have := hn.2
    exact rg_bm (by omega) (by omega)
  have h0 : (0 : Int32).toInt = 0 := by decide
  rw [w0_iff, Int32.le_iff_toInt_le, Int32.le_iff_toInt_le, e, h0]
  constructor
  · intro h q
    exact h ⟨q.1, by omega⟩
  · intro h q
    exact h ⟨q.1, by omega⟩
theorem i_cl {v : Int32} (h : 0 ≤ v.toInt) : ((v.toNatClampNeg : Nat) : Int) = v.toInt := Int.toNat_of_nonneg h
theorem cl_in {v : Int32} {n : Nat} (h : (n : Int) = v.toInt) : v.toNatClampNeg = n := by
  show v.toInt.toNat = n
  omega
theorem n_b (hJ : th_J τ gi gr) (hC : ro_C τ gr A) : rg 0 16 (gi (A 1) 6) := (hJ.at (hC.t 1 1 (by decide) rfl) (by decide)).2.2.2.2.2.2
theorem bo_no (hJ : th_J τ gi gr) (hC : ro_C τ gr A) {v : Int32} (h : W0 v 0 (gi (A 1) 6 - 1) = 0) : F_X0_boatAt τ Z gi gr (A 1) v = none := by
  unfold F_X0_boatAt
  dsimp only
  rw [w0_c, if_pos h]
theorem bo_yes (hJ : th_J τ gi gr) (hC : ro_C τ gr A) {v : Int32} (h : ¬ W0 v 0 (gi (A 1) 6 - 1) = 0) : F_X0_boatAt τ Z gi gr (A 1) v = gr (A 21) v.toNatClampNeg ∧ v.toNatClampNeg < 16 ∧ ((v.toNatClampNeg : Nat) : Int) = v.toInt ∧ v.toInt < (gi (A 1) 6).toInt := by
  have hn := n_b hJ hC
  have h1 := Decidable.not_not.mp (fun q => h ((w0_n (by decide) hn).mpr q))
  have h2 := hn.2
  have h16 : ¬ (16 : Int32) ≤ v := fun q => by
    have q1 := Int32.le_iff_toInt_le.mp q
    have q2 : (16 : Int32).toInt = 16 := by decide
    omega
  refine ⟨?_, cl_lt h1.1 (by omega), i_cl h1.1, h1.2⟩
  unfold F_X0_boatAt
  dsimp only
  rw [w0_c, if_neg h, if_neg h16, hC.g 1 1 21 (by decide)]
/-- wishes: how many, and which; rows of their own; none of BOATS that haven't come -/
def b_wish (τ : th_t) (gi : th_i) (gr : th_r) (gm : th_i) (A : Nat → Nat) (i q : Nat) : Prop := (τ q = 8 ∨ τ q = 9 ∨ τ q = 4) ∧ gi q 4 = gm (A 56) i ∧ ∃ w, gr q 3 = some w ∧ τ w = 27 ∧ ∀ j : Nat, (j : Int) < (gm (A 56) i).toInt → gi w j = gm (A 57) (4 * i + j)
def c_wish (τ : th_t) (gi : th_i) (gr : th_r) (gm : th_i) (A : Nat → Nat) : Prop := (∀ i q : Nat, (i : Int) < (gm (A 12) 8).toInt → gr (A 21) i = some q → b_wish τ gi gr gm A i q) ∧ (∀ i i' q q' w : Nat, (i : Int) < (gm (A 12) 8).toInt → (i' : Int) < (gm (A 12) 8).toInt → gr (A 21) i = some q → gr (A 21) i' = some q' → gr q 3 = some w → gr q' 3 = some w → i = i') ∧ ∀ i : Nat, i < 16 → (gm (A 12) 8).toInt ≤ (i : Int) → gm (A 56) i = 0
theorem fm_c (hC : ro_C τ gr A) (k : ∀ a, a ≠ A 36 → gi1 a = gi a) : th_Mod [3600] τ gi gr gi1 gr := fun b j _ hk => ⟨congrFun (k b (fun e => hk (by rw [e, hC.t 36 36 (by decide) rfl]; show (3600 : Nat) ∈ _; decide))) j, rfl⟩
theorem fm_m (hQ : ro_M τ rm A) (k : ∀ a, a ≠ A 59 → gm2 a = gm a) : th_Mod [5900] τ gm rm gm2 rm := fun b j _ hk => ⟨congrFun (k b (fun e => hk (by rw [e, hQ.t 26 59 (by decide)]; show (5900 : Nat) ∈ _; decide))) j, rfl⟩
theorem c_wish.fr (hC : ro_C τ gr A) (hQ : ro_M τ rm A) (h1 : th_Mod M1 τ gi gr gi1 gr1) (h2 : th_Mod M2 τ gm rm gm2 rm2) (k1 : ∀ k ∈ [2100, 2700, 803, 804, 903, 904, 403, 404], k ∉ M1) (k2 : ∀ k ∈ [1208, 5600, 5700], k ∉ M2) (h : c_wish τ gi gr gm A) : c_wish τ gi1 gr1 gm2 A := by
  have e12 := (ro_k h2 8 hQ.1 (by decide) (k2 1208 (by decide))).1
  have e56 := (ro_ka h2 (hQ.t 21 56 (by decide)) (by decide) (k2 5600 (by decide))).1
  have e57 := (ro_ka h2 (hQ.t 22 57 (by decide)) (by decide) (k2 5700 (by decide))).1
  have e21 := (ro_ka h1 (hC.t 21 21 (by decide) rfl) (by decide) (k1 2100 (by decide))).2
  have e3 : ∀ q, (τ q = 8 ∨ τ q = 9 ∨ τ q = 4) → gr1 q 3 = gr q 3 := fun q t => (b_cell (k := 3) h1 t (k1 803 (by decide)) (k1 903 (by decide)) (k1 403 (by decide))).2
  obtain ⟨w1, w2, w3⟩ := h
  refine ⟨fun i q hi hq => ?_, fun i i' q q' w hi hi' hq hq' hw hw' => ?_, ?_⟩
  · rw [e12] at hi
    rw [e21] at hq
    obtain ⟨x0, x1, w, x2, tw, x3⟩ := w1 i q hi hq
    refine ⟨x0, ?_, w, by rw [e3 q x0]; exact x2, tw, fun j hj => ?_⟩
    · rw [(b_cell (k := 4) h1 x0 (k1 804 (by decide)) (k1 904 (by decide)) (k1 404 (by decide))).1, e56]
      exact x1
    · rw [e56] at hj
      rw [(ro_ka h1 tw (by decide) (k1 2700 (by decide))).1, e57]
      exact x3 j hj
  · rw [e12] at hi hi'
    rw [e21] at hq hq'
    rw [e3 q (w1 i q hi hq).1] at hw
    rw [e3 q' (w1 i' q' hi' hq').1] at hw'
    exact w2 i i' q q' w hi hi' hq hq' hw hw'
  · rw [e12, e56]
    exact w3
theorem c_wish.ext (hx : ∀ b, τ b ≠ 0 → τ1 b = τ b) (h : c_wish τ gi gr gm A) : c_wish τ1 gi gr gm A := by
  obtain ⟨w1, w2, w3⟩ := h
  refine ⟨fun i q hi hq => ?_, w2, w3⟩
  obtain ⟨x0, x1, w, x2, tw, x3⟩ := w1 i q hi hq
  refine ⟨?_, x1, w, x2, (hx w (by rw [tw]; decide)).trans tw, x3⟩
  rcases x0 with t | t | t
  · exact Or.inl ((hx q (by rw [t]; decide)).trans t)
  · exact Or.inr (Or.inl ((hx q (by rw [t]; decide)).trans t))
  · exact Or.inr (Or.inr ((hx q (by rw [t]; decide)).trans t))
theorem s_content (hJ : th_J τ gi gr) (hC : ro_C τ gr A) (hQ : ro_M τ rm A) (no : c_eq 1 6 8 gi gm A) (hb : c_boat τ gi gr gm A) (h : c_wish τ gi gr gm A) {v r1 r2 : Int32} (e1 : F_X11_content τ Z gi gr (A 11) v = (r1, gi1)) (e2 : F_X12_content τ Z gm rm (A 12) v = (r2, gm2)) : r1 = r2 ∧ c_wish τ gi1 gr gm2 A := by
  have no' : gm (A 12) 8 = gi (A 1) 6 := no.symm
  unfold F_X11_content at e1
  unfold F_X12_content F_X12_isBoat at e2
  dsimp only at e1 e2
  rw [hC.g 11 0 1 (by decide)] at e1
  rw [w0_m, no', hQ.g 21 56 (by decide)] at e2
  by_cases g1 : W0 v 0 (gi (A 1) 6 - 1) = 0
  · rw [bo_no hJ hC g1] at e1
    rw [if_pos g1] at e2
    obtain ⟨k1, k2, k3⟩ := s_fip hC hQ (w1 := 1) (by decide) (by decide) e1 e2
    exact ⟨k1, c_wish.fr hC hQ (fm_c hC k2) (fm_m hQ k3) (by decide) (by decide) h⟩
  · obtain ⟨f1, f2, f3, f4⟩ := bo_yes (Z := Z) hJ hC g1
    obtain ⟨q, a1, a2, a3, a4, a5, a6, a7⟩ := hb v.toNatClampNeg (by rw [f3, no']; exact f4)
    rw [f1, a1] at e1
    rw [if_neg g1] at e2
    obtain ⟨c1, c2⟩ := pr2 e1
    obtain ⟨d1, d2⟩ := pr2 e2
    obtain ⟨w1, w2, w3⟩ := h
    have hv := w1 v.toNatClampNeg q (by rw [f3, no']; exact f4) a1
    have m12 : gm2 (A 12) = gm (A 12) := by rw [← d2]; exact up_n (ro_ne hQ.1 (hQ.t 21 56 (by decide)) (by decide))
    have m57 : gm2 (A 57) = gm (A 57) := by rw [← d2]; exact up_n (ro_ne (hQ.t 22 57 (by decide)) (hQ.t 21 56 (by decide)) (by decide))
    refine ⟨by rw [← c1, ← d1]; exact hv.2.1, fun i q' hi hq' => ?_, by rw [m12]; exact w2, fun i hi hn => ?_⟩
    · rw [m12] at hi
      obtain ⟨x0, x1, w, x2, tw, x3⟩ := w1 i q' hi hq'
      obtain ⟨q2, b1, b2, b3, b4, b5, b6, b7⟩ := hb i hi
      have hqq : q2 = q' := Option.some.inj (b1.symm.trans hq')
      subst hqq
      have nw : w ≠ q := by
        rcases a5.nz with t | t | t <;> exact ro_ne tw t (by decide)
      have g57 : gi1 w = gi w := by rw [← c2]; exact up_n nw
      by_cases hiv : i = v.toNatClampNeg
      · subst hiv
        have : q2 = q := Option.some.inj (b1.symm.trans a1)
        subst this
        have z56 : gm2 (A 56) v.toNatClampNeg = 0 := by rw [← d2, up_s, ud_s]
        refine ⟨x0, by rw [z56, ← c2, up_s, ud_s], w, x2, tw, fun j hj => ?_⟩
        rw [z56] at hj
        have : (0 : Int32).toInt = 0 := by decide
        omega
      · have nq : q2 ≠ q := fun e => by
          rw [e] at b2
          rw [b2] at a2
          exact hiv (Int.ofNat_inj.mp a2)
        have z56 : gm2 (A 56) i = gm (A 56) i := by rw [← d2, up_s, ud_n hiv]
        refine ⟨x0, by rw [z56, ← c2, up_n nq]; exact x1, w, x2, tw, fun j hj => ?_⟩
        rw [z56] at hj
        rw [g57, m57]
        exact x3 j hj
    · rw [m12] at hn
      have : i ≠ v.toNatClampNeg := fun e => by
        subst e
        rw [f3, no'] at hn
        omega
      rw [← d2, up_s, ud_n this]
      exact w3 i hi hn
end WI
section WJ
variable {τ τ1 : th_t} {Z : th_Zt} {gi gi1 gm gm2 : th_i} {gr gr1 rm rm2 : th_r} {A : Nat → Nat} {M1 M2 : List Nat}
theorem n_p (hJ : th_J τ gi gr) (hC : ro_C τ gr A) : rg 0 12 (gi (A 1) 5) := (hJ.at (hC.t 1 1 (by decide) rfl) (by decide)).2.2.2.2.2.1
theorem bu_no (hJ : th_J τ gi gr) (hC : ro_C τ gr A) {v : Int32} (h : W0 v 0 (gi (A 1) 5 - 1) = 0) : F_X0_buoyAt τ Z gi gr (A 1) v = none := by
  unfold F_X0_buoyAt
  dsimp only
  rw [w0_c, if_pos h]
theorem bu_yes (hJ : th_J τ gi gr) (hC : ro_C τ gr A) {v : Int32} (h : ¬ W0 v 0 (gi (A 1) 5 - 1) = 0) : F_X0_buoyAt τ Z gi gr (A 1) v = gr (A 20) v.toNatClampNeg ∧ v.toNatClampNeg < 12 ∧ ((v.toNatClampNeg : Nat) : Int) = v.toInt ∧ v.toInt < (gi (A 1) 5).toInt := by
  have hn := n_p hJ hC
  have h1 := Decidable.not_not.mp (fun q => h ((w0_n (by decide) hn).mpr q))
  have h2 := hn.2
  have h16 : ¬ (12 : Int32) ≤ v := fun q => by
    have q1 := Int32.le_iff_toInt_le.mp q
    have q2 : (12 : Int32).toInt = 12 := by decide
    omega
  refine ⟨?_, cl_lt h1.1 (by omega), i_cl h1.1, h1.2⟩
  unfold F_X0_buoyAt
  dsimp only
  rw [w0_c, if_neg h, if_neg h16, hC.g 1 0 20 (by decide)]
/-- every BUOY that came has its cell -/
def c_bsh (gi : th_i) (gr : th_r) (gm : th_i) (A : Nat → Nat) : Prop := ∀ i : Nat, (i : Int) < (gm (A 12) 0).toInt → ∃ q, gr (A 20) i = some q
/-- the wish at a place -/
theorem wa_at {q w : Nat} {y : Int32} (hw : gr q 3 = some w) (hn : rg 0 4 (gi q 4)) (h0 : 0 ≤ y.toInt) (h1 : y.toInt < (gi q 4).toInt) : F_X2_wishAt τ Z gi gr q y = gi w y.toNatClampNeg := by
  have h2 := hn.2
  have g1 : ¬ W0 y 0 (gi q 4 - 1) = 0 := fun e => (w0_n (by decide) hn).mp e ⟨h0, h1⟩
  have g2 : ¬ (4 : Int32) ≤ y := fun e => by
    have q1 := Int32.le_iff_toInt_le.mp e
    have q2 : (4 : Int32).toInt = 4 := by decide
    omega
  unfold F_X2_wishAt
  dsimp only
  rw [w0_c, if_neg g1, if_neg g2, hw]
  rfl
theorem y_1 {y : Int32} {m : Int} (hm : m ≤ 1000) (h0 : 0 ≤ y.toInt) (h1 : y.toInt ≤ m) : (y + 1).toInt = y.toInt + 1 := by
  have e : (1 : Int32).toInt = 1 := by decide
  rw [Int32.toInt_add, e]
  exact rg_bm (by omega) (by omega)
theorem wf_sp {q w : Nat} {p : Int32} (hw : gr q 3 = some w) (hn : rg 0 4 (gi q 4)) : ∀ (n : Nat) (y : Int32), 0 ≤ y.toInt → (4 - y.toInt).toNat < n → (f_X2_wishesFor_2 τ Z gi gr q p n y = 1 ∧ ∃ j : Nat, y.toInt ≤ (j : Int) ∧ (j : Int) < (gi q 4).toInt ∧ gi w j = p) ∨ (f_X2_wishesFor_2 τ Z gi gr q p n y = 0 ∧ ∀ j : Nat, y.toInt ≤ (j : Int) → (j : Int) < (gi q 4).toInt → ¬ gi w j = p) := by
  intro n
  induction n with
  | zero => intro y h0 h; exact absurd h (Nat.not_lt_zero _)
  | succ n ih =>
    intro y h0 h
    have hn2 := hn.2
    unfold f_X2_wishesFor_2
    dsimp only
    by_cases hc : gi q 4 ≤ y
    · rw [if_pos hc]
      have hc' := Int32.le_iff_toInt_le.mp hc
      exact Or.inr ⟨rfl, fun j h1 h2 => by omega⟩
    · rw [if_neg hc]
      have hc' := Int32.lt_iff_toInt_lt.mp (Int32.not_le.mp hc)
      rw [wa_at hw hn h0 hc']
      by_cases hp : gi w y.toNatClampNeg = p
      · rw [if_pos hp]
        refine Or.inl ⟨rfl, y.toNatClampNeg, ?_, ?_, hp⟩
        · rw [i_cl h0]; exact Int.le_refl _
        · rw [i_cl h0]; exact hc'
      · rw [if_neg hp]
        have e := y_1 (m := 4) (by decide) h0 (by omega)
        rcases ih (y + 1) (by omega) (by omega) with ⟨k1, j, k2, k3, k4⟩ | ⟨k1, k2⟩
        · exact Or.inl ⟨k1, j, by omega, k3, k4⟩
        · refine Or.inr ⟨k1, fun j h1 h2 => ?_⟩
          by_cases hj : (j : Int) = y.toInt
          · rw [← cl_in hj]
            exact hp
          · exact k2 j (by omega) h2
/-- the reference: the row is looked through, then there is room or not -/
theorem ra_sp (hQ : ro_M τ rm A) {v p : Int32} (hv : 0 ≤ v.toInt ∧ v.toInt < 16) (hn : rg 0 4 (gm (A 56) v.toNatClampNeg)) : ∀ (n : Nat) (y : Int32), 0 ≤ y.toInt → (4 - y.toInt).toNat < n → (f_X12_rather_25 τ Z gi rm (A 12) v p n gm y = ((F_X12_finding τ Z gm rm (A 12) (-1000003)).1, (F_X12_finding τ Z gm rm (A 12) (-1000003)).2) ∧ ∃ j : Nat, y.toInt ≤ (j : Int) ∧ (j : Int) < (gm (A 56) v.toNatClampNeg).toInt ∧ gm (A 57) (4 * v.toNatClampNeg + j) = p) ∨ ((f_X12_rather_25 τ Z gi rm (A 12) v p n gm y = if gm (A 56) v.toNatClampNeg = 4 then ((F_X12_finding τ Z gm rm (A 12) (-1000004)).1, (F_X12_finding τ Z gm rm (A 12) (-1000004)).2) else (gm (A 56) v.toNatClampNeg + 1, va_up (va_up gm (A 57) (upd (gm (A 57)) (4 * v.toNatClampNeg + (gm (A 56) v.toNatClampNeg).toNatClampNeg) p)) (A 56) (upd (va_up gm (A 57) (upd (gm (A 57)) (4 * v.toNatClampNeg + (gm (A 56) v.toNatClampNeg).toNatClampNeg) p) (A 56)) v.toNatClampNeg (gm (A 56) v.toNatClampNeg + 1)))) ∧ ∀ j : Nat, y.toInt ≤ (j : Int) → (j : Int) < (gm (A 56) v.toNatClampNeg).toInt → ¬ gm (A 57) (4 * v.toNatClampNeg + j) = p) := by
  have ix : ∀ y : Int32, 0 ≤ y.toInt → y.toInt ≤ 4 → (4 * v + y).toNatClampNeg = 4 * v.toNatClampNeg + y.toNatClampNeg := fun y h0 h4 => by
    have e4 : (4 : Int32).toInt = 4 := by decide
    have m : (4 * v).toInt = 4 * v.toInt := by
      rw [Int32.toInt_mul, e4]
      exact rg_bm (by omega) (by omega)
    have s : (4 * v + y).toInt = 4 * v.toInt + y.toInt := by
      rw [Int32.toInt_add, m]
      exact rg_bm (by omega) (by omega)
    show (4 * v + y).toInt.toNat = 4 * v.toInt.toNat + y.toInt.toNat
    rw [s]
    omega
  intro n
  induction n with
  | zero => intro y h0 h; exact absurd h (Nat.not_lt_zero _)
  | succ n ih =>
    intro y h0 h
    have hn1 := hn.1
    have hn2 := hn.2
    unfold f_X12_rather_25
    dsimp only
    rw [hQ.g 21 56 (by decide), hQ.g 22 57 (by decide)]
    by_cases hc : gm (A 56) v.toNatClampNeg ≤ y
    · rw [if_pos hc, ix _ hn1 hn2]
      have hc' := Int32.le_iff_toInt_le.mp hc
      exact Or.inr ⟨rfl, fun j h1 h2 => by omega⟩
    · rw [if_neg hc]
      have hc' := Int32.lt_iff_toInt_lt.mp (Int32.not_le.mp hc)
      rw [ix y h0 (by omega)]
      by_cases hp : gm (A 57) (4 * v.toNatClampNeg + y.toNatClampNeg) = p
      · rw [if_pos hp]
        refine Or.inl ⟨rfl, y.toNatClampNeg, ?_, ?_, hp⟩
        · rw [i_cl h0]; exact Int.le_refl _
        · rw [i_cl h0]; exact hc'
      · rw [if_neg hp]
        have e := y_1 (m := 4) (by decide) h0 (by omega)
        rcases ih (y + 1) (by omega) (by omega) with ⟨k1, j, k2, k3, k4⟩ | ⟨k1, k2⟩
        · exact Or.inl ⟨k1, j, by omega, k3, k4⟩
        · refine Or.inr ⟨k1, fun j h1 h2 => ?_⟩
          by_cases hj : (j : Int) = y.toInt
          · rw [← cl_in hj]
            exact hp
          · exact k2 j (by omega) h2
theorem s_rather (hJ : th_J τ gi gr) (hJm : th_J τ gm rm) (hC : ro_C τ gr A) (hQ : ro_M τ rm A) (nb : c_eq 1 5 0 gi gm A) (no : c_eq 1 6 8 gi gm A) (hb : c_boat τ gi gr gm A) (hs : c_bsh gi gr gm A) (h : c_wish τ gi gr gm A) {v p r1 r2 : Int32} (e1 : F_X11_rather τ Z gi gr (A 11) v p = (r1, gi1)) (e2 : F_X12_rather τ Z gm rm (A 12) v p = (r2, gm2)) : r1 = r2 ∧ c_wish τ gi1 gr gm2 A := by
  have nb' : gm (A 12) 0 = gi (A 1) 5 := nb.symm
  have no' : gm (A 12) 8 = gi (A 1) 6 := no.symm
  unfold F_X11_rather f_X11_rather_24 at e1
  unfold F_X12_rather F_X12_isBoat F_X12_isBuoy f_X12_rather_16 at e2
  dsimp only at e1 e2
  rw [hC.g 11 0 1 (by decide)] at e1
  rw [w0_m, w0_m, no', nb'] at e2
  have fin : ∀ {w1 w2 : Int32}, ¬ W0 w1 1 5 = 0 → (-1000000) - w1 = w2 → ((F_X11_finding τ Z gi gr (A 11) w1).1, (F_X11_finding τ Z gi gr (A 11) w1).2) = (r1, gi1) → ((F_X12_finding τ Z gm rm (A 12) w2).1, (F_X12_finding τ Z gm rm (A 12) w2).2) = (r2, gm2) → r1 = r2 ∧ c_wish τ gi1 gr gm2 A := fun q1 q2 q3 q4 => by
    obtain ⟨k1, k2, k3⟩ := s_fip hC hQ q1 q2 q3 q4
    exact ⟨k1, c_wish.fr hC hQ (fm_c hC k2) (fm_m hQ k3) (by decide) (by decide) h⟩
  by_cases g1 : W0 v 0 (gi (A 1) 6 - 1) = 0
  · rw [bo_no hJ hC g1] at e1
    rw [if_pos g1] at e2
    exact fin (w1 := 1) (by decide) (by decide) e1 e2
  obtain ⟨f1, f2, f3, f4⟩ := bo_yes (Z := Z) hJ hC g1
  have hvi : ((v.toNatClampNeg : Nat) : Int) < (gm (A 12) 8).toInt := by rw [f3, no']; exact f4
  obtain ⟨q, a1, a2, a3, a4, a5, a6, a7⟩ := hb v.toNatClampNeg hvi
  rw [f1, a1] at e1
  rw [if_neg g1] at e2
  by_cases g2 : W0 p 0 (gi (A 1) 5 - 1) = 0
  · simp only [Option.elim_some, bu_no (Z := Z) hJ hC g2, Option.elim_none] at e1
    rw [if_pos g2] at e2
    exact fin (w1 := 1) (by decide) (by decide) e1 e2
  obtain ⟨m1, m2, m3, m4⟩ := bu_yes (Z := Z) hJ hC g2
  obtain ⟨qp, hqp⟩ := hs p.toNatClampNeg (by rw [m3, nb']; exact m4)
  rw [if_neg g2] at e2
  simp only [Option.elim_some, m1, hqp] at e1
  obtain ⟨w1, w2, w3⟩ := h
  obtain ⟨x0, x1, w, x2, tw, x3⟩ := w1 v.toNatClampNeg q hvi a1
  have rn : ∀ i, i < 16 → rg 0 4 (gm (A 56) i) := fun i hi => (hJm.at (hQ.t 21 56 (by decide)) (by decide)) i hi
  have hc := rn v.toNatClampNeg f2
  have hcg : rg 0 4 (gi q 4) := by rw [x1]; exact hc
  have hc1 := hc.1
  have hc2 := hc.2
  have n16 := (n_b hJ hC).2
  have hA := wf_sp (τ := τ) (Z := Z) (p := p) x2 hcg ((4 - (0 : Int32).toInt).toNat + 1) 0 (by decide) (Nat.lt_add_one _)
  have hB := ra_sp (Z := Z) (gi := gm) hQ (p := p) (v := v) ⟨by omega, by omega⟩ hc ((4 - (0 : Int32).toInt).toNat + 1) 0 (by decide) (Nat.lt_add_one _)
  have z0 : (0 : Int32).toInt = 0 := by decide
  have same : ∀ j : Nat, (j : Int) < (gm (A 56) v.toNatClampNeg).toInt → gi w j = gm (A 57) (4 * v.toNatClampNeg + j) := x3
  unfold F_X2_wishesFor at e1
  rcases hA with ⟨b1, j, b2, b3, b4⟩ | ⟨b1, b2⟩
  · rcases hB with ⟨d1, -⟩ | ⟨-, d2⟩
    · rw [b1, if_neg (by decide)] at e1
      rw [d1] at e2
      exact fin (w1 := 3) (by decide) (by decide) e1 e2
    · rw [x1] at b3
      exact absurd ((same j b3).symm.trans b4) (d2 j b2 b3)
  · rcases hB with ⟨-, j, d2, d3, d4⟩ | ⟨d1, -⟩
    · exact absurd ((same j d3).trans d4) (b2 j d2 (by rw [x1]; exact d3))
    · rw [b1, if_pos rfl] at e1
      rw [d1] at e2
      by_cases g4 : gi q 4 < 4
      · have hn4 : ¬ gm (A 56) v.toNatClampNeg = 4 := fun e => by
          rw [x1, e] at g4
          exact absurd g4 (by decide)
        have hlt : (gm (A 56) v.toNatClampNeg).toInt < 4 := by
          have e := Int32.lt_iff_toInt_lt.mp g4
          rw [x1] at e
          exact e
        rw [if_pos g4] at e1
        rw [if_neg hn4] at e2
        unfold F_X2_addWish at e1
        dsimp only at e1
        rw [if_neg (Int32.not_le.mpr g4), x2] at e1
        obtain ⟨c1, c2⟩ := pr2 e1
        obtain ⟨l1, l2⟩ := pr2 e2
        have nqw : q ≠ w := by
          rcases x0 with t | t | t <;> exact ro_ne t tw (by decide)
        have n57 : A 56 ≠ A 57 := ro_ne (hQ.t 21 56 (by decide)) (hQ.t 22 57 (by decide)) (by decide)
        have gq : gi1 q 4 = gi q 4 + 1 := by rw [← c2, up_s, ud_s]
        have go : ∀ a, a ≠ q → a ≠ w → gi1 a = gi a := fun a h1 h2 => by rw [← c2, up_n h1]; exact up_n h2
        have gw : gi1 w = upd (gi w) (gi q 4).toNatClampNeg p := by rw [← c2, up_n (Ne.symm nqw)]; exact up_s
        have m12 : gm2 (A 12) = gm (A 12) := by rw [← l2, up_n (ro_ne hQ.1 (hQ.t 21 56 (by decide)) (by decide)), up_n (ro_ne hQ.1 (hQ.t 22 57 (by decide)) (by decide))]
        have m56 : gm2 (A 56) = upd (gm (A 56)) v.toNatClampNeg (gm (A 56) v.toNatClampNeg + 1) := by rw [← l2, up_s, up_n n57]
        have m57 : gm2 (A 57) = upd (gm (A 57)) (4 * v.toNatClampNeg + (gm (A 56) v.toNatClampNeg).toNatClampNeg) p := by rw [← l2, up_n (Ne.symm n57), up_s]
        have cn := i_cl hc1
        have e1' := y_1 (m := 4) (by decide) hc1 hc2
        refine ⟨?_, fun i q' hi hq' => ?_, ?_, fun i hi hn => ?_⟩
        · rw [← l1, ← x1, ← gq]
          rw [← c2, ← c1]
        · rw [m12] at hi
          obtain ⟨y0, y1, w', y2, tw', y3⟩ := w1 i q' hi hq'
          have hi16 : i < 16 := by rw [no'] at hi; omega
          have hci := (rn i hi16).2
          by_cases hiv : i = v.toNatClampNeg
          · subst hiv
            have eq : q' = q := Option.some.inj (hq'.symm.trans a1)
            subst eq
            have ew : w' = w := Option.some.inj (y2.symm.trans x2)
            subst ew
            refine ⟨x0, by rw [gq, m56, ud_s, x1], w', x2, tw, fun j hj => ?_⟩
            rw [m56, ud_s, e1'] at hj
            rw [gw, m57, x1]
            by_cases hjn : j = (gm (A 56) v.toNatClampNeg).toNatClampNeg
            · rw [hjn, ud_s, ud_s]
            · rw [ud_n hjn, ud_n (by omega)]
              exact y3 j (by omega)
          · have nq : q' ≠ q := fun e => by
              obtain ⟨q2, o1, o2, -⟩ := hb i hi
              have : q2 = q' := Option.some.inj (o1.symm.trans hq')
              subst this
              rw [e, a2] at o2
              exact hiv (Int.ofNat_inj.mp o2).symm
            have nw : w' ≠ w := fun e => hiv (w2 i v.toNatClampNeg q' q w hi hvi hq' a1 (by rw [← e]; exact y2) x2)
            have nq' : q' ≠ w := by
              rcases y0 with t | t | t <;> exact ro_ne t tw (by decide)
            have nw' : w' ≠ q := by
              rcases x0 with t | t | t <;> exact ro_ne tw' t (by decide)
            refine ⟨y0, by rw [go q' nq nq', m56, ud_n hiv]; exact y1, w', y2, tw', fun j hj => ?_⟩
            rw [m56, ud_n hiv] at hj
            rw [go w' nw' nw, m57, ud_n (by omega)]
            exact y3 j hj
        · rw [m12]; exact w2
        · rw [m12] at hn
          have : i ≠ v.toNatClampNeg := fun e => by
            subst e
            omega
          rw [m56, ud_n this]
          exact w3 i hi hn
      · have h4 : gm (A 56) v.toNatClampNeg = 4 := by
          rw [← x1]
          exact i_lt 4 (by decide) hcg g4
        rw [if_neg g4] at e1
        rw [if_pos h4] at e2
        exact fin (w1 := 4) (by decide) (by decide) e1 e2
end WJ
end
section
/-! ===== RINGS: what they leave alone; nobody tells anything any more ===== -/
section SW
variable {τ τ1 : th_t} {Z : th_Zt} {gi gi1 gm gm2 : th_i} {gr gr1 rm rm2 : th_r} {A : Nat → Nat} {M1 M2 : List Nat}
theorem pa_fr (hC : ro_C τ gr A) : ∀ (n : Nat) (g : th_i) (y : Int32) (a : Nat), a ≠ A 29 → f_X6_pointAll_2 τ Z gi gr (A 6) n g y a = g a := by
  intro n
  induction n with
  | zero => intro g y a _; rfl
  | succ n ih =>
    intro g y a ha
    unfold f_X6_pointAll_2
    dsimp only
    by_cases hc : g ((gr (A 6) 0).getD 0) 6 ≤ y
    · rw [if_pos hc]
    · rw [if_neg hc]
      have key : ∀ o : Option Nat, f_X6_pointAll_33 τ Z gi gr (A 6) g y (f_X6_pointAll_2 τ Z gi gr (A 6) n) g o a = g a := fun o => by
        unfold f_X6_pointAll_33 f_X6_pointAll_49
        cases o with
        | none => exact ih _ _ a ha
        | some q =>
          show f_X6_pointAll_2 τ Z gi gr (A 6) n (va_up g ((gr (A 6) 2).getD 0) _) _ a = g a
          rw [hC.g 6 2 29 (by decide)]
          exact (ih _ _ a ha).trans (up_n ha)
      by_cases hd : F_X6_isLeft τ Z g gr (A 6) y = 0
      · rw [if_pos hd]
        exact key _
      · rw [if_neg hd]
        exact key _
theorem tr_fr (hC : ro_C τ gr A) {p : Int32} : ∀ (n : Nat) (g : th_i) (y z : Int32) (a : Nat), a ≠ A 6 → a ≠ A 28 → f_X6_takeRing_4 τ Z gi gr (A 6) p n g y z a = g a := by
  intro n
  induction n with
  | zero => intro g y z a _ _; rfl
  | succ n ih =>
    intro g y z a h6 h28
    unfold f_X6_takeRing_4
    dsimp only
    by_cases hc : (16 : Int32) ≤ z
    · rw [if_pos hc]
    · rw [if_neg hc]
      by_cases hd : F_X6_isLeft τ Z g gr (A 6) y = 0
      · rw [if_pos hd]
      · rw [if_neg hd, ih _ _ _ a h6 h28, hC.g 6 1 28 (by decide), up_n h28, up_n h6]
theorem dr_65 (hC : ro_C τ gr A) : ∀ (n : Nat) (g : th_i) (y : Int32) (a : Nat), a ≠ A 6 → a ≠ A 28 → a ≠ A 29 → f_X6_draw_65 τ Z gi gr (A 6) n g y a = g a := by
  intro n
  induction n with
  | zero => intro g y a _ _ _; rfl
  | succ n ih =>
    intro g y a h6 h28 h29
    unfold f_X6_draw_65
    dsimp only
    by_cases hc : (16 : Int32) ≤ y
    · rw [if_pos hc]
    · rw [if_neg hc]
      by_cases hd : g (A 6) 3 = 0
      · rw [if_pos hd]
      · rw [if_neg hd, ih _ _ a h6 h28 h29]
        unfold F_X6_takeRing F_X6_pointAll
        rw [tr_fr hC _ _ _ _ a h6 h28, pa_fr hC _ _ _ a h29]
theorem dr_7 (hC : ro_C τ gr A) : ∀ (n : Nat) (g : th_i) (y : Int32) (a : Nat), a ≠ A 6 → a ≠ A 28 → a ≠ A 29 → f_X6_draw_7 τ Z gi gr (A 6) n g y a = g a := by
  intro n
  induction n with
  | zero => intro g y a _ _ _; rfl
  | succ n ih =>
    intro g y a h6 h28 h29
    unfold f_X6_draw_7 f_X6_draw_57
    dsimp only
    by_cases hc : g ((gr (A 6) 0).getD 0) 6 ≤ y
    · rw [if_pos hc]
      exact dr_65 hC _ _ _ a h6 h28 h29
    · rw [if_neg hc, hC.g 6 1 28 (by decide)]
      by_cases hd : F_X1_buoyOf τ Z g gr ((gr ((gr (A 6) 0).getD 0) 4).getD 0) y = -1
      · rw [if_pos hd, ih _ _ a h6 h28 h29, up_n h28]
      · rw [if_neg hd, ih _ _ a h6 h28 h29, up_n h6, up_n h28]
theorem dr_fr (hC : ro_C τ gr A) {a : Nat} (h6 : a ≠ A 6) (h28 : a ≠ A 28) (h29 : a ≠ A 29) : F_X6_draw τ Z gi gr (A 6) a = gi a := by
  unfold F_X6_draw
  rw [dr_7 hC _ _ _ a h6 h28 h29, up_n h6]
theorem pu_fr {b x y a : Nat} {g : th_i} {p q : Int32} (hx : gr b 0 = some x) (hy : gr b 1 = some y) (h1 : a ≠ x) (h2 : a ≠ y) : F_X1_put τ Z g gr b p q a = g a := by
  unfold F_X1_put
  dsimp only
  rw [hx, hy]
  by_cases c1 : F_X11_within τ Z g gr p 0 15 = 0
  · rw [if_pos c1]
  · rw [if_neg c1]
    by_cases c2 : F_X11_within τ Z g gr q 0 11 = 0
    · rw [if_pos c2]
    · rw [if_neg c2]
      show va_up (va_up g x _) y _ a = g a
      rw [up_n h2, up_n h1]
/-- wishes are dropped -/
theorem dw_sp (hC : ro_C τ gr A) (hb : ∀ i : Nat, i < 16 → ∀ q, gr (A 21) i = some q → τ q = 8 ∨ τ q = 9 ∨ τ q = 4) : ∀ (n : Nat) (g : th_i) (y : Int32), rg 0 16 (g (A 1) 6) → 0 ≤ y.toInt → (16 - y.toInt).toNat < n → (∀ i q : Nat, y.toInt ≤ (i : Int) → (i : Int) < (g (A 1) 6).toInt → gr (A 21) i = some q → f_X0_dropWishes_2 τ Z gi gr (A 1) n g y q 4 = 0) ∧ (∀ q, g q 4 = 0 → f_X0_dropWishes_2 τ Z gi gr (A 1) n g y q 4 = 0) ∧ f_X0_dropWishes_2 τ Z gi gr (A 1) n g y (A 1) = g (A 1) := by
  intro n
  induction n with
  | zero => intro g y _ _ h; exact absurd h (Nat.not_lt_zero _)
  | succ n ih =>
    intro g y hn h0 h
    have hn2 := hn.2
    unfold f_X0_dropWishes_2 f_X0_dropWishes_25
    dsimp only
    by_cases hc : g (A 1) 6 ≤ y
    · rw [if_pos hc]
      have hc' := Int32.le_iff_toInt_le.mp hc
      exact ⟨fun i q h1 h2 => by omega, fun q hq => hq, rfl⟩
    · rw [if_neg hc]
      have hc' := Int32.lt_iff_toInt_lt.mp (Int32.not_le.mp hc)
      have e := y_1 (m := 16) (by decide) h0 (by omega)
      have gw : ¬ W0 y 0 (g (A 1) 6 - 1) = 0 := fun q => (w0_n (by decide) hn).mp q ⟨h0, hc'⟩
      have g16 : ¬ (16 : Int32) ≤ y := fun q => by
        have q1 := Int32.le_iff_toInt_le.mp q
        have q2 : (16 : Int32).toInt = 16 := by decide
        omega
      have eb : F_X0_boatAt τ Z g gr (A 1) y = gr (A 21) y.toNatClampNeg := by
        unfold F_X0_boatAt
        dsimp only
        rw [w0_c, if_neg gw, if_neg g16, hC.g 1 1 21 (by decide)]
      rw [eb]
      cases ho : gr (A 21) y.toNatClampNeg with
      | none =>
        obtain ⟨k1, k2, k3⟩ := ih g (y + 1) hn (by omega) (by omega)
        refine ⟨fun i q h1 h2 h3 => ?_, k2, k3⟩
        by_cases hi : (i : Int) = y.toInt
        · rw [cl_in hi] at ho
          rw [ho] at h3
          cases h3
        · exact k1 i q (by omega) h2 h3
      | some b =>
        have tb := hb y.toNatClampNeg (cl_lt h0 (by omega)) b ho
        have nb1 : A 1 ≠ b := by
          rcases tb with t | t | t <;> exact ro_ne (hC.t 1 1 (by decide) rfl) t (by decide)
        have e1 : va_up g b (upd (g b) 4 0) (A 1) = g (A 1) := up_n nb1
        obtain ⟨k1, k2, k3⟩ := ih (va_up g b (upd (g b) 4 0)) (y + 1) (by rw [e1]; exact hn) (by omega) (by omega)
        rw [e1] at k1 k3
        refine ⟨fun i q h1 h2 h3 => ?_, fun q hq => ?_, k3⟩
        · by_cases hi : (i : Int) = y.toInt
          · rw [cl_in hi] at ho
            have : b = q := Option.some.inj (ho.symm.trans h3)
            subst this
            exact k2 b (by rw [up_s, ud_s])
          · exact k1 i q (by omega) h2 h3
        · refine k2 q ?_
          by_cases hqb : q = b
          · subst hqb
            rw [up_s, ud_s]
          · rw [up_n hqb]
            exact hq
theorem sw_55 (hC : ro_C τ gr A) (hb : ∀ i : Nat, i < 16 → ∀ q, gr (A 21) i = some q → τ q = 8 ∨ τ q = 9 ∨ τ q = 4) : ∀ (n : Nat) (g : th_i) (x y : Int32), rg 0 16 (g (A 1) 6) → 0 ≤ y.toInt → (16 - y.toInt).toNat < n → ∀ i q : Nat, (i : Int) < (g (A 1) 6).toInt → gr (A 21) i = some q → (f_X11_swap_55 τ Z gi gr (A 11) n g x y).2 q 4 = 0 := by
  intro n
  induction n with
  | zero => intro g x y _ _ h; exact absurd h (Nat.not_lt_zero _)
  | succ n ih =>
    intro g x y hn h0 h i q hi hq
    have hn2 := hn.2
    unfold f_X11_swap_55
    dsimp only
    rw [hC.g 11 0 1 (by decide), hC.g 1 4 2 (by decide), hC.g 11 3 6 (by decide)]
    by_cases hc : g (A 1) 6 ≤ y
    · rw [if_pos hc]
      unfold F_X0_dropWishes
      have z0 : (0 : Int32).toInt = 0 := by decide
      exact (dw_sp (Z := Z) (gi := g) hC hb _ g 0 hn (by decide) (Nat.lt_add_one _)).1 i q (by omega) hi hq
    · rw [if_neg hc]
      have hc' := Int32.lt_iff_toInt_lt.mp (Int32.not_le.mp hc)
      have e := y_1 (m := 16) (by decide) h0 (by omega)
      have e1 : ∀ p1 p2, F_X1_put τ Z g gr (A 2) p1 p2 (A 1) = g (A 1) := fun p1 p2 => pu_fr (hC.e 2 0 24 (by decide)) (hC.e 2 1 25 (by decide)) (ro_ne (hC.t 1 1 (by decide) rfl) (hC.t 24 24 (by decide) rfl) (by decide)) (ro_ne (hC.t 1 1 (by decide) rfl) (hC.t 25 25 (by decide) rfl) (by decide))
      exact ih _ _ _ (by rw [e1]; exact hn) (by omega) (by omega) i q (by rw [e1]; exact hi) hq
end SW
end
section
/-! ===== RINGS of the reference: what they leave alone ===== -/
section SM
variable {τ τ1 : th_t} {Z : th_Zt} {gi gi1 gm gm2 : th_i} {gr gr1 rm rm2 : th_r} {A : Nat → Nat} {M1 M2 : List Nat}
def fr_a (A : Nat → Nat) (a : Nat) : Prop := a ≠ A 65 ∧ a ≠ A 66 ∧ a ≠ A 67
theorem fr_147f (hQ : ro_M τ rm A) {g0 : th_i} {y0 : Int32} {k : th_i → Int32 → th_i} (hk : ∀ g y a, fr_a A a → k g y a = g a) : ∀ (n : Nat) (g : th_i) (x y : Int32) (a : Nat), fr_a A a → f_X12_findRings_147 τ Z gi rm (A 12) g0 y0 k n g x y a = g a := by
  intro n
  induction n with
  | zero => intro g x y a _; rfl
  | succ n ih =>
    intro g x y a ha
    unfold f_X12_findRings_147
    dsimp only
    by_cases hc : x ≤ y
    · rw [if_pos hc]
      exact hk _ _ a ha
    · rw [if_neg hc, ih _ _ _ a ha, hQ.g 35 66 (by decide), up_n ha.2.1]
theorem fr_104f (hQ : ro_M τ rm A) {g0 : th_i} {y0 : Int32} {k : th_i → Int32 → th_i} (hk : ∀ g y a, fr_a A a → k g y a = g a) : ∀ (n : Nat) (g : th_i) (x y : Int32) (a : Nat), fr_a A a → f_X12_findRings_104 τ Z gi rm (A 12) g0 y0 k n g x y a = g a := by
  intro n
  induction n with
  | zero => intro g x y a _; rfl
  | succ n ih =>
    intro g x y a ha
    unfold f_X12_findRings_104
    dsimp only
    by_cases hc : x ≤ y
    · rw [if_pos hc]
      exact fr_147f hQ hk _ _ _ _ a ha
    · rw [if_neg hc, ih _ _ _ a ha, hQ.g 34 65 (by decide), up_n ha.1]
theorem fr_80f (hQ : ro_M τ rm A) {g0 : th_i} {y0 : Int32} {k : th_i → Int32 → th_i} (hk : ∀ g y a, fr_a A a → k g y a = g a) : ∀ (n : Nat) (g : th_i) (x y : Int32) (a : Nat), fr_a A a → f_X12_findRings_80 τ Z gi rm (A 12) g0 y0 k n g x y a = g a := by
  intro n
  induction n with
  | zero => intro g x y a _; rfl
  | succ n ih =>
    intro g x y a ha
    unfold f_X12_findRings_80
    dsimp only
    rw [hQ.g 36 67 (by decide)]
    by_cases hc : F_X12_pointed τ Z (va_up g (A 67) (upd (g (A 67)) y.toNatClampNeg x)) rm (A 12) x = y0
    · rw [if_pos hc, fr_104f hQ hk _ _ _ _ a ha, up_n ha.2.2]
    · rw [if_neg hc, ih _ _ _ a ha, up_n ha.2.2]
theorem fr_45f (hQ : ro_M τ rm A) : ∀ (n : Nat) (g : th_i) (y : Int32) (a : Nat), fr_a A a → f_X12_findRings_45 τ Z gi rm (A 12) n g y a = g a := by
  intro n
  induction n with
  | zero => intro g y a _; rfl
  | succ n ih =>
    intro g y a ha
    unfold f_X12_findRings_45 f_X12_findRings_70
    dsimp only
    by_cases hc : g (A 12) 8 ≤ y
    · rw [if_pos hc]
    · rw [if_neg hc]
      by_cases h1 : g ((rm (A 12) 35).getD 0) y.toNatClampNeg = 0
      · rw [if_pos h1]
        by_cases h2 : F_X12_isRound τ Z g rm (A 12) y = 0
        · rw [if_pos h2]
          exact ih _ _ a ha
        · rw [if_neg h2]
          exact fr_80f hQ ih _ _ _ _ a ha
      · rw [if_neg h1]
        exact ih _ _ a ha
theorem fr_2f (hQ : ro_M τ rm A) : ∀ (n : Nat) (g : th_i) (y : Int32) (a : Nat), fr_a A a → f_X12_findRings_2 τ Z gi rm (A 12) n g y a = g a := by
  intro n
  induction n with
  | zero => intro g y a _; rfl
  | succ n ih =>
    intro g y a ha
    unfold f_X12_findRings_2 f_X12_findRings_36
    dsimp only
    by_cases hc : g (A 12) 8 ≤ y
    · rw [if_pos hc]
      exact fr_45f hQ _ _ _ a ha
    · rw [if_neg hc, hQ.g 34 65 (by decide), hQ.g 35 66 (by decide), hQ.g 12 50 (by decide)]
      by_cases h1 : (0 : Int32) ≤ va_up g (A 65) (upd (g (A 65)) y.toNatClampNeg (-1)) (A 50) y.toNatClampNeg
      · rw [if_pos h1, ih _ _ a ha, up_n ha.2.1, up_n ha.1]
      · rw [if_neg h1, ih _ _ a ha, up_n ha.2.1, up_n ha.1]
theorem fr_fr (hQ : ro_M τ rm A) {a : Nat} (ha : fr_a A a) : F_X12_findRings τ Z gm rm (A 12) a = gm a := by
  unfold F_X12_findRings
  exact fr_2f hQ _ _ _ a ha
theorem fr_of (hQ : ro_M τ rm A) {a c : Nat} (ha : τ a = c) (h1 : c ≠ 65) (h2 : c ≠ 66) (h3 : c ≠ 67) : fr_a A a := ⟨ro_ne ha (hQ.t 34 65 (by decide)) h1, ro_ne ha (hQ.t 35 66 (by decide)) h2, ro_ne ha (hQ.t 36 67 (by decide)) h3⟩
theorem ms_8 (hQ : ro_M τ rm A) : ∀ (n : Nat) (g : th_i) (x y : Int32), rg 0 16 (g (A 12) 8) → 0 ≤ y.toInt → (16 - y.toInt).toNat < n → (∀ i : Nat, y.toInt ≤ (i : Int) → (i : Int) < (g (A 12) 8).toInt → (f_X12_swap_8 τ Z gi rm (A 12) n g x y).2 (A 56) i = 0) ∧ (∀ i : Nat, (i : Int) < y.toInt ∨ (g (A 12) 8).toInt ≤ (i : Int) → (f_X12_swap_8 τ Z gi rm (A 12) n g x y).2 (A 56) i = g (A 56) i) := by
  intro n
  induction n with
  | zero => intro g x y _ _ h; exact absurd h (Nat.not_lt_zero _)
  | succ n ih =>
    intro g x y hn h0 h
    have hn2 := hn.2
    unfold f_X12_swap_8
    dsimp only
    by_cases hc : g (A 12) 8 ≤ y
    · rw [if_pos hc]
      have hc' := Int32.le_iff_toInt_le.mp hc
      exact ⟨fun i h1 h2 => by omega, fun i _ => rfl⟩
    · rw [if_neg hc]
      have hc' := Int32.lt_iff_toInt_lt.mp (Int32.not_le.mp hc)
      have e := y_1 (m := 16) (by decide) h0 (by omega)
      have n12 : A 12 ≠ A 56 := ro_ne hQ.1 (hQ.t 21 56 (by decide)) (by decide)
      have go : ∀ (g' : th_i) (x' : Int32), g' (A 12) = g (A 12) → g' (A 56) = upd (g (A 56)) y.toNatClampNeg 0 → (∀ i : Nat, y.toInt ≤ (i : Int) → (i : Int) < (g (A 12) 8).toInt → (f_X12_swap_8 τ Z gi rm (A 12) n g' x' (y + 1)).2 (A 56) i = 0) ∧ (∀ i : Nat, (i : Int) < y.toInt ∨ (g (A 12) 8).toInt ≤ (i : Int) → (f_X12_swap_8 τ Z gi rm (A 12) n g' x' (y + 1)).2 (A 56) i = g (A 56) i) := fun g' x' e1 e2 => by
        obtain ⟨k1, k2⟩ := ih g' x' (y + 1) (by rw [e1]; exact hn) (by omega) (by omega)
        rw [e1] at k1 k2
        refine ⟨fun i h1 h2 => ?_, fun i h1 => ?_⟩
        · by_cases hi : (i : Int) = y.toInt
          · rw [k2 i (by omega), e2, cl_in hi, ud_s]
          · exact k1 i (by omega) h2
        · have : i ≠ y.toNatClampNeg := fun q => by
            have := i_cl h0
            rw [← q] at this
            omega
          rw [k2 i (by omega), e2, ud_n this]
      have g37 : ∀ z, (∀ i : Nat, y.toInt ≤ (i : Int) → (i : Int) < (g (A 12) 8).toInt → (f_X12_swap_37 τ Z gi rm (A 12) g x y (f_X12_swap_8 τ Z gi rm (A 12) n) g z).2 (A 56) i = 0) ∧ (∀ i : Nat, (i : Int) < y.toInt ∨ (g (A 12) 8).toInt ≤ (i : Int) → (f_X12_swap_37 τ Z gi rm (A 12) g x y (f_X12_swap_8 τ Z gi rm (A 12) n) g z).2 (A 56) i = g (A 56) i) := fun z => by
        unfold f_X12_swap_37 f_X12_swap_66 F_X12_lies
        dsimp only
        rw [hQ.g 21 56 (by decide), hQ.g 34 65 (by decide), hQ.g 12 50 (by decide), hQ.g 7 46 (by decide)]
        by_cases h1 : va_up g (A 56) (upd (g (A 56)) y.toNatClampNeg 0) (A 65) y.toNatClampNeg < 0
        · rw [if_pos h1]
          exact go _ _ (up_n n12) up_s
        · rw [if_neg h1]
          refine go _ _ ?_ ?_
          · rw [up_n (ro_ne hQ.1 (hQ.t 7 46 (by decide)) (by decide)), up_n (ro_ne hQ.1 (hQ.t 12 50 (by decide)) (by decide)), up_n n12]
          · rw [up_n (ro_ne (hQ.t 21 56 (by decide)) (hQ.t 7 46 (by decide)) (by decide)), up_n (ro_ne (hQ.t 21 56 (by decide)) (hQ.t 12 50 (by decide)) (by decide)), up_s]
      by_cases h1 : g ((rm (A 12) 34).getD 0) y.toNatClampNeg = g ((rm (A 12) 12).getD 0) y.toNatClampNeg
      · rw [if_pos h1]
        exact g37 _
      · rw [if_neg h1]
        exact g37 _
theorem sw_11 (hC : ro_C τ gr A) (hb : ∀ i : Nat, i < 16 → ∀ q, gr (A 21) i = some q → τ q = 8 ∨ τ q = 9 ∨ τ q = 4) : ∀ (n : Nat) (g : th_i) (x y : Int32), rg 0 16 (g (A 1) 6) → 0 ≤ y.toInt → (16 - y.toInt).toNat < n → ∀ i q : Nat, (i : Int) < (g (A 1) 6).toInt → gr (A 21) i = some q → (f_X11_swap_11 τ Z gi gr (A 11) n g x y).2 q 4 = 0 := by
  intro n
  induction n with
  | zero => intro g x y _ _ h; exact absurd h (Nat.not_lt_zero _)
  | succ n ih =>
    intro g x y hn h0 h i q hi hq
    have hn2 := hn.2
    unfold f_X11_swap_11 f_X11_swap_47
    dsimp only
    rw [hC.g 11 0 1 (by decide)]
    by_cases hc : g (A 1) 6 ≤ y
    · rw [if_pos hc]
      exact sw_55 hC hb _ g _ 0 hn (by decide) (Nat.lt_add_one _) i q hi hq
    · rw [if_neg hc]
      have hc' := Int32.lt_iff_toInt_lt.mp (Int32.not_le.mp hc)
      have e := y_1 (m := 16) (by decide) h0 (by omega)
      by_cases h1 : F_X6_buoyFor τ Z g gr ((gr (A 11) 3).getD 0) y = F_X1_buoyOf τ Z g gr ((gr (A 1) 4).getD 0) y
      · rw [if_pos h1]
        exact ih _ _ _ hn (by omega) (by omega) i q hi hq
      · rw [if_neg h1]
        exact ih _ _ _ hn (by omega) (by omega) i q hi hq
/-- swap: nobody tells anything any more -/
theorem s_swapW (hJ : th_J τ gi gr) (hJm : th_J τ gm rm) (hC : ro_C τ gr A) (hQ : ro_M τ rm A) (no : c_eq 1 6 8 gi gm A) (h : c_wish τ gi gr gm A) {r1 r2 : Int32} (h1 : th_Mod M1 τ gi gr gi1 gr) (h2 : th_Mod M2 τ gm rm gm2 rm) (k2 : th_key 12 8 ∉ M2) (e1 : F_X11_swap τ Z gi gr (A 11) = (r1, gi1)) (e2 : F_X12_swap τ Z gm rm (A 12) = (r2, gm2)) : c_wish τ gi1 gr gm2 A := by
  have no' : gm (A 12) 8 = gi (A 1) 6 := no.symm
  have m12 := (ro_k h2 8 hQ.1 (by decide) k2).1
  have n16 := n_b hJ hC
  have n16m : rg 0 16 (gm (A 12) 8) := by rw [no']; exact n16
  unfold F_X11_swap at e1
  unfold F_X12_swap at e2
  dsimp only at e1 e2
  rw [hC.g 11 3 6 (by decide)] at e1
  have d1 : F_X6_draw τ Z gi gr (A 6) (A 1) = gi (A 1) := dr_fr hC (ro_ne (hC.t 1 1 (by decide) rfl) (hC.t 6 6 (by decide) rfl) (by decide)) (ro_ne (hC.t 1 1 (by decide) rfl) (hC.t 28 28 (by decide) rfl) (by decide)) (ro_ne (hC.t 1 1 (by decide) rfl) (hC.t 29 29 (by decide) rfl) (by decide))
  have f12 : F_X12_findRings τ Z gm rm (A 12) (A 12) = gm (A 12) := fr_fr hQ (fr_of hQ hQ.1 (by decide) (by decide) (by decide))
  have f56 : F_X12_findRings τ Z gm rm (A 12) (A 56) = gm (A 56) := fr_fr hQ (fr_of hQ (hQ.t 21 56 (by decide)) (by decide) (by decide) (by decide))
  have hb : ∀ i : Nat, i < 16 → ∀ q, gr (A 21) i = some q → τ q = 8 ∨ τ q = 9 ∨ τ q = 4 := fun i hi q hq => (hJ.at (hC.t 21 21 (by decide) rfl) (by decide)) i hi q hq
  have z0 : (0 : Int32).toInt = 0 := by decide
  have cl := sw_11 (Z := Z) (gi := gi) hC hb ((16 - (0 : Int32).toInt).toNat + 1) (F_X6_draw τ Z gi gr (A 6)) 0 0 (by rw [d1]; exact n16) (by decide) (Nat.lt_add_one _)
  have mo := ms_8 (Z := Z) (gi := gm) hQ ((16 - (0 : Int32).toInt).toNat + 1) (F_X12_findRings τ Z gm rm (A 12)) 0 0 (by rw [f12]; exact n16m) (by decide) (Nat.lt_add_one _)
  rw [e1, d1] at cl
  rw [e2, f12, f56] at mo
  dsimp only at cl mo
  obtain ⟨w1, w2, w3⟩ := h
  refine ⟨fun i q hi hq => ?_, ?_, fun i hi hn => ?_⟩
  · rw [m12] at hi
    obtain ⟨x0, x1, w, x2, tw, x3⟩ := w1 i q hi hq
    have z := mo.1 i (by omega) hi
    refine ⟨x0, by rw [cl i q (by rw [← no']; exact hi) hq, z], w, x2, tw, fun j hj => ?_⟩
    rw [z] at hj
    omega
  · rw [m12]; exact w2
  · rw [m12] at hn
    rw [mo.2 i (Or.inr hn)]
    exact w3 i hi hn
end SM
end
section
/-! ===== a BOAT comes: the components behind it ===== -/
section BC
variable {τ τ1 : th_t} {Z : th_Zt} {gi gi1 gm gm2 : th_i} {gr gr1 rm rm2 : th_r} {A : Nat → Nat} {M1 M2 : List Nat}
/-- nothing but findings -/
def x_fin (τ : th_t) (gi : th_i) (gr : th_r) (gm : th_i) (A : Nat → Nat) (τ1 : th_t) (gi1 : th_i) (gr1 : th_r) (gm2 : th_i) : Prop := τ1 = τ ∧ gr1 = gr ∧ (∀ a, a ≠ A 36 → gi1 a = gi a) ∧ (∀ a, a ≠ A 59 → gm2 a = gm a)
theorem x_of (hC : ro_C τ gr A) (hQ : ro_M τ1 rm A) {w1 w2 r1 r2 : Int32} {tO : th_t} (hw : ¬ W0 w1 1 5 = 0) (hww : (-1000000) - w1 = w2) (e1 : r1 = (F_X11_finding τ Z gi gr (A 11) w1).1 ∧ tO = τ ∧ gi1 = (F_X11_finding τ Z gi gr (A 11) w1).2 ∧ gr1 = gr) (e2 : ((F_X12_finding τ1 Z gm rm (A 12) w2).1, (F_X12_finding τ1 Z gm rm (A 12) w2).2) = (r2, gm2)) : r1 = r2 ∧ x_fin τ gi gr gm A tO gi1 gr1 gm2 := by
  rw [fi_c hC hw] at e1
  rw [fi_m hQ] at e2
  dsimp only at e1 e2
  obtain ⟨a1, a2, a3, a4⟩ := e1
  obtain ⟨b1, b2⟩ := pr2 e2
  refine ⟨by rw [a1, ← b1]; exact hww, a2, a4, fun a ha => by rw [a3]; exact va_up_ne _ _ ha, fun a ha => by rw [← b2]; exact va_up_ne _ _ ha⟩
def bt_ok (τ : th_t) (gi : th_i) (gr : th_r) (gm : th_i) (A : Nat → Nat) (τ1 : th_t) (gi1 : th_i) (gr1 : th_r) (gm2 : th_i) (v1 v2 v3 : Int32) : Prop := gi (A 1) 6 < 16 ∧ rg 0 2 v1 ∧ rg 10 300 v2 ∧ rg 0 100 v3 ∧ (∃ q g r, b_new τ gi gr τ1 g r q (gi (A 1) 6) v2 v3 ∧ b_kind τ1 q v1 ∧ τ q = 0 ∧ gi1 = va_up g (A 1) (upd (g (A 1)) 6 (gi (A 1) 6 + 1)) ∧ gr1 = va_up r (A 21) (va_up (r (A 21)) (gi (A 1) 6).toNatClampNeg (some q))) ∧ gm2 (A 12) = upd (gm (A 12)) 8 (gi (A 1) 6 + 1) ∧ gm2 (A 47) = upd (gm (A 47)) (gi (A 1) 6).toNatClampNeg v1 ∧ gm2 (A 48) = upd (gm (A 48)) (gi (A 1) 6).toNatClampNeg v2 ∧ gm2 (A 49) = upd (gm (A 49)) (gi (A 1) 6).toNatClampNeg v3 ∧ gm2 (A 50) = upd (gm (A 50)) (gi (A 1) 6).toNatClampNeg (-1) ∧ ∀ a, a ≠ A 12 → a ≠ A 47 → a ≠ A 48 → a ≠ A 49 → a ≠ A 50 → gm2 a = gm a
theorem w0_rg {v a b : Int32} {l h : Int} (hl : a.toInt = l) (hh : b.toInt = h) (g : ¬ W0 v a b = 0) : rg l h v := by
  obtain ⟨q1, q2⟩ := w0_no g
  exact ⟨by rw [← hl]; exact Int32.le_iff_toInt_le.mp q1, by rw [← hh]; exact Int32.le_iff_toInt_le.mp q2⟩
theorem bt_cases (hJ : th_J τ gi gr) (hC : ro_C τ gr A) (hQ : ro_M τ1 rm A) (h : c_eq 1 6 8 gi gm A) {v1 v2 v3 r1 r2 : Int32} (e1 : M_X11_boat τ Z gi gr (A 11) v1 v2 v3 r1 τ1 gi1 gr1) (e2 : F_X12_boat τ1 Z gm rm (A 12) v1 v2 v3 = (r2, gm2)) : r1 = r2 ∧ (x_fin τ gi gr gm A τ1 gi1 gr1 gm2 ∨ bt_ok τ gi gr gm A τ1 gi1 gr1 gm2 v1 v2 v3) := by
  have hr : rg 0 16 (gi (A 1) 6) := n_b hJ hC
  have h10 : ((1 : Int32) = 0) = False := by decide
  have e1' := e1
  unfold M_X11_boat at e1
  unfold F_X12_boat at e2
  simp only [F_X11_isKind, w0_c, w0_m, f_X11_boat_29, f_X12_boat_31, h10, if_true, if_false, hC.g 11 0 1 (by decide)] at e1 e2
  have fin : ∀ {w1 w2 : Int32}, ¬ W0 w1 1 5 = 0 → (-1000000) - w1 = w2 → (r1 = (F_X11_finding τ Z gi gr (A 11) w1).1 ∧ τ1 = τ ∧ gi1 = (F_X11_finding τ Z gi gr (A 11) w1).2 ∧ gr1 = gr) → ((F_X12_finding τ1 Z gm rm (A 12) w2).1, (F_X12_finding τ1 Z gm rm (A 12) w2).2) = (r2, gm2) → r1 = r2 ∧ (x_fin τ gi gr gm A τ1 gi1 gr1 gm2 ∨ bt_ok τ gi gr gm A τ1 gi1 gr1 gm2 v1 v2 v3) := fun q1 q2 q3 q4 => by
    obtain ⟨k1, k2⟩ := x_of hC hQ q1 q2 q3 q4
    exact ⟨k1, Or.inl k2⟩
  by_cases g1 : W0 v1 0 2 = 0
  · rw [if_pos g1] at e1 e2
    exact fin (by decide) (by decide) e1 e2
  rw [if_neg g1] at e1 e2
  by_cases g2 : W0 v2 10 300 = 0
  · rw [if_pos g2] at e1 e2
    exact fin (by decide) (by decide) e1 e2
  rw [if_neg g2] at e1 e2
  by_cases g3 : W0 v3 0 100 = 0
  · rw [if_pos g3] at e1 e2
    exact fin (by decide) (by decide) e1 e2
  rw [if_neg g3] at e1 e2
  have h' : gm (A 12) 8 = gi (A 1) 6 := h.symm
  rw [h'] at e2
  by_cases g5 : gi (A 1) 6 < 16
  · have hn : ¬ gi (A 1) 6 = 16 := fun q => by
      rw [q] at g5
      exact absurd g5 (by decide)
    rw [if_neg hn, hQ.g 9 47 (by decide), hQ.g 10 48 (by decide), hQ.g 11 49 (by decide), hQ.g 12 50 (by decide)] at e2
    obtain ⟨q, g, r, k1, k2, k3, k4, k5, k6⟩ := b_come hC e1' ⟨g1, g2, g3, g5⟩
    obtain ⟨b1, b2⟩ := pr2 e2
    have t47 := hQ.t 9 47 (by decide)
    have t48 := hQ.t 10 48 (by decide)
    have t49 := hQ.t 11 49 (by decide)
    have t50 := hQ.t 12 50 (by decide)
    refine ⟨?_, Or.inr ⟨g5, w0_rg (by decide) (by decide) g1, w0_rg (by decide) (by decide) g2, w0_rg (by decide) (by decide) g3, ⟨q, g, r, k1, k2, k3, k5, k6⟩, ?_, ?_, ?_, ?_, ?_, fun a a1 a2 a3 a4 a5 => ?_⟩⟩
    · rw [k4, ← b1]
      exact (Int32.add_sub_cancel _ _).symm
    · rw [← b2, up_s, up_n (ro_ne hQ.1 t50 (by decide)), up_n (ro_ne hQ.1 t49 (by decide)), up_n (ro_ne hQ.1 t48 (by decide)), up_n (ro_ne hQ.1 t47 (by decide))]
    · rw [← b2, up_n (ro_ne t47 hQ.1 (by decide)), up_n (ro_ne t47 t50 (by decide)), up_n (ro_ne t47 t49 (by decide)), up_n (ro_ne t47 t48 (by decide)), up_s]
    · rw [← b2, up_n (ro_ne t48 hQ.1 (by decide)), up_n (ro_ne t48 t50 (by decide)), up_n (ro_ne t48 t49 (by decide)), up_s, up_n (ro_ne t48 t47 (by decide))]
    · rw [← b2, up_n (ro_ne t49 hQ.1 (by decide)), up_n (ro_ne t49 t50 (by decide)), up_s, up_n (ro_ne t49 t48 (by decide)), up_n (ro_ne t49 t47 (by decide))]
    · rw [← b2, up_n (ro_ne t50 hQ.1 (by decide)), up_s, up_n (ro_ne t50 t49 (by decide)), up_n (ro_ne t50 t48 (by decide)), up_n (ro_ne t50 t47 (by decide))]
    · rw [← b2, up_n a1, up_n a5, up_n a4, up_n a3, up_n a2]
  · have hn := i_lt 16 (by decide) hr g5
    rw [if_neg g5] at e1
    rw [if_pos hn] at e2
    exact fin (by decide) (by decide) e1 e2
theorem ne_z' {τ : th_t} {q a : Nat} (hq : τ q = 0) (ha : τ a ≠ 0) : q ≠ a := fun e => ha (by rw [← e]; exact hq)
theorem nB16 {n : Int32} (h : rg 0 16 n) (hl : n < 16) : n.toNatClampNeg < 16 ∧ ((n.toNatClampNeg : Nat) : Int) = n.toInt ∧ (n + 1).toInt = n.toInt + 1 := by
  have h1 := Int32.lt_iff_toInt_lt.mp hl
  have h2 : (16 : Int32).toInt = 16 := by decide
  have h3 := h.1
  exact ⟨cl_lt h3 (by omega), i_cl h3, y_1 (m := 16) (by decide) h3 h.2⟩
theorem c_boat.fin (hC : ro_C τ gr A) (hQ : ro_M τ1 rm A) (f : x_fin τ gi gr gm A τ1 gi1 gr1 gm2) (h : c_boat τ gi gr gm A) : c_boat τ1 gi1 gr1 gm2 A := by
  obtain ⟨rfl, rfl, k2, k3⟩ := f
  exact c_boat.fr hC hQ (fm_c hC k2) (fm_m hQ k3) (by decide) (by decide) h
theorem c_wish.fin (hC : ro_C τ gr A) (hQ : ro_M τ1 rm A) (f : x_fin τ gi gr gm A τ1 gi1 gr1 gm2) (h : c_wish τ gi gr gm A) : c_wish τ1 gi1 gr1 gm2 A := by
  obtain ⟨rfl, rfl, k2, k3⟩ := f
  exact c_wish.fr hC hQ (fm_c hC k2) (fm_m hQ k3) (by decide) (by decide) h
theorem c_boat.boat (hJ : th_J τ gi gr) (hC : ro_C τ gr A) (no : c_eq 1 6 8 gi gm A) (hb : c_boat τ gi gr gm A) {v1 v2 v3 : Int32} (h : bt_ok τ gi gr gm A τ1 gi1 gr1 gm2 v1 v2 v3) : c_boat τ1 gi1 gr1 gm2 A := by
  obtain ⟨g5, r1, r2, r3, ⟨q, g, r, ⟨f, n0, n1, n2, n4, n5, w, hw, tw, zw⟩, kd, zq, e1, e2⟩, m12, m47, m48, m49, m50, mo⟩ := h
  obtain ⟨l1, l2, l3⟩ := nB16 (n_b hJ hC) g5
  have no' : gm (A 12) 8 = gi (A 1) 6 := no.symm
  have q1 : q ≠ A 1 := fun e => by
    rw [e, hC.t 1 1 (by decide) rfl] at zq
    exact absurd zq (by decide)
  have t21 := hC.t 21 21 (by decide) rfl
  have er : r (A 21) = gr (A 21) := (f (A 21) (by rw [t21]; decide)).2.2
  intro i hi
  rw [m12, ud_s, l3] at hi
  by_cases hin : i = (gi (A 1) 6).toNatClampNeg
  · subst hin
    refine ⟨q, by rw [e2, up_s, up_s], ?_, ?_, ?_, by rw [m47, ud_s]; exact kd, ?_, ?_⟩
    · rw [e1, up_n q1, n0, l2]
    · rw [e1, up_n q1, n1, m48, ud_s]
    · rw [e1, up_n q1, n2, m49, ud_s]
    · rw [e1, up_n q1, n1]; exact r2
    · rw [e1, up_n q1, n2]; exact r3
  · obtain ⟨b, a1, a2, a3, a4, a5, a6, a7⟩ := hb i (by rw [no']; omega)
    have tb : τ b ≠ 0 := by
      rcases a5.nz with t | t | t <;> (rw [t]; decide)
    have b1 : b ≠ A 1 := by
      rcases a5.nz with t | t | t <;> exact ro_ne t (hC.t 1 1 (by decide) rfl) (by decide)
    obtain ⟨f1, f2, f3⟩ := f b tb
    have gb : gi1 b = gi b := by rw [e1, up_n b1, f2]
    refine ⟨b, by rw [e2, up_s, up_n hin, er]; exact a1, by rw [gb]; exact a2, by rw [gb, m48, ud_n hin]; exact a3, by rw [gb, m49, ud_n hin]; exact a4, ?_, by rw [gb]; exact a6, by rw [gb]; exact a7⟩
    rw [m47, ud_n hin]
    rcases a5 with ⟨t, k⟩ | ⟨t, k⟩ | ⟨t, k⟩
    · exact Or.inl ⟨f1.trans t, k⟩
    · exact Or.inr (Or.inl ⟨f1.trans t, k⟩)
    · exact Or.inr (Or.inr ⟨f1.trans t, k⟩)
theorem c_wish.boat (hJ : th_J τ gi gr) (hC : ro_C τ gr A) (hQ : ro_M τ rm A) (no : c_eq 1 6 8 gi gm A) (hb : c_boat τ gi gr gm A) (hw0 : c_wish τ gi gr gm A) {v1 v2 v3 : Int32} (h : bt_ok τ gi gr gm A τ1 gi1 gr1 gm2 v1 v2 v3) : c_wish τ1 gi1 gr1 gm2 A := by
  obtain ⟨g5, r1, r2, r3, ⟨q, g, r, ⟨f, n0, n1, n2, n4, n5, w, hw, tw, zw⟩, kd, zq, e1, e2⟩, m12, m47, m48, m49, m50, mo⟩ := h
  obtain ⟨l1, l2, l3⟩ := nB16 (n_b hJ hC) g5
  have no' : gm (A 12) 8 = gi (A 1) 6 := no.symm
  have t1 := hC.t 1 1 (by decide) rfl
  have t21 := hC.t 21 21 (by decide) rfl
  have q1 : q ≠ A 1 := ne_z' zq (by rw [t1]; decide)
  have q21 : q ≠ A 21 := ne_z' zq (by rw [t21]; decide)
  have w1_ : w ≠ A 1 := ne_z' zw (by rw [t1]; decide)
  have er : r (A 21) = gr (A 21) := (f (A 21) (by rw [t21]; decide)).2.2
  have t56 := hQ.t 21 56 (by decide)
  have t57 := hQ.t 22 57 (by decide)
  have m56 : gm2 (A 56) = gm (A 56) := mo _ (ro_ne t56 hQ.1 (by decide)) (ro_ne t56 (hQ.t 9 47 (by decide)) (by decide)) (ro_ne t56 (hQ.t 10 48 (by decide)) (by decide)) (ro_ne t56 (hQ.t 11 49 (by decide)) (by decide)) (ro_ne t56 (hQ.t 12 50 (by decide)) (by decide))
  have m57 : gm2 (A 57) = gm (A 57) := mo _ (ro_ne t57 hQ.1 (by decide)) (ro_ne t57 (hQ.t 9 47 (by decide)) (by decide)) (ro_ne t57 (hQ.t 10 48 (by decide)) (by decide)) (ro_ne t57 (hQ.t 11 49 (by decide)) (by decide)) (ro_ne t57 (hQ.t 12 50 (by decide)) (by decide))
  obtain ⟨w1, w2, w3⟩ := hw0
  have z56 := w3 _ l1 (by rw [no', l2]; exact Int.le_refl _)
  have at_n : ∀ b, gr1 (A 21) (gi (A 1) 6).toNatClampNeg = some b → b = q := fun b hb' => by
    rw [e2, up_s, up_s] at hb'
    exact (Option.some.inj hb').symm
  have at_o : ∀ i b, i ≠ (gi (A 1) 6).toNatClampNeg → gr1 (A 21) i = some b → gr (A 21) i = some b := fun i b hi hb' => by
    rw [e2, up_s, up_n hi, er] at hb'
    exact hb'
  have g3q : gr1 q 3 = some w := by rw [e2, up_n q21, hw]
  have old : ∀ b, τ b ≠ 0 → τ b ≠ 1 → τ b ≠ 21 → τ1 b = τ b ∧ gi1 b = gi b ∧ gr1 b = gr b := fun b hb0 hb1 hb21 => by
    obtain ⟨f1, f2, f3⟩ := f b hb0
    have n1' : b ≠ A 1 := fun e => hb1 (by rw [e]; exact t1)
    have n21' : b ≠ A 21 := fun e => hb21 (by rw [e]; exact t21)
    exact ⟨f1, by rw [e1, up_n n1', f2], by rw [e2, up_n n21', f3]⟩
  have oldb : ∀ b, (τ b = 8 ∨ τ b = 9 ∨ τ b = 4) → τ1 b = τ b ∧ gi1 b = gi b ∧ gr1 b = gr b := fun b hb' => by
    rcases hb' with t | t | t <;> exact old b (by rw [t]; decide) (by rw [t]; decide) (by rw [t]; decide)
  refine ⟨fun i b hi hq => ?_, fun i i' b b' x hi hi' hq hq' hx hx' => ?_, fun i hi hn => ?_⟩
  · rw [m12, ud_s, l3] at hi
    by_cases hin : i = (gi (A 1) 6).toNatClampNeg
    · subst hin
      have := at_n b hq
      subst this
      refine ⟨kd.nz, by rw [e1, up_n q1, n4, m56, z56], w, g3q, tw, fun j hj => ?_⟩
      rw [m56, z56] at hj
      have z0 : (0 : Int32).toInt = 0 := by decide
      omega
    · have hq0 := at_o i b hin hq
      obtain ⟨x0, x1, x, x2, tx, x3⟩ := w1 i b (by rw [no']; omega) hq0
      obtain ⟨o1, o2, o3⟩ := oldb b x0
      obtain ⟨p1, p2, p3⟩ := old x (by rw [tx]; decide) (by rw [tx]; decide) (by rw [tx]; decide)
      refine ⟨by rw [o1]; exact x0, by rw [o2, m56]; exact x1, x, by rw [o3]; exact x2, by rw [p1]; exact tx, fun j hj => ?_⟩
      rw [m56] at hj
      rw [p2, m57]
      exact x3 j hj
  · rw [m12, ud_s, l3] at hi hi'
    have fresh : ∀ k c x', k ≠ (gi (A 1) 6).toNatClampNeg → (k : Int) < (gi (A 1) 6).toInt + 1 → gr1 (A 21) k = some c → gr1 c 3 = some x' → x' ≠ w := fun k c x' hk hk2 hkc hcx e => by
      have hkc0 := at_o k c hk hkc
      obtain ⟨x0, x1, x2', x2, tx, x3⟩ := w1 k c (by rw [no']; omega) hkc0
      obtain ⟨o1, o2, o3⟩ := oldb c x0
      rw [o3] at hcx
      have : x2' = x' := Option.some.inj (x2.symm.trans hcx)
      rw [this, e] at tx
      rw [tx] at zw
      exact absurd zw (by decide)
    by_cases hin : i = (gi (A 1) 6).toNatClampNeg
    · by_cases hin' : i' = (gi (A 1) 6).toNatClampNeg
      · rw [hin, hin']
      · rw [hin] at hq
        have hbq := at_n b hq
        rw [hbq, g3q] at hx
        exact absurd (Option.some.inj hx).symm (fresh i' b' x hin' hi' hq' hx')
    · by_cases hin' : i' = (gi (A 1) 6).toNatClampNeg
      · rw [hin'] at hq'
        have hbq := at_n b' hq'
        rw [hbq, g3q] at hx'
        exact absurd (Option.some.inj hx').symm (fresh i b x hin hi hq hx)
      · have h1 := at_o i b hin hq
        have h2 := at_o i' b' hin' hq'
        have k1 : (i : Int) < (gm (A 12) 8).toInt := by rw [no']; omega
        have k2 : (i' : Int) < (gm (A 12) 8).toInt := by rw [no']; omega
        rw [(oldb b (w1 i b k1 h1).1).2.2] at hx
        rw [(oldb b' (w1 i' b' k2 h2).1).2.2] at hx'
        exact w2 i i' b b' x k1 k2 h1 h2 hx hx'
  · rw [m12, ud_s, l3] at hn
    rw [m56]
    exact w3 i hi (by rw [no']; omega)
end BC
end
section
/-! ===== a BOAT as one of a KIND: its DUES ===== -/
section AS
variable {τ τ1 : th_t} {Z : th_Zt} {gi gi1 gm gm2 : th_i} {gr gr1 rm rm2 : th_r} {A : Nat → Nat} {M1 M2 : List Nat}
theorem kn_at {q : Nat} {k : Int32} (h : b_kind τ q k) : FV_kindNumber τ Z gi gr q = k := by
  rcases h with ⟨t, e⟩ | ⟨t, e⟩ | ⟨t, e⟩
  · rw [FV_kindNumber_8 t, e]; rfl
  · rw [FV_kindNumber_9 t, e]; rfl
  · rw [FV_kindNumber_4 t, e]; rfl
/-- DUES at a rate -/
def f_due (k l r : Int32) : Int32 := if k = 1 then (l * r + 9) / 10 + (l * r + 9) / 10 / 2 else (l * r + 9) / 10
theorem fee_at {q : Nat} {k r : Int32} (h : b_kind τ q k) : FV_fee τ Z gi gr q r = f_due k (gi q 1) r := by
  unfold f_due
  rcases h with ⟨t, e⟩ | ⟨t, e⟩ | ⟨t, e⟩
  · rw [FV_fee_8 t, e, if_neg (by decide)]; rfl
  · rw [FV_fee_9 t, e, if_pos rfl]; rfl
  · rw [FV_fee_4 t, e, if_neg (by decide)]; rfl
theorem due_at (hQ : ro_M τ rm A) {v : Int32} : F_X12_duesOf τ Z gm rm (A 12) v = f_due (gm (A 47) v.toNatClampNeg) (gm (A 48) v.toNatClampNeg) (gm (A 12) 23) := by
  unfold F_X12_duesOf f_due
  dsimp only
  rw [hQ.g 10 48 (by decide), hQ.g 9 47 (by decide)]
theorem s_as (hJ : th_J τ gi gr) (hC : ro_C τ gr A) (hQ : ro_M τ rm A) (no : c_eq 1 6 8 gi gm A) (ra : c_eq 11 8 23 gi gm A) (hb : c_boat τ gi gr gm A) {v k r1 r2 : Int32} (e1 : F_X11_as τ Z gi gr (A 11) v k = (r1, gi1)) (e2 : F_X12_as τ Z gm rm (A 12) v k = (r2, gm2)) : r1 = r2 := by
  have no' : gm (A 12) 8 = gi (A 1) 6 := no.symm
  have ra' : gm (A 12) 23 = gi (A 11) 8 := ra.symm
  unfold F_X11_as f_X11_as_20 F_X11_isKind at e1
  unfold F_X12_as F_X12_isBoat f_X12_as_17 f_X12_as_38 at e2
  dsimp only at e1 e2
  rw [hC.g 11 0 1 (by decide)] at e1
  rw [w0_m, w0_m, no', due_at hQ, hQ.g 9 47 (by decide), ra'] at e2
  by_cases g1 : W0 v 0 (gi (A 1) 6 - 1) = 0
  · rw [bo_no hJ hC g1] at e1
    rw [if_pos g1] at e2
    exact (s_fip hC hQ (w1 := 1) (by decide) (by decide) e1 e2).1
  obtain ⟨f1, f2, f3, f4⟩ := bo_yes (Z := Z) hJ hC g1
  obtain ⟨q, a1, a2, a3, a4, a5, a6, a7⟩ := hb v.toNatClampNeg (by rw [f3, no']; exact f4)
  rw [f1, a1] at e1
  rw [if_neg g1] at e2
  simp only [Option.elim_some] at e1
  rw [w0_c] at e1
  by_cases g2 : W0 k 0 2 = 0
  · rw [if_pos g2] at e1 e2
    exact (s_fip hC hQ (w1 := 1) (by decide) (by decide) e1 e2).1
  rw [if_neg g2] at e1 e2
  unfold F_X2_isOf at e1
  dsimp only at e1
  rw [kn_at a5, fee_at a5, a3] at e1
  have h10 : ¬ (1 : Int32) = 0 := by decide
  by_cases g3 : k = 0
  · rw [if_pos g3, if_neg h10] at e1
    rw [if_pos g3] at e2
    exact (pr2 e1).1.symm.trans (pr2 e2).1
  · rw [if_neg g3] at e1 e2
    by_cases g4 : k = gm (A 47) v.toNatClampNeg
    · rw [if_pos g4, if_neg h10] at e1
      rw [if_pos g4.symm] at e2
      exact (pr2 e1).1.symm.trans (pr2 e2).1
    · rw [if_neg g4, if_pos rfl] at e1
      rw [if_neg (fun q => g4 q.symm)] at e2
      exact (s_fip hC hQ (w1 := 5) (by decide) (by decide) e1 e2).1
end AS
end
section
/-! ===== whole numbers, roots ===== -/
theorem i_add {x y : Int32} (h1 : -2147483648 ≤ x.toInt + y.toInt) (h2 : x.toInt + y.toInt ≤ 2147483647) : (x + y).toInt = x.toInt + y.toInt := by
  rw [Int32.toInt_add]
  exact rg_bm h1 h2
theorem i_sub {x y : Int32} (h1 : -2147483648 ≤ x.toInt - y.toInt) (h2 : x.toInt - y.toInt ≤ 2147483647) : (x - y).toInt = x.toInt - y.toInt := by
  rw [Int32.toInt_sub]
  exact rg_bm h1 h2
theorem i_mul {x y : Int32} (h1 : -2147483648 ≤ x.toInt * y.toInt) (h2 : x.toInt * y.toInt ≤ 2147483647) : (x * y).toInt = x.toInt * y.toInt := by
  rw [Int32.toInt_mul]
  exact rg_bm h1 h2
theorem i_le {x y : Int32} : x ≤ y ↔ x.toInt ≤ y.toInt := Int32.le_iff_toInt_le
theorem i_ltI {x y : Int32} : x < y ↔ x.toInt < y.toInt := Int32.lt_iff_toInt_lt
theorem i_inj {x y : Int32} (h : x.toInt = y.toInt) : x = y := Int32.toInt_inj.mp h
theorem i_div {x y : Int32} (hy : 0 < y.toInt) (hx : 0 ≤ x.toInt) : (x / y).toInt = x.toInt / y.toInt := by
  have e : (x / y).toInt = x.toInt.tdiv y.toInt := by
    rw [Int32.toInt_div_of_ne_right]
    intro q
    rw [q] at hy
    exact absurd hy (by decide)
  rw [e, Int.tdiv_eq_ediv_of_nonneg hx]
theorem k_0 : (0 : Int32).toInt = 0 := by decide
theorem k_1 : (1 : Int32).toInt = 1 := by decide
theorem k_2 : (2 : Int32).toInt = 2 := by decide
theorem k_7 : (7 : Int32).toInt = 7 := by decide
theorem k_10 : (10 : Int32).toInt = 10 := by decide
theorem k_20 : (20 : Int32).toInt = 20 := by decide
theorem k_24 : (24 : Int32).toInt = 24 := by decide
theorem k_m1 : (-1 : Int32).toInt = -1 := by decide
theorem sq_le {a b : Int} (h0 : 0 ≤ a) (h : a ≤ b) : a * a ≤ b * b := Int.mul_le_mul h h h0 (Int.le_trans h0 h)
theorem sq_lt {a b : Int} (h0 : 0 ≤ b) (h : a * a < b * b) : a < b := Decidable.byContradiction fun q => absurd (sq_le h0 (Int.not_lt.mp q)) (Int.not_le.mpr h)
def rt_ok (v r : Int) : Prop := 0 ≤ r ∧ r * r ≤ v ∧ v < (r + 1) * (r + 1)
theorem rt_u {v r s : Int} (h : rt_ok v r) (k : rt_ok v s) : r = s := by
  obtain ⟨h1, h2, h3⟩ := h
  obtain ⟨k1, k2, k3⟩ := k
  have a : r < s + 1 := sq_lt (by omega) (by omega)
  have b : s < r + 1 := sq_lt (by omega) (by omega)
  omega
section RT
variable {τ τ1 : th_t} {Z : th_Zt} {gi gi1 gm gm2 : th_i} {gr gr1 rm rm2 : th_r} {A : Nat → Nat} {M1 M2 : List Nat}
theorem ro_2 {v : Int32} (hv : v.toInt ≤ 160000) : ∀ (n : Nat) (y : Int32), 0 ≤ y.toInt → y.toInt ≤ 400 → y.toInt * y.toInt ≤ v.toInt → (400 - y.toInt).toNat < n → rt_ok v.toInt (f_X12_root_2 τ Z gi gr v n y).toInt := by
  intro n
  induction n with
  | zero => intro y _ _ _ h; exact absurd h (Nat.not_lt_zero _)
  | succ n ih =>
    intro y h0 h4 hs h
    unfold f_X12_root_2
    dsimp only
    have e1 : (y + 1).toInt = y.toInt + 1 := y_1 (m := 400) (by decide) h0 h4
    have b := sq_le (a := y.toInt + 1) (b := 401) (by omega) (by omega)
    have c := Int.mul_nonneg (a := y.toInt + 1) (b := y.toInt + 1) (by omega) (by omega)
    have e2 : ((y + 1) * (y + 1)).toInt = (y.toInt + 1) * (y.toInt + 1) := by
      rw [i_mul (by rw [e1]; omega) (by rw [e1]; omega), e1]
    by_cases hc : v < (y + 1) * (y + 1)
    · rw [if_pos hc]
      refine ⟨h0, hs, ?_⟩
      rw [← e2]
      exact i_ltI.mp hc
    · rw [if_neg hc]
      have hc' := i_le.mp (Int32.not_lt.mp hc)
      rw [e2] at hc'
      have l4 : y.toInt + 1 < 401 := sq_lt (by decide) (by omega)
      exact ih (y + 1) (by omega) (by omega) (by rw [e1]; exact hc') (by omega)
theorem root_ok {v : Int32} (h0 : 0 ≤ v.toInt) (hv : v.toInt ≤ 160000) : rt_ok v.toInt (F_X12_root τ Z gi gr v).toInt := by
  unfold F_X12_root
  exact ro_2 hv _ 0 (by decide) (by decide) (by rw [k_0]; omega) (Nat.lt_add_one _)
theorem wr_st {v b b' : Int32} {B C : Int} (hB : b.toInt = B) (hC : C = 2 * B) (hb0 : 0 < B) (hb1 : B ≤ 256) (hs : b >>> (1 &&& 31) = b') {n : Nat} {y : Int32} (h0 : 0 ≤ y.toInt) (h1 : y.toInt + C ≤ 512) (h2 : y.toInt * y.toInt ≤ v.toInt) (h3 : v.toInt < (y.toInt + C) * (y.toInt + C)) : ∃ z : Int32, f_X3_wholeRoot_6 τ Z gi gr v (n + 1) y b = f_X3_wholeRoot_6 τ Z gi gr v n z b' ∧ 0 ≤ z.toInt ∧ z.toInt + B ≤ 512 ∧ z.toInt * z.toInt ≤ v.toInt ∧ v.toInt < (z.toInt + B) * (z.toInt + B) := by
  have e1 : (y + b).toInt = y.toInt + B := by
    rw [i_add (by omega) (by omega), hB]
  have s := sq_le (a := y.toInt + B) (b := 512) (by omega) (by omega)
  have c := Int.mul_nonneg (a := y.toInt + B) (b := y.toInt + B) (by omega) (by omega)
  have e2 : ((y + b) * (y + b)).toInt = (y.toInt + B) * (y.toInt + B) := by
    rw [i_mul (by rw [e1]; omega) (by rw [e1]; omega), e1]
  have hu : f_X3_wholeRoot_6 τ Z gi gr v (n + 1) y b = if b ≤ 0 then y else if v < (y + b) * (y + b) then f_X3_wholeRoot_6 τ Z gi gr v n y (b >>> (1 &&& 31)) else f_X3_wholeRoot_6 τ Z gi gr v n (y + b) (b >>> (1 &&& 31)) := rfl
  rw [hu, if_neg (fun q => by have := i_le.mp q; rw [hB, k_0] at this; omega), hs]
  by_cases hc : v < (y + b) * (y + b)
  · rw [if_pos hc]
    refine ⟨y, rfl, h0, by omega, h2, ?_⟩
    rw [← e2]
    exact i_ltI.mp hc
  · rw [if_neg hc]
    refine ⟨y + b, rfl, by omega, by omega, ?_, ?_⟩
    · rw [e1, ← e2]
      exact i_le.mp (Int32.not_lt.mp hc)
    · have : y.toInt + B + B = y.toInt + C := by omega
      rw [e1, this]
      exact h3
theorem wr_ok {v : Int32} (h0 : 0 ≤ v.toInt) (hv : v.toInt ≤ 160000) : rt_ok v.toInt (F_X3_wholeRoot τ Z gi gr v).toInt := by
  unfold F_X3_wholeRoot
  have hN : (256 : Int32).toInt.toNat + 1 = 257 := by decide
  rw [hN]
  obtain ⟨y1, e1, a1, b1, c1, d1⟩ := wr_st (τ := τ) (Z := Z) (gi := gi) (gr := gr) (v := v) (b := 256) (b' := 128) (B := 256) (C := 512) (by decide) (by decide) (by decide) (by decide) (by decide) (n := 256) (y := 0) (by decide) (by decide) (by rw [k_0]; omega) (by rw [k_0]; omega)
  obtain ⟨y2, e2, a2, b2, c2, d2⟩ := wr_st (τ := τ) (Z := Z) (gi := gi) (gr := gr) (v := v) (b := 128) (b' := 64) (B := 128) (by decide) (by decide) (by decide) (by decide) (by decide) (n := 255) a1 b1 c1 d1
  obtain ⟨y3, e3, a3, b3, c3, d3⟩ := wr_st (τ := τ) (Z := Z) (gi := gi) (gr := gr) (v := v) (b := 64) (b' := 32) (B := 64) (by decide) (by decide) (by decide) (by decide) (by decide) (n := 254) a2 b2 c2 d2
  obtain ⟨y4, e4, a4, b4, c4, d4⟩ := wr_st (τ := τ) (Z := Z) (gi := gi) (gr := gr) (v := v) (b := 32) (b' := 16) (B := 32) (by decide) (by decide) (by decide) (by decide) (by decide) (n := 253) a3 b3 c3 d3
  obtain ⟨y5, e5, a5, b5, c5, d5⟩ := wr_st (τ := τ) (Z := Z) (gi := gi) (gr := gr) (v := v) (b := 16) (b' := 8) (B := 16) (by decide) (by decide) (by decide) (by decide) (by decide) (n := 252) a4 b4 c4 d4
  obtain ⟨y6, e6, a6, b6, c6, d6⟩ := wr_st (τ := τ) (Z := Z) (gi := gi) (gr := gr) (v := v) (b := 8) (b' := 4) (B := 8) (by decide) (by decide) (by decide) (by decide) (by decide) (n := 251) a5 b5 c5 d5
  obtain ⟨y7, e7, a7, b7, c7, d7⟩ := wr_st (τ := τ) (Z := Z) (gi := gi) (gr := gr) (v := v) (b := 4) (b' := 2) (B := 4) (by decide) (by decide) (by decide) (by decide) (by decide) (n := 250) a6 b6 c6 d6
  obtain ⟨y8, e8, a8, b8, c8, d8⟩ := wr_st (τ := τ) (Z := Z) (gi := gi) (gr := gr) (v := v) (b := 2) (b' := 1) (B := 2) (by decide) (by decide) (by decide) (by decide) (by decide) (n := 249) a7 b7 c7 d7
  obtain ⟨y9, e9, a9, b9, c9, d9⟩ := wr_st (τ := τ) (Z := Z) (gi := gi) (gr := gr) (v := v) (b := 1) (b' := 0) (B := 1) (by decide) (by decide) (by decide) (by decide) (by decide) (n := 248) a8 b8 c8 d8
  have l : f_X3_wholeRoot_6 τ Z gi gr v 248 y9 0 = y9 := by
    show (if (0 : Int32) ≤ 0 then y9 else _) = y9
    exact if_pos (by decide)
  have all : f_X3_wholeRoot_6 τ Z gi gr v 257 0 256 = y9 := e1.trans (e2.trans (e3.trans (e4.trans (e5.trans (e6.trans (e7.trans (e8.trans (e9.trans l))))))))
  rw [all]
  exact ⟨a9, c9, d9⟩
/-- the chain's part of OUT: of DEPTH, CHAIN, TIDE -/
def sl_ok (d c t s : Int32) : Prop := (c.toInt ≤ d.toInt + t.toInt → s.toInt = 0) ∧ (d.toInt + t.toInt < c.toInt → rt_ok (c.toInt * c.toInt - (d.toInt + t.toInt) * (d.toInt + t.toInt)) s.toInt)
theorem sl_u {d c t s s' : Int32} (h : sl_ok d c t s) (k : sl_ok d c t s') : s = s' := by
  by_cases q : c.toInt ≤ d.toInt + t.toInt
  · exact i_inj ((h.1 q).trans (k.1 q).symm)
  · exact i_inj (rt_u (h.2 (by omega)) (k.2 (by omega)))
theorem sl_rg {d c t s : Int32} (hc : rg 10 400 c) (h : sl_ok d c t s) : rg 0 400 s := by
  by_cases q : c.toInt ≤ d.toInt + t.toInt
  · rw [rg, h.1 q]
    exact ⟨by decide, by decide⟩
  · obtain ⟨h1, h2, h3⟩ := h.2 (by omega)
    have c1 := sq_le (a := c.toInt) (b := 400) (by have := hc.1; omega) hc.2
    have c2 : 0 ≤ (d.toInt + t.toInt) * (d.toInt + t.toInt) := by
      rcases Int.le_total 0 (d.toInt + t.toInt) with p | p
      · exact Int.mul_nonneg p p
      · exact Int.mul_nonneg_of_nonpos_of_nonpos p p
    have : s.toInt < 401 := sq_lt (by decide) (by omega)
    exact ⟨h1, by omega⟩
theorem sq_v {c w : Int32} (hc : rg 10 400 c) (hw : 0 ≤ w.toInt) (h : w.toInt < c.toInt) : (c * c - w * w).toInt = c.toInt * c.toInt - w.toInt * w.toInt ∧ 0 ≤ c.toInt * c.toInt - w.toInt * w.toInt ∧ c.toInt * c.toInt - w.toInt * w.toInt ≤ 160000 := by
  obtain ⟨c0, c4⟩ := hc
  have a1 := sq_le (a := c.toInt) (b := 400) (by omega) c4
  have a2 := sq_le (a := w.toInt) (b := c.toInt) hw (by omega)
  have a3 := Int.mul_nonneg hw hw
  have e1 : (c * c).toInt = c.toInt * c.toInt := i_mul (by omega) (by omega)
  have e2 : (w * w).toInt = w.toInt * w.toInt := i_mul (by omega) (by omega)
  refine ⟨?_, by omega, by omega⟩
  rw [i_sub (by omega) (by omega), e1, e2]
theorem so_ok (hQ : ro_M τ rm A) {p h : Int32} (hd : rg 0 300 (gm (A 42) p.toNatClampNeg)) (hc : rg 10 400 (gm (A 43) p.toNatClampNeg)) (ht : rg 0 200 (gm (A 51) h.toNatClampNeg)) : sl_ok (gm (A 42) p.toNatClampNeg) (gm (A 43) p.toNatClampNeg) (gm (A 51) h.toNatClampNeg) (F_X12_slackOf τ Z gm rm (A 12) p h) := by
  unfold F_X12_slackOf
  dsimp only
  rw [hQ.g 3 42 (by decide), hQ.g 4 43 (by decide), hQ.g 13 51 (by decide)]
  generalize gm (A 42) p.toNatClampNeg = d at hd ⊢
  generalize gm (A 43) p.toNatClampNeg = c at hc ⊢
  generalize gm (A 51) h.toNatClampNeg = t at ht ⊢
  obtain ⟨d0, d1⟩ := hd
  obtain ⟨t0, t1⟩ := ht
  have e : (d + t).toInt = d.toInt + t.toInt := i_add (by omega) (by omega)
  by_cases g : d + t < c
  · have g' := i_ltI.mp g
    rw [e] at g'
    rw [if_pos g]
    obtain ⟨v1, v2, v3⟩ := sq_v (w := d + t) hc (by omega) (by omega)
    rw [e] at v1 v2 v3
    have k := root_ok (τ := τ) (Z := Z) (gi := gm) (gr := rm) (v := c * c - (d + t) * (d + t)) (by rw [v1]; exact v2) (by rw [v1]; exact v3)
    rw [v1] at k
    exact ⟨fun q => by omega, fun _ => k⟩
  · have g' := i_le.mp (Int32.not_lt.mp g)
    rw [e] at g'
    rw [if_neg g]
    exact ⟨fun _ => k_0, fun q => by omega⟩
theorem fd_at {g : th_i} {q w : Nat} {p t : Int32} (hw : gr q 5 = some w) (hp : ¬ W0 p 0 23 = 0) (hd : rg 0 300 (g q 3)) (hc : rg 10 400 (g q 4)) (ht : rg 0 200 t) : ∃ s, F_X3_flood τ Z g gr q p t = va_up g w (upd (g w) p.toNatClampNeg s) ∧ sl_ok (g q 3) (g q 4) t s := by
  unfold F_X3_flood F_X11_isHour
  dsimp only
  rw [w0_c, hw, if_neg hp]
  generalize g q 3 = d at hd ⊢
  generalize g q 4 = c at hc ⊢
  obtain ⟨d0, d1⟩ := hd
  obtain ⟨t0, t1⟩ := ht
  have e : (d + t).toInt = d.toInt + t.toInt := i_add (by omega) (by omega)
  by_cases g' : d + t < c
  · have l := i_ltI.mp g'
    rw [e] at l
    rw [if_pos g']
    obtain ⟨v1, v2, v3⟩ := sq_v (w := d + t) hc (by omega) (by omega)
    rw [e] at v1 v2 v3
    have k := wr_ok (τ := τ) (Z := Z) (gi := g) (gr := gr) (v := c * c - (d + t) * (d + t)) (by rw [v1]; exact v2) (by rw [v1]; exact v3)
    rw [v1] at k
    exact ⟨_, rfl, fun q => by omega, fun _ => k⟩
  · have l := i_le.mp (Int32.not_lt.mp g')
    rw [e] at l
    rw [if_neg g']
    exact ⟨0, rfl, fun _ => k_0, fun q => by omega⟩
end RT
end
section
/-! ===== BUOYS: their cells, the chain's part of OUT ===== -/
section BU
variable {τ τ1 tO : th_t} {Z : th_Zt} {gi gi1 gm gm2 gO : th_i} {gr gr1 rm rm2 qO : th_r} {A : Nat → Nat} {M1 M2 : List Nat}
def u_at (τ : th_t) (gi : th_i) (gr : th_r) (gm : th_i) (A : Nat → Nat) (i q : Nat) : Prop := gr (A 20) i = some q ∧ τ q = 3 ∧ (gi q 0).toInt = (i : Int) ∧ gi q 1 = gm (A 40) i ∧ gi q 2 = gm (A 41) i ∧ gi q 3 = gm (A 42) i ∧ gi q 4 = gm (A 43) i ∧ rg 0 999 (gi q 1) ∧ rg 0 999 (gi q 2) ∧ rg 0 300 (gi q 3) ∧ rg 10 400 (gi q 4)
def c_buoy (τ : th_t) (gi : th_i) (gr : th_r) (gm : th_i) (A : Nat → Nat) : Prop := ∀ i : Nat, (i : Int) < (gm (A 12) 0).toInt → ∃ q, u_at τ gi gr gm A i q
def u_sl (τ : th_t) (gi : th_i) (gr : th_r) (A : Nat → Nat) (q : Nat) : Prop := τ q = 3 ∧ rg 0 300 (gi q 3) ∧ rg 10 400 (gi q 4) ∧ ∃ w, gr q 5 = some w ∧ τ w = 26 ∧ ∀ h : Nat, h < 24 → sl_ok (gi q 3) (gi q 4) (gi (A 22) h) (gi w h)
def c_sl (τ : th_t) (gi : th_i) (gr : th_r) (A : Nat → Nat) : Prop := (∀ i q : Nat, (i : Int) < (gi (A 1) 5).toInt → gr (A 20) i = some q → u_sl τ gi gr A q) ∧ (∀ i i' q q' w : Nat, (i : Int) < (gi (A 1) 5).toInt → (i' : Int) < (gi (A 1) 5).toInt → gr (A 20) i = some q → gr (A 20) i' = some q' → gr q 5 = some w → gr q' 5 = some w → i = i')
theorem c_buoy.fr (hC : ro_C τ gr A) (hQ : ro_M τ rm A) (h1 : th_Mod M1 τ gi gr gi1 gr1) (h2 : th_Mod M2 τ gm rm gm2 rm2) (k1 : ∀ k ∈ [2000, 300, 301, 302, 303, 304], k ∉ M1) (k2 : ∀ k ∈ [1200, 4000, 4100, 4200, 4300], k ∉ M2) (h : c_buoy τ gi gr gm A) : c_buoy τ gi1 gr1 gm2 A := by
  have e12 := (ro_k h2 0 hQ.1 (by decide) (k2 1200 (by decide))).1
  have e40 := (ro_ka h2 (hQ.t 1 40 (by decide)) (by decide) (k2 4000 (by decide))).1
  have e41 := (ro_ka h2 (hQ.t 2 41 (by decide)) (by decide) (k2 4100 (by decide))).1
  have e42 := (ro_ka h2 (hQ.t 3 42 (by decide)) (by decide) (k2 4200 (by decide))).1
  have e43 := (ro_ka h2 (hQ.t 4 43 (by decide)) (by decide) (k2 4300 (by decide))).1
  have e20 := (ro_ka h1 (hC.t 20 20 (by decide) rfl) (by decide) (k1 2000 (by decide))).2
  intro i hi
  rw [e12] at hi
  obtain ⟨q, a1, a2, a3, a4, a5, a6, a7, a8, a9, b1, b2⟩ := h i hi
  have f0 := (ro_k h1 0 a2 (by decide) (k1 300 (by decide))).1
  have f1 := (ro_k h1 1 a2 (by decide) (k1 301 (by decide))).1
  have f2 := (ro_k h1 2 a2 (by decide) (k1 302 (by decide))).1
  have f3 := (ro_k h1 3 a2 (by decide) (k1 303 (by decide))).1
  have f4 := (ro_k h1 4 a2 (by decide) (k1 304 (by decide))).1
  refine ⟨q, ?_⟩
  unfold u_at
  rw [e20, e40, e41, e42, e43, f0, f1, f2, f3, f4]
  exact ⟨a1, a2, a3, a4, a5, a6, a7, a8, a9, b1, b2⟩
theorem c_buoy.ext (hx : ∀ b, τ b ≠ 0 → τ1 b = τ b) (h : c_buoy τ gi gr gm A) : c_buoy τ1 gi gr gm A := fun i hi => by
  obtain ⟨q, a1, a2, a3⟩ := h i hi
  exact ⟨q, a1, (hx q (by rw [a2]; decide)).trans a2, a3⟩
theorem c_sl.fr (hC : ro_C τ gr A) (h1 : th_Mod M1 τ gi gr gi1 gr1) (k1 : ∀ k ∈ [105, 2000, 303, 304, 305, 2200, 2600], k ∉ M1) (h : c_sl τ gi gr A) : c_sl τ gi1 gr1 A := by
  have e1 := (ro_k h1 5 (hC.t 1 1 (by decide) rfl) (by decide) (k1 105 (by decide))).1
  have e20 := (ro_ka h1 (hC.t 20 20 (by decide) rfl) (by decide) (k1 2000 (by decide))).2
  have e22 := (ro_ka h1 (hC.t 22 22 (by decide) rfl) (by decide) (k1 2200 (by decide))).1
  obtain ⟨w1, w2⟩ := h
  have e5 : ∀ q, τ q = 3 → gr1 q 5 = gr q 5 := fun q t => (ro_k h1 5 t (by decide) (k1 305 (by decide))).2
  unfold c_sl
  rw [e1, e20]
  refine ⟨fun i q hi hq => ?_, fun i i' q q' w hi hi' hq hq' hw hw' => ?_⟩
  · obtain ⟨x0, r3, r4, w, x1, x2, x3⟩ := w1 i q hi hq
    have f3 := (ro_k h1 3 x0 (by decide) (k1 303 (by decide))).1
    have f4 := (ro_k h1 4 x0 (by decide) (k1 304 (by decide))).1
    have fw := (ro_ka h1 x2 (by decide) (k1 2600 (by decide))).1
    refine ⟨x0, by rw [f3]; exact r3, by rw [f4]; exact r4, w, by rw [e5 q x0]; exact x1, x2, fun h hh => ?_⟩
    rw [f3, f4, e22, fw]
    exact x3 h hh
  · rw [e5 q (w1 i q hi hq).1] at hw
    rw [e5 q' (w1 i' q' hi' hq').1] at hw'
    exact w2 i i' q q' w hi hi' hq hq' hw hw'
theorem c_sl.ext (hx : ∀ b, τ b ≠ 0 → τ1 b = τ b) (h : c_sl τ gi gr A) : c_sl τ1 gi gr A := by
  refine ⟨fun i q hi hq => ?_, h.2⟩
  obtain ⟨x0, r3, r4, w, x1, x2, x3⟩ := h.1 i q hi hq
  exact ⟨(hx q (by rw [x0]; decide)).trans x0, r3, r4, w, x1, (hx w (by rw [x2]; decide)).trans x2, x3⟩
theorem w0_in {v a b : Int32} (h1 : a.toInt ≤ v.toInt) (h2 : v.toInt ≤ b.toInt) : ¬ W0 v a b = 0 := fun q => w0_iff.mp q ⟨i_le.mpr h1, i_le.mpr h2⟩
theorem k_23 : (23 : Int32).toInt = 23 := by decide
theorem t_rg (hJm : th_J τ gm rm) (hQ : ro_M τ rm A) (ht : c_tid gi gm A) : ∀ h : Nat, h < 24 → rg 0 200 (gi (A 22) h) := fun h hh => by
  rw [ht h hh]
  exact (hJm.at (hQ.t 13 51 (by decide)) (by decide)) h hh
/-- a BUOY comes -/
theorem ab_sp {q w : Nat} {r : th_r} {p1 p2 p3 p4 rO x1 : Int32} {τ6 : th_t} (r0 : (r (A 1) 0).getD 0 = A 20) (r2 : (r (A 1) 2).getD 0 = A 22) (r5 : r q 5 = some w) (nq : q ≠ w) (n22 : A 22 ≠ w) : ∀ (n : Nat) (g : th_i) (y : Int32), 0 ≤ y.toInt → y.toInt ≤ 24 → rg 0 300 (g q 3) → rg 10 400 (g q 4) → (∀ h : Nat, h < 24 → rg 0 200 (g (A 22) h)) → f_X0_addBuoy_32 τ Z gi gr (A 1) p1 p2 p3 p4 rO tO gO qO x1 q τ6 n g r y → ∃ g', rO = x1 ∧ tO = τ6 ∧ gO = va_up g' (A 1) (upd (g' (A 1)) 5 (x1 + 1)) ∧ qO = va_up r (A 20) (va_up (r (A 20)) x1.toNatClampNeg (some q)) ∧ (∀ a, a ≠ w → g' a = g a) ∧ (∀ h : Nat, (h : Int) < y.toInt → g' w h = g w h) ∧ (∀ h : Nat, h < 24 → y.toInt ≤ (h : Int) → sl_ok (g q 3) (g q 4) (g (A 22) h) (g' w h)) := by
  intro n
  induction n with
  | zero => intro g y _ _ _ _ _ h; exact absurd h (by unfold f_X0_addBuoy_32; exact fun q => q)
  | succ n ih =>
    intro g y h0 h24 hd hc ht h
    unfold f_X0_addBuoy_32 at h
    dsimp only at h
    by_cases c : (24 : Int32) ≤ y
    · rw [if_pos c, r0] at h
      obtain ⟨g15, hg, k1, k2, k3, k4⟩ := h
      have c' := i_le.mp c
      rw [k_24] at c'
      exact ⟨g, k1, k2, by rw [k3, hg], k4, fun _ _ => rfl, fun _ _ => rfl, fun h h1 h2 => by omega⟩
    · rw [if_neg c, r2] at h
      have c' := i_ltI.mp (Int32.not_le.mp c)
      rw [k_24] at c'
      have hy := i_cl h0
      obtain ⟨s, es, ks⟩ := fd_at (τ := τ6) (Z := Z) (g := g) r5 (p := y) (w0_in (by rw [k_0]; exact h0) (by rw [k_23]; omega)) hd hc (ht y.toNatClampNeg (by omega))
      rw [es] at h
      have eq : va_up g w (upd (g w) y.toNatClampNeg s) q = g q := up_n nq
      have e22 : va_up g w (upd (g w) y.toNatClampNeg s) (A 22) = g (A 22) := up_n n22
      have e1 := y_1 (m := 24) (by decide) h0 h24
      obtain ⟨g', k1, k2, k3, k4, k5, k6, k7⟩ := ih _ (y + 1) (by omega) (by omega) (by rw [eq]; exact hd) (by rw [eq]; exact hc) (by rw [e22]; exact ht) h
      rw [eq, e22] at k7
      refine ⟨g', k1, k2, k3, k4, fun a ha => by rw [k5 a ha, up_n ha], fun h hh => ?_, fun h hh hy' => ?_⟩
      · rw [k6 h (by omega), up_s, ud_n (by omega)]
      · by_cases e : h = y.toNatClampNeg
        · rw [k6 h (by omega), up_s, e, ud_s]
          exact ks
        · exact k7 h hh (by omega)
def bu_ok (τ : th_t) (gi : th_i) (gr : th_r) (gm : th_i) (A : Nat → Nat) (τ1 : th_t) (gi1 : th_i) (gr1 : th_r) (gm2 : th_i) (v1 v2 v3 v4 : Int32) : Prop := gi (A 1) 5 < 12 ∧ rg 0 999 v1 ∧ rg 0 999 v2 ∧ rg 0 300 v3 ∧ rg 10 400 v4 ∧ (∃ q w g, τ q = 0 ∧ τ w = 0 ∧ q ≠ w ∧ τ1 = va_up (va_up τ w 26) q 3 ∧ gi1 = va_up g (A 1) (upd (g (A 1)) 5 (gi (A 1) 5 + 1)) ∧ gr1 = va_up (va_up gr q (fun k => match k with | 5 => some w | _ => none)) (A 20) (va_up (gr (A 20)) (gi (A 1) 5).toNatClampNeg (some q)) ∧ (∀ a, a ≠ q → a ≠ w → g a = gi a) ∧ (g q = fun k => match k with | 0 => gi (A 1) 5 | 1 => v1 | 2 => v2 | 3 => v3 | 4 => v4 | _ => 0) ∧ ∀ h : Nat, h < 24 → sl_ok v3 v4 (gi (A 22) h) (g w h)) ∧ gm2 (A 12) = upd (gm (A 12)) 0 (gi (A 1) 5 + 1) ∧ gm2 (A 40) = upd (gm (A 40)) (gi (A 1) 5).toNatClampNeg v1 ∧ gm2 (A 41) = upd (gm (A 41)) (gi (A 1) 5).toNatClampNeg v2 ∧ gm2 (A 42) = upd (gm (A 42)) (gi (A 1) 5).toNatClampNeg v3 ∧ gm2 (A 43) = upd (gm (A 43)) (gi (A 1) 5).toNatClampNeg v4 ∧ gm2 (A 46) = upd (gm (A 46)) (gi (A 1) 5).toNatClampNeg (-1) ∧ ∀ a, a ≠ A 12 → a ≠ A 40 → a ≠ A 41 → a ≠ A 42 → a ≠ A 43 → a ≠ A 46 → gm2 a = gm a
theorem bu_cases (hJ : th_J τ gi gr) (hC : ro_C τ gr A) (hQ : ro_M τ1 rm A) (h : c_eq 1 5 0 gi gm A) (ht : ∀ h : Nat, h < 24 → rg 0 200 (gi (A 22) h)) {v1 v2 v3 v4 r1 r2 : Int32} (e1 : M_X11_buoy τ Z gi gr (A 11) v1 v2 v3 v4 r1 τ1 gi1 gr1) (e2 : F_X12_buoy τ1 Z gm rm (A 12) v1 v2 v3 v4 = (r2, gm2)) : r1 = r2 ∧ (x_fin τ gi gr gm A τ1 gi1 gr1 gm2 ∨ bu_ok τ gi gr gm A τ1 gi1 gr1 gm2 v1 v2 v3 v4) := by
  have hr : rg 0 12 (gi (A 1) 5) := n_p hJ hC
  have h10 : ((1 : Int32) = 0) = False := by decide
  unfold M_X11_buoy at e1
  unfold F_X12_buoy at e2
  simp only [w0_c, w0_m, f_X11_buoy_26, f_X11_buoy_27, f_X11_buoy_58, f_X12_buoy_46, h10, if_true, if_false, hC.g 11 0 1 (by decide)] at e1 e2
  have fin : ∀ {w1 w2 : Int32}, ¬ W0 w1 1 5 = 0 → (-1000000) - w1 = w2 → (r1 = (F_X11_finding τ Z gi gr (A 11) w1).1 ∧ τ1 = τ ∧ gi1 = (F_X11_finding τ Z gi gr (A 11) w1).2 ∧ gr1 = gr) → ((F_X12_finding τ1 Z gm rm (A 12) w2).1, (F_X12_finding τ1 Z gm rm (A 12) w2).2) = (r2, gm2) → r1 = r2 ∧ (x_fin τ gi gr gm A τ1 gi1 gr1 gm2 ∨ bu_ok τ gi gr gm A τ1 gi1 gr1 gm2 v1 v2 v3 v4) := fun q1 q2 q3 q4 => by
    obtain ⟨k1, k2⟩ := x_of hC hQ q1 q2 q3 q4
    exact ⟨k1, Or.inl k2⟩
  by_cases g1 : W0 v1 0 999 = 0
  · rw [if_pos g1] at e1 e2
    exact fin (by decide) (by decide) e1 e2
  rw [if_neg g1] at e1 e2
  by_cases g2 : W0 v2 0 999 = 0
  · rw [if_pos g2] at e1 e2
    exact fin (by decide) (by decide) e1 e2
  rw [if_neg g2] at e1 e2
  by_cases g3 : W0 v3 0 300 = 0
  · rw [if_pos g3] at e1 e2
    exact fin (by decide) (by decide) e1 e2
  rw [if_neg g3] at e1 e2
  by_cases g4 : W0 v4 10 400 = 0
  · rw [if_pos g4] at e1 e2
    exact fin (by decide) (by decide) e1 e2
  rw [if_neg g4] at e1 e2
  have h' : gm (A 12) 0 = gi (A 1) 5 := h.symm
  rw [h'] at e2
  by_cases g5 : gi (A 1) 5 < 12
  · have hn : ¬ gi (A 1) 5 = 12 := fun q => by
      rw [q] at g5
      exact absurd g5 (by decide)
    rw [if_pos g5] at e1
    rw [if_neg hn, hQ.g 1 40 (by decide), hQ.g 2 41 (by decide), hQ.g 3 42 (by decide), hQ.g 4 43 (by decide), hQ.g 7 46 (by decide)] at e2
    obtain ⟨x, t, g0, r0, hm, f1, f2, f3, f4⟩ := e1
    unfold M_X0_addBuoy at hm
    dsimp only at hm
    rw [if_neg (Int32.not_le.mpr g5)] at hm
    obtain ⟨q, zq, τ6, gi6, gr6, hi, hm⟩ := hm
    unfold M_X3_init at hi
    obtain ⟨w, zw, nqw, t6, i6, r6⟩ := hi
    have t1 := hC.t 1 1 (by decide) rfl
    have t20 := hC.t 20 20 (by decide) rfl
    have t22 := hC.t 22 22 (by decide) rfl
    have n1q : A 1 ≠ q := fun e => by rw [← e, t1] at zq; exact absurd zq (by decide)
    have n1w : A 1 ≠ w := fun e => by rw [← e, t1] at zw; exact absurd zw (by decide)
    have n20 : A 20 ≠ q := fun e => by rw [← e, t20] at zq; exact absurd zq (by decide)
    have n22q : A 22 ≠ q := fun e => by rw [← e, t22] at zq; exact absurd zq (by decide)
    have n22w : A 22 ≠ w := fun e => by rw [← e, t22] at zw; exact absurd zw (by decide)
    have s3 := w0_rg (l := 0) (h := 300) (by decide) (by decide) g3
    have s4 := w0_rg (l := 10) (h := 400) (by decide) (by decide) g4
    have i22 : gi6 (A 22) = gi (A 22) := by rw [i6, up_n n22q, up_n n22w]
    obtain ⟨g', k1, k2, k3, k4, k5, k6, k7⟩ := ab_sp (A := A) (q := q) (w := w) (r := gr6) (by rw [r6, up_n n1q]; exact hC.g 1 0 20 (by decide)) (by rw [r6, up_n n1q]; exact hC.g 1 2 22 (by decide)) (by rw [r6, up_s]; rfl) nqw n22w _ _ 0 (by decide) (by decide) (by rw [i6, up_s]; exact s3) (by rw [i6, up_s]; exact s4) (by rw [i22]; exact ht) hm
    obtain ⟨b1, b2⟩ := pr2 e2
    have t40 := hQ.t 1 40 (by decide)
    have t41 := hQ.t 2 41 (by decide)
    have t42 := hQ.t 3 42 (by decide)
    have t43 := hQ.t 4 43 (by decide)
    have t46 := hQ.t 7 46 (by decide)
    refine ⟨?_, Or.inr ⟨g5, w0_rg (by decide) (by decide) g1, w0_rg (by decide) (by decide) g2, s3, s4, ⟨q, w, g', zq, zw, nqw, by rw [f2, k2, t6], by rw [f3, k3], ?_, fun a h1 h2 => ?_, ?_, fun h hh => ?_⟩, ?_, ?_, ?_, ?_, ?_, ?_, fun a a1 a2 a3 a4 a5 a6 => ?_⟩⟩
    · rw [f1, k1, ← b1]
      exact (Int32.add_sub_cancel _ _).symm
    · rw [f4, k4, r6, up_n n20]
      rfl
    · rw [k5 a h2, i6, up_n h1, up_n h2]
    · rw [k5 q nqw, i6, up_s]
      rfl
    · have k := k7 h hh (by rw [k_0]; omega)
      rw [i22, i6, up_s] at k
      exact k
    · rw [← b2, up_s, up_n (ro_ne hQ.1 t46 (by decide)), up_n (ro_ne hQ.1 t43 (by decide)), up_n (ro_ne hQ.1 t42 (by decide)), up_n (ro_ne hQ.1 t41 (by decide)), up_n (ro_ne hQ.1 t40 (by decide))]
    · rw [← b2, up_n (ro_ne t40 hQ.1 (by decide)), up_n (ro_ne t40 t46 (by decide)), up_n (ro_ne t40 t43 (by decide)), up_n (ro_ne t40 t42 (by decide)), up_n (ro_ne t40 t41 (by decide)), up_s]
    · rw [← b2, up_n (ro_ne t41 hQ.1 (by decide)), up_n (ro_ne t41 t46 (by decide)), up_n (ro_ne t41 t43 (by decide)), up_n (ro_ne t41 t42 (by decide)), up_s, up_n (ro_ne t41 t40 (by decide))]
    · rw [← b2, up_n (ro_ne t42 hQ.1 (by decide)), up_n (ro_ne t42 t46 (by decide)), up_n (ro_ne t42 t43 (by decide)), up_s, up_n (ro_ne t42 t41 (by decide)), up_n (ro_ne t42 t40 (by decide))]
    · rw [← b2, up_n (ro_ne t43 hQ.1 (by decide)), up_n (ro_ne t43 t46 (by decide)), up_s, up_n (ro_ne t43 t42 (by decide)), up_n (ro_ne t43 t41 (by decide)), up_n (ro_ne t43 t40 (by decide))]
    · rw [← b2, up_n (ro_ne t46 hQ.1 (by decide)), up_s, up_n (ro_ne t46 t43 (by decide)), up_n (ro_ne t46 t42 (by decide)), up_n (ro_ne t46 t41 (by decide)), up_n (ro_ne t46 t40 (by decide))]
    · rw [← b2, up_n a1, up_n a6, up_n a5, up_n a4, up_n a3, up_n a2]
  · have hn := i_lt 12 (by decide) hr g5
    rw [if_neg g5] at e1
    rw [if_pos hn] at e2
    exact fin (by decide) (by decide) e1 e2
theorem nI12 {n : Int32} (h : rg 0 12 n) (hl : n < 12) : n.toNatClampNeg < 12 ∧ ((n.toNatClampNeg : Nat) : Int) = n.toInt ∧ (n + 1).toInt = n.toInt + 1 := by
  have h1 := i_ltI.mp hl
  have h2 : (12 : Int32).toInt = 12 := by decide
  have h3 := h.1
  exact ⟨cl_lt h3 (by omega), i_cl h3, y_1 (m := 16) (by decide) h3 (by omega)⟩
theorem c_buoy.fin (hC : ro_C τ gr A) (hQ : ro_M τ1 rm A) (f : x_fin τ gi gr gm A τ1 gi1 gr1 gm2) (h : c_buoy τ gi gr gm A) : c_buoy τ1 gi1 gr1 gm2 A := by
  obtain ⟨rfl, rfl, k2, k3⟩ := f
  exact c_buoy.fr hC hQ (fm_c hC k2) (fm_m hQ k3) (by decide) (by decide) h
theorem c_sl.fin (hC : ro_C τ gr A) (f : x_fin τ gi gr gm A τ1 gi1 gr1 gm2) (h : c_sl τ gi gr A) : c_sl τ1 gi1 gr1 A := by
  obtain ⟨rfl, rfl, k2, k3⟩ := f
  exact c_sl.fr hC (fm_c hC k2) (by decide) h
theorem c_buoy.buoy (hJ : th_J τ gi gr) (hC : ro_C τ gr A) (nb : c_eq 1 5 0 gi gm A) (hb : c_buoy τ gi gr gm A) {v1 v2 v3 v4 : Int32} (h : bu_ok τ gi gr gm A τ1 gi1 gr1 gm2 v1 v2 v3 v4) : c_buoy τ1 gi1 gr1 gm2 A := by
  obtain ⟨g5, s1, s2, s3, s4, ⟨q, w, g, zq, zw, nqw, et, ei, er, go, gq, gw⟩, m12, m40, m41, m42, m43, m46, mo⟩ := h
  obtain ⟨l1, l2, l3⟩ := nI12 (n_p hJ hC) g5
  have nb' : gm (A 12) 0 = gi (A 1) 5 := nb.symm
  have t1 := hC.t 1 1 (by decide) rfl
  have nq1 : q ≠ A 1 := fun e => by rw [e, t1] at zq; exact absurd zq (by decide)
  intro i hi
  rw [m12, ud_s, l3] at hi
  by_cases hin : i = (gi (A 1) 5).toNatClampNeg
  · subst hin
    have gq1 : gi1 q = fun k => match k with | 0 => gi (A 1) 5 | 1 => v1 | 2 => v2 | 3 => v3 | 4 => v4 | _ => 0 := by rw [ei, up_n nq1, gq]
    refine ⟨q, by rw [er, up_s, up_s], by rw [et, up_s], by rw [gq1]; exact l2.symm, by rw [gq1, m40, ud_s]; rfl, by rw [gq1, m41, ud_s]; rfl, by rw [gq1, m42, ud_s]; rfl, by rw [gq1, m43, ud_s]; rfl, by rw [gq1]; exact s1, by rw [gq1]; exact s2, by rw [gq1]; exact s3, by rw [gq1]; exact s4⟩
  · obtain ⟨b, a1, a2, a3⟩ := hb i (by rw [nb']; omega)
    have tb : τ b ≠ 0 := by rw [a2]; decide
    have bq : b ≠ q := fun e => tb (by rw [e]; exact zq)
    have bw : b ≠ w := fun e => tb (by rw [e]; exact zw)
    have b1 : b ≠ A 1 := ro_ne a2 t1 (by decide)
    have gb : gi1 b = gi b := by rw [ei, up_n b1, go b bq bw]
    refine ⟨b, by rw [er, up_s, up_n hin]; exact a1, by rw [et, up_n bq, up_n bw]; exact a2, ?_⟩
    rw [gb, m40, m41, m42, m43, ud_n hin, ud_n hin, ud_n hin, ud_n hin]
    exact a3
theorem c_sl.buoy (hJ : th_J τ gi gr) (hC : ro_C τ gr A) (hb : c_sl τ gi gr A) {v1 v2 v3 v4 : Int32} (h : bu_ok τ gi gr gm A τ1 gi1 gr1 gm2 v1 v2 v3 v4) : c_sl τ1 gi1 gr1 A := by
  obtain ⟨g5, s1, s2, s3, s4, ⟨q, w, g, zq, zw, nqw, et, ei, er, go, gq, gw⟩, m12, m40, m41, m42, m43, m46, mo⟩ := h
  obtain ⟨l1, l2, l3⟩ := nI12 (n_p hJ hC) g5
  have t1 := hC.t 1 1 (by decide) rfl
  have t20 := hC.t 20 20 (by decide) rfl
  have t22 := hC.t 22 22 (by decide) rfl
  have nq1 : q ≠ A 1 := fun e => by rw [e, t1] at zq; exact absurd zq (by decide)
  have nw1 : w ≠ A 1 := fun e => by rw [e, t1] at zw; exact absurd zw (by decide)
  have nq20 : q ≠ A 20 := fun e => by rw [e, t20] at zq; exact absurd zq (by decide)
  have n22q : A 22 ≠ q := fun e => by rw [← e, t22] at zq; exact absurd zq (by decide)
  have n22w : A 22 ≠ w := fun e => by rw [← e, t22] at zw; exact absurd zw (by decide)
  have c5 : gi1 (A 1) 5 = gi (A 1) 5 + 1 := by rw [ei, up_s, ud_s]
  have e22 : gi1 (A 22) = gi (A 22) := by rw [ei, up_n (ro_ne t22 t1 (by decide)), go _ n22q n22w]
  have old : ∀ b, τ b ≠ 0 → τ b ≠ 1 → τ b ≠ 20 → τ1 b = τ b ∧ gi1 b = gi b ∧ gr1 b = gr b := fun b b0 b1 b20 => by
    have bq : b ≠ q := fun e => b0 (by rw [e]; exact zq)
    have bw : b ≠ w := fun e => b0 (by rw [e]; exact zw)
    have n1 : b ≠ A 1 := fun e => b1 (by rw [e]; exact t1)
    have n20 : b ≠ A 20 := fun e => b20 (by rw [e]; exact t20)
    exact ⟨by rw [et, up_n bq, up_n bw], by rw [ei, up_n n1, go b bq bw], by rw [er, up_n n20, up_n bq]⟩
  have at_n : ∀ b, gr1 (A 20) (gi (A 1) 5).toNatClampNeg = some b → b = q := fun b hb' => by
    rw [er, up_s, up_s] at hb'
    exact (Option.some.inj hb').symm
  have at_o : ∀ i b, i ≠ (gi (A 1) 5).toNatClampNeg → gr1 (A 20) i = some b → gr (A 20) i = some b := fun i b hi hb' => by
    rw [er, up_s, up_n hi] at hb'
    exact hb'
  have g5q : gr1 q 5 = some w := by rw [er, up_n nq20, up_s]; rfl
  obtain ⟨w1, w2⟩ := hb
  unfold c_sl
  rw [c5, l3]
  refine ⟨fun i b hi hq => ?_, fun i i' b b' x hi hi' hq hq' hx hx' => ?_⟩
  · by_cases hin : i = (gi (A 1) 5).toNatClampNeg
    · subst hin
      have := at_n b hq
      subst this
      have gq1 : gi1 b = fun k => match k with | 0 => gi (A 1) 5 | 1 => v1 | 2 => v2 | 3 => v3 | 4 => v4 | _ => 0 := by rw [ei, up_n nq1, gq]
      refine ⟨by rw [et, up_s], by rw [gq1]; exact s3, by rw [gq1]; exact s4, w, g5q, by rw [et, up_n (Ne.symm nqw), up_s], fun h hh => ?_⟩
      rw [gq1, e22, ei, up_n nw1]
      exact gw h hh
    · obtain ⟨x0, r3, r4, x, x1, x2, x3⟩ := w1 i b (by omega) (at_o i b hin hq)
      obtain ⟨o1, o2, o3⟩ := old b (by rw [x0]; decide) (by rw [x0]; decide) (by rw [x0]; decide)
      obtain ⟨p1, p2, p3⟩ := old x (by rw [x2]; decide) (by rw [x2]; decide) (by rw [x2]; decide)
      unfold u_sl
      rw [o1, o2, o3, e22]
      refine ⟨x0, r3, r4, x, x1, by rw [p1]; exact x2, fun h hh => ?_⟩
      rw [p2]
      exact x3 h hh
  · have fresh : ∀ k c x', k ≠ (gi (A 1) 5).toNatClampNeg → (k : Int) < (gi (A 1) 5).toInt + 1 → gr1 (A 20) k = some c → gr1 c 5 = some x' → x' ≠ w := fun k c x' hk hk2 hkc hcx e => by
      obtain ⟨x0, r3, r4, x2', x1, x2, x3⟩ := w1 k c (by omega) (at_o k c hk hkc)
      rw [(old c (by rw [x0]; decide) (by rw [x0]; decide) (by rw [x0]; decide)).2.2] at hcx
      have : x2' = x' := Option.some.inj (x1.symm.trans hcx)
      rw [this, e, zw] at x2
      exact absurd x2 (by decide)
    by_cases hin : i = (gi (A 1) 5).toNatClampNeg
    · by_cases hin' : i' = (gi (A 1) 5).toNatClampNeg
      · rw [hin, hin']
      · rw [hin] at hq
        rw [at_n b hq, g5q] at hx
        exact absurd (Option.some.inj hx).symm (fresh i' b' x hin' hi' hq' hx')
    · by_cases hin' : i' = (gi (A 1) 5).toNatClampNeg
      · rw [hin'] at hq'
        rw [at_n b' hq', g5q] at hx'
        exact absurd (Option.some.inj hx').symm (fresh i b x hin hi hq hx)
      · have h1 := at_o i b hin hq
        have h2 := at_o i' b' hin' hq'
        have o1 := (w1 i b (by omega) h1).1
        have o2 := (w1 i' b' (by omega) h2).1
        rw [(old b (by rw [o1]; decide) (by rw [o1]; decide) (by rw [o1]; decide)).2.2] at hx
        rw [(old b' (by rw [o2]; decide) (by rw [o2]; decide) (by rw [o2]; decide)).2.2] at hx'
        exact w2 i i' b b' x (by omega) (by omega) h1 h2 hx hx'
end BU
end
section
/-! ===== a TIDE is set: the least one, hours with an earlier one's, the chain's part ===== -/
section TS
variable {τ τ1 : th_t} {Z : th_Zt} {gi gi1 gm gm2 : th_i} {gr gr1 rm rm2 : th_r} {A : Nat → Nat} {M1 M2 : List Nat}
def c_least (gi : th_i) (A : Nat → Nat) : Prop := (∀ h : Nat, h < 24 → (gi (A 1) 8).toInt ≤ (gi (A 22) h).toInt) ∧ ∃ h : Nat, h < 24 ∧ gi (A 1) 8 = gi (A 22) h
def c_rep (gi : th_i) (A : Nat → Nat) : Prop := ∀ h : Nat, h < 24 → (gi (A 23) h = 0 ↔ ∀ k : Nat, k < h → ¬ gi (A 22) k = gi (A 22) h)
theorem c_least.fr (hC : ro_C τ gr A) (h1 : th_Mod M1 τ gi gr gi1 gr1) (k1 : ∀ k ∈ [108, 2200], k ∉ M1) (h : c_least gi A) : c_least gi1 A := by
  unfold c_least
  rw [(ro_k h1 8 (hC.t 1 1 (by decide) rfl) (by decide) (k1 108 (by decide))).1, (ro_ka h1 (hC.t 22 22 (by decide) rfl) (by decide) (k1 2200 (by decide))).1]
  exact h
theorem c_rep.fr (hC : ro_C τ gr A) (h1 : th_Mod M1 τ gi gr gi1 gr1) (k1 : ∀ k ∈ [2200, 2300], k ∉ M1) (h : c_rep gi A) : c_rep gi1 A := by
  unfold c_rep
  rw [(ro_ka h1 (hC.t 23 23 (by decide) rfl) (by decide) (k1 2300 (by decide))).1, (ro_ka h1 (hC.t 22 22 (by decide) rfl) (by decide) (k1 2200 (by decide))).1]
  exact h
theorem bu_g (hC : ro_C τ gr A) {g : th_i} {y : Int32} (hn : rg 0 12 (g (A 1) 5)) (h0 : 0 ≤ y.toInt) (h1 : y.toInt < (g (A 1) 5).toInt) : F_X0_buoyAt τ Z g gr (A 1) y = gr (A 20) y.toNatClampNeg := by
  have h2 := hn.2
  have g1 : ¬ W0 y 0 (g (A 1) 5 - 1) = 0 := fun q => (w0_n (by decide) hn).mp q ⟨h0, h1⟩
  have g2 : ¬ (12 : Int32) ≤ y := fun q => by
    have q1 := i_le.mp q
    have q2 : (12 : Int32).toInt = 12 := by decide
    omega
  unfold F_X0_buoyAt
  dsimp only
  rw [w0_c, if_neg g1, if_neg g2, hC.g 1 0 20 (by decide)]
theorem bo_g (hC : ro_C τ gr A) {g : th_i} {y : Int32} (hn : rg 0 16 (g (A 1) 6)) (h0 : 0 ≤ y.toInt) (h1 : y.toInt < (g (A 1) 6).toInt) : F_X0_boatAt τ Z g gr (A 1) y = gr (A 21) y.toNatClampNeg := by
  have h2 := hn.2
  have g1 : ¬ W0 y 0 (g (A 1) 6 - 1) = 0 := fun q => (w0_n (by decide) hn).mp q ⟨h0, h1⟩
  have g2 : ¬ (16 : Int32) ≤ y := fun q => by
    have q1 := i_le.mp q
    have q2 : (16 : Int32).toInt = 16 := by decide
    omega
  unfold F_X0_boatAt
  dsimp only
  rw [w0_c, if_neg g1, if_neg g2, hC.g 1 1 21 (by decide)]
theorem bu_gn {g : th_i} {y : Int32} (hn : rg 0 12 (g (A 1) 5)) (h : ¬ (0 ≤ y.toInt ∧ y.toInt < (g (A 1) 5).toInt)) : F_X0_buoyAt τ Z g gr (A 1) y = none := by
  unfold F_X0_buoyAt
  dsimp only
  rw [w0_c, if_pos ((w0_n (by decide) hn).mpr h)]
theorem bo_gn {g : th_i} {y : Int32} (hn : rg 0 16 (g (A 1) 6)) (h : ¬ (0 ≤ y.toInt ∧ y.toInt < (g (A 1) 6).toInt)) : F_X0_boatAt τ Z g gr (A 1) y = none := by
  unfold F_X0_boatAt
  dsimp only
  rw [w0_c, if_pos ((w0_n (by decide) hn).mpr h)]
theorem et_sp (hC : ro_C τ gr A) {g : th_i} {p : Int32} (hp0 : 0 ≤ p.toInt) (hp : p.toInt ≤ 23) : ∀ (n : Nat) (y : Int32), 0 ≤ y.toInt → (23 - y.toInt).toNat < n → (f_X0_isEarlierTide_2 τ Z g gr (A 1) p n y = 0 ∧ ∀ k : Nat, y.toInt ≤ (k : Int) → (k : Int) < p.toInt → ¬ g (A 22) k = g (A 22) p.toNatClampNeg) ∨ (f_X0_isEarlierTide_2 τ Z g gr (A 1) p n y = 1 ∧ ∃ k : Nat, y.toInt ≤ (k : Int) ∧ (k : Int) < p.toInt ∧ g (A 22) k = g (A 22) p.toNatClampNeg) := by
  intro n
  induction n with
  | zero => intro y _ h; exact absurd h (Nat.not_lt_zero _)
  | succ n ih =>
    intro y h0 h
    unfold f_X0_isEarlierTide_2
    dsimp only
    rw [hC.g 1 2 22 (by decide)]
    by_cases hc : p ≤ y
    · rw [if_pos hc]
      have hc' := i_le.mp hc
      exact Or.inl ⟨rfl, fun k h1 h2 => by omega⟩
    · rw [if_neg hc]
      have hc' := i_ltI.mp (Int32.not_le.mp hc)
      have cy := i_cl h0
      by_cases he : g (A 22) y.toNatClampNeg = g (A 22) p.toNatClampNeg
      · rw [if_pos he]
        exact Or.inr ⟨rfl, y.toNatClampNeg, by omega, by omega, he⟩
      · rw [if_neg he]
        have e := y_1 (m := 24) (by decide) h0 (by omega)
        rcases ih (y + 1) (by omega) (by omega) with ⟨k1, k2⟩ | ⟨k1, k, k2, k3, k4⟩
        · refine Or.inl ⟨k1, fun k h1 h2 => ?_⟩
          by_cases hk : (k : Int) = y.toInt
          · rw [← cl_in hk]
            exact he
          · exact k2 k (by omega) h2
        · exact Or.inr ⟨k1, k, by omega, k3, k4⟩
theorem et_iff (hC : ro_C τ gr A) {g : th_i} {p : Int32} (hp0 : 0 ≤ p.toInt) (hp : p.toInt ≤ 23) : F_X0_isEarlierTide τ Z g gr (A 1) p = 0 ↔ ∀ k : Nat, k < p.toNatClampNeg → ¬ g (A 22) k = g (A 22) p.toNatClampNeg := by
  have cp := i_cl hp0
  unfold F_X0_isEarlierTide
  rcases et_sp (Z := Z) hC (g := g) hp0 hp ((23 - (0 : Int32).toInt).toNat + 1) 0 (by decide) (Nat.lt_add_one _) with ⟨k1, k2⟩ | ⟨k1, k, k2, k3, k4⟩
  · rw [k1]
    exact ⟨fun _ k hk => k2 k (by rw [k_0]; omega) (by omega), fun _ => rfl⟩
  · rw [k1]
    exact ⟨fun q => absurd q (by decide), fun q => absurd k4 (q k (by omega))⟩
theorem mn_c (a b : Int32) : (th_mn a b).toInt ≤ a.toInt ∧ (th_mn a b).toInt ≤ b.toInt ∧ (th_mn a b = a ∨ th_mn a b = b) := by
  unfold th_mn
  by_cases h : b < a
  · rw [if_pos h]
    have := i_ltI.mp h
    exact ⟨by omega, by omega, Or.inr rfl⟩
  · rw [if_neg h]
    have := i_le.mp (Int32.not_lt.mp h)
    exact ⟨by omega, by omega, Or.inl rfl⟩
theorem mx_c (a b : Int32) : a.toInt ≤ (th_mx a b).toInt ∧ b.toInt ≤ (th_mx a b).toInt ∧ (th_mx a b = a ∨ th_mx a b = b) := by
  unfold th_mx
  by_cases h : a < b
  · rw [if_pos h]
    have := i_ltI.mp h
    exact ⟨by omega, by omega, Or.inr rfl⟩
  · rw [if_neg h]
    have := i_le.mp (Int32.not_lt.mp h)
    exact ⟨by omega, by omega, Or.inl rfl⟩
theorem s6_sp (hC : ro_C τ gr A) {p1 p2 : Int32} : ∀ (n : Nat) (g : th_i) (y : Int32), 0 ≤ y.toInt → (24 - y.toInt).toNat < n → (∀ a, a ≠ A 1 → a ≠ A 23 → f_X0_setTide_62 τ Z gi gr (A 1) p1 p2 n g y a = g a) ∧ (f_X0_setTide_62 τ Z gi gr (A 1) p1 p2 n g y (A 1) 8).toInt ≤ (g (A 1) 8).toInt ∧ (∀ h : Nat, h < 24 → y.toInt ≤ (h : Int) → (f_X0_setTide_62 τ Z gi gr (A 1) p1 p2 n g y (A 1) 8).toInt ≤ (g (A 22) h).toInt) ∧ (f_X0_setTide_62 τ Z gi gr (A 1) p1 p2 n g y (A 1) 8 = g (A 1) 8 ∨ ∃ h : Nat, h < 24 ∧ f_X0_setTide_62 τ Z gi gr (A 1) p1 p2 n g y (A 1) 8 = g (A 22) h) ∧ (∀ h : Nat, h < 24 → y.toInt ≤ (h : Int) → (f_X0_setTide_62 τ Z gi gr (A 1) p1 p2 n g y (A 23) h = 0 ↔ ∀ k : Nat, k < h → ¬ g (A 22) k = g (A 22) h)) ∧ (∀ h : Nat, (h : Int) < y.toInt → f_X0_setTide_62 τ Z gi gr (A 1) p1 p2 n g y (A 23) h = g (A 23) h) := by
  intro n
  induction n with
  | zero => intro g y _ h; exact absurd h (Nat.not_lt_zero _)
  | succ n ih =>
    intro g y h0 h
    have hu : f_X0_setTide_62 τ Z gi gr (A 1) p1 p2 (n + 1) g y = if (24 : Int32) ≤ y then g else f_X0_setTide_62 τ Z gi gr (A 1) p1 p2 n (va_up (va_up g (A 1) (upd (g (A 1)) 8 (th_mn (g (A 1) 8) (g (A 22) y.toNatClampNeg)))) (A 23) (upd (va_up g (A 1) (upd (g (A 1)) 8 (th_mn (g (A 1) 8) (g (A 22) y.toNatClampNeg))) (A 23)) y.toNatClampNeg (F_X0_isEarlierTide τ Z (va_up g (A 1) (upd (g (A 1)) 8 (th_mn (g (A 1) 8) (g (A 22) y.toNatClampNeg)))) gr (A 1) y))) (y + 1) := by
      rw [← hC.g 1 3 23 (by decide), ← hC.g 1 2 22 (by decide)]
      rfl
    rw [hu]
    by_cases hc : (24 : Int32) ≤ y
    · rw [if_pos hc]
      have hc' := i_le.mp hc
      rw [k_24] at hc'
      exact ⟨fun _ _ _ => rfl, Int.le_refl _, fun h h1 h2 => by omega, Or.inl rfl, fun h h1 h2 => by omega, fun _ _ => rfl⟩
    · rw [if_neg hc]
      have hc' := i_ltI.mp (Int32.not_le.mp hc)
      rw [k_24] at hc'
      have cy := i_cl h0
      have e := y_1 (m := 24) (by decide) h0 (by omega)
      have t1 := hC.t 1 1 (by decide) rfl
      have t22 := hC.t 22 22 (by decide) rfl
      have t23 := hC.t 23 23 (by decide) rfl
      have n1 := ro_ne t1 t23 (by decide)
      have n2 := ro_ne t22 t1 (by decide)
      have n3 := ro_ne t22 t23 (by decide)
      obtain ⟨m1, m2, m3⟩ := mn_c (g (A 1) 8) (g (A 22) y.toNatClampNeg)
      generalize hM : th_mn (g (A 1) 8) (g (A 22) y.toNatClampNeg) = mm at m1 m2 m3 ⊢
      have ei := et_iff (Z := Z) hC (g := va_up g (A 1) (upd (g (A 1)) 8 mm)) (p := y) h0 (by omega)
      rw [up_n n2] at ei
      generalize hE : F_X0_isEarlierTide τ Z (va_up g (A 1) (upd (g (A 1)) 8 mm)) gr (A 1) y = ee at ei ⊢
      generalize hG : va_up (va_up g (A 1) (upd (g (A 1)) 8 mm)) (A 23) (upd (va_up g (A 1) (upd (g (A 1)) 8 mm) (A 23)) y.toNatClampNeg ee) = g15
      have f1 : g15 (A 1) 8 = mm := by rw [← hG, up_n n1, up_s, ud_s]
      have f22 : g15 (A 22) = g (A 22) := by rw [← hG, up_n n3, up_n n2]
      have f23 : g15 (A 23) = upd (g (A 23)) y.toNatClampNeg ee := by rw [← hG, up_s, up_n (Ne.symm n1)]
      obtain ⟨q1, q2, q3, q4, q5, q6⟩ := ih g15 (y + 1) (by omega) (by omega)
      rw [f1] at q2 q4
      rw [f22] at q3 q4 q5
      rw [f23] at q6
      refine ⟨fun a a1 a2 => ?_, by omega, fun h h1 h2 => ?_, ?_, fun h h1 h2 => ?_, fun h h1 => ?_⟩
      · rw [q1 a a1 a2, ← hG, up_n a2, up_n a1]
      · by_cases hy : (h : Int) = y.toInt
        · rw [← cl_in hy]
          omega
        · exact q3 h h1 (by omega)
      · rcases q4 with q | q
        · rw [q]
          rcases m3 with m | m
          · exact Or.inl m
          · exact Or.inr ⟨y.toNatClampNeg, by omega, m⟩
        · exact Or.inr q
      · by_cases hy : (h : Int) = y.toInt
        · rw [q6 h (by omega), ← cl_in hy, ud_s]
          exact ei
        · exact q5 h h1 (by omega)
      · rw [q6 h (by omega), ud_n (by omega)]
theorem s1_sp (hC : ro_C τ gr A) {G : th_i} {p v : Int32} (hp : ¬ W0 p 0 23 = 0) (hv : rg 0 200 v) (hn : rg 0 12 (G (A 1) 5)) (H1 : ∀ i q : Nat, (i : Int) < (G (A 1) 5).toInt → gr (A 20) i = some q → τ q = 3 ∧ rg 0 300 (G q 3) ∧ rg 10 400 (G q 4) ∧ ∃ w, gr q 5 = some w ∧ τ w = 26) (H2 : ∀ i i' q q' w : Nat, (i : Int) < (G (A 1) 5).toInt → (i' : Int) < (G (A 1) 5).toInt → gr (A 20) i = some q → gr (A 20) i' = some q' → gr q 5 = some w → gr q' 5 = some w → i = i') : ∀ (n : Nat) (g : th_i) (y : Int32), (∀ a, τ a ≠ 26 → g a = G a) → 0 ≤ y.toInt → (12 - y.toInt).toNat < n → ∃ g', f_X0_setTide_17 τ Z gi gr (A 1) p v n g y = f_X0_setTide_62 τ Z gi gr (A 1) p v ((24 - (0 : Int32).toInt).toNat + 1) (va_up g' (A 1) (upd (g' (A 1)) 8 (g' (A 22) 0))) 0 ∧ (∀ a, τ a ≠ 26 → g' a = G a) ∧ (∀ i q w : Nat, y.toInt ≤ (i : Int) → (i : Int) < (G (A 1) 5).toInt → gr (A 20) i = some q → gr q 5 = some w → ∃ s, g' w = upd (g w) p.toNatClampNeg s ∧ sl_ok (G q 3) (G q 4) v s) ∧ (∀ w : Nat, (∀ i q : Nat, y.toInt ≤ (i : Int) → (i : Int) < (G (A 1) 5).toInt → gr (A 20) i = some q → ¬ gr q 5 = some w) → g' w = g w) := by
  intro n
  induction n with
  | zero => intro g y _ _ h; exact absurd h (Nat.not_lt_zero _)
  | succ n ih =>
    intro g y hg h0 h
    have hn2 := hn.2
    have t1 := hC.t 1 1 (by decide) rfl
    have g1 : g (A 1) = G (A 1) := hg _ (by rw [t1]; decide)
    have z0 : (0 : Int32).toNatClampNeg = 0 := by decide
    have hu : f_X0_setTide_17 τ Z gi gr (A 1) p v (n + 1) g y = if g (A 1) 5 ≤ y then f_X0_setTide_62 τ Z gi gr (A 1) p v ((24 - (0 : Int32).toInt).toNat + 1) (va_up g (A 1) (upd (g (A 1)) 8 (g (A 22) 0))) 0 else Option.elim (F_X0_buoyAt τ Z g gr (A 1) y) (f_X0_setTide_17 τ Z gi gr (A 1) p v n g (y + 1)) (fun q => f_X0_setTide_17 τ Z gi gr (A 1) p v n (F_X3_flood τ Z g gr q p v) (y + 1)) := by
      rw [← hC.g 1 2 22 (by decide)]
      rfl
    by_cases hc : g (A 1) 5 ≤ y
    · rw [hu, if_pos hc]
      have hc' := i_le.mp hc
      rw [g1] at hc'
      exact ⟨g, rfl, hg, fun i q w h1 h2 => by omega, fun _ _ => rfl⟩
    · rw [hu, if_neg hc]
      have hc' := i_ltI.mp (Int32.not_le.mp hc)
      rw [g1] at hc'
      have cy := i_cl h0
      have e := y_1 (m := 12) (by decide) h0 (by omega)
      rw [bu_g hC (by rw [g1]; exact hn) h0 (by rw [g1]; exact hc')]
      cases ho : gr (A 20) y.toNatClampNeg with
      | none =>
        obtain ⟨g', k1, k2, k3, k4⟩ := ih g (y + 1) hg (by omega) (by omega)
        refine ⟨g', k1, k2, fun i q w h1 h2 h3 h4 => ?_, fun w hw => k4 w (fun i q h1 h2 h3 => hw i q (by omega) h2 h3)⟩
        by_cases hi : (i : Int) = y.toInt
        · rw [cl_in hi] at ho
          rw [ho] at h3
          cases h3
        · exact k3 i q w (by omega) h2 h3 h4
      | some b =>
        obtain ⟨tb, r3, r4, wb, hwb, twb⟩ := H1 y.toNatClampNeg b (by omega) ho
        have gb : g b = G b := hg b (by rw [tb]; decide)
        obtain ⟨s, es, ks⟩ := fd_at (τ := τ) (Z := Z) (g := g) hwb hp (by rw [gb]; exact r3) (by rw [gb]; exact r4) hv
        rw [gb] at ks
        obtain ⟨g', k1, k2, k3, k4⟩ := ih (va_up g wb (upd (g wb) p.toNatClampNeg s)) (y + 1) (fun a ha => by
          rw [up_n (fun e' => ha (by rw [e']; exact twb))]
          exact hg a ha) (by omega) (by omega)
        show ∃ g', f_X0_setTide_17 τ Z gi gr (A 1) p v n (F_X3_flood τ Z g gr b p v) (y + 1) = _ ∧ _
        rw [es]
        refine ⟨g', k1, k2, fun i q w h1 h2 h3 h4 => ?_, fun w hw => ?_⟩
        · by_cases hi : (i : Int) = y.toInt
          · have hiy : i = y.toNatClampNeg := by omega
            rw [hiy] at h3
            have : b = q := Option.some.inj (ho.symm.trans h3)
            subst this
            have : wb = w := Option.some.inj (hwb.symm.trans h4)
            subst this
            refine ⟨s, ?_, ks⟩
            rw [k4 wb (fun i' q' l1 l2 l3 l4 => by
              have := H2 i' y.toNatClampNeg q' b wb l2 (by omega) l3 ho l4 hwb
              omega), up_s]
          · obtain ⟨s', q1, q2⟩ := k3 i q w (by omega) h2 h3 h4
            have nw : w ≠ wb := fun e' => by
              have := H2 i y.toNatClampNeg q b wb h2 (by omega) h3 ho (by rw [← e']; exact h4) hwb
              omega
            exact ⟨s', by rw [q1, up_n nw], q2⟩
        · have nw : w ≠ wb := fun e' => hw y.toNatClampNeg b (by omega) (by omega) ho (by rw [e']; exact hwb)
          rw [k4 w (fun i q h1 h2 h3 => hw i q (by omega) h2 h3), up_n nw]
/-- all that a TIDE does to the class -/
theorem s_tideS (hJ : th_J τ gi gr) (hC : ro_C τ gr A) (h1 : th_Mod M1 τ gi gr gi1 gr) (k1 : ∀ k ∈ [105, 303, 304], k ∉ M1) (hs : c_sl τ gi gr A) (hl : c_least gi A) (hr : c_rep gi A) {p v r1 : Int32} (e1 : F_X11_tide τ Z gi gr (A 11) p v = (r1, gi1)) : c_sl τ gi1 gr A ∧ c_least gi1 A ∧ c_rep gi1 A := by
  have t1 := hC.t 1 1 (by decide) rfl
  have m5 := (ro_k h1 5 t1 (by decide) (k1 105 (by decide))).1
  have m3 : ∀ q, τ q = 3 → gi1 q 3 = gi q 3 := fun q t => (ro_k h1 3 t (by decide) (k1 303 (by decide))).1
  have m4 : ∀ q, τ q = 3 → gi1 q 4 = gi q 4 := fun q t => (ro_k h1 4 t (by decide) (k1 304 (by decide))).1
  unfold F_X11_tide F_X11_isHour f_X11_tide_18 at e1
  dsimp only at e1
  rw [w0_c, w0_c, hC.g 11 0 1 (by decide), hC.g 1 2 22 (by decide)] at e1
  have fin : ((F_X11_finding τ Z gi gr (A 11) 1).1, (F_X11_finding τ Z gi gr (A 11) 1).2) = (r1, gi1) → c_sl τ gi1 gr A ∧ c_least gi1 A ∧ c_rep gi1 A := fun q1 => by
    rw [fi_c hC (by decide)] at q1
    have k : ∀ a, a ≠ A 36 → gi1 a = gi a := fun a ha => by
      rw [← (pr2 q1).2]
      exact up_n ha
    have m := fm_c hC k
    exact ⟨hs.fr hC m (by decide), hl.fr hC m (by decide), hr.fr hC m (by decide)⟩
  by_cases g1 : W0 p 0 23 = 0
  · rw [if_pos g1] at e1
    exact fin e1
  rw [if_neg g1] at e1
  by_cases g2 : W0 v 0 200 = 0
  · rw [if_pos g2] at e1
    exact fin e1
  rw [if_neg g2] at e1
  obtain ⟨-, a2⟩ := pr2 e1
  have hv := w0_rg (l := 0) (h := 200) (by decide) (by decide) g2
  have hpr := w0_rg (l := 0) (h := 23) (by decide) (by decide) g1
  have cp := i_cl hpr.1
  have hp2 := hpr.2
  have t22 := hC.t 22 22 (by decide) rfl
  have e22 : gi1 (A 22) = upd (gi (A 22)) p.toNatClampNeg v := by rw [← a2]; exact st_22 hJ hC g1
  have hG : ∀ a, a ≠ A 22 → va_up gi (A 22) (upd (gi (A 22)) p.toNatClampNeg v) a = gi a := fun a ha => up_n ha
  obtain ⟨w1, w2⟩ := hs
  have n122 := ro_ne t1 t22 (by decide)
  unfold F_X0_setTide F_X11_isHour at a2
  dsimp only at a2
  rw [w0_c, if_neg g1, hC.g 1 2 22 (by decide)] at a2
  obtain ⟨g', q1, q2, q3, q4⟩ := s1_sp (Z := Z) (gi := gi) hC (G := va_up gi (A 22) (upd (gi (A 22)) p.toNatClampNeg v)) g1 hv (by rw [hG _ n122]; exact n_p hJ hC) (fun i q hi hq => by
      rw [hG _ n122] at hi
      obtain ⟨x0, r3, r4, w, x1, x2, x3⟩ := w1 i q hi hq
      rw [hG q (ro_ne x0 t22 (by decide))]
      exact ⟨x0, r3, r4, w, x1, x2⟩) (fun i i' q q' w hi hi' => by
      rw [hG _ n122] at hi hi'
      exact w2 i i' q q' w hi hi') ((12 - (0 : Int32).toInt).toNat + 1) (va_up gi (A 22) (upd (gi (A 22)) p.toNatClampNeg v)) 0 (fun _ _ => rfl) (by decide) (Nat.lt_add_one _)
  rw [q1] at a2
  obtain ⟨u1, u2, u3, u4, u5, u6⟩ := s6_sp (Z := Z) (gi := gi) hC (p1 := p) (p2 := v) ((24 - (0 : Int32).toInt).toNat + 1) (va_up g' (A 1) (upd (g' (A 1)) 8 (g' (A 22) 0))) 0 (by decide) (Nat.lt_add_one _)
  rw [a2] at u1 u2 u3 u4 u5
  have g22 : va_up g' (A 1) (upd (g' (A 1)) 8 (g' (A 22) 0)) (A 22) = gi1 (A 22) := (u1 _ (Ne.symm n122) (ro_ne t22 (hC.t 23 23 (by decide) rfl) (by decide))).symm
  rw [g22] at u3 u4 u5
  have g8 : va_up g' (A 1) (upd (g' (A 1)) 8 (g' (A 22) 0)) (A 1) 8 = gi1 (A 22) 0 := by rw [up_s, ud_s, ← g22, up_n (Ne.symm n122)]
  rw [g8] at u4
  refine ⟨⟨fun i q hi hq => ?_, ?_⟩, ⟨fun h hh => u3 h hh (by rw [k_0]; omega), ?_⟩, fun h hh => u5 h hh (by rw [k_0]; omega)⟩
  · rw [m5] at hi
    obtain ⟨x0, r3, r4, w, x1, x2, x3⟩ := w1 i q hi hq
    obtain ⟨s, y1, y2⟩ := q3 i q w (by rw [k_0]; omega) (by rw [hG _ n122]; exact hi) hq x1
    rw [hG q (ro_ne x0 t22 (by decide))] at y2
    rw [hG w (ro_ne x2 t22 (by decide))] at y1
    have gw : gi1 w = upd (gi w) p.toNatClampNeg s := by rw [u1 w (ro_ne x2 t1 (by decide)) (ro_ne x2 (hC.t 23 23 (by decide) rfl) (by decide)), up_n (ro_ne x2 t1 (by decide)), y1]
    refine ⟨x0, by rw [m3 q x0]; exact r3, by rw [m4 q x0]; exact r4, w, x1, x2, fun h hh => ?_⟩
    rw [m3 q x0, m4 q x0, e22, gw]
    by_cases hp : h = p.toNatClampNeg
    · rw [hp, ud_s, ud_s]
      exact y2
    · rw [ud_n hp, ud_n hp]
      exact x3 h hh
  · rw [m5]
    exact w2
  · rcases u4 with u | ⟨h, hh, u⟩
    · exact ⟨0, by decide, u⟩
    · exact ⟨h, hh, u⟩
end TS
end
section
/-! ===== FITS, OUT ===== -/
section FO
variable {τ τ1 : th_t} {Z : th_Zt} {gi gi1 gm gm2 : th_i} {gr gr1 rm rm2 : th_r} {A : Nat → Nat} {M1 M2 : List Nat}
def f_reach (k l : Int32) : Int32 := if k = 1 then l + l / 2 else l
def f_need (k d : Int32) : Int32 := if k = 2 then d / 2 else d
theorem re_at {q : Nat} {k : Int32} (h : b_kind τ q k) : FV_reach τ Z gi gr q = f_reach k (gi q 1) := by
  unfold f_reach
  rcases h with ⟨t, e⟩ | ⟨t, e⟩ | ⟨t, e⟩
  · rw [FV_reach_8 t, e, if_neg (by decide)]; rfl
  · rw [FV_reach_9 t, e, if_pos rfl]; rfl
  · rw [FV_reach_4 t, e, if_neg (by decide)]; rfl
theorem ne_at {q : Nat} {k : Int32} (h : b_kind τ q k) : FV_need τ Z gi gr q = f_need k (gi q 2) := by
  unfold f_need
  rcases h with ⟨t, e⟩ | ⟨t, e⟩ | ⟨t, e⟩
  · rw [FV_need_8 t, e, if_neg (by decide)]; rfl
  · rw [FV_need_9 t, e, if_neg (by decide)]; rfl
  · rw [FV_need_4 t, e, if_pos rfl]; rfl
theorem reach_at (hQ : ro_M τ rm A) {v : Int32} : F_X12_reachOf τ Z gm rm (A 12) v = f_reach (gm (A 47) v.toNatClampNeg) (gm (A 48) v.toNatClampNeg) := by
  unfold F_X12_reachOf f_reach
  dsimp only
  rw [hQ.g 10 48 (by decide), hQ.g 9 47 (by decide)]
theorem i_half {l : Int32} (h : 0 ≤ l.toInt) : (l / 2).toInt = l.toInt / 2 := by
  rw [i_div (by rw [k_2]; decide) h, k_2]
theorem reach_rg {k l : Int32} (h : rg 10 300 l) : rg 10 450 (f_reach k l) := by
  obtain ⟨h1, h2⟩ := h
  unfold f_reach
  by_cases hk : k = 1
  · rw [if_pos hk, rg]
    have e := i_half (l := l) (by omega)
    rw [i_add (by omega) (by omega), e]
    exact ⟨by omega, by omega⟩
  · rw [if_neg hk]
    exact ⟨h1, by omega⟩
theorem need_rg {k d : Int32} (h : rg 0 100 d) : rg 0 100 (f_need k d) := by
  obtain ⟨h1, h2⟩ := h
  unfold f_need
  by_cases hk : k = 2
  · rw [if_pos hk, rg, i_half h1]
    exact ⟨by omega, by omega⟩
  · rw [if_neg hk]
    exact ⟨h1, h2⟩
theorem cf_0 {v p nd : Int32} : ∀ (n : Nat) (y : Int32), 0 ≤ y.toInt → (24 - y.toInt).toNat < n → f_X12_canFit_53 τ Z gm rm (A 12) v p n nd 0 y = 0 := by
  intro n
  induction n with
  | zero => intro y _ h; exact absurd h (Nat.not_lt_zero _)
  | succ n ih =>
    intro y h0 h
    unfold f_X12_canFit_53 f_X12_canFit_87 f_X12_canFit_88
    dsimp only
    by_cases hc : (24 : Int32) ≤ y
    · rw [if_pos hc]
    · rw [if_neg hc, if_pos rfl]
      have hc' := i_ltI.mp (Int32.not_le.mp hc)
      rw [k_24] at hc'
      have e := y_1 (m := 24) (by decide) h0 (by omega)
      exact ih (y + 1) (by omega) (by omega)
theorem cf_1 (hQ : ro_M τ rm A) {v p nd : Int32} : ∀ (n : Nat) (y : Int32), 0 ≤ y.toInt → (24 - y.toInt).toNat < n → (f_X12_canFit_53 τ Z gm rm (A 12) v p n nd 1 y = 0 ∧ ∃ h : Nat, h < 24 ∧ gm (A 42) p.toNatClampNeg + gm (A 51) h < nd) ∨ (f_X12_canFit_53 τ Z gm rm (A 12) v p n nd 1 y = 1 ∧ ∀ h : Nat, h < 24 → y.toInt ≤ (h : Int) → ¬ gm (A 42) p.toNatClampNeg + gm (A 51) h < nd) := by
  intro n
  induction n with
  | zero => intro y _ h; exact absurd h (Nat.not_lt_zero _)
  | succ n ih =>
    intro y h0 h
    unfold f_X12_canFit_53 f_X12_canFit_87 f_X12_canFit_88
    dsimp only
    rw [hQ.g 3 42 (by decide), hQ.g 13 51 (by decide)]
    by_cases hc : (24 : Int32) ≤ y
    · rw [if_pos hc]
      have hc' := i_le.mp hc
      rw [k_24] at hc'
      exact Or.inr ⟨rfl, fun h h1 h2 => by omega⟩
    · rw [if_neg hc, if_neg (by decide)]
      have hc' := i_ltI.mp (Int32.not_le.mp hc)
      rw [k_24] at hc'
      have cy := i_cl h0
      have e := y_1 (m := 24) (by decide) h0 (by omega)
      by_cases hd : gm (A 42) p.toNatClampNeg + gm (A 51) y.toNatClampNeg < nd
      · rw [if_pos hd]
        exact Or.inl ⟨cf_0 n (y + 1) (by omega) (by omega), y.toNatClampNeg, by omega, hd⟩
      · rw [if_neg hd]
        rcases ih (y + 1) (by omega) (by omega) with k | ⟨k1, k2⟩
        · exact Or.inl k
        · refine Or.inr ⟨k1, fun h h1 h2 => ?_⟩
          by_cases hh : (h : Int) = y.toInt
          · rw [← cl_in hh]
            exact hd
          · exact k2 h h1 (by omega)
/-- FITS is the same -/
theorem fits_eq (hQ : ro_M τ rm A) (hJm : th_J τ gm rm) (ht : c_tid gi gm A) (hl : c_least gi A) {v p : Int32} {qb qp : Nat} (hb : b_at τ gi gr gm A v.toNatClampNeg qb) (hp : u_at τ gi gr gm A p.toNatClampNeg qp) : F_X0_suits τ Z gi gr (A 1) qb qp = F_X12_canFit τ Z gm rm (A 12) v p := by
  obtain ⟨a1, a2, a3, a4, a5, a6, a7⟩ := hb
  obtain ⟨b1, b2, b3, b4, b5, b6, b7, b8, b9, c1, c2⟩ := hp
  have tr := t_rg hJm hQ ht
  have hm : F_X12_canFit τ Z gm rm (A 12) v p = if gm (A 43) p.toNatClampNeg < gm (A 48) v.toNatClampNeg then f_X12_canFit_53 τ Z gm rm (A 12) v p ((24 - (0 : Int32).toInt).toNat + 1) (f_need (gm (A 47) v.toNatClampNeg) (gm (A 49) v.toNatClampNeg)) 0 0 else f_X12_canFit_53 τ Z gm rm (A 12) v p ((24 - (0 : Int32).toInt).toNat + 1) (f_need (gm (A 47) v.toNatClampNeg) (gm (A 49) v.toNatClampNeg)) 1 0 := by
    unfold F_X12_canFit f_X12_canFit_27 f_X12_canFit_48 f_need
    dsimp only
    rw [hQ.g 9 47 (by decide), hQ.g 11 49 (by decide), hQ.g 10 48 (by decide), hQ.g 4 43 (by decide)]
    by_cases hk : gm (A 47) v.toNatClampNeg = 2
    · rw [if_pos hk, if_pos hk]
    · rw [if_neg hk, if_neg hk]
  rw [hm]
  unfold F_X0_suits
  dsimp only
  rw [ne_at a5, b7, a3, a4]
  by_cases g1 : gm (A 43) p.toNatClampNeg < gm (A 48) v.toNatClampNeg
  · rw [if_pos g1, if_pos g1]
    exact (cf_0 _ 0 (by decide) (Nat.lt_add_one _)).symm
  · rw [if_neg g1, if_neg g1]
    rw [a4] at a7
    have nr := need_rg (k := gm (A 47) v.toNatClampNeg) a7
    obtain ⟨l1, h0, l2, l3⟩ := hl
    have d1 := c1.1
    have d2 := c1.2
    have sum : ∀ h : Nat, h < 24 → (gm (A 42) p.toNatClampNeg + gm (A 51) h).toInt = (gm (A 42) p.toNatClampNeg).toInt + (gm (A 51) h).toInt := fun h hh => by
      have t := tr h hh
      rw [ht h hh] at t
      have t1 := t.1
      have t2 := t.2
      rw [b6] at d1 d2
      exact i_add (by omega) (by omega)
    have s0 : gi qp 3 + gi (A 1) 8 = gm (A 42) p.toNatClampNeg + gm (A 51) h0 := by rw [b6, l3, ht h0 l2]
    rw [s0]
    rcases cf_1 (Z := Z) hQ (v := v) (p := p) (nd := f_need (gm (A 47) v.toNatClampNeg) (gm (A 49) v.toNatClampNeg)) ((24 - (0 : Int32).toInt).toNat + 1) 0 (by decide) (Nat.lt_add_one _) with ⟨k1, h, k2, k3⟩ | ⟨k1, k2⟩
    · rw [k1, if_pos]
      have e1 := l1 h k2
      rw [l3, ht h k2, ht h0 l2] at e1
      have e2 := i_ltI.mp k3
      rw [sum h k2] at e2
      rw [i_ltI, sum h0 l2]
      omega
    · rw [k1, if_neg (k2 h0 l2 (by rw [k_0]; omega))]
theorem s_fits (hJ : th_J τ gi gr) (hJm : th_J τ gm rm) (hC : ro_C τ gr A) (hQ : ro_M τ rm A) (no : c_eq 1 6 8 gi gm A) (nb : c_eq 1 5 0 gi gm A) (hb : c_boat τ gi gr gm A) (hu : c_buoy τ gi gr gm A) (ht : c_tid gi gm A) (hl : c_least gi A) {v p r1 r2 : Int32} (e1 : F_X11_fits τ Z gi gr (A 11) v p = (r1, gi1)) (e2 : F_X12_fits τ Z gm rm (A 12) v p = (r2, gm2)) : r1 = r2 := by
  have no' : gm (A 12) 8 = gi (A 1) 6 := no.symm
  have nb' : gm (A 12) 0 = gi (A 1) 5 := nb.symm
  unfold F_X11_fits f_X11_fits_28 at e1
  unfold F_X12_fits F_X12_isBoat F_X12_isBuoy f_X12_fits_16 at e2
  dsimp only at e1 e2
  rw [hC.g 11 0 1 (by decide)] at e1
  rw [w0_m, w0_m, no', nb'] at e2
  by_cases g1 : W0 v 0 (gi (A 1) 6 - 1) = 0
  · rw [bo_no hJ hC g1] at e1
    rw [if_pos g1] at e2
    exact (s_fip hC hQ (w1 := 1) (by decide) (by decide) e1 e2).1
  obtain ⟨f1, f2, f3, f4⟩ := bo_yes (Z := Z) hJ hC g1
  obtain ⟨qb, hqb⟩ := hb v.toNatClampNeg (by rw [f3, no']; exact f4)
  rw [f1, hqb.1] at e1
  rw [if_neg g1] at e2
  by_cases g2 : W0 p 0 (gi (A 1) 5 - 1) = 0
  · simp only [Option.elim_some, bu_no (Z := Z) hJ hC g2, Option.elim_none] at e1
    rw [if_pos g2] at e2
    exact (s_fip hC hQ (w1 := 1) (by decide) (by decide) e1 e2).1
  obtain ⟨m1, m2, m3, m4⟩ := bu_yes (Z := Z) hJ hC g2
  obtain ⟨qp, hqp⟩ := hu p.toNatClampNeg (by rw [m3, nb']; exact m4)
  rw [if_neg g2] at e2
  simp only [Option.elim_some, m1, hqp.1] at e1
  rw [fits_eq hQ hJm ht hl hqb hqp] at e1
  by_cases g3 : F_X12_canFit τ Z gm rm (A 12) v p = 0
  · rw [if_pos g3] at e1 e2
    exact (pr2 e1).1.symm.trans (pr2 e2).1
  · rw [if_neg g3] at e1 e2
    exact (pr2 e1).1.symm.trans (pr2 e2).1
/-- the chain's part is the same -/
theorem slack_eq (hQ : ro_M τ rm A) (hJm : th_J τ gm rm) (ht : c_tid gi gm A) {p h : Int32} {qp : Nat} (hp : u_at τ gi gr gm A p.toNatClampNeg qp) (hs : u_sl τ gi gr A qp) (h0 : 0 ≤ h.toInt) (h1 : h.toInt < 24) : F_X3_slackAt τ Z gi gr qp h = F_X12_slackOf τ Z gm rm (A 12) p h ∧ rg 0 400 (F_X12_slackOf τ Z gm rm (A 12) p h) := by
  obtain ⟨b1, b2, b3, b4, b5, b6, b7, b8, b9, c1, c2⟩ := hp
  obtain ⟨-, -, -, w, x1, x2, x3⟩ := hs
  have ch := i_cl h0
  have hh : h.toNatClampNeg < 24 := by omega
  have tr := t_rg hJm hQ ht h.toNatClampNeg hh
  have k := x3 h.toNatClampNeg hh
  rw [b6, b7, ht _ hh] at k
  rw [b6] at c1
  rw [b7] at c2
  rw [ht _ hh] at tr
  have k' := so_ok (Z := Z) hQ (p := p) (h := h) c1 c2 tr
  refine ⟨?_, sl_rg c2 k'⟩
  unfold F_X3_slackAt
  dsimp only
  rw [if_neg (fun q => by have := i_ltI.mp q; rw [k_0] at this; omega), if_neg (fun q => by have := i_le.mp q; rw [k_24] at this; omega), x1]
  exact sl_u k k'
theorem s_out (hJ : th_J τ gi gr) (hJm : th_J τ gm rm) (hC : ro_C τ gr A) (hQ : ro_M τ rm A) (no : c_eq 1 6 8 gi gm A) (nb : c_eq 1 5 0 gi gm A) (hb : c_boat τ gi gr gm A) (hu : c_buoy τ gi gr gm A) (ht : c_tid gi gm A) (hs : c_sl τ gi gr A) {v p h r1 r2 : Int32} (e1 : F_X11_out τ Z gi gr (A 11) v p h = (r1, gi1)) (e2 : F_X12_out τ Z gm rm (A 12) v p h = (r2, gm2)) : r1 = r2 := by
  have no' : gm (A 12) 8 = gi (A 1) 6 := no.symm
  have nb' : gm (A 12) 0 = gi (A 1) 5 := nb.symm
  unfold F_X11_out f_X11_out_37 F_X11_isHour at e1
  unfold F_X12_out F_X12_isBoat F_X12_isBuoy f_X12_out_26 at e2
  dsimp only at e1 e2
  rw [hC.g 11 0 1 (by decide), w0_c] at e1
  rw [w0_m, w0_m, w0_m, no', nb', reach_at hQ] at e2
  by_cases g1 : W0 v 0 (gi (A 1) 6 - 1) = 0
  · rw [bo_no hJ hC g1] at e1
    rw [if_pos g1] at e2
    exact (s_fip hC hQ (w1 := 1) (by decide) (by decide) e1 e2).1
  obtain ⟨f1, f2, f3, f4⟩ := bo_yes (Z := Z) hJ hC g1
  obtain ⟨qb, hqb⟩ := hb v.toNatClampNeg (by rw [f3, no']; exact f4)
  rw [f1, hqb.1] at e1
  rw [if_neg g1] at e2
  by_cases g2 : W0 p 0 (gi (A 1) 5 - 1) = 0
  · simp only [Option.elim_some, bu_no (Z := Z) hJ hC g2, Option.elim_none] at e1
    rw [if_pos g2] at e2
    exact (s_fip hC hQ (w1 := 1) (by decide) (by decide) e1 e2).1
  obtain ⟨m1, m2, m3, m4⟩ := bu_yes (Z := Z) hJ hC g2
  obtain ⟨qp, hqp⟩ := hu p.toNatClampNeg (by rw [m3, nb']; exact m4)
  rw [if_neg g2] at e2
  simp only [Option.elim_some, m1, hqp.1] at e1
  by_cases g3 : W0 h 0 23 = 0
  · rw [if_pos g3] at e1 e2
    exact (s_fip hC hQ (w1 := 1) (by decide) (by decide) e1 e2).1
  · rw [if_neg g3] at e1 e2
    have hr := w0_rg (l := 0) (h := 23) (by decide) (by decide) g3
    have hr2 := hr.2
    obtain ⟨k1, -⟩ := slack_eq (Z := Z) hQ hJm ht hqp (hs.1 _ qp (by rw [m3]; exact m4) hqp.1) hr.1 (by omega)
    rw [k1, re_at hqb.2.2.2.2.1, hqb.2.2.1] at e1
    exact (pr2 e1).1.symm.trans (pr2 e2).1
end FO
end
section
/-! ===== TOUCH ===== -/
section TO
variable {τ τ1 : th_t} {Z : th_Zt} {gi gi1 gm gm2 : th_i} {gr gr1 rm rm2 : th_r} {A : Nat → Nat} {M1 M2 : List Nat}
def c_way (Z : th_Zt) (gm : th_i) (A : Nat → Nat) : Prop := ∀ j : Nat, j < 8 → Z.2.1 j = th_wX j ∧ Z.2.2 j = th_wY j ∧ gm (A 52) j = th_wX j ∧ gm (A 53) j = th_wY j
theorem c_way.fr (hQ : ro_M τ rm A) (h2 : th_Mod M2 τ gm rm gm2 rm2) (k2 : ∀ k ∈ [5200, 5300], k ∉ M2) (h : c_way Z gm A) : c_way Z gm2 A := by
  unfold c_way
  rw [(ro_ka h2 (hQ.t 15 52 (by decide)) (by decide) (k2 5200 (by decide))).1, (ro_ka h2 (hQ.t 16 53 (by decide)) (by decide) (k2 5300 (by decide))).1]
  exact h
theorem w8 {v : Int32} (h0 : 0 ≤ v.toInt) (h7 : v.toInt ≤ 7) : v = 0 ∨ v = 1 ∨ v = 2 ∨ v = 3 ∨ v = 4 ∨ v = 5 ∨ v = 6 ∨ v = 7 := by
  have k : ∀ (a : Int32) (b : Int), a.toInt = b → v.toInt = b → v = a := fun a b h1 h2 => i_inj (h2.trans h1.symm)
  rcases (by omega : v.toInt = 0 ∨ v.toInt = 1 ∨ v.toInt = 2 ∨ v.toInt = 3 ∨ v.toInt = 4 ∨ v.toInt = 5 ∨ v.toInt = 6 ∨ v.toInt = 7) with h | h | h | h | h | h | h | h
  · exact Or.inl (k 0 0 (by decide) h)
  · exact Or.inr (Or.inl (k 1 1 (by decide) h))
  · exact Or.inr (Or.inr (Or.inl (k 2 2 (by decide) h)))
  · exact Or.inr (Or.inr (Or.inr (Or.inl (k 3 3 (by decide) h))))
  · exact Or.inr (Or.inr (Or.inr (Or.inr (Or.inl (k 4 4 (by decide) h)))))
  · exact Or.inr (Or.inr (Or.inr (Or.inr (Or.inr (Or.inl (k 5 5 (by decide) h))))))
  · exact Or.inr (Or.inr (Or.inr (Or.inr (Or.inr (Or.inr (Or.inl (k 6 6 (by decide) h)))))))
  · exact Or.inr (Or.inr (Or.inr (Or.inr (Or.inr (Or.inr (Or.inr (k 7 7 (by decide) h)))))))
theorem w3 {t : Int32} (h0 : -1 ≤ t.toInt) (h1 : t.toInt ≤ 1) : t = -1 ∨ t = 0 ∨ t = 1 := by
  have k : ∀ (a : Int32) (b : Int), a.toInt = b → t.toInt = b → t = a := fun a b h1 h2 => i_inj (h2.trans h1.symm)
  rcases (by omega : t.toInt = -1 ∨ t.toInt = 0 ∨ t.toInt = 1) with h | h | h
  · exact Or.inl (k (-1) (-1) (by decide) h)
  · exact Or.inr (Or.inl (k 0 0 (by decide) h))
  · exact Or.inr (Or.inr (k 1 1 (by decide) h))
def w_one (x : Int32) : Prop := x = 0 ∨ x = 1 ∨ x = -1
theorem wt {v : Int32} (h0 : 0 ≤ v.toInt) (h7 : v.toInt ≤ 7) : v &&& 7 = v ∧ v.toNatClampNeg < 8 ∧ w_one (th_wX v.toNatClampNeg) ∧ w_one (th_wY v.toNatClampNeg) ∧ ((v &&& 1 = 0 ∧ th_wX v.toNatClampNeg = 0 ∧ ¬ th_wY v.toNatClampNeg = 0) ∨ (v &&& 1 = 0 ∧ ¬ th_wX v.toNatClampNeg = 0 ∧ th_wY v.toNatClampNeg = 0) ∨ (¬ v &&& 1 = 0 ∧ ¬ th_wX v.toNatClampNeg = 0 ∧ ¬ th_wY v.toNatClampNeg = 0)) := by
  unfold w_one
  rcases w8 h0 h7 with rfl | rfl | rfl | rfl | rfl | rfl | rfl | rfl <;> decide
theorem wadj {v t : Int32} (h0 : 0 ≤ v.toInt) (h7 : v.toInt ≤ 7) (t0 : -1 ≤ t.toInt) (t1 : t.toInt ≤ 1) : (0 ≤ (v + t &&& 7).toInt ∧ (v + t &&& 7).toInt ≤ 7) ∧ (¬ (th_wX v.toNatClampNeg = 1 ∧ th_wX (v + t &&& 7).toNatClampNeg = -1) ∧ ¬ (th_wX v.toNatClampNeg = -1 ∧ th_wX (v + t &&& 7).toNatClampNeg = 1)) ∧ (¬ (th_wY v.toNatClampNeg = 1 ∧ th_wY (v + t &&& 7).toNatClampNeg = -1) ∧ ¬ (th_wY v.toNatClampNeg = -1 ∧ th_wY (v + t &&& 7).toNatClampNeg = 1)) ∧ v + (t + 8) - (v + (t + 8)) / 8 * 8 = v + t &&& 7 := by
  rcases w3 t0 t1 with rfl | rfl | rfl <;> rcases w8 h0 h7 with rfl | rfl | rfl | rfl | rfl | rfl | rfl | rfl <;> decide
def f_far (v out : Int32) : Int32 := if v &&& 1 = 0 then out else out * 7 / 10
theorem far_rg {v out : Int32} (h : rg 0 850 out) : 0 ≤ (f_far v out).toInt ∧ (f_far v out).toInt ≤ out.toInt := by
  obtain ⟨h1, h2⟩ := h
  unfold f_far
  by_cases c : v &&& 1 = 0
  · rw [if_pos c]
    exact ⟨h1, Int.le_refl _⟩
  · rw [if_neg c]
    have e : (out * 7).toInt = out.toInt * 7 := by
      rw [i_mul (by rw [k_7]; omega) (by rw [k_7]; omega), k_7]
    rw [i_div (by rw [k_10]; decide) (by omega), k_10, e]
    exact ⟨by omega, by omega⟩
theorem pw {f a : Int32} (hf : 0 ≤ f.toInt ∧ f.toInt ≤ 850) : (a = 0 → (f * a).toInt = 0) ∧ (a = 1 → (f * a).toInt = f.toInt) ∧ (a = -1 → (f * a).toInt = -f.toInt) := by
  refine ⟨fun h => ?_, fun h => ?_, fun h => ?_⟩
  · rw [h, i_mul (by rw [k_0]; omega) (by rw [k_0]; omega), k_0]
    omega
  · rw [h, i_mul (by rw [k_1]; omega) (by rw [k_1]; omega), k_1]
    omega
  · rw [h, i_mul (by rw [k_m1]; omega) (by rw [k_m1]; omega), k_m1]
    omega
theorem pw_rg {f a : Int32} (hf : 0 ≤ f.toInt ∧ f.toInt ≤ 850) (ha : w_one a) : -850 ≤ (f * a).toInt ∧ (f * a).toInt ≤ 850 := by
  obtain ⟨p1, p2, p3⟩ := pw (a := a) hf
  rcases ha with h | h | h
  · have := p1 h; omega
  · have := p2 h; omega
  · have := p3 h; omega
theorem sx {v out : Int32} (h0 : 0 ≤ v.toInt) (h7 : v.toInt ≤ 7) : F_X12_steps τ Z gi gr out (th_wX v.toNatClampNeg) (th_wY v.toNatClampNeg) = f_far v out * th_wX v.toNatClampNeg := by
  unfold F_X12_steps f_far
  dsimp only
  rcases (wt h0 h7).2.2.2.2 with ⟨a, b, c⟩ | ⟨a, b, c⟩ | ⟨a, b, c⟩
  · rw [if_pos b, b, Int32.mul_zero]
  · rw [if_neg b, if_pos c, if_pos a]
  · rw [if_neg b, if_neg c, if_neg a, Int32.mul_comm]
theorem sy {v out : Int32} (h0 : 0 ≤ v.toInt) (h7 : v.toInt ≤ 7) : F_X12_steps τ Z gi gr out (th_wY v.toNatClampNeg) (th_wX v.toNatClampNeg) = f_far v out * th_wY v.toNatClampNeg := by
  unfold F_X12_steps f_far
  dsimp only
  rcases (wt h0 h7).2.2.2.2 with ⟨a, b, c⟩ | ⟨a, b, c⟩ | ⟨a, b, c⟩
  · rw [if_neg c, if_pos b, if_pos a]
  · rw [if_pos c, c, Int32.mul_zero]
  · rw [if_neg c, if_neg b, if_neg a, Int32.mul_comm]
def f_em (x y : Int32) : Int32 := if (20 : Int32) ≤ x then 0 else if x ≤ (-20) then 0 else if (20 : Int32) ≤ y then 0 else if y ≤ (-20) then 0 else 1
theorem em_eq (hw : c_way Z gm A) {dx dy out oo v w : Int32} (v0 : 0 ≤ v.toInt) (v7 : v.toInt ≤ 7) (w0 : 0 ≤ w.toInt) (w7 : w.toInt ≤ 7) : F_X0_endsMeet τ Z gi gr dx dy out v oo w = f_em (dx + f_far w oo * th_wX w.toNatClampNeg - f_far v out * th_wX v.toNatClampNeg) (dy + f_far w oo * th_wY w.toNatClampNeg - f_far v out * th_wY v.toNatClampNeg) := by
  obtain ⟨a1, a2, -⟩ := wt v0 v7
  obtain ⟨b1, b2, -⟩ := wt w0 w7
  unfold F_X0_endsMeet f_X0_endsMeet_17 f_X0_endsMeet_39 f_em f_far
  dsimp only
  rw [a1, b1, (hw _ a2).1, (hw _ a2).2.1, (hw _ b2).1, (hw _ b2).2.1]
  by_cases c1 : v &&& 1 = 0
  · by_cases c2 : w &&& 1 = 0
    · rw [if_pos c1, if_pos c2, if_pos c1, if_pos c2]
    · rw [if_pos c1, if_neg c2, if_pos c1, if_neg c2]
  · by_cases c2 : w &&& 1 = 0
    · rw [if_neg c1, if_pos c2, if_neg c1, if_pos c2]
    · rw [if_neg c1, if_neg c2, if_neg c1, if_neg c2]
theorem k_m20 : (-20 : Int32).toInt = -20 := by decide
theorem ab_c {x : Int32} (h : -100000 ≤ x.toInt) : (0 ≤ x.toInt → (th_ab x).toInt = x.toInt) ∧ (x.toInt < 0 → (th_ab x).toInt = -x.toInt) := by
  unfold th_ab
  by_cases c : (0 : Int32) ≤ x
  · rw [if_pos c]
    have c' := i_le.mp c
    rw [k_0] at c'
    exact ⟨fun _ => rfl, fun q => by omega⟩
  · rw [if_neg c]
    have c' := i_ltI.mp (Int32.not_le.mp c)
    rw [k_0] at c'
    refine ⟨fun q => by omega, fun _ => ?_⟩
    rw [i_sub (by rw [k_0]; omega) (by rw [k_0]; omega), k_0]
    omega
theorem ab_20 {x r : Int32} (h : r.toInt = -x.toInt) (b1 : -100000 ≤ x.toInt) (b2 : x.toInt ≤ 100000) : (20 : Int32) ≤ th_ab r ↔ ((20 : Int32) ≤ x ∨ x ≤ (-20)) := by
  obtain ⟨p1, p2⟩ := ab_c (x := r) (by omega)
  rw [i_le, i_le, i_le, k_20, k_m20]
  by_cases c : 0 ≤ r.toInt
  · rw [p1 c]
    omega
  · rw [p2 (by omega)]
    omega
theorem mt {xp xq yp yq s1 s2 u1 u2 : Int32} (a1 : rg 0 999 xp) (a2 : rg 0 999 xq) (a3 : rg 0 999 yp) (a4 : rg 0 999 yq) (b1 : -850 ≤ s1.toInt ∧ s1.toInt ≤ 850) (b2 : -850 ≤ s2.toInt ∧ s2.toInt ≤ 850) (b3 : -850 ≤ u1.toInt ∧ u1.toInt ≤ 850) (b4 : -850 ≤ u2.toInt ∧ u2.toInt ≤ 850) : (if (20 : Int32) ≤ th_ab (xp + s1 - xq - s2) then (0 : Int32) else if (20 : Int32) ≤ th_ab (yp + u1 - yq - u2) then 0 else 1) = f_em (xq - xp + s2 - s1) (yq - yp + u2 - u1) := by
  have go : ∀ {p q s t : Int32}, rg 0 999 p → rg 0 999 q → (-850 ≤ s.toInt ∧ s.toInt ≤ 850) → (-850 ≤ t.toInt ∧ t.toInt ≤ 850) → ((20 : Int32) ≤ th_ab (p + s - q - t) ↔ ((20 : Int32) ≤ q - p + t - s ∨ q - p + t - s ≤ (-20))) := fun {p q s t} c1 c2 c3 c4 => by
    obtain ⟨c1, d1⟩ := c1
    obtain ⟨c2, d2⟩ := c2
    obtain ⟨c3, d3⟩ := c3
    obtain ⟨c4, d4⟩ := c4
    have e1 : (q - p).toInt = q.toInt - p.toInt := i_sub (by omega) (by omega)
    have e2 : (q - p + t).toInt = q.toInt - p.toInt + t.toInt := by rw [i_add (by omega) (by omega), e1]
    have e3 : (q - p + t - s).toInt = q.toInt - p.toInt + t.toInt - s.toInt := by rw [i_sub (by omega) (by omega), e2]
    have f1 : (p + s).toInt = p.toInt + s.toInt := i_add (by omega) (by omega)
    have f2 : (p + s - q).toInt = p.toInt + s.toInt - q.toInt := by rw [i_sub (by omega) (by omega), f1]
    have f3 : (p + s - q - t).toInt = p.toInt + s.toInt - q.toInt - t.toInt := by rw [i_sub (by omega) (by omega), f2]
    exact ab_20 (by omega) (by omega) (by omega)
  have gx := go a1 a2 b1 b2
  have gy := go a3 a4 b3 b4
  unfold f_em
  by_cases c1 : (20 : Int32) ≤ xq - xp + s2 - s1
  · rw [if_pos c1, if_pos (gx.mpr (Or.inl c1))]
  · by_cases c2 : xq - xp + s2 - s1 ≤ (-20)
    · rw [if_neg c1, if_pos c2, if_pos (gx.mpr (Or.inr c2))]
    · rw [if_neg c1, if_neg c2, if_neg (fun q => (gx.mp q).elim c1 c2)]
      by_cases c3 : (20 : Int32) ≤ yq - yp + u2 - u1
      · rw [if_pos c3, if_pos (gy.mpr (Or.inl c3))]
      · by_cases c4 : yq - yp + u2 - u1 ≤ (-20)
        · rw [if_neg c3, if_pos c4, if_pos (gy.mpr (Or.inr c4))]
        · rw [if_neg c3, if_neg c4, if_neg (fun q => (gy.mp q).elim c3 c4)]
/-- far ends meet alike -/
theorem me_eq (hQ : ro_M τ rm A) (hw : c_way Z gm A) {p q out oo v w : Int32} (a1 : rg 0 999 (gm (A 40) p.toNatClampNeg)) (a2 : rg 0 999 (gm (A 40) q.toNatClampNeg)) (a3 : rg 0 999 (gm (A 41) p.toNatClampNeg)) (a4 : rg 0 999 (gm (A 41) q.toNatClampNeg)) (ho : rg 0 850 out) (hoo : rg 0 850 oo) (v0 : 0 ≤ v.toInt) (v7 : v.toInt ≤ 7) (w0 : 0 ≤ w.toInt) (w7 : w.toInt ≤ 7) : F_X12_meet τ Z gm rm (A 12) p out v q oo w = F_X0_endsMeet τ Z gi gr (gm (A 40) q.toNatClampNeg - gm (A 40) p.toNatClampNeg) (gm (A 41) q.toNatClampNeg - gm (A 41) p.toNatClampNeg) out v oo w := by
  obtain ⟨-, v8, vx, vy, -⟩ := wt v0 v7
  obtain ⟨-, w8', wx, wy, -⟩ := wt w0 w7
  have fv := far_rg (v := v) ho
  have fw := far_rg (v := w) hoo
  have o2 := ho.2
  have oo2 := hoo.2
  have fv' : 0 ≤ (f_far v out).toInt ∧ (f_far v out).toInt ≤ 850 := ⟨fv.1, by omega⟩
  have fw' : 0 ≤ (f_far w oo).toInt ∧ (f_far w oo).toInt ≤ 850 := ⟨fw.1, by omega⟩
  rw [em_eq hw v0 v7 w0 w7, ← mt a1 a2 a3 a4 (pw_rg fv' vx) (pw_rg fw' wx) (pw_rg fv' vy) (pw_rg fw' wy)]
  unfold F_X12_meet
  dsimp only
  rw [hQ.g 1 40 (by decide), hQ.g 15 52 (by decide), hQ.g 16 53 (by decide), hQ.g 2 41 (by decide), (hw _ v8).2.2.1, (hw _ v8).2.2.2, (hw _ w8').2.2.1, (hw _ w8').2.2.2, sx v0 v7, sx w0 w7, sy v0 v7, sy w0 w7]
/-- far apart: they don't meet -/
theorem far_no {d f1 f2 m : Int} {s1 s2 : Int} (h : m + 20 ≤ d ∨ d ≤ -(m + 20)) (b1 : 0 ≤ f1 ∧ f1 ≤ m) (b2 : 0 ≤ f2 ∧ f2 ≤ m) (hs : (s1 = 0 ∧ (s2 = 0 ∨ s2 = f2 ∨ s2 = -f2)) ∨ (s1 = f1 ∧ (s2 = 0 ∨ s2 = f2)) ∨ (s1 = -f1 ∧ (s2 = 0 ∨ s2 = -f2))) : 20 ≤ d + s2 - s1 ∨ d + s2 - s1 ≤ -20 := by
  rcases hs with ⟨a, b | b | b⟩ | ⟨a, b | b⟩ | ⟨a, b | b⟩ <;> omega
theorem adj_s {f1 f2 a b : Int32} (hf1 : 0 ≤ f1.toInt ∧ f1.toInt ≤ 850) (hf2 : 0 ≤ f2.toInt ∧ f2.toInt ≤ 850) (ha : w_one a) (hb : w_one b) (h : ¬ (a = 1 ∧ b = -1) ∧ ¬ (a = -1 ∧ b = 1)) : ((f1 * a).toInt = 0 ∧ ((f2 * b).toInt = 0 ∨ (f2 * b).toInt = f2.toInt ∨ (f2 * b).toInt = -f2.toInt)) ∨ ((f1 * a).toInt = f1.toInt ∧ ((f2 * b).toInt = 0 ∨ (f2 * b).toInt = f2.toInt)) ∨ ((f1 * a).toInt = -f1.toInt ∧ ((f2 * b).toInt = 0 ∨ (f2 * b).toInt = -f2.toInt)) := by
  obtain ⟨p1, p2, p3⟩ := pw (a := a) hf1
  obtain ⟨q1, q2, q3⟩ := pw (a := b) hf2
  rcases ha with e | e | e
  · refine Or.inl ⟨p1 e, ?_⟩
    rcases hb with k | k | k
    · exact Or.inl (q1 k)
    · exact Or.inr (Or.inl (q2 k))
    · exact Or.inr (Or.inr (q3 k))
  · refine Or.inr (Or.inl ⟨p2 e, ?_⟩)
    rcases hb with k | k | k
    · exact Or.inl (q1 k)
    · exact Or.inr (q2 k)
    · exact absurd ⟨e, k⟩ h.1
  · refine Or.inr (Or.inr ⟨p3 e, ?_⟩)
    rcases hb with k | k | k
    · exact Or.inl (q1 k)
    · exact absurd ⟨e, k⟩ h.2
    · exact Or.inr (q3 k)
theorem em_0 {x y : Int32} (h : (20 ≤ x.toInt ∨ x.toInt ≤ -20) ∨ (20 ≤ y.toInt ∨ y.toInt ≤ -20)) : f_em x y = 0 := by
  unfold f_em
  by_cases c1 : (20 : Int32) ≤ x
  · rw [if_pos c1]
  · rw [if_neg c1]
    by_cases c2 : x ≤ (-20)
    · rw [if_pos c2]
    · rw [if_neg c2]
      by_cases c3 : (20 : Int32) ≤ y
      · rw [if_pos c3]
      · rw [if_neg c3]
        by_cases c4 : y ≤ (-20)
        · rw [if_pos c4]
        · rw [i_le, k_20] at c1 c3
          rw [i_le, k_m20] at c2 c4
          omega
theorem far_em (hw : c_way Z gm A) {dx dy out oo v t : Int32} {m : Int} (ho : rg 0 850 out) (hoo : rg 0 850 oo) (m1 : out.toInt ≤ m) (m2 : oo.toInt ≤ m) (m3 : m ≤ 850) (dx0 : -999 ≤ dx.toInt ∧ dx.toInt ≤ 999) (dy0 : -999 ≤ dy.toInt ∧ dy.toInt ≤ 999) (h : (m + 20 ≤ dx.toInt ∨ dx.toInt ≤ -(m + 20)) ∨ (m + 20 ≤ dy.toInt ∨ dy.toInt ≤ -(m + 20))) (v0 : 0 ≤ v.toInt) (v7 : v.toInt ≤ 7) (t0 : -1 ≤ t.toInt) (t1 : t.toInt ≤ 1) : F_X0_endsMeet τ Z gi gr dx dy out v oo (v + t &&& 7) = 0 := by
  obtain ⟨⟨w0, w7⟩, ax, ay, -⟩ := wadj v0 v7 t0 t1
  obtain ⟨-, v8, vx, vy, -⟩ := wt v0 v7
  obtain ⟨-, w8', wx, wy, -⟩ := wt w0 w7
  have fv := far_rg (v := v) ho
  have fw := far_rg (v := v + t &&& 7) hoo
  have fv' : 0 ≤ (f_far v out).toInt ∧ (f_far v out).toInt ≤ 850 := ⟨fv.1, by omega⟩
  have fw' : 0 ≤ (f_far (v + t &&& 7) oo).toInt ∧ (f_far (v + t &&& 7) oo).toInt ≤ 850 := ⟨fw.1, by omega⟩
  rw [em_eq hw v0 v7 w0 w7]
  have sum : ∀ {d s u : Int32}, (-999 ≤ d.toInt ∧ d.toInt ≤ 999) → (-850 ≤ s.toInt ∧ s.toInt ≤ 850) → (-850 ≤ u.toInt ∧ u.toInt ≤ 850) → (d + s - u).toInt = d.toInt + s.toInt - u.toInt := fun {d s u} c1 c2 c3 => by
    have e1 : (d + s).toInt = d.toInt + s.toInt := i_add (by omega) (by omega)
    rw [i_sub (by omega) (by omega), e1]
  have ex := sum dx0 (pw_rg fw' wx) (pw_rg fv' vx)
  have ey := sum dy0 (pw_rg fw' wy) (pw_rg fv' vy)
  refine em_0 ?_
  rw [ex, ey]
  rcases h with h | h
  · exact Or.inl (far_no h ⟨fv.1, by omega⟩ ⟨fw.1, by omega⟩ (adj_s fv' fw' vx wx ax))
  · exact Or.inr (far_no h ⟨fv.1, by omega⟩ ⟨fw.1, by omega⟩ (adj_s fv' fw' vy wy ay))
theorem bl_eq (h : gi (A 1) 7 = gm (A 12) 14) {w : Int32} : F_X0_blows τ Z gi gr (A 1) w = F_X12_isThere τ Z gm rm (A 12) w := by
  unfold F_X0_blows F_X12_isThere
  dsimp only
  rw [h]
  rcases rg_b (rg_and (x := gm (A 12) 14 >>> (w &&& 31)) (m := 1) 1 (by decide) (by decide) (hi := 1) (by decide)) with k | k
  · rw [k, if_pos rfl, if_neg (by decide)]
  · rw [k, if_neg (by decide), if_pos rfl]
/-- the loops over WINDS -/
def pM (τ : th_t) (Z : th_Zt) (gi : th_i) (gr : th_r) (a : Nat) (dx dy out oo v w : Int32) : Prop := ¬ F_X0_blows τ Z gi gr a v = 0 ∧ ¬ F_X0_blows τ Z gi gr a w = 0 ∧ ¬ F_X0_endsMeet τ Z gi gr dx dy out v oo w = 0
def pT (τ : th_t) (Z : th_Zt) (gm : th_i) (rm : th_r) (a : Nat) (p one q two v w : Int32) : Prop := ¬ F_X12_isThere τ Z gm rm a v = 0 ∧ ¬ F_X12_isThere τ Z gm rm a w = 0 ∧ ¬ F_X12_meet τ Z gm rm a p one v q two w = 0
theorem mm_55 {a : Nat} {dx dy out oo y : Int32} {k : Int32 → Int32} : ∀ (n : Nat) (t : Int32), -1 ≤ t.toInt → (2 - t.toInt).toNat < n → (f_X0_mayMeet_55 τ Z gi gr a dx dy out oo y k n t = 1 ∧ ∃ t' : Int32, t.toInt ≤ t'.toInt ∧ t'.toInt ≤ 1 ∧ pM τ Z gi gr a dx dy out oo y (y + t' &&& 7)) ∨ (f_X0_mayMeet_55 τ Z gi gr a dx dy out oo y k n t = k (y + 1) ∧ ∀ t' : Int32, t.toInt ≤ t'.toInt → t'.toInt ≤ 1 → ¬ pM τ Z gi gr a dx dy out oo y (y + t' &&& 7)) := by
  intro n
  induction n with
  | zero => intro t _ h; exact absurd h (Nat.not_lt_zero _)
  | succ n ih =>
    intro t h0 h
    unfold f_X0_mayMeet_55 f_X0_mayMeet_106
    dsimp only
    by_cases hc : (1 : Int32) < t
    · rw [if_pos hc]
      have hc' := i_ltI.mp hc
      rw [k_1] at hc'
      exact Or.inr ⟨rfl, fun t' h1 h2 => by omega⟩
    · rw [if_neg hc]
      have hc' := i_le.mp (Int32.not_lt.mp hc)
      rw [k_1] at hc'
      have e : (t + 1).toInt = t.toInt + 1 := by rw [i_add (by rw [k_1]; omega) (by rw [k_1]; omega), k_1]
      have next : ¬ pM τ Z gi gr a dx dy out oo y (y + t &&& 7) → (f_X0_mayMeet_55 τ Z gi gr a dx dy out oo y k n (t + 1) = 1 ∧ ∃ t' : Int32, t.toInt ≤ t'.toInt ∧ t'.toInt ≤ 1 ∧ pM τ Z gi gr a dx dy out oo y (y + t' &&& 7)) ∨ (f_X0_mayMeet_55 τ Z gi gr a dx dy out oo y k n (t + 1) = k (y + 1) ∧ ∀ t' : Int32, t.toInt ≤ t'.toInt → t'.toInt ≤ 1 → ¬ pM τ Z gi gr a dx dy out oo y (y + t' &&& 7)) := fun hp => by
        rcases ih (t + 1) (by omega) (by omega) with ⟨k1, t', k2, k3, k4⟩ | ⟨k1, k2⟩
        · exact Or.inl ⟨k1, t', by omega, k3, k4⟩
        · refine Or.inr ⟨k1, fun t' h1 h2 => ?_⟩
          by_cases ht : t'.toInt = t.toInt
          · rw [i_inj ht]
            exact hp
          · exact k2 t' (by omega) h2
      by_cases b1 : F_X0_blows τ Z gi gr a y = 0
      · rw [if_pos b1]
        exact next (fun q => q.1 b1)
      · rw [if_neg b1]
        by_cases b2 : F_X0_blows τ Z gi gr a (y + t &&& 7) = 0
        · rw [if_pos b2]
          exact next (fun q => q.2.1 b2)
        · rw [if_neg b2]
          by_cases b3 : F_X0_endsMeet τ Z gi gr dx dy out y oo (y + t &&& 7) = 0
          · rw [if_pos b3]
            exact next (fun q => q.2.2 b3)
          · rw [if_neg b3]
            exact Or.inl ⟨rfl, t, Int.le_refl _, hc', b1, b2, b3⟩
theorem mm_45 {a : Nat} {dx dy out oo : Int32} : ∀ (n : Nat) (y : Int32), 0 ≤ y.toInt → (8 - y.toInt).toNat < n → (f_X0_mayMeet_45 τ Z gi gr a dx dy out oo n y = 1 ∧ ∃ v t : Int32, y.toInt ≤ v.toInt ∧ v.toInt ≤ 7 ∧ -1 ≤ t.toInt ∧ t.toInt ≤ 1 ∧ pM τ Z gi gr a dx dy out oo v (v + t &&& 7)) ∨ (f_X0_mayMeet_45 τ Z gi gr a dx dy out oo n y = 0 ∧ ∀ v t : Int32, y.toInt ≤ v.toInt → v.toInt ≤ 7 → -1 ≤ t.toInt → t.toInt ≤ 1 → ¬ pM τ Z gi gr a dx dy out oo v (v + t &&& 7)) := by
  intro n
  induction n with
  | zero => intro y _ h; exact absurd h (Nat.not_lt_zero _)
  | succ n ih =>
    intro y h0 h
    unfold f_X0_mayMeet_45
    by_cases hc : (7 : Int32) < y
    · rw [if_pos hc]
      have hc' := i_ltI.mp hc
      rw [k_7] at hc'
      exact Or.inr ⟨rfl, fun v t h1 h2 => by omega⟩
    · rw [if_neg hc]
      have hc' := i_le.mp (Int32.not_lt.mp hc)
      rw [k_7] at hc'
      have e := y_1 (m := 8) (by decide) h0 (by omega)
      rcases mm_55 (τ := τ) (Z := Z) (gi := gi) (gr := gr) (a := a) (dx := dx) (dy := dy) (out := out) (oo := oo) (y := y) (k := f_X0_mayMeet_45 τ Z gi gr a dx dy out oo n) ((2 - ((-1) : Int32).toInt).toNat + 1) (-1) (by decide) (Nat.lt_add_one _) with ⟨k1, t, k2, k3, k4⟩ | ⟨k1, k2⟩
      · rw [k1]
        exact Or.inl ⟨rfl, y, t, Int.le_refl _, hc', by rw [k_m1] at k2; exact k2, k3, k4⟩
      · rw [k1]
        rcases ih (y + 1) (by omega) (by omega) with ⟨l1, v, t, l2, l3, l4, l5, l6⟩ | ⟨l1, l2⟩
        · exact Or.inl ⟨l1, v, t, by omega, l3, l4, l5, l6⟩
        · refine Or.inr ⟨l1, fun v t h1 h2 h3 h4 => ?_⟩
          by_cases hv : v.toInt = y.toInt
          · rw [i_inj hv]
            exact k2 t (by rw [k_m1]; exact h3) h4
          · exact l2 v t (by omega) h2 h3 h4
theorem ta_100 {a : Nat} {p1 p q p3 hh one two y : Int32} {k : Int32 → Int32 → Int32 → Int32} : ∀ (n : Nat) (t : Int32), 7 ≤ t.toInt → (10 - t.toInt).toNat < n → (f_X12_touchAt_100 τ Z gm rm a p1 p p3 q hh one two y k n t = 1 ∧ ∃ t' : Int32, t.toInt ≤ t'.toInt ∧ t'.toInt ≤ 9 ∧ pT τ Z gm rm a p one q two y (y + t' - (y + t') / 8 * 8)) ∨ (f_X12_touchAt_100 τ Z gm rm a p1 p p3 q hh one two y k n t = k one two (y + 1) ∧ ∀ t' : Int32, t.toInt ≤ t'.toInt → t'.toInt ≤ 9 → ¬ pT τ Z gm rm a p one q two y (y + t' - (y + t') / 8 * 8)) := by
  intro n
  induction n with
  | zero => intro t _ h; exact absurd h (Nat.not_lt_zero _)
  | succ n ih =>
    intro t h0 h
    have k9 : (9 : Int32).toInt = 9 := by decide
    unfold f_X12_touchAt_100 f_X12_touchAt_155
    dsimp only
    by_cases hc : (9 : Int32) < t
    · rw [if_pos hc]
      have hc' := i_ltI.mp hc
      rw [k9] at hc'
      exact Or.inr ⟨rfl, fun t' h1 h2 => by omega⟩
    · rw [if_neg hc]
      have hc' := i_le.mp (Int32.not_lt.mp hc)
      rw [k9] at hc'
      have e : (t + 1).toInt = t.toInt + 1 := by rw [i_add (by rw [k_1]; omega) (by rw [k_1]; omega), k_1]
      have next : ¬ pT τ Z gm rm a p one q two y (y + t - (y + t) / 8 * 8) → (f_X12_touchAt_100 τ Z gm rm a p1 p p3 q hh one two y k n (t + 1) = 1 ∧ ∃ t' : Int32, t.toInt ≤ t'.toInt ∧ t'.toInt ≤ 9 ∧ pT τ Z gm rm a p one q two y (y + t' - (y + t') / 8 * 8)) ∨ (f_X12_touchAt_100 τ Z gm rm a p1 p p3 q hh one two y k n (t + 1) = k one two (y + 1) ∧ ∀ t' : Int32, t.toInt ≤ t'.toInt → t'.toInt ≤ 9 → ¬ pT τ Z gm rm a p one q two y (y + t' - (y + t') / 8 * 8)) := fun hp => by
        rcases ih (t + 1) (by omega) (by omega) with ⟨k1, t', k2, k3, k4⟩ | ⟨k1, k2⟩
        · exact Or.inl ⟨k1, t', by omega, k3, k4⟩
        · refine Or.inr ⟨k1, fun t' h1 h2 => ?_⟩
          by_cases ht : t'.toInt = t.toInt
          · rw [i_inj ht]
            exact hp
          · exact k2 t' (by omega) h2
      by_cases b1 : F_X12_isThere τ Z gm rm a y = 0
      · rw [if_pos b1]
        exact next (fun q => q.1 b1)
      · rw [if_neg b1]
        by_cases b2 : F_X12_isThere τ Z gm rm a (y + t - (y + t) / 8 * 8) = 0
        · rw [if_pos b2]
          exact next (fun q => q.2.1 b2)
        · rw [if_neg b2]
          by_cases b3 : F_X12_meet τ Z gm rm a p one y q two (y + t - (y + t) / 8 * 8) = 0
          · rw [if_pos b3]
            exact next (fun q => q.2.2 b3)
          · rw [if_neg b3]
            exact Or.inl ⟨rfl, t, Int.le_refl _, hc', b1, b2, b3⟩
theorem ta_89 {a : Nat} {p1 p q p3 hh one two : Int32} : ∀ (n : Nat) (y : Int32), 0 ≤ y.toInt → (8 - y.toInt).toNat < n → (f_X12_touchAt_89 τ Z gm rm a p1 p p3 q hh n one two y = 1 ∧ ∃ v t : Int32, y.toInt ≤ v.toInt ∧ v.toInt ≤ 7 ∧ 7 ≤ t.toInt ∧ t.toInt ≤ 9 ∧ pT τ Z gm rm a p one q two v (v + t - (v + t) / 8 * 8)) ∨ (f_X12_touchAt_89 τ Z gm rm a p1 p p3 q hh n one two y = 0 ∧ ∀ v t : Int32, y.toInt ≤ v.toInt → v.toInt ≤ 7 → 7 ≤ t.toInt → t.toInt ≤ 9 → ¬ pT τ Z gm rm a p one q two v (v + t - (v + t) / 8 * 8)) := by
  intro n
  induction n with
  | zero => intro y _ h; exact absurd h (Nat.not_lt_zero _)
  | succ n ih =>
    intro y h0 h
    have k8 : (8 : Int32).toInt = 8 := by decide
    unfold f_X12_touchAt_89
    by_cases hc : (8 : Int32) ≤ y
    · rw [if_pos hc]
      have hc' := i_le.mp hc
      rw [k8] at hc'
      exact Or.inr ⟨rfl, fun v t h1 h2 => by omega⟩
    · rw [if_neg hc]
      have hc' := i_ltI.mp (Int32.not_le.mp hc)
      rw [k8] at hc'
      have e := y_1 (m := 8) (by decide) h0 (by omega)
      rcases ta_100 (τ := τ) (Z := Z) (gm := gm) (rm := rm) (a := a) (p1 := p1) (p := p) (q := q) (p3 := p3) (hh := hh) (one := one) (two := two) (y := y) (k := f_X12_touchAt_89 τ Z gm rm a p1 p p3 q hh n) ((10 - (7 : Int32).toInt).toNat + 1) 7 (by decide) (Nat.lt_add_one _) with ⟨k1, t, k2, k3, k4⟩ | ⟨k1, k2⟩
      · rw [k1]
        exact Or.inl ⟨rfl, y, t, Int.le_refl _, by omega, by rw [k_7] at k2; exact k2, k3, k4⟩
      · rw [k1]
        rcases ih (y + 1) (by omega) (by omega) with ⟨l1, v, t, l2, l3, l4, l5, l6⟩ | ⟨l1, l2⟩
        · exact Or.inl ⟨l1, v, t, by omega, l3, l4, l5, l6⟩
        · refine Or.inr ⟨l1, fun v t h1 h2 h3 h4 => ?_⟩
          by_cases hv : v.toInt = y.toInt
          · rw [i_inj hv]
            exact k2 t (by rw [k_7]; exact h3) h4
          · exact l2 v t (by omega) h2 h3 h4
end TO
end
