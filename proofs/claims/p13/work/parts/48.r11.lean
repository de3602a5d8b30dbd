/-! ===== a TIDE is set: the least one, hours with an earlier one's, the chain's part ===== -/
section TS
variable {τ τ1 : th_t} {Z : th_Zt} {gi gi1 gm gm2 : th_i} {gr gr1 rm rm2 : th_r} {A : Nat → Nat} {M1 M2 : List Nat}
def c_least (gi : th_i) (A : Nat → Nat) : Prop := (∀ h : Nat, h < 24 → (gi (A 1) 8).toInt ≤ (gi (A 22) h).toInt) ∧ ∃ h : Nat, h < 24 ∧ gi (A 1) 8 = gi (A 22) h
def c_rep (gi : th_i) (A : Nat → Nat) : Prop := ∀ h : Nat, h < 24 → (gi (A 23) h = 0 ↔ ∀ k : Nat, k < h → ¬ gi (A 22) k = gi (A 22) h)
theorem c_least.fr (hC : ro_C τ gr A) (h1 : th_Mod M1 τ gi gr gi1 gr1) (k1 : ∀ k ∈ [108, 2200], k ∉ M1) (h : c_least gi A) : c_least gi1 A := by
  unfold c_least
  rw [(ro_k h1 8 (hC.t 1 1 (by decide) rfl) (by decide) (k1 108 (by decide))).1, (ro_ka h1 (hC.t 22 22 (by decide) rfl) (by decide) (k1 2200 (by decide))).1]
  exact h
theorem c_rep.fr (hC : ro_C τ gr A) (h1 : th_Mod M1 τ gi gr gi1 gr1) (k1 : ∀ k ∈ [2200, 2300], k ∉ M1) (h : c_rep gi A) : c_rep gi1 A := by
  unfold c_rep
  rw [(ro_ka h1 (hC.t 23 23 (by decide) rfl) (by decide) (k1 2300 (by decide))).1, (ro_ka h1 (hC.t 22 22 (by decide) rfl) (by decide) (k1 2200 (by decide))).1]
  exact h
theorem bu_g (hC : ro_C τ gr A) {g : th_i} {y : Int32} (hn : rg 0 12 (g (A 1) 5)) (h0 : 0 ≤ y.toInt) (h1 : y.toInt < (g (A 1) 5).toInt) : F_X0_buoyAt τ Z g gr (A 1) y = gr (A 20) y.toNatClampNeg := by
  have h2 := hn.2
  have g1 : ¬ W0 y 0 (g (A 1) 5 - 1) = 0 := fun q => (w0_n (by decide) hn).mp q ⟨h0, h1⟩
  have g2 : ¬ (12 : Int32) ≤ y := fun q => by
    have q1 := i_le.mp q
    have q2 : (12 : Int32).toInt = 12 := by decide
    omega
  unfold F_X0_buoyAt
  dsimp only
  rw [w0_c, if_neg g1, if_neg g2, hC.g 1 0 20 (by decide)]
theorem bo_g (hC : ro_C τ gr A) {g : th_i} {y : Int32} (hn : rg 0 16 (g (A 1) 6)) (h0 : 0 ≤ y.toInt) (h1 : y.toInt < (g (A 1) 6).toInt) : F_X0_boatAt τ Z g gr (A 1) y = gr (A 21) y.toNatClampNeg := by
  have h2 := hn.2
  have g1 : ¬ W0 y 0 (g (A 1) 6 - 1) = 0 := fun q => (w0_n (by decide) hn).mp q ⟨h0, h1⟩
  have g2 : ¬ (16 : Int32) ≤ y := fun q => by
    have q1 := i_le.mp q
    have q2 : (16 : Int32).toInt = 16 := by decide
    omega
  unfold F_X0_boatAt
  dsimp only
  rw [w0_c, if_neg g1, if_neg g2, hC.g 1 1 21 (by decide)]
theorem bu_gn {g : th_i} {y : Int32} (hn : rg 0 12 (g (A 1) 5)) (h : ¬ (0 ≤ y.toInt ∧ y.toInt < (g (A 1) 5).toInt)) : F_X0_buoyAt τ Z g gr (A 1) y = none := by
  unfold F_X0_buoyAt
  dsimp only
  rw [w0_c, if_pos ((w0_n (by decide) hn).mpr h)]
theorem bo_gn {g : th_i} {y : Int32} (hn : rg 0 16 (g (A 1) 6)) (h : ¬ (0 ≤ y.toInt ∧ y.toInt < (g (A 1) 6).toInt)) : F_X0_boatAt τ Z g gr (A 1) y = none := by
  unfold F_X0_boatAt
  dsimp only
  rw [w0_c, if_pos ((w0_n (by decide) hn).mpr h)]
theorem et_sp (hC : ro_C τ gr A) {g : th_i} {p : Int32} (hp0 : 0 ≤ p.toInt) (hp : p.toInt ≤ 23) : ∀ (n : Nat) (y : Int32), 0 ≤ y.toInt → (23 - y.toInt).toNat < n → (f_X0_isEarlierTide_2 τ Z g gr (A 1) p n y = 0 ∧ ∀ k : Nat, y.toInt ≤ (k : Int) → (k : Int) < p.toInt → ¬ g (A 22) k = g (A 22) p.toNatClampNeg) ∨ (f_X0_isEarlierTide_2 τ Z g gr (A 1) p n y = 1 ∧ ∃ k : Nat, y.toInt ≤ (k : Int) ∧ (k : Int) < p.toInt ∧ g (A 22) k = g (A 22) p.toNatClampNeg) := by
  intro n
  induction n with
  | zero => intro y _ h; exact absurd h (Nat.not_lt_zero _)
  | succ n ih =>
    intro y h0 h
    unfold f_X0_isEarlierTide_2
    dsimp only
    rw [hC.g 1 2 22 (by decide)]
    by_cases hc : p ≤ y
    · rw [if_pos hc]
      have hc' := i_le.mp hc
      exact Or.inl ⟨rfl, fun k h1 h2 => by omega⟩
    · rw [if_neg hc]
      have hc' := i_ltI.mp (Int32.not_le.mp hc)
      have cy := i_cl h0
      by_cases he : g (A 22) y.toNatClampNeg = g (A 22) p.toNatClampNeg
      · rw [if_pos he]
        exact Or.inr ⟨rfl, y.toNatClampNeg, by omega, by omega, he⟩
      · rw [if_neg he]
        have e := y_1 (m := 24) (by decide) h0 (by omega)
        rcases ih (y + 1) (by omega) (by omega) with ⟨k1, k2⟩ | ⟨k1, k, k2, k3, k4⟩
        · refine Or.inl ⟨k1, fun k h1 h2 => ?_⟩
          by_cases hk : (k : Int) = y.toInt
          · rw [← cl_in hk]
            exact he
          · exact k2 k (by omega) h2
        · exact Or.inr ⟨k1, k, by omega, k3, k4⟩
theorem et_iff (hC : ro_C τ gr A) {g : th_i} {p : Int32} (hp0 : 0 ≤ p.toInt) (hp : p.toInt ≤ 23) : F_X0_isEarlierTide τ Z g gr (A 1) p = 0 ↔ ∀ k : Nat, k < p.toNatClampNeg → ¬ g (A 22) k = g (A 22) p.toNatClampNeg := by
  have cp := i_cl hp0
  unfold F_X0_isEarlierTide
  rcases et_sp (Z := Z) hC (g := g) hp0 hp ((23 - (0 : Int32).toInt).toNat + 1) 0 (by decide) (Nat.lt_add_one _) with ⟨k1, k2⟩ | ⟨k1, k, k2, k3, k4⟩
  · rw [k1]
    exact ⟨fun _ k hk => k2 k (by rw [k_0]; omega) (by omega), fun _ => rfl⟩
  · rw [k1]
    exact ⟨fun q => absurd q (by decide), fun q => absurd k4 (q k (by omega))⟩
theorem mn_c (a b : Int32) : (th_mn a b).toInt ≤ a.toInt ∧ (th_mn a b).toInt ≤ b.toInt ∧ (th_mn a b = a ∨ th_mn a b = b) := by
  unfold th_mn
  by_cases h : b < a
  · rw [if_pos h]
    have := i_ltI.mp h
    exact ⟨by omega, by omega, Or.inr rfl⟩
  · rw [if_neg h]
    have := i_le.mp (Int32.not_lt.mp h)
    exact ⟨by omega, by omega, Or.inl rfl⟩
theorem mx_c (a b : Int32) : a.toInt ≤ (th_mx a b).toInt ∧ b.toInt ≤ (th_mx a b).toInt ∧ (th_mx a b = a ∨ th_mx a b = b) := by
  unfold th_mx
  by_cases h : a < b
  · rw [if_pos h]
    have := i_ltI.mp h
    exact ⟨by omega, by omega, Or.inr rfl⟩
  · rw [if_neg h]
    have := i_le.mp (Int32.not_lt.mp h)
    exact ⟨by omega, by omega, Or.inl rfl⟩
theorem s6_sp (hC : ro_C τ gr A) {p1 p2 : Int32} : ∀ (n : Nat) (g : th_i) (y : Int32), 0 ≤ y.toInt → (24 - y.toInt).toNat < n → (∀ a, a ≠ A 1 → a ≠ A 23 → f_X0_setTide_62 τ Z gi gr (A 1) p1 p2 n g y a = g a) ∧ (f_X0_setTide_62 τ Z gi gr (A 1) p1 p2 n g y (A 1) 8).toInt ≤ (g (A 1) 8).toInt ∧ (∀ h : Nat, h < 24 → y.toInt ≤ (h : Int) → (f_X0_setTide_62 τ Z gi gr (A 1) p1 p2 n g y (A 1) 8).toInt ≤ (g (A 22) h).toInt) ∧ (f_X0_setTide_62 τ Z gi gr (A 1) p1 p2 n g y (A 1) 8 = g (A 1) 8 ∨ ∃ h : Nat, h < 24 ∧ f_X0_setTide_62 τ Z gi gr (A 1) p1 p2 n g y (A 1) 8 = g (A 22) h) ∧ (∀ h : Nat, h < 24 → y.toInt ≤ (h : Int) → (f_X0_setTide_62 τ Z gi gr (A 1) p1 p2 n g y (A 23) h = 0 ↔ ∀ k : Nat, k < h → ¬ g (A 22) k = g (A 22) h)) ∧ (∀ h : Nat, (h : Int) < y.toInt → f_X0_setTide_62 τ Z gi gr (A 1) p1 p2 n g y (A 23) h = g (A 23) h) := by
  intro n
  induction n with
  | zero => intro g y _ h; exact absurd h (Nat.not_lt_zero _)
  | succ n ih =>
    intro g y h0 h
    have hu : f_X0_setTide_62 τ Z gi gr (A 1) p1 p2 (n + 1) g y = if (24 : Int32) ≤ y then g else f_X0_setTide_62 τ Z gi gr (A 1) p1 p2 n (va_up (va_up g (A 1) (upd (g (A 1)) 8 (th_mn (g (A 1) 8) (g (A 22) y.toNatClampNeg)))) (A 23) (upd (va_up g (A 1) (upd (g (A 1)) 8 (th_mn (g (A 1) 8) (g (A 22) y.toNatClampNeg))) (A 23)) y.toNatClampNeg (F_X0_isEarlierTide τ Z (va_up g (A 1) (upd (g (A 1)) 8 (th_mn (g (A 1) 8) (g (A 22) y.toNatClampNeg)))) gr (A 1) y))) (y + 1) := by
      rw [← hC.g 1 3 23 (by decide), ← hC.g 1 2 22 (by decide)]
      rfl
    rw [hu]
    by_cases hc : (24 : Int32) ≤ y
    · rw [if_pos hc]
      have hc' := i_le.mp hc
      rw [k_24] at hc'
      exact ⟨fun _ _ _ => rfl, Int.le_refl _, fun h h1 h2 => by omega, Or.inl rfl, fun h h1 h2 => by omega, fun _ _ => rfl⟩
    · rw [if_neg hc]
      have hc' := i_ltI.mp (Int32.not_le.mp hc)
      rw [k_24] at hc'
      have cy := i_cl h0
      have e := y_1 (m := 24) (by decide) h0 (by omega)
      have t1 := hC.t 1 1 (by decide) rfl
      have t22 := hC.t 22 22 (by decide) rfl
      have t23 := hC.t 23 23 (by decide) rfl
      have n1 := ro_ne t1 t23 (by decide)
      have n2 := ro_ne t22 t1 (by decide)
      have n3 := ro_ne t22 t23 (by decide)
      obtain ⟨m1, m2, m3⟩ := mn_c (g (A 1) 8) (g (A 22) y.toNatClampNeg)
      generalize hM : th_mn (g (A 1) 8) (g (A 22) y.toNatClampNeg) = mm at m1 m2 m3 ⊢
      have ei := et_iff (Z := Z) hC (g := va_up g (A 1) (upd (g (A 1)) 8 mm)) (p := y) h0 (by omega)
      rw [up_n n2] at ei
      generalize hE : F_X0_isEarlierTide τ Z (va_up g (A 1) (upd (g (A 1)) 8 mm)) gr (A 1) y = ee at ei ⊢
      generalize hG : va_up (va_up g (A 1) (upd (g (A 1)) 8 mm)) (A 23) (upd (va_up g (A 1) (upd (g (A 1)) 8 mm) (A 23)) y.toNatClampNeg ee) = g15
      have f1 : g15 (A 1) 8 = mm := by rw [← hG, up_n n1, up_s, ud_s]
      have f22 : g15 (A 22) = g (A 22) := by rw [← hG, up_n n3, up_n n2]
      have f23 : g15 (A 23) = upd (g (A 23)) y.toNatClampNeg ee := by rw [← hG, up_s, up_n (Ne.symm n1)]
      obtain ⟨q1, q2, q3, q4, q5, q6⟩ := ih g15 (y + 1) (by omega) (by omega)
      rw [f1] at q2 q4
      rw [f22] at q3 q4 q5
      rw [f23] at q6
      refine ⟨fun a a1 a2 => ?_, by omega, fun h h1 h2 => ?_, ?_, fun h h1 h2 => ?_, fun h h1 => ?_⟩
      · rw [q1 a a1 a2, ← hG, up_n a2, up_n a1]
      · by_cases hy : (h : Int) = y.toInt
        · rw [← cl_in hy]
          omega
        · exact q3 h h1 (by omega)
      · rcases q4 with q | q
        · rw [q]
          rcases m3 with m | m
          · exact Or.inl m
          · exact Or.inr ⟨y.toNatClampNeg, by omega, m⟩
        · exact Or.inr q
      · by_cases hy : (h : Int) = y.toInt
        · rw [q6 h (by omega), ← cl_in hy, ud_s]
          exact ei
        · exact q5 h h1 (by omega)
      · rw [q6 h (by omega), ud_n (by omega)]
theorem s1_sp (hC : ro_C τ gr A) {G : th_i} {p v : Int32} (hp : ¬ W0 p 0 23 = 0) (hv : rg 0 200 v) (hn : rg 0 12 (G (A 1) 5)) (H1 : ∀ i q : Nat, (i : Int) < (G (A 1) 5).toInt → gr (A 20) i = some q → τ q = 3 ∧ rg 0 300 (G q 3) ∧ rg 10 400 (G q 4) ∧ ∃ w, gr q 5 = some w ∧ τ w = 26) (H2 : ∀ i i' q q' w : Nat, (i : Int) < (G (A 1) 5).toInt → (i' : Int) < (G (A 1) 5).toInt → gr (A 20) i = some q → gr (A 20) i' = some q' → gr q 5 = some w → gr q' 5 = some w → i = i') : ∀ (n : Nat) (g : th_i) (y : Int32), (∀ a, τ a ≠ 26 → g a = G a) → 0 ≤ y.toInt → (12 - y.toInt).toNat < n → ∃ g', f_X0_setTide_17 τ Z gi gr (A 1) p v n g y = f_X0_setTide_62 τ Z gi gr (A 1) p v ((24 - (0 : Int32).toInt).toNat + 1) (va_up g' (A 1) (upd (g' (A 1)) 8 (g' (A 22) 0))) 0 ∧ (∀ a, τ a ≠ 26 → g' a = G a) ∧ (∀ i q w : Nat, y.toInt ≤ (i : Int) → (i : Int) < (G (A 1) 5).toInt → gr (A 20) i = some q → gr q 5 = some w → ∃ s, g' w = upd (g w) p.toNatClampNeg s ∧ sl_ok (G q 3) (G q 4) v s) ∧ (∀ w : Nat, (∀ i q : Nat, y.toInt ≤ (i : Int) → (i : Int) < (G (A 1) 5).toInt → gr (A 20) i = some q → ¬ gr q 5 = some w) → g' w = g w) := by
  intro n
  induction n with
  | zero => intro g y _ _ h; exact absurd h (Nat.not_lt_zero _)
  | succ n ih =>
    intro g y hg h0 h
    have hn2 := hn.2
    have t1 := hC.t 1 1 (by decide) rfl
    have g1 : g (A 1) = G (A 1) := hg _ (by rw [t1]; decide)
    have z0 : (0 : Int32).toNatClampNeg = 0 := by decide
    have hu : f_X0_setTide_17 τ Z gi gr (A 1) p v (n + 1) g y = if g (A 1) 5 ≤ y then f_X0_setTide_62 τ Z gi gr (A 1) p v ((24 - (0 : Int32).toInt).toNat + 1) (va_up g (A 1) (upd (g (A 1)) 8 (g (A 22) 0))) 0 else Option.elim (F_X0_buoyAt τ Z g gr (A 1) y) (f_X0_setTide_17 τ Z gi gr (A 1) p v n g (y + 1)) (fun q => f_X0_setTide_17 τ Z gi gr (A 1) p v n (F_X3_flood τ Z g gr q p v) (y + 1)) := by
      rw [← hC.g 1 2 22 (by decide)]
      rfl
    by_cases hc : g (A 1) 5 ≤ y
    · rw [hu, if_pos hc]
      have hc' := i_le.mp hc
      rw [g1] at hc'
      exact ⟨g, rfl, hg, fun i q w h1 h2 => by omega, fun _ _ => rfl⟩
    · rw [hu, if_neg hc]
      have hc' := i_ltI.mp (Int32.not_le.mp hc)
      rw [g1] at hc'
      have cy := i_cl h0
      have e := y_1 (m := 12) (by decide) h0 (by omega)
      rw [bu_g hC (by rw [g1]; exact hn) h0 (by rw [g1]; exact hc')]
      cases ho : gr (A 20) y.toNatClampNeg with
      | none =>
        obtain ⟨g', k1, k2, k3, k4⟩ := ih g (y + 1) hg (by omega) (by omega)
        refine ⟨g', k1, k2, fun i q w h1 h2 h3 h4 => ?_, fun w hw => k4 w (fun i q h1 h2 h3 => hw i q (by omega) h2 h3)⟩
        by_cases hi : (i : Int) = y.toInt
        · rw [cl_in hi] at ho
          rw [ho] at h3
          cases h3
        · exact k3 i q w (by omega) h2 h3 h4
      | some b =>
        obtain ⟨tb, r3, r4, wb, hwb, twb⟩ := H1 y.toNatClampNeg b (by omega) ho
        have gb : g b = G b := hg b (by rw [tb]; decide)
        obtain ⟨s, es, ks⟩ := fd_at (τ := τ) (Z := Z) (g := g) hwb hp (by rw [gb]; exact r3) (by rw [gb]; exact r4) hv
        rw [gb] at ks
        obtain ⟨g', k1, k2, k3, k4⟩ := ih (va_up g wb (upd (g wb) p.toNatClampNeg s)) (y + 1) (fun a ha => by
          rw [up_n (fun e' => ha (by rw [e']; exact twb))]
          exact hg a ha) (by omega) (by omega)
        show ∃ g', f_X0_setTide_17 τ Z gi gr (A 1) p v n (F_X3_flood τ Z g gr b p v) (y + 1) = _ ∧ _
        rw [es]
        refine ⟨g', k1, k2, fun i q w h1 h2 h3 h4 => ?_, fun w hw => ?_⟩
        · by_cases hi : (i : Int) = y.toInt
          · have hiy : i = y.toNatClampNeg := by omega
            rw [hiy] at h3
            have : b = q := Option.some.inj (ho.symm.trans h3)
            subst this
            have : wb = w := Option.some.inj (hwb.symm.trans h4)
            subst this
            refine ⟨s, ?_, ks⟩
            rw [k4 wb (fun i' q' l1 l2 l3 l4 => by
              have := H2 i' y.toNatClampNeg q' b wb l2 (by omega) l3 ho l4 hwb
              omega), up_s]
          · obtain ⟨s', q1, q2⟩ := k3 i q w (by omega) h2 h3 h4
            have nw : w ≠ wb := fun e' => by
              have := H2 i y.toNatClampNeg q b wb h2 (by omega) h3 ho (by rw [← e']; exact h4) hwb
              omega
            exact ⟨s', by rw [q1, up_n nw], q2⟩
        · have nw : w ≠ wb := fun e' => hw y.toNatClampNeg b (by omega) (by omega) ho (by rw [e']; exact hwb)
          rw [k4 w (fun i q h1 h2 h3 => hw i q (by omega) h2 h3), up_n nw]
/-- all that a TIDE does to the class -/
theorem s_tideS (hJ : th_J τ gi gr) (hC : ro_C τ gr A) (h1 : th_Mod M1 τ gi gr gi1 gr) (k1 : ∀ k ∈ [105, 303, 304], k ∉ M1) (hs : c_sl τ gi gr A) (hl : c_least gi A) (hr : c_rep gi A) {p v r1 : Int32} (e1 : F_X11_tide τ Z gi gr (A 11) p v = (r1, gi1)) : c_sl τ gi1 gr A ∧ c_least gi1 A ∧ c_rep gi1 A := by
  have t1 := hC.t 1 1 (by decide) rfl
  have m5 := (ro_k h1 5 t1 (by decide) (k1 105 (by decide))).1
  have m3 : ∀ q, τ q = 3 → gi1 q 3 = gi q 3 := fun q t => (ro_k h1 3 t (by decide) (k1 303 (by decide))).1
  have m4 : ∀ q, τ q = 3 → gi1 q 4 = gi q 4 := fun q t => (ro_k h1 4 t (by decide) (k1 304 (by decide))).1
  unfold F_X11_tide F_X11_isHour f_X11_tide_18 at e1
  dsimp only at e1
  rw [w0_c, w0_c, hC.g 11 0 1 (by decide), hC.g 1 2 22 (by decide)] at e1
  have fin : ((F_X11_finding τ Z gi gr (A 11) 1).1, (F_X11_finding τ Z gi gr (A 11) 1).2) = (r1, gi1) → c_sl τ gi1 gr A ∧ c_least gi1 A ∧ c_rep gi1 A := fun q1 => by
    rw [fi_c hC (by decide)] at q1
    have k : ∀ a, a ≠ A 36 → gi1 a = gi a := fun a ha => by
      rw [← (pr2 q1).2]
      exact up_n ha
    have m := fm_c hC k
    exact ⟨hs.fr hC m (by decide), hl.fr hC m (by decide), hr.fr hC m (by decide)⟩
  by_cases g1 : W0 p 0 23 = 0
  · rw [if_pos g1] at e1
    exact fin e1
  rw [if_neg g1] at e1
  by_cases g2 : W0 v 0 200 = 0
  · rw [if_pos g2] at e1
    exact fin e1
  rw [if_neg g2] at e1
  obtain ⟨-, a2⟩ := pr2 e1
  have hv := w0_rg (l := 0) (h := 200) (by decide) (by decide) g2
  have hpr := w0_rg (l := 0) (h := 23) (by decide) (by decide) g1
  have cp := i_cl hpr.1
  have hp2 := hpr.2
  have t22 := hC.t 22 22 (by decide) rfl
  have e22 : gi1 (A 22) = upd (gi (A 22)) p.toNatClampNeg v := by rw [← a2]; exact st_22 hJ hC g1
  have hG : ∀ a, a ≠ A 22 → va_up gi (A 22) (upd (gi (A 22)) p.toNatClampNeg v) a = gi a := fun a ha => up_n ha
  obtain ⟨w1, w2⟩ := hs
  have n122 := ro_ne t1 t22 (by decide)
  unfold F_X0_setTide F_X11_isHour at a2
  dsimp only at a2
  rw [w0_c, if_neg g1, hC.g 1 2 22 (by decide)] at a2
  obtain ⟨g', q1, q2, q3, q4⟩ := s1_sp (Z := Z) (gi := gi) hC (G := va_up gi (A 22) (upd (gi (A 22)) p.toNatClampNeg v)) g1 hv (by rw [hG _ n122]; exact n_p hJ hC) (fun i q hi hq => by
      rw [hG _ n122] at hi
      obtain ⟨x0, r3, r4, w, x1, x2, x3⟩ := w1 i q hi hq
      rw [hG q (ro_ne x0 t22 (by decide))]
      exact ⟨x0, r3, r4, w, x1, x2⟩) (fun i i' q q' w hi hi' => by
      rw [hG _ n122] at hi hi'
      exact w2 i i' q q' w hi hi') ((12 - (0 : Int32).toInt).toNat + 1) (va_up gi (A 22) (upd (gi (A 22)) p.toNatClampNeg v)) 0 (fun _ _ => rfl) (by decide) (Nat.lt_add_one _)
  rw [q1] at a2
  obtain ⟨u1, u2, u3, u4, u5, u6⟩ := s6_sp (Z := Z) (gi := gi) hC (p1 := p) (p2 := v) ((24 - (0 : Int32).toInt).toNat + 1) (va_up g' (A 1) (upd (g' (A 1)) 8 (g' (A 22) 0))) 0 (by decide) (Nat.lt_add_one _)
  rw [a2] at u1 u2 u3 u4 u5
  have g22 : va_up g' (A 1) (upd (g' (A 1)) 8 (g' (A 22) 0)) (A 22) = gi1 (A 22) := (u1 _ (Ne.symm n122) (ro_ne t22 (hC.t 23 23 (by decide) rfl) (by decide))).symm
  rw [g22] at u3 u4 u5
  have g8 : va_up g' (A 1) (upd (g' (A 1)) 8 (g' (A 22) 0)) (A 1) 8 = gi1 (A 22) 0 := by rw [up_s, ud_s, ← g22, up_n (Ne.symm n122)]
  rw [g8] at u4
  refine ⟨⟨fun i q hi hq => ?_, ?_⟩, ⟨fun h hh => u3 h hh (by rw [k_0]; omega), ?_⟩, fun h hh => u5 h hh (by rw [k_0]; omega)⟩
  · rw [m5] at hi
    obtain ⟨x0, r3, r4, w, x1, x2, x3⟩ := w1 i q hi hq
    obtain ⟨s, y1, y2⟩ := q3 i q w (by rw [k_0]; omega) (by rw [hG _ n122]; exact hi) hq x1
    rw [hG q (ro_ne x0 t22 (by decide))] at y2
    rw [hG w (ro_ne x2 t22 (by decide))] at y1
    have gw : gi1 w = upd (gi w) p.toNatClampNeg s := by rw [u1 w (ro_ne x2 t1 (by decide)) (ro_ne x2 (hC.t 23 23 (by decide) rfl) (by decide)), up_n (ro_ne x2 t1 (by decide)), y1]
    refine ⟨x0, by rw [m3 q x0]; exact r3, by rw [m4 q x0]; exact r4, w, x1, x2, fun h hh => ?_⟩
    rw [m3 q x0, m4 q x0, e22, gw]
    by_cases hp : h = p.toNatClampNeg
    · rw [hp, ud_s, ud_s]
      exact y2
    · rw [ud_n hp, ud_n hp]
      exact x3 h hh
  · rw [m5]
    exact w2
  · rcases u4 with u | ⟨h, hh, u⟩
    · exact ⟨0, by decide, u⟩
    · exact ⟨h, hh, u⟩
end TS
