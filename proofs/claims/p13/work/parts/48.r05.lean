/-! ===== RINGS: what they leave alone; nobody tells anything any more ===== -/
section SW
variable {τ τ1 : th_t} {Z : th_Zt} {gi gi1 gm gm2 : th_i} {gr gr1 rm rm2 : th_r} {A : Nat → Nat} {M1 M2 : List Nat}
theorem pa_fr (hC : ro_C τ gr A) : ∀ (n : Nat) (g : th_i) (y : Int32) (a : Nat), a ≠ A 29 → f_X6_pointAll_2 τ Z gi gr (A 6) n g y a = g a := by
  intro n
  induction n with
  | zero => intro g y a _; rfl
  | succ n ih =>
    intro g y a ha
    unfold f_X6_pointAll_2
    dsimp only
    by_cases hc : g ((gr (A 6) 0).getD 0) 6 ≤ y
    · rw [if_pos hc]
    · rw [if_neg hc]
      have key : ∀ o : Option Nat, f_X6_pointAll_33 τ Z gi gr (A 6) g y (f_X6_pointAll_2 τ Z gi gr (A 6) n) g o a = g a := fun o => by
        unfold f_X6_pointAll_33 f_X6_pointAll_49
        cases o with
        | none => exact ih _ _ a ha
        | some q =>
          show f_X6_pointAll_2 τ Z gi gr (A 6) n (va_up g ((gr (A 6) 2).getD 0) _) _ a = g a
          rw [hC.g 6 2 29 (by decide)]
          exact (ih _ _ a ha).trans (up_n ha)
      by_cases hd : F_X6_isLeft τ Z g gr (A 6) y = 0
      · rw [if_pos hd]
        exact key _
      · rw [if_neg hd]
        exact key _
theorem tr_fr (hC : ro_C τ gr A) {p : Int32} : ∀ (n : Nat) (g : th_i) (y z : Int32) (a : Nat), a ≠ A 6 → a ≠ A 28 → f_X6_takeRing_4 τ Z gi gr (A 6) p n g y z a = g a := by
  intro n
  induction n with
  | zero => intro g y z a _ _; rfl
  | succ n ih =>
    intro g y z a h6 h28
    unfold f_X6_takeRing_4
    dsimp only
    by_cases hc : (16 : Int32) ≤ z
    · rw [if_pos hc]
    · rw [if_neg hc]
      by_cases hd : F_X6_isLeft τ Z g gr (A 6) y = 0
      · rw [if_pos hd]
      · rw [if_neg hd, ih _ _ _ a h6 h28, hC.g 6 1 28 (by decide), up_n h28, up_n h6]
theorem dr_65 (hC : ro_C τ gr A) : ∀ (n : Nat) (g : th_i) (y : Int32) (a : Nat), a ≠ A 6 → a ≠ A 28 → a ≠ A 29 → f_X6_draw_65 τ Z gi gr (A 6) n g y a = g a := by
  intro n
  induction n with
  | zero => intro g y a _ _ _; rfl
  | succ n ih =>
    intro g y a h6 h28 h29
    unfold f_X6_draw_65
    dsimp only
    by_cases hc : (16 : Int32) ≤ y
    · rw [if_pos hc]
    · rw [if_neg hc]
      by_cases hd : g (A 6) 3 = 0
      · rw [if_pos hd]
      · rw [if_neg hd, ih _ _ a h6 h28 h29]
        unfold F_X6_takeRing F_X6_pointAll
        rw [tr_fr hC _ _ _ _ a h6 h28, pa_fr hC _ _ _ a h29]
theorem dr_7 (hC : ro_C τ gr A) : ∀ (n : Nat) (g : th_i) (y : Int32) (a : Nat), a ≠ A 6 → a ≠ A 28 → a ≠ A 29 → f_X6_draw_7 τ Z gi gr (A 6) n g y a = g a := by
  intro n
  induction n with
  | zero => intro g y a _ _ _; rfl
  | succ n ih =>
    intro g y a h6 h28 h29
    unfold f_X6_draw_7 f_X6_draw_57
    dsimp only
    by_cases hc : g ((gr (A 6) 0).getD 0) 6 ≤ y
    · rw [if_pos hc]
      exact dr_65 hC _ _ _ a h6 h28 h29
    · rw [if_neg hc, hC.g 6 1 28 (by decide)]
      by_cases hd : F_X1_buoyOf τ Z g gr ((gr ((gr (A 6) 0).getD 0) 4).getD 0) y = -1
      · rw [if_pos hd, ih _ _ a h6 h28 h29, up_n h28]
      · rw [if_neg hd, ih _ _ a h6 h28 h29, up_n h6, up_n h28]
theorem dr_fr (hC : ro_C τ gr A) {a : Nat} (h6 : a ≠ A 6) (h28 : a ≠ A 28) (h29 : a ≠ A 29) : F_X6_draw τ Z gi gr (A 6) a = gi a := by
  unfold F_X6_draw
  rw [dr_7 hC _ _ _ a h6 h28 h29, up_n h6]
theorem pu_fr {b x y a : Nat} {g : th_i} {p q : Int32} (hx : gr b 0 = some x) (hy : gr b 1 = some y) (h1 : a ≠ x) (h2 : a ≠ y) : F_X1_put τ Z g gr b p q a = g a := by
  unfold F_X1_put
  dsimp only
  rw [hx, hy]
  by_cases c1 : F_X11_within τ Z g gr p 0 15 = 0
  · rw [if_pos c1]
  · rw [if_neg c1]
    by_cases c2 : F_X11_within τ Z g gr q 0 11 = 0
    · rw [if_pos c2]
    · rw [if_neg c2]
      show va_up (va_up g x _) y _ a = g a
      rw [up_n h2, up_n h1]
/-- wishes are dropped -/
theorem dw_sp (hC : ro_C τ gr A) (hb : ∀ i : Nat, i < 16 → ∀ q, gr (A 21) i = some q → τ q = 8 ∨ τ q = 9 ∨ τ q = 4) : ∀ (n : Nat) (g : th_i) (y : Int32), rg 0 16 (g (A 1) 6) → 0 ≤ y.toInt → (16 - y.toInt).toNat < n → (∀ i q : Nat, y.toInt ≤ (i : Int) → (i : Int) < (g (A 1) 6).toInt → gr (A 21) i = some q → f_X0_dropWishes_2 τ Z gi gr (A 1) n g y q 4 = 0) ∧ (∀ q, g q 4 = 0 → f_X0_dropWishes_2 τ Z gi gr (A 1) n g y q 4 = 0) ∧ f_X0_dropWishes_2 τ Z gi gr (A 1) n g y (A 1) = g (A 1) := by
  intro n
  induction n with
  | zero => intro g y _ _ h; exact absurd h (Nat.not_lt_zero _)
  | succ n ih =>
    intro g y hn h0 h
    have hn2 := hn.2
    unfold f_X0_dropWishes_2 f_X0_dropWishes_25
    dsimp only
    by_cases hc : g (A 1) 6 ≤ y
    · rw [if_pos hc]
      have hc' := Int32.le_iff_toInt_le.mp hc
      exact ⟨fun i q h1 h2 => by omega, fun q hq => hq, rfl⟩
    · rw [if_neg hc]
      have hc' := Int32.lt_iff_toInt_lt.mp (Int32.not_le.mp hc)
      have e := y_1 (m := 16) (by decide) h0 (by omega)
      have gw : ¬ W0 y 0 (g (A 1) 6 - 1) = 0 := fun q => (w0_n (by decide) hn).mp q ⟨h0, hc'⟩
      have g16 : ¬ (16 : Int32) ≤ y := fun q => by
        have q1 := Int32.le_iff_toInt_le.mp q
        have q2 : (16 : Int32).toInt = 16 := by decide
        omega
      have eb : F_X0_boatAt τ Z g gr (A 1) y = gr (A 21) y.toNatClampNeg := by
        unfold F_X0_boatAt
        dsimp only
        rw [w0_c, if_neg gw, if_neg g16, hC.g 1 1 21 (by decide)]
      rw [eb]
      cases ho : gr (A 21) y.toNatClampNeg with
      | none =>
        obtain ⟨k1, k2, k3⟩ := ih g (y + 1) hn (by omega) (by omega)
        refine ⟨fun i q h1 h2 h3 => ?_, k2, k3⟩
        by_cases hi : (i : Int) = y.toInt
        · rw [cl_in hi] at ho
          rw [ho] at h3
          cases h3
        · exact k1 i q (by omega) h2 h3
      | some b =>
        have tb := hb y.toNatClampNeg (cl_lt h0 (by omega)) b ho
        have nb1 : A 1 ≠ b := by
          rcases tb with t | t | t <;> exact ro_ne (hC.t 1 1 (by decide) rfl) t (by decide)
        have e1 : va_up g b (upd (g b) 4 0) (A 1) = g (A 1) := up_n nb1
        obtain ⟨k1, k2, k3⟩ := ih (va_up g b (upd (g b) 4 0)) (y + 1) (by rw [e1]; exact hn) (by omega) (by omega)
        rw [e1] at k1 k3
        refine ⟨fun i q h1 h2 h3 => ?_, fun q hq => ?_, k3⟩
        · by_cases hi : (i : Int) = y.toInt
          · rw [cl_in hi] at ho
            have : b = q := Option.some.inj (ho.symm.trans h3)
            subst this
            exact k2 b (by rw [up_s, ud_s])
          · exact k1 i q (by omega) h2 h3
        · refine k2 q ?_
          by_cases hqb : q = b
          · subst hqb
            rw [up_s, ud_s]
          · rw [up_n hqb]
            exact hq
theorem sw_55 (hC : ro_C τ gr A) (hb : ∀ i : Nat, i < 16 → ∀ q, gr (A 21) i = some q → τ q = 8 ∨ τ q = 9 ∨ τ q = 4) : ∀ (n : Nat) (g : th_i) (x y : Int32), rg 0 16 (g (A 1) 6) → 0 ≤ y.toInt → (16 - y.toInt).toNat < n → ∀ i q : Nat, (i : Int) < (g (A 1) 6).toInt → gr (A 21) i = some q → (f_X11_swap_55 τ Z gi gr (A 11) n g x y).2 q 4 = 0 := by
  intro n
  induction n with
  | zero => intro g x y _ _ h; exact absurd h (Nat.not_lt_zero _)
  | succ n ih =>
    intro g x y hn h0 h i q hi hq
    have hn2 := hn.2
    unfold f_X11_swap_55
    dsimp only
    rw [hC.g 11 0 1 (by decide), hC.g 1 4 2 (by decide), hC.g 11 3 6 (by decide)]
    by_cases hc : g (A 1) 6 ≤ y
    · rw [if_pos hc]
      unfold F_X0_dropWishes
      have z0 : (0 : Int32).toInt = 0 := by decide
      exact (dw_sp (Z := Z) (gi := g) hC hb _ g 0 hn (by decide) (Nat.lt_add_one _)).1 i q (by omega) hi hq
    · rw [if_neg hc]
      have hc' := Int32.lt_iff_toInt_lt.mp (Int32.not_le.mp hc)
      have e := y_1 (m := 16) (by decide) h0 (by omega)
      have e1 : ∀ p1 p2, F_X1_put τ Z g gr (A 2) p1 p2 (A 1) = g (A 1) := fun p1 p2 => pu_fr (hC.e 2 0 24 (by decide)) (hC.e 2 1 25 (by decide)) (ro_ne (hC.t 1 1 (by decide) rfl) (hC.t 24 24 (by decide) rfl) (by decide)) (ro_ne (hC.t 1 1 (by decide) rfl) (hC.t 25 25 (by decide) rfl) (by decide))
      exact ih _ _ _ (by rw [e1]; exact hn) (by omega) (by omega) i q (by rw [e1]; exact hi) hq
end SW
