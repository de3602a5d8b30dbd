/-! ===== THE MOST: what is asked, what is found, what stays ===== -/
section MP
variable {τ τ1 : th_t} {Z : th_Zt} {gi gi1 gm gm2 : th_i} {gr gr1 rm rm2 : th_r} {A : Nat → Nat} {M1 M2 : List Nat}
theorem bt_one {x y : Int32} (h0 : 0 ≤ y.toInt) (h1 : y.toInt < 32) : (x >>> (y &&& 31) &&& 1 = 1) ↔ bt x y.toNatClampNeg = true := by
  have z := bt_at (x := x) h0 h1
  constructor
  · intro h
    cases hb : bt x y.toNatClampNeg with
    | true => rfl
    | false =>
      rw [z.mpr hb] at h
      exact absurd h (by decide)
  · intro h
    refine b_ext (fun i hi => ?_)
    have cy := i_cl h0
    rw [b_and, b_1 i hi]
    by_cases e : i = 0
    · subst e
      have k := b_sshr y.toNatClampNeg (by omega) x (i := 0) (by decide)
      rw [if_pos (by omega), nI_cl h0] at k
      rw [k]
      simp only [Nat.add_zero]
      rw [h]
      rfl
    · rw [decide_eq_false e, Bool.and_false]
/-- the class: does any of them lie -/
theorem al_2 (hC : ro_C τ gr A) (hn : rg 0 16 (gi (A 1) 6)) {v : Int32} : ∀ (n : Nat) (y : Int32), 0 ≤ y.toInt → (16 - y.toInt).toNat < n → (f_X0_anyLies_2 τ Z gi gr (A 1) v n y = 0 ↔ ∀ j : Nat, y.toInt ≤ (j : Int) → (j : Int) < (gi (A 1) 6).toInt → bt v j = true → gi (A 24) j = -1) := by
  have hn2 := hn.2
  intro n
  induction n with
  | zero => intro y _ h; exact absurd h (Nat.not_lt_zero _)
  | succ n ih =>
    intro y h0 h
    unfold f_X0_anyLies_2 f_X0_anyLies_32
    dsimp only
    rw [hC.g 1 4 2 (by decide)]
    by_cases c : gi (A 1) 6 ≤ y
    · rw [if_pos c]
      have c' := i_le.mp c
      exact ⟨fun _ j h1 h2 => by omega, fun _ => rfl⟩
    · rw [if_neg c]
      have c' := i_ltI.mp (Int32.not_le.mp c)
      have cy := i_cl h0
      have e := y_1 (m := 16) (by decide) h0 (by omega)
      have I := ih (y + 1) (by omega) (by omega)
      have B := bt_at (x := v) h0 (by omega)
      by_cases c1 : v >>> (y &&& 31) &&& 1 = 0
      · rw [if_pos c1, I]
        have b0 := B.mp c1
        refine ⟨fun q j h1 h2 h3 => ?_, fun q j h1 h2 h3 => q j (by omega) h2 h3⟩
        by_cases ej : j = y.toNatClampNeg
        · rw [ej, b0] at h3
          exact absurd h3 (by decide)
        · exact q j (by omega) h2 h3
      · rw [if_neg c1, bo_of (hC.e 2 0 24 (by decide)) h0 (by omega)]
        have b1 : bt v y.toNatClampNeg = true := by
          cases hb : bt v y.toNatClampNeg with
          | true => rfl
          | false => exact absurd (B.mpr hb) c1
        by_cases c2 : gi (A 24) y.toNatClampNeg = -1
        · rw [if_pos c2, I]
          refine ⟨fun q j h1 h2 h3 => ?_, fun q j h1 h2 h3 => q j (by omega) h2 h3⟩
          by_cases ej : j = y.toNatClampNeg
          · rw [ej]
            exact c2
          · exact q j (by omega) h2 h3
        · rw [if_neg c2]
          exact ⟨fun q => absurd q (by decide), fun q => absurd (q _ (by omega) (by omega) b1) c2⟩
/-- the reference: who is asked for -/
def mS (v : Int32) (gm : th_i) (A : Nat → Nat) (y : Nat) (g : th_i) (c f : Int32) : Prop := (∀ a, a ≠ A 60 → g a = gm a) ∧ c.toInt = (cnB v y : Int) ∧ (∀ j, j < y → bt v j = true → cnB v j < 5 → g (A 60) (cnB v j) = nI j) ∧ (f = 0 ↔ ¬ ∀ j, j < y → bt v j = true → ¬ 0 ≤ (gm (A 50) j).toInt) ∧ ∀ j, j < 5 → rg 0 15 (g (A 60) j)
theorem cn_le (v : Int32) : ∀ k, cnB v k ≤ k := by
  intro k
  induction k with
  | zero => exact Nat.le_refl _
  | succ k ih =>
    show cnB v k + _ ≤ _
    split <;> omega
theorem cn_mono (v : Int32) {j k : Nat} (h : j ≤ k) : cnB v j ≤ cnB v k := by
  induction k with
  | zero =>
    have : j = 0 := by omega
    rw [this]
    exact Nat.le_refl _
  | succ k ih =>
    by_cases e : j = k + 1
    · rw [e]
      exact Nat.le_refl _
    · have := ih (by omega)
      show cnB v j ≤ cnB v k + _
      omega
theorem cn_lt (v : Int32) {j k : Nat} (h : j < k) (hb : bt v j = true) : cnB v j < cnB v k := by
  have h1 : cnB v (j + 1) = cnB v j + 1 := by
    show cnB v j + _ = _
    rw [if_pos hb]
  have := cn_mono v (show j + 1 ≤ k from h)
  omega
theorem mo_29 (hQ : ro_M τ rm A) (hn : rg 0 16 (gm (A 12) 8)) {v w : Int32} {gz : th_i} : ∀ (n : Nat) (y : Int32) (g : th_i) (c f : Int32), 0 ≤ y.toInt → y.toInt ≤ (gm (A 12) 8).toInt → (16 - y.toInt).toNat < n → mS v gm A y.toNatClampNeg g c f → ∃ g' c' f', f_X12_most_29 τ Z gz rm (A 12) v w n g c f y = f_X12_most_29 τ Z gz rm (A 12) v w 1 g' c' f' (gm (A 12) 8) ∧ mS v gm A (gm (A 12) 8).toNatClampNeg g' c' f' := by
  have hn2 := hn.2
  have t60 := hQ.t 28 60 (by decide)
  have t50 := hQ.t 12 50 (by decide)
  intro n
  induction n with
  | zero => intro y g c f _ _ h; exact absurd h (Nat.not_lt_zero _)
  | succ n ih =>
    intro y g c f h0 hy h S
    obtain ⟨s1, s2, s3, s4, s5⟩ := S
    have g12 : g (A 12) = gm (A 12) := s1 _ (ro_ne hQ.1 t60 (by decide))
    have g50 : g (A 50) = gm (A 50) := s1 _ (ro_ne t50 t60 (by decide))
    have cy := i_cl h0
    by_cases c0 : gm (A 12) 8 ≤ y
    · have c' := i_le.mp c0
      have ey : y = gm (A 12) 8 := i_inj (by omega)
      refine ⟨g, c, f, ?_, by rw [← ey]; exact ⟨s1, s2, s3, s4, s5⟩⟩
      rw [← ey]
      conv => lhs; unfold f_X12_most_29
      conv => rhs; unfold f_X12_most_29
      dsimp only
      rw [g12, if_pos c0, if_pos c0]
    · have c' := i_ltI.mp (Int32.not_le.mp c0)
      have e := y_1 (m := 16) (by decide) h0 (by omega)
      have ce : (y + 1).toNatClampNeg = y.toNatClampNeg + 1 := by
        have := i_cl (v := y + 1) (by omega)
        omega
      have B := bt_one (x := v) h0 (by omega)
      have hle := cn_le v y.toNatClampNeg
      have hu : f_X12_most_29 τ Z gz rm (A 12) v w (n + 1) g c f y = if v >>> (y &&& 31) &&& 1 = 1 then (if (5 : Int32) ≤ c then f_X12_most_61 τ Z gz rm (A 12) v w g c f y (f_X12_most_29 τ Z gz rm (A 12) v w n) g else f_X12_most_61 τ Z gz rm (A 12) v w g c f y (f_X12_most_29 τ Z gz rm (A 12) v w n) (va_up g (A 60) (upd (g (A 60)) c.toNatClampNeg y))) else f_X12_most_29 τ Z gz rm (A 12) v w n g c f (y + 1) := by
        conv => lhs; unfold f_X12_most_29
        unfold f_X12_most_86
        dsimp only
        rw [g12, if_neg c0, hQ.g 28 60 (by decide)]
      rw [hu]
      by_cases c1 : v >>> (y &&& 31) &&& 1 = 1
      · rw [if_pos c1]
        have b1 := B.mp c1
        have step : ∀ g2 : th_i, (∀ a, a ≠ A 60 → g2 a = gm a) → (∀ j, j < y.toNatClampNeg + 1 → bt v j = true → cnB v j < 5 → g2 (A 60) (cnB v j) = nI j) → (∀ j, j < 5 → rg 0 15 (g2 (A 60) j)) → ∃ g' c' f', f_X12_most_61 τ Z gz rm (A 12) v w g c f y (f_X12_most_29 τ Z gz rm (A 12) v w n) g2 = f_X12_most_29 τ Z gz rm (A 12) v w 1 g' c' f' (gm (A 12) 8) ∧ mS v gm A (gm (A 12) 8).toNatClampNeg g' c' f' := fun g2 k1 k2 k3 => by
          have k50 : g2 (A 50) = gm (A 50) := k1 _ (ro_ne t50 t60 (by decide))
          have ec : (c + 1).toInt = (cnB v (y.toNatClampNeg + 1) : Int) := by
            rw [i_add (by rw [k_1]; omega) (by rw [k_1]; omega), k_1, s2]
            show _ = ((cnB v y.toNatClampNeg + _ : Nat) : Int)
            rw [if_pos b1]
            omega
          unfold f_X12_most_61 f_X12_most_83 f_X12_most_84 f_X12_most_86
          dsimp only
          rw [hQ.g 12 50 (by decide), k50]
          have go : ∀ f2 : Int32, (f2 = 0 ↔ ¬ ∀ j, j < y.toNatClampNeg + 1 → bt v j = true → ¬ 0 ≤ (gm (A 50) j).toInt) → ∃ g' c' f', f_X12_most_29 τ Z gz rm (A 12) v w n g2 (c + 1) f2 (y + 1) = f_X12_most_29 τ Z gz rm (A 12) v w 1 g' c' f' (gm (A 12) 8) ∧ mS v gm A (gm (A 12) 8).toNatClampNeg g' c' f' := fun f2 hf2 => ih (y + 1) g2 (c + 1) f2 (by omega) (by omega) (by omega) ⟨k1, by rw [ce]; exact ec, by rw [ce]; exact k2, by rw [ce]; exact hf2, k3⟩
          by_cases c2 : f = 0
          · rw [if_pos c2]
            refine go 0 ⟨fun _ q => s4.mp c2 (fun j hj => q j (by omega)), fun _ => rfl⟩
          · rw [if_neg c2]
            have free : ∀ j, j < y.toNatClampNeg → bt v j = true → ¬ 0 ≤ (gm (A 50) j).toInt := Classical.not_not.mp (fun q => c2 (s4.mpr q))
            by_cases c3 : (0 : Int32) ≤ gm (A 50) y.toNatClampNeg
            · rw [if_pos c3]
              have c3' := i_le.mp c3
              rw [k_0] at c3'
              exact go 0 ⟨fun _ q => q _ (Nat.lt_add_one _) b1 c3', fun _ => rfl⟩
            · rw [if_neg c3]
              refine go 1 ⟨fun q => absurd q (by decide), fun q => absurd (fun j hj hb => ?_) q⟩
              by_cases ej : j = y.toNatClampNeg
              · rw [ej]
                exact fun q => c3 (i_le.mpr (by rw [k_0]; exact q))
              · exact free j (by omega) hb
        by_cases c2 : (5 : Int32) ≤ c
        · rw [if_pos c2]
          have c2' := i_le.mp c2
          rw [show (5 : Int32).toInt = 5 by decide] at c2'
          refine step g s1 (fun j hj hb hc => ?_) s5
          by_cases ej : j = y.toNatClampNeg
          · rw [ej] at hc
            omega
          · exact s3 j (by omega) hb hc
        · rw [if_neg c2]
          have c2' := i_ltI.mp (Int32.not_le.mp c2)
          rw [show (5 : Int32).toInt = 5 by decide] at c2'
          have cc : c.toNatClampNeg = cnB v y.toNatClampNeg := cl_in s2.symm
          refine step _ (fun a ha => by rw [up_n ha]; exact s1 a ha) (fun j hj hb hc => ?_) (fun j hj => by
            rw [up_s]
            by_cases ej : j = c.toNatClampNeg
            · rw [ej, ud_s]
              exact ⟨h0, by omega⟩
            · rw [ud_n ej]
              exact s5 j hj)
          rw [up_s, cc]
          by_cases ej : j = y.toNatClampNeg
          · rw [ej, ud_s, nI_cl h0]
          · rw [ud_n (by have := cn_lt v (show j < y.toNatClampNeg by omega) hb; omega)]
            exact s3 j (by omega) hb hc
      · rw [if_neg c1]
        have b0 : bt v y.toNatClampNeg = false := by
          cases hb : bt v y.toNatClampNeg with
          | true => exact absurd (B.mpr hb) c1
          | false => rfl
        refine ih (y + 1) g c f (by omega) (by omega) (by omega) ⟨s1, ?_, ?_, ?_, s5⟩
        · rw [ce, s2]
          show _ = ((cnB v y.toNatClampNeg + _ : Nat) : Int)
          rw [if_neg (by rw [b0]; decide)]
          rfl
        · rw [ce]
          intro j hj hb hc
          by_cases ej : j = y.toNatClampNeg
          · rw [ej, b0] at hb
            exact absurd hb (by decide)
          · exact s3 j (by omega) hb hc
        · rw [ce, s4]
          refine ⟨fun q r => q (fun j hj => r j (by omega)), fun q r => q (fun j hj hb => ?_)⟩
          by_cases ej : j = y.toNatClampNeg
          · rw [ej, b0] at hb
            exact absurd hb (by decide)
          · exact r j (by omega) hb
/-- what the search of the reference leaves alone -/
theorem fy_104 (hQ : ro_M τ rm A) {a : Nat} (n1 : a ≠ A 61) (n4 : a ≠ A 64) {gz g84 g94 : th_i} {y84 y94 : Int32} {k84 k94 : th_i → Int32 → th_i} (hk : ∀ g x, k94 g x a = g a) : ∀ (n : Nat) (g : th_i) (y : Int32), f_X12_findMay_104 τ Z gz rm (A 12) g84 y84 g94 y94 k84 k94 n g y a = g a := by
  intro n
  induction n with
  | zero => intro g y; rfl
  | succ n ih =>
    intro g y
    unfold f_X12_findMay_104 f_X12_findMay_148
    dsimp only
    rw [hQ.g 29 61 (by decide), hQ.g 32 64 (by decide)]
    by_cases c : y84 ≤ y
    · rw [if_pos c]
      exact hk _ _
    · rw [if_neg c]
      split
      · rw [ih, up_n n4]
      · rw [ih, up_n n4]
theorem fy_94 (hQ : ro_M τ rm A) {a : Nat} (n1 : a ≠ A 61) (n4 : a ≠ A 64) {gz g84 : th_i} {y84 : Int32} {k84 : th_i → Int32 → th_i} (hk : ∀ g x, k84 g x a = g a) : ∀ (n : Nat) (g : th_i) (y : Int32), f_X12_findMay_94 τ Z gz rm (A 12) g84 y84 k84 n g y a = g a := by
  intro n
  induction n with
  | zero => intro g y; rfl
  | succ n ih =>
    intro g y
    unfold f_X12_findMay_94
    dsimp only
    split
    · exact hk _ _
    · exact fy_104 hQ n1 n4 ih _ _ _
theorem fy_84 (hQ : ro_M τ rm A) {a : Nat} (n1 : a ≠ A 61) (n4 : a ≠ A 64) {gz : th_i} : ∀ (n : Nat) (g : th_i) (y : Int32), f_X12_findMay_84 τ Z gz rm (A 12) n g y a = g a := by
  intro n
  induction n with
  | zero => intro g y; rfl
  | succ n ih =>
    intro g y
    unfold f_X12_findMay_84
    dsimp only
    split
    · rfl
    · exact fy_94 hQ n1 n4 ih _ _ _
theorem fy_19 (hQ : ro_M τ rm A) {a : Nat} (n1 : a ≠ A 61) {gz g2 : th_i} {y2 : Int32} {k2 : th_i → Int32 → th_i} (hk : ∀ g x, k2 g x a = g a) : ∀ (n : Nat) (g : th_i) (y : Int32), f_X12_findMay_19 τ Z gz rm (A 12) g2 y2 k2 n g y a = g a := by
  intro n
  induction n with
  | zero => intro g y; rfl
  | succ n ih =>
    intro g y
    unfold f_X12_findMay_19 f_X12_findMay_67 f_X12_findMay_68
    dsimp only
    rw [hQ.g 29 61 (by decide)]
    split
    · exact hk _ _
    · split
      · rw [ih, up_n n1]
      · split
        · rw [ih, up_n n1]
        · rw [ih, up_n n1]
theorem fy_2 (hQ : ro_M τ rm A) {a : Nat} (n1 : a ≠ A 61) (n4 : a ≠ A 64) {gz : th_i} : ∀ (n : Nat) (g : th_i) (y : Int32), f_X12_findMay_2 τ Z gz rm (A 12) n g y a = g a := by
  intro n
  induction n with
  | zero => intro g y; rfl
  | succ n ih =>
    intro g y
    unfold f_X12_findMay_2
    dsimp only
    rw [hQ.g 29 61 (by decide)]
    split
    · exact fy_84 hQ n1 n4 _ _ _
    · rw [fy_19 hQ n1 ih, up_n n1]
theorem fy_fr (hQ : ro_M τ rm A) {g : th_i} {a : Nat} (n1 : a ≠ A 61) (n4 : a ≠ A 64) : F_X12_findMay τ Z g rm (A 12) a = g a := by
  unfold F_X12_findMay
  exact fy_2 hQ n1 n4 _ _ _
theorem fo_43 (hQ : ro_M τ rm A) {a : Nat} (n3 : a ≠ A 63) {gz g16 : th_i} {y1 y2 : Int32} {k : th_i → Int32 → Int32 → th_i} (hk : ∀ g x y, k g x y a = g a) : ∀ (n : Nat) (g : th_i) (y : Int32), f_X12_findMost_43 τ Z gz rm (A 12) g16 y1 y2 k n g y a = g a := by
  intro n
  induction n with
  | zero => intro g y; rfl
  | succ n ih =>
    intro g y
    unfold f_X12_findMost_43 f_X12_findMost_84 f_X12_findMost_77
    dsimp only
    rw [hQ.g 31 63 (by decide)]
    split
    · exact hk _ _ _
    · split
      · rw [ih, up_n n3]
      · rw [ih, up_n n3]
theorem fo_149 (hQ : ro_M τ rm A) {a : Nat} (n2 : a ≠ A 62) {gz g16 : th_i} {y1 y2 : Int32} {k : th_i → Int32 → Int32 → th_i} (hk : ∀ g x y, k g x y a = g a) : ∀ (n : Nat) (g : th_i) (y : Int32), f_X12_findMost_149 τ Z gz rm (A 12) g16 y1 y2 k n g y a = g a := by
  intro n
  induction n with
  | zero => intro g y; rfl
  | succ n ih =>
    intro g y
    have h187 : ∀ (g : th_i) (x : Int32), f_X12_findMost_187 τ Z gz rm (A 12) g16 y1 y2 k g x a = g a := fun g x => by
      unfold f_X12_findMost_187 f_X12_findMost_221
      dsimp only
      rw [hQ.g 30 62 (by decide)]
      split
      · split
        · rw [hk, up_n n2]
        · rw [hk, up_n n2]
      · exact hk _ _ _
    unfold f_X12_findMost_149
    dsimp only
    rw [hQ.g 30 62 (by decide)]
    split
    · exact h187 _ _
    · split
      · rw [ih, up_n n2]
      · exact h187 _ _
theorem fo_16 (hQ : ro_M τ rm A) {a : Nat} (n0 : a ≠ A 12) (n2 : a ≠ A 62) (n3 : a ≠ A 63) {gz : th_i} : ∀ (n : Nat) (g : th_i) (x y : Int32), f_X12_findMost_16 τ Z gz rm (A 12) n g x y a = g a := by
  intro n
  induction n with
  | zero => intro g x y; rfl
  | succ n ih =>
    intro g x y
    have h116 : ∀ (g16 : th_i) (y1 y2 : Int32) (g : th_i) (z : Int32), f_X12_findMost_116 τ Z gz rm (A 12) g16 y1 y2 (f_X12_findMost_16 τ Z gz rm (A 12) n) g z a = g a := fun g16 y1 y2 g z => by
      unfold f_X12_findMost_116
      dsimp only
      rw [hQ.g 30 62 (by decide)]
      split
      · rw [fo_149 hQ n2 ih, up_n n2]
      · exact ih _ _ _
    unfold f_X12_findMost_16 f_X12_findMost_84 f_X12_findMost_115
    dsimp only
    split
    · rfl
    · split
      · split
        · exact ih _ _ _
        · rw [fo_43 hQ n3 ih, up_n n0]
      · split
        · exact h116 _ _ _ _ _
        · split
          · exact h116 _ _ _ _ _
          · exact h116 _ _ _ _ _
theorem fo_fr (hQ : ro_M τ rm A) {g : th_i} {a : Nat} (n0 : a ≠ A 12) (n2 : a ≠ A 62) (n3 : a ≠ A 63) : F_X12_findMost τ Z g rm (A 12) a = g a := by
  unfold F_X12_findMost
  try dsimp only
  rw [hQ.g 30 62 (by decide), fo_16 hQ n0 n2 n3, up_n n2, up_n n0]
/-- what the search of the class leaves alone -/
def sF (r : th_r) (A : Nat → Nat) (a : Nat) : Prop := ((r (A 7) 3).getD 0 = A 31 ∧ (r (A 7) 4).getD 0 = A 32 ∧ (r (A 7) 5).getD 0 = A 33 ∧ (r (A 7) 6).getD 0 = A 34) ∧ a ≠ A 7 ∧ a ≠ A 31 ∧ a ≠ A 32 ∧ a ≠ A 33 ∧ a ≠ A 34
theorem ba_82 {a : Nat} (h : sF gr A a) {p1 p2 p3 : Int32} {gz : th_i} : ∀ (n : Nat) (g : th_i) (x4 : Int32) (q5 q6 q7 : Nat) (x8 x9 : Int32), (f_X7_barredBy_82 τ Z gz gr (A 7) p1 p2 p3 n g x4 q5 q6 q7 x8 x9).2 a = g a := by
  obtain ⟨⟨r3, r4, r5, r6⟩, n7, n31, n32, n33, n34⟩ := h
  intro n
  induction n with
  | zero => intro g x4 q5 q6 q7 x8 x9; rfl
  | succ n ih =>
    intro g x4 q5 q6 q7 x8 x9
    have h139 : ∀ z : Option Nat, (f_X7_barredBy_139 τ Z gz gr (A 7) p1 p2 p3 g x4 q5 q6 q7 x8 x9 (f_X7_barredBy_82 τ Z gz gr (A 7) p1 p2 p3 n) g z).2 a = g a := fun z => by
      unfold f_X7_barredBy_139 f_X7_barredBy_174
      dsimp only
      cases z with
      | none => exact ih _ _ _ _ _ _ _
      | some q =>
        simp only [Option.elim_some]
        split
        · exact ih _ _ _ _ _ _ _
        · exact ih _ _ _ _ _ _ _
    unfold f_X7_barredBy_82 f_X7_barredBy_118 f_X7_barredBy_119
    dsimp only
    rw [r4]
    split
    · exact up_n n32
    · split
      · rw [if_pos rfl]
        exact h139 _
      · split
        · rw [if_pos rfl]
          exact h139 _
        · rw [if_neg (by decide)]
          exact h139 _
theorem ba_fr {a : Nat} (h : sF gr A a) {g : th_i} {p1 p2 p3 : Int32} : (F_X7_barredBy τ Z g gr (A 7) p1 p2 p3).2 a = g a := by
  unfold F_X7_barredBy
  dsimp only
  split
  · cases gr ((gr (A 7) 1).getD 0) p1.toNatClampNeg with
    | none => rfl
    | some q =>
      simp only [Option.elim_some]
      cases gr ((gr (A 7) 1).getD 0) p3.toNatClampNeg with
      | none => rfl
      | some q2 =>
        simp only [Option.elim_some]
        cases F_X0_buoyAt τ Z g gr ((gr (A 7) 0).getD 0) p2 with
        | none => rfl
        | some q3 =>
          simp only [Option.elim_some]
          exact ba_82 h _ _ _ _ _ _ _ _
  · rfl
theorem nr_4 {a : Nat} (h : sF gr A a) {p1 p2 : Int32} {gz : th_i} : ∀ (n : Nat) (g : th_i) (y : Int32), f_X7_narrow_4 τ Z gz gr (A 7) p1 p2 n g y a = g a := by
  intro n
  induction n with
  | zero => intro g y; rfl
  | succ n ih =>
    intro g y
    unfold f_X7_narrow_4 f_X7_narrow_43
    dsimp only
    rw [h.1.1]
    split
    · rfl
    · split
      · rw [ih, up_n h.2.2.1]
      · rw [ih, up_n h.2.2.1, ba_fr h]
theorem nr_fr {a : Nat} (h : sF gr A a) {g : th_i} {p1 p2 : Int32} : F_X7_narrow τ Z g gr (A 7) p1 p2 a = g a := by
  unfold F_X7_narrow
  exact nr_4 h _ _ _
theorem kb_fr {a : Nat} (h : sF gr A a) {g : th_i} {p1 : Int32} : F_X7_keepIfBetter τ Z g gr (A 7) p1 a = g a := by
  unfold F_X7_keepIfBetter
  dsimp only
  rw [h.1.2.2.1, h.1.2.2.2]
  split
  · rfl
  · rw [up_n h.2.2.2.2.2, up_n h.2.1]
theorem se_5 {a : Nat} (h : sF gr A a) {g : th_i} {p1 p2 : Int32} : F_X7_settle_5 τ Z g gr (A 7) p1 p2 a = g a := by
  unfold F_X7_settle_5 f_X7_settle_5_13
  dsimp only
  split
  · exact kb_fr h
  · rfl
theorem sl_4 {a : Nat} (h : sF gr A a) {p1 p2 : Int32} {gz : th_i} : ∀ (n : Nat) (g : th_i) (x y : Int32), f_X7_settle_4_48 τ Z gz gr (A 7) p1 p2 n g x y a = g a := by
  intro n
  induction n with
  | zero => intro g x y; rfl
  | succ n ih =>
    intro g x y
    unfold f_X7_settle_4_48 f_X7_settle_4_94
    dsimp only
    rw [h.1.2.2.1]
    split
    · rw [se_5 h, nr_fr h, up_n h.2.2.2.2.1]
    · split
      · exact ih _ _ _
      · rw [ih, se_5 h, nr_fr h, up_n h.2.2.2.2.1]
theorem se_4 {a : Nat} (h : sF gr A a) {g : th_i} {p1 p2 : Int32} : F_X7_settle_4 τ Z g gr (A 7) p1 p2 a = g a := by
  unfold F_X7_settle_4 f_X7_settle_4_13
  dsimp only
  split
  · exact kb_fr h
  · split
    · split
      · exact sl_4 h _ _ _ _
      · rfl
    · rfl
theorem sl_3 {a : Nat} (h : sF gr A a) {p1 p2 : Int32} {gz : th_i} : ∀ (n : Nat) (g : th_i) (x y : Int32), f_X7_settle_3_48 τ Z gz gr (A 7) p1 p2 n g x y a = g a := by
  intro n
  induction n with
  | zero => intro g x y; rfl
  | succ n ih =>
    intro g x y
    unfold f_X7_settle_3_48 f_X7_settle_3_94
    dsimp only
    rw [h.1.2.2.1]
    split
    · rw [se_4 h, nr_fr h, up_n h.2.2.2.2.1]
    · split
      · exact ih _ _ _
      · rw [ih, se_4 h, nr_fr h, up_n h.2.2.2.2.1]
theorem se_3 {a : Nat} (h : sF gr A a) {g : th_i} {p1 p2 : Int32} : F_X7_settle_3 τ Z g gr (A 7) p1 p2 a = g a := by
  unfold F_X7_settle_3 f_X7_settle_3_13
  dsimp only
  split
  · exact kb_fr h
  · split
    · split
      · exact sl_3 h _ _ _ _
      · rfl
    · rfl
theorem sl_2 {a : Nat} (h : sF gr A a) {p1 p2 : Int32} {gz : th_i} : ∀ (n : Nat) (g : th_i) (x y : Int32), f_X7_settle_2_48 τ Z gz gr (A 7) p1 p2 n g x y a = g a := by
  intro n
  induction n with
  | zero => intro g x y; rfl
  | succ n ih =>
    intro g x y
    unfold f_X7_settle_2_48 f_X7_settle_2_94
    dsimp only
    rw [h.1.2.2.1]
    split
    · rw [se_3 h, nr_fr h, up_n h.2.2.2.2.1]
    · split
      · exact ih _ _ _
      · rw [ih, se_3 h, nr_fr h, up_n h.2.2.2.2.1]
theorem se_2 {a : Nat} (h : sF gr A a) {g : th_i} {p1 p2 : Int32} : F_X7_settle_2 τ Z g gr (A 7) p1 p2 a = g a := by
  unfold F_X7_settle_2 f_X7_settle_2_13
  dsimp only
  split
  · exact kb_fr h
  · split
    · split
      · exact sl_2 h _ _ _ _
      · rfl
    · rfl
theorem sl_1 {a : Nat} (h : sF gr A a) {p1 p2 : Int32} {gz : th_i} : ∀ (n : Nat) (g : th_i) (x y : Int32), f_X7_settle_1_48 τ Z gz gr (A 7) p1 p2 n g x y a = g a := by
  intro n
  induction n with
  | zero => intro g x y; rfl
  | succ n ih =>
    intro g x y
    unfold f_X7_settle_1_48 f_X7_settle_1_94
    dsimp only
    rw [h.1.2.2.1]
    split
    · rw [se_2 h, nr_fr h, up_n h.2.2.2.2.1]
    · split
      · exact ih _ _ _
      · rw [ih, se_2 h, nr_fr h, up_n h.2.2.2.2.1]
theorem se_1 {a : Nat} (h : sF gr A a) {g : th_i} {p1 p2 : Int32} : F_X7_settle_1 τ Z g gr (A 7) p1 p2 a = g a := by
  unfold F_X7_settle_1 f_X7_settle_1_13
  dsimp only
  split
  · exact kb_fr h
  · split
    · split
      · exact sl_1 h _ _ _ _
      · rfl
    · rfl
theorem sl_0 {a : Nat} (h : sF gr A a) {p1 p2 : Int32} {gz : th_i} : ∀ (n : Nat) (g : th_i) (x y : Int32), f_X7_settle_0_48 τ Z gz gr (A 7) p1 p2 n g x y a = g a := by
  intro n
  induction n with
  | zero => intro g x y; rfl
  | succ n ih =>
    intro g x y
    unfold f_X7_settle_0_48 f_X7_settle_0_94
    dsimp only
    rw [h.1.2.2.1]
    split
    · rw [se_1 h, nr_fr h, up_n h.2.2.2.2.1]
    · split
      · exact ih _ _ _
      · rw [ih, se_1 h, nr_fr h, up_n h.2.2.2.2.1]
theorem se_0 {a : Nat} (h : sF gr A a) {g : th_i} {p1 p2 : Int32} : F_X7_settle_0 τ Z g gr (A 7) p1 p2 a = g a := by
  unfold F_X7_settle_0 f_X7_settle_0_13
  dsimp only
  split
  · exact kb_fr h
  · split
    · split
      · exact sl_0 h _ _ _ _
      · rfl
    · rfl
theorem fl_5 {q a : Nat} (n : a ≠ q) {p1 : Int32} {gz : th_i} : ∀ (m : Nat) (g : th_i) (x y : Int32), f_J7_fill_53178_32_5 τ Z gz gr q p1 m g x y a = g a := by
  intro m
  induction m with
  | zero => intro g x y; rfl
  | succ m ih =>
    intro g x y
    unfold f_J7_fill_53178_32_5
    dsimp only
    split
    · rfl
    · rw [ih, up_n n]
theorem ru_7 (hC : ro_C τ gr A) {a : Nat} (h : sF gr A a) {v : Int32} {gz : th_i} {rz : th_r} : ∀ (n : Nat) (g : th_i) (r : th_r) (y : Int32), r (A 7) = gr (A 7) → (f_X7_run_7 τ Z gz rz (A 7) v n g r y).1 a = g a := by
  have n30 : A 7 ≠ A 30 := ro_ne (hC.t 7 7 (by decide) rfl) (hC.t 30 30 (by decide) rfl) (by decide)
  intro n
  induction n with
  | zero => intro g r y _; rfl
  | succ n ih =>
    intro g r y hr
    have hs : sF r A a := by
      unfold sF
      rw [hr]
      exact h
    have h38 : ∀ z : Option Nat, (f_X7_run_38 τ Z gz rz (A 7) v g r y (f_X7_run_7 τ Z gz rz (A 7) v n) g r z).1 a = g a := fun z => by
      unfold f_X7_run_38 f_X7_run_85
      dsimp only
      cases z with
      | none => exact ih _ _ _ hr
      | some q =>
        simp only [Option.elim_some]
        split
        · exact ih _ _ _ hr
        · rw [hr, hC.g 7 1 30 (by decide), ih _ _ _ (by rw [up_n n30]; exact hr), up_n h.2.1, up_n n30, hr, h.1.1, up_n h.2.2.1]
    unfold f_X7_run_7
    dsimp only
    split
    · unfold F_J7_fill_53178_32
      dsimp only
      rw [se_0 hs, up_n h.2.1, fl_5 (by rw [hr, h.1.2.1]; exact h.2.2.2.1)]
    · split
      · exact h38 _
      · exact h38 _
theorem ru_fr (hC : ro_C τ gr A) {a : Nat} (n7 : a ≠ A 7) (n31 : a ≠ A 31) (n32 : a ≠ A 32) (n33 : a ≠ A 33) (n34 : a ≠ A 34) {g : th_i} {v : Int32} : (F_X7_run τ Z g gr (A 7) v).1 a = g a := by
  unfold F_X7_run
  dsimp only
  rw [ru_7 hC ⟨⟨hC.g 7 3 31 (by decide), hC.g 7 4 32 (by decide), hC.g 7 5 33 (by decide), hC.g 7 6 34 (by decide)⟩, n7, n31, n32, n33, n34⟩ _ _ _ _ rfl, up_n n7]
theorem pr3 {α β γ : Type} {a a' : α} {b b' : β} {c c' : γ} (h : (a, b, c) = (a', b', c')) : (a, b) = (a', b') ∧ c = c' := by
  cases h
  exact ⟨rfl, rfl⟩
end MP
