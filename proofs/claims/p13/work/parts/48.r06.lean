/-! ===== RINGS of the reference: what they leave alone ===== -/
section SM
variable {τ τ1 : th_t} {Z : th_Zt} {gi gi1 gm gm2 : th_i} {gr gr1 rm rm2 : th_r} {A : Nat → Nat} {M1 M2 : List Nat}
def fr_a (A : Nat → Nat) (a : Nat) : Prop := a ≠ A 65 ∧ a ≠ A 66 ∧ a ≠ A 67
theorem fr_147f (hQ : ro_M τ rm A) {g0 : th_i} {y0 : Int32} {k : th_i → Int32 → th_i} (hk : ∀ g y a, fr_a A a → k g y a = g a) : ∀ (n : Nat) (g : th_i) (x y : Int32) (a : Nat), fr_a A a → f_X12_findRings_147 τ Z gi rm (A 12) g0 y0 k n g x y a = g a := by
  intro n
  induction n with
  | zero => intro g x y a _; rfl
  | succ n ih =>
    intro g x y a ha
    unfold f_X12_findRings_147
    dsimp only
    by_cases hc : x ≤ y
    · rw [if_pos hc]
      exact hk _ _ a ha
    · rw [if_neg hc, ih _ _ _ a ha, hQ.g 35 66 (by decide), up_n ha.2.1]
theorem fr_104f (hQ : ro_M τ rm A) {g0 : th_i} {y0 : Int32} {k : th_i → Int32 → th_i} (hk : ∀ g y a, fr_a A a → k g y a = g a) : ∀ (n : Nat) (g : th_i) (x y : Int32) (a : Nat), fr_a A a → f_X12_findRings_104 τ Z gi rm (A 12) g0 y0 k n g x y a = g a := by
  intro n
  induction n with
  | zero => intro g x y a _; rfl
  | succ n ih =>
    intro g x y a ha
    unfold f_X12_findRings_104
    dsimp only
    by_cases hc : x ≤ y
    · rw [if_pos hc]
      exact fr_147f hQ hk _ _ _ _ a ha
    · rw [if_neg hc, ih _ _ _ a ha, hQ.g 34 65 (by decide), up_n ha.1]
theorem fr_80f (hQ : ro_M τ rm A) {g0 : th_i} {y0 : Int32} {k : th_i → Int32 → th_i} (hk : ∀ g y a, fr_a A a → k g y a = g a) : ∀ (n : Nat) (g : th_i) (x y : Int32) (a : Nat), fr_a A a → f_X12_findRings_80 τ Z gi rm (A 12) g0 y0 k n g x y a = g a := by
  intro n
  induction n with
  | zero => intro g x y a _; rfl
  | succ n ih =>
    intro g x y a ha
    unfold f_X12_findRings_80
    dsimp only
    rw [hQ.g 36 67 (by decide)]
    by_cases hc : F_X12_pointed τ Z (va_up g (A 67) (upd (g (A 67)) y.toNatClampNeg x)) rm (A 12) x = y0
    · rw [if_pos hc, fr_104f hQ hk _ _ _ _ a ha, up_n ha.2.2]
    · rw [if_neg hc, ih _ _ _ a ha, up_n ha.2.2]
theorem fr_45f (hQ : ro_M τ rm A) : ∀ (n : Nat) (g : th_i) (y : Int32) (a : Nat), fr_a A a → f_X12_findRings_45 τ Z gi rm (A 12) n g y a = g a := by
  intro n
  induction n with
  | zero => intro g y a _; rfl
  | succ n ih =>
    intro g y a ha
    unfold f_X12_findRings_45 f_X12_findRings_70
    dsimp only
    by_cases hc : g (A 12) 8 ≤ y
    · rw [if_pos hc]
    · rw [if_neg hc]
      by_cases h1 : g ((rm (A 12) 35).getD 0) y.toNatClampNeg = 0
      · rw [if_pos h1]
        by_cases h2 : F_X12_isRound τ Z g rm (A 12) y = 0
        · rw [if_pos h2]
          exact ih _ _ a ha
        · rw [if_neg h2]
          exact fr_80f hQ ih _ _ _ _ a ha
      · rw [if_neg h1]
        exact ih _ _ a ha
theorem fr_2f (hQ : ro_M τ rm A) : ∀ (n : Nat) (g : th_i) (y : Int32) (a : Nat), fr_a A a → f_X12_findRings_2 τ Z gi rm (A 12) n g y a = g a := by
  intro n
  induction n with
  | zero => intro g y a _; rfl
  | succ n ih =>
    intro g y a ha
    unfold f_X12_findRings_2 f_X12_findRings_36
    dsimp only
    by_cases hc : g (A 12) 8 ≤ y
    · rw [if_pos hc]
      exact fr_45f hQ _ _ _ a ha
    · rw [if_neg hc, hQ.g 34 65 (by decide), hQ.g 35 66 (by decide), hQ.g 12 50 (by decide)]
      by_cases h1 : (0 : Int32) ≤ va_up g (A 65) (upd (g (A 65)) y.toNatClampNeg (-1)) (A 50) y.toNatClampNeg
      · rw [if_pos h1, ih _ _ a ha, up_n ha.2.1, up_n ha.1]
      · rw [if_neg h1, ih _ _ a ha, up_n ha.2.1, up_n ha.1]
theorem fr_fr (hQ : ro_M τ rm A) {a : Nat} (ha : fr_a A a) : F_X12_findRings τ Z gm rm (A 12) a = gm a := by
  unfold F_X12_findRings
  exact fr_2f hQ _ _ _ a ha
theorem fr_of (hQ : ro_M τ rm A) {a c : Nat} (ha : τ a = c) (h1 : c ≠ 65) (h2 : c ≠ 66) (h3 : c ≠ 67) : fr_a A a := ⟨ro_ne ha (hQ.t 34 65 (by decide)) h1, ro_ne ha (hQ.t 35 66 (by decide)) h2, ro_ne ha (hQ.t 36 67 (by decide)) h3⟩
theorem ms_8 (hQ : ro_M τ rm A) : ∀ (n : Nat) (g : th_i) (x y : Int32), rg 0 16 (g (A 12) 8) → 0 ≤ y.toInt → (16 - y.toInt).toNat < n → (∀ i : Nat, y.toInt ≤ (i : Int) → (i : Int) < (g (A 12) 8).toInt → (f_X12_swap_8 τ Z gi rm (A 12) n g x y).2 (A 56) i = 0) ∧ (∀ i : Nat, (i : Int) < y.toInt ∨ (g (A 12) 8).toInt ≤ (i : Int) → (f_X12_swap_8 τ Z gi rm (A 12) n g x y).2 (A 56) i = g (A 56) i) := by
  intro n
  induction n with
  | zero => intro g x y _ _ h; exact absurd h (Nat.not_lt_zero _)
  | succ n ih =>
    intro g x y hn h0 h
    have hn2 := hn.2
    unfold f_X12_swap_8
    dsimp only
    by_cases hc : g (A 12) 8 ≤ y
    · rw [if_pos hc]
      have hc' := Int32.le_iff_toInt_le.mp hc
      exact ⟨fun i h1 h2 => by omega, fun i _ => rfl⟩
    · rw [if_neg hc]
      have hc' := Int32.lt_iff_toInt_lt.mp (Int32.not_le.mp hc)
      have e := y_1 (m := 16) (by decide) h0 (by omega)
      have n12 : A 12 ≠ A 56 := ro_ne hQ.1 (hQ.t 21 56 (by decide)) (by decide)
      have go : ∀ (g' : th_i) (x' : Int32), g' (A 12) = g (A 12) → g' (A 56) = upd (g (A 56)) y.toNatClampNeg 0 → (∀ i : Nat, y.toInt ≤ (i : Int) → (i : Int) < (g (A 12) 8).toInt → (f_X12_swap_8 τ Z gi rm (A 12) n g' x' (y + 1)).2 (A 56) i = 0) ∧ (∀ i : Nat, (i : Int) < y.toInt ∨ (g (A 12) 8).toInt ≤ (i : Int) → (f_X12_swap_8 τ Z gi rm (A 12) n g' x' (y + 1)).2 (A 56) i = g (A 56) i) := fun g' x' e1 e2 => by
        obtain ⟨k1, k2⟩ := ih g' x' (y + 1) (by rw [e1]; exact hn) (by omega) (by omega)
        rw [e1] at k1 k2
        refine ⟨fun i h1 h2 => ?_, fun i h1 => ?_⟩
        · by_cases hi : (i : Int) = y.toInt
          · rw [k2 i (by omega), e2, cl_in hi, ud_s]
          · exact k1 i (by omega) h2
        · have : i ≠ y.toNatClampNeg := fun q => by
            have := i_cl h0
            rw [← q] at this
            omega
          rw [k2 i (by omega), e2, ud_n this]
      have g37 : ∀ z, (∀ i : Nat, y.toInt ≤ (i : Int) → (i : Int) < (g (A 12) 8).toInt → (f_X12_swap_37 τ Z gi rm (A 12) g x y (f_X12_swap_8 τ Z gi rm (A 12) n) g z).2 (A 56) i = 0) ∧ (∀ i : Nat, (i : Int) < y.toInt ∨ (g (A 12) 8).toInt ≤ (i : Int) → (f_X12_swap_37 τ Z gi rm (A 12) g x y (f_X12_swap_8 τ Z gi rm (A 12) n) g z).2 (A 56) i = g (A 56) i) := fun z => by
        unfold f_X12_swap_37 f_X12_swap_66 F_X12_lies
        dsimp only
        rw [hQ.g 21 56 (by decide), hQ.g 34 65 (by decide), hQ.g 12 50 (by decide), hQ.g 7 46 (by decide)]
        by_cases h1 : va_up g (A 56) (upd (g (A 56)) y.toNatClampNeg 0) (A 65) y.toNatClampNeg < 0
        · rw [if_pos h1]
          exact go _ _ (up_n n12) up_s
        · rw [if_neg h1]
          refine go _ _ ?_ ?_
          · rw [up_n (ro_ne hQ.1 (hQ.t 7 46 (by decide)) (by decide)), up_n (ro_ne hQ.1 (hQ.t 12 50 (by decide)) (by decide)), up_n n12]
          · rw [up_n (ro_ne (hQ.t 21 56 (by decide)) (hQ.t 7 46 (by decide)) (by decide)), up_n (ro_ne (hQ.t 21 56 (by decide)) (hQ.t 12 50 (by decide)) (by decide)), up_s]
      by_cases h1 : g ((rm (A 12) 34).getD 0) y.toNatClampNeg = g ((rm (A 12) 12).getD 0) y.toNatClampNeg
      · rw [if_pos h1]
        exact g37 _
      · rw [if_neg h1]
        exact g37 _
theorem sw_11 (hC : ro_C τ gr A) (hb : ∀ i : Nat, i < 16 → ∀ q, gr (A 21) i = some q → τ q = 8 ∨ τ q = 9 ∨ τ q = 4) : ∀ (n : Nat) (g : th_i) (x y : Int32), rg 0 16 (g (A 1) 6) → 0 ≤ y.toInt → (16 - y.toInt).toNat < n → ∀ i q : Nat, (i : Int) < (g (A 1) 6).toInt → gr (A 21) i = some q → (f_X11_swap_11 τ Z gi gr (A 11) n g x y).2 q 4 = 0 := by
  intro n
  induction n with
  | zero => intro g x y _ _ h; exact absurd h (Nat.not_lt_zero _)
  | succ n ih =>
    intro g x y hn h0 h i q hi hq
    have hn2 := hn.2
    unfold f_X11_swap_11 f_X11_swap_47
    dsimp only
    rw [hC.g 11 0 1 (by decide)]
    by_cases hc : g (A 1) 6 ≤ y
    · rw [if_pos hc]
      exact sw_55 hC hb _ g _ 0 hn (by decide) (Nat.lt_add_one _) i q hi hq
    · rw [if_neg hc]
      have hc' := Int32.lt_iff_toInt_lt.mp (Int32.not_le.mp hc)
      have e := y_1 (m := 16) (by decide) h0 (by omega)
      by_cases h1 : F_X6_buoyFor τ Z g gr ((gr (A 11) 3).getD 0) y = F_X1_buoyOf τ Z g gr ((gr (A 1) 4).getD 0) y
      · rw [if_pos h1]
        exact ih _ _ _ hn (by omega) (by omega) i q hi hq
      · rw [if_neg h1]
        exact ih _ _ _ hn (by omega) (by omega) i q hi hq
/-- swap: nobody tells anything any more -/
theorem s_swapW (hJ : th_J τ gi gr) (hJm : th_J τ gm rm) (hC : ro_C τ gr A) (hQ : ro_M τ rm A) (no : c_eq 1 6 8 gi gm A) (h : c_wish τ gi gr gm A) {r1 r2 : Int32} (h1 : th_Mod M1 τ gi gr gi1 gr) (h2 : th_Mod M2 τ gm rm gm2 rm) (k2 : th_key 12 8 ∉ M2) (e1 : F_X11_swap τ Z gi gr (A 11) = (r1, gi1)) (e2 : F_X12_swap τ Z gm rm (A 12) = (r2, gm2)) : c_wish τ gi1 gr gm2 A := by
  have no' : gm (A 12) 8 = gi (A 1) 6 := no.symm
  have m12 := (ro_k h2 8 hQ.1 (by decide) k2).1
  have n16 := n_b hJ hC
  have n16m : rg 0 16 (gm (A 12) 8) := by rw [no']; exact n16
  unfold F_X11_swap at e1
  unfold F_X12_swap at e2
  dsimp only at e1 e2
  rw [hC.g 11 3 6 (by decide)] at e1
  have d1 : F_X6_draw τ Z gi gr (A 6) (A 1) = gi (A 1) := dr_fr hC (ro_ne (hC.t 1 1 (by decide) rfl) (hC.t 6 6 (by decide) rfl) (by decide)) (ro_ne (hC.t 1 1 (by decide) rfl) (hC.t 28 28 (by decide) rfl) (by decide)) (ro_ne (hC.t 1 1 (by decide) rfl) (hC.t 29 29 (by decide) rfl) (by decide))
  have f12 : F_X12_findRings τ Z gm rm (A 12) (A 12) = gm (A 12) := fr_fr hQ (fr_of hQ hQ.1 (by decide) (by decide) (by decide))
  have f56 : F_X12_findRings τ Z gm rm (A 12) (A 56) = gm (A 56) := fr_fr hQ (fr_of hQ (hQ.t 21 56 (by decide)) (by decide) (by decide) (by decide))
  have hb : ∀ i : Nat, i < 16 → ∀ q, gr (A 21) i = some q → τ q = 8 ∨ τ q = 9 ∨ τ q = 4 := fun i hi q hq => (hJ.at (hC.t 21 21 (by decide) rfl) (by decide)) i hi q hq
  have z0 : (0 : Int32).toInt = 0 := by decide
  have cl := sw_11 (Z := Z) (gi := gi) hC hb ((16 - (0 : Int32).toInt).toNat + 1) (F_X6_draw τ Z gi gr (A 6)) 0 0 (by rw [d1]; exact n16) (by decide) (Nat.lt_add_one _)
  have mo := ms_8 (Z := Z) (gi := gm) hQ ((16 - (0 : Int32).toInt).toNat + 1) (F_X12_findRings τ Z gm rm (A 12)) 0 0 (by rw [f12]; exact n16m) (by decide) (Nat.lt_add_one _)
  rw [e1, d1] at cl
  rw [e2, f12, f56] at mo
  dsimp only at cl mo
  obtain ⟨w1, w2, w3⟩ := h
  refine ⟨fun i q hi hq => ?_, ?_, fun i hi hn => ?_⟩
  · rw [m12] at hi
    obtain ⟨x0, x1, w, x2, tw, x3⟩ := w1 i q hi hq
    have z := mo.1 i (by omega) hi
    refine ⟨x0, by rw [cl i q (by rw [← no']; exact hi) hq, z], w, x2, tw, fun j hj => ?_⟩
    rw [z] at hj
    omega
  · rw [m12]; exact w2
  · rw [m12] at hn
    rw [mo.2 i (Or.inr hn)]
    exact w3 i hi hn
end SM
