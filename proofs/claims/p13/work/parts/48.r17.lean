/-! ===== THE LIST ===== -/
def li_dr (q : Nat → Int32) (p : Nat) : Nat → Int32 := fun k => if k < p then q k else q (k + 1)
/-- who waits: numbers of BOATS that lie nowhere, each once -/
def li_ok (n : Int) (s : Int32) (q x : Nat → Int32) : Prop := rg 0 10 s ∧ (∀ k : Nat, (k : Int) < s.toInt → 0 ≤ (q k).toInt ∧ (q k).toInt < n ∧ x (q k).toNatClampNeg = -1) ∧ ∀ k k' : Nat, (k : Int) < s.toInt → (k' : Int) < s.toInt → q k = q k' → k = k'
theorem k_10' : (10 : Int32).toInt = 10 := by decide
theorem s_m1 {s : Int32} (h : rg 0 10 s) : (s - 1).toInt = s.toInt - 1 := by
  obtain ⟨h1, h2⟩ := h
  rw [i_sub (by rw [k_1]; omega) (by rw [k_1]; omega), k_1]
theorem li_drop {n : Int} {s : Int32} {q x q' : Nat → Int32} {p : Nat} (h : li_ok n s q x) (hp : (p : Int) < s.toInt) (hq : ∀ k : Nat, (k : Int) < s.toInt - 1 → q' k = li_dr q p k) : li_ok n (s - 1) q' x := by
  obtain ⟨h1, h2, h3⟩ := h
  have e := s_m1 h1
  have h12 := h1.2
  have sh : ∀ k : Nat, (k : Int) < s.toInt - 1 → ∃ j : Nat, (j : Int) < s.toInt ∧ q' k = q j ∧ (j = k ∧ k < p ∨ j = k + 1 ∧ ¬ k < p) := fun k hk => by
    rw [hq k hk]
    unfold li_dr
    by_cases c : k < p
    · rw [if_pos c]
      exact ⟨k, by omega, rfl, Or.inl ⟨rfl, c⟩⟩
    · rw [if_neg c]
      exact ⟨k + 1, by omega, rfl, Or.inr ⟨rfl, c⟩⟩
  refine ⟨⟨by omega, by omega⟩, fun k hk => ?_, fun k k' hk hk' he => ?_⟩
  · rw [e] at hk
    obtain ⟨j, j1, j2, -⟩ := sh k hk
    rw [j2]
    exact h2 j j1
  · rw [e] at hk hk'
    obtain ⟨j, j1, j2, j3⟩ := sh k hk
    obtain ⟨i, i1, i2, i3⟩ := sh k' hk'
    have := h3 j i j1 i1 (by rw [← j2, ← i2]; exact he)
    omega
theorem li_app {n : Int} {s v : Int32} {q x : Nat → Int32} (h : li_ok n s q x) (hs : s.toInt < 10) (v0 : 0 ≤ v.toInt) (v1 : v.toInt < n) (hx : x v.toNatClampNeg = -1) (hn : ∀ k : Nat, (k : Int) < s.toInt → ¬ q k = v) : li_ok n (s + 1) (upd q s.toNatClampNeg v) x := by
  obtain ⟨h1, h2, h3⟩ := h
  have e := y_1 (m := 10) (by decide) h1.1 h1.2
  have cs := i_cl h1.1
  have h10 := h1.1
  refine ⟨⟨by omega, by omega⟩, fun k hk => ?_, fun k k' hk hk' he => ?_⟩
  · rw [e] at hk
    by_cases c : k = s.toNatClampNeg
    · rw [c, ud_s]
      exact ⟨v0, v1, hx⟩
    · rw [ud_n c]
      exact h2 k (by omega)
  · rw [e] at hk hk'
    by_cases c : k = s.toNatClampNeg
    · by_cases c' : k' = s.toNatClampNeg
      · omega
      · rw [c, ud_s, ud_n c'] at he
        exact absurd he.symm (hn k' (by omega))
    · by_cases c' : k' = s.toNatClampNeg
      · rw [c', ud_s, ud_n c] at he
        exact absurd he (hn k (by omega))
      · rw [ud_n c, ud_n c'] at he
        exact h3 k k' (by omega) (by omega) he
/-- a BOAT that is not on it comes to lie -/
theorem li_lie {n : Int} {s v w : Int32} {q x : Nat → Int32} (h : li_ok n s q x) (v0 : 0 ≤ v.toInt) (hn : ∀ k : Nat, (k : Int) < s.toInt → ¬ q k = v) : li_ok n s q (upd x v.toNatClampNeg w) := by
  obtain ⟨h1, h2, h3⟩ := h
  refine ⟨h1, fun k hk => ?_, h3⟩
  obtain ⟨a, b, c⟩ := h2 k hk
  refine ⟨a, b, ?_⟩
  rw [ud_n (fun e => hn k hk (i_inj (by have := i_cl a; have := i_cl v0; omega)))]
  exact c
theorem li_mono {n n' : Int} {s : Int32} {q x x' : Nat → Int32} (h : li_ok n s q x) (hn : n ≤ n') (hx : ∀ k : Nat, x k = -1 → x' k = -1) : li_ok n' s q x' := ⟨h.1, fun k hk => by
  obtain ⟨a, b, c⟩ := h.2.1 k hk
  exact ⟨a, by omega, hx _ c⟩, h.2.2⟩
section LI
variable {τ τ1 : th_t} {Z : th_Zt} {gi gi1 gm gm2 : th_i} {gr gr1 rm rm2 : th_r} {A : Nat → Nat} {M1 M2 : List Nat}
theorem pl_sp (hC : ro_C τ gr A) {g : th_i} {v : Int32} (hs : rg 0 10 (g (A 10) 2)) : ∀ (n : Nat) (y : Int32), 0 ≤ y.toInt → (10 - y.toInt).toNat < n → (f_X10_placeOf_2 τ Z g gr (A 10) v n y = -1 ∧ ∀ k : Nat, y.toInt ≤ (k : Int) → (k : Int) < (g (A 10) 2).toInt → ¬ g (A 35) k = v) ∨ ∃ k : Nat, y.toInt ≤ (k : Int) ∧ (k : Int) < (g (A 10) 2).toInt ∧ g (A 35) k = v ∧ (f_X10_placeOf_2 τ Z g gr (A 10) v n y).toInt = (k : Int) ∧ ∀ j : Nat, y.toInt ≤ (j : Int) → j < k → ¬ g (A 35) j = v := by
  have hs2 := hs.2
  intro n
  induction n with
  | zero => intro y _ h; exact absurd h (Nat.not_lt_zero _)
  | succ n ih =>
    intro y h0 h
    unfold f_X10_placeOf_2
    dsimp only
    rw [hC.g 10 1 35 (by decide)]
    by_cases hc : g (A 10) 2 ≤ y
    · rw [if_pos hc]
      have hc' := i_le.mp hc
      exact Or.inl ⟨rfl, fun k h1 h2 => by omega⟩
    · rw [if_neg hc]
      have hc' := i_ltI.mp (Int32.not_le.mp hc)
      have cy := i_cl h0
      by_cases he : g (A 35) y.toNatClampNeg = v
      · rw [if_pos he]
        exact Or.inr ⟨y.toNatClampNeg, by omega, by omega, he, by omega, fun j h1 h2 => by omega⟩
      · rw [if_neg he]
        have e := y_1 (m := 10) (by decide) h0 (by omega)
        rcases ih (y + 1) (by omega) (by omega) with ⟨k1, k2⟩ | ⟨k, k1, k2, k3, k4, k5⟩
        · refine Or.inl ⟨k1, fun k h1 h2 => ?_⟩
          by_cases hk : (k : Int) = y.toInt
          · rw [← cl_in hk]
            exact he
          · exact k2 k (by omega) h2
        · refine Or.inr ⟨k, by omega, k2, k3, k4, fun j h1 h2 => ?_⟩
          by_cases hk : (j : Int) = y.toInt
          · rw [← cl_in hk]
            exact he
          · exact k5 j (by omega) h2
theorem pl_at (hC : ro_C τ gr A) {g : th_i} {v : Int32} (hs : rg 0 10 (g (A 10) 2)) : (F_X10_placeOf τ Z g gr (A 10) v = -1 ∧ ∀ k : Nat, (k : Int) < (g (A 10) 2).toInt → ¬ g (A 35) k = v) ∨ ∃ k : Nat, (k : Int) < (g (A 10) 2).toInt ∧ g (A 35) k = v ∧ (F_X10_placeOf τ Z g gr (A 10) v).toInt = (k : Int) := by
  unfold F_X10_placeOf
  rcases pl_sp (Z := Z) hC (v := v) hs ((10 - (0 : Int32).toInt).toNat + 1) 0 (by decide) (Nat.lt_add_one _) with ⟨k1, k2⟩ | ⟨k, k1, k2, k3, k4, k5⟩
  · exact Or.inl ⟨k1, fun k hk => k2 k (by rw [k_0]; omega) hk⟩
  · exact Or.inr ⟨k, k2, k3, k4⟩
theorem pl_eq (hC : ro_C τ gr A) (hQ : ro_M τ rm A) {v : Int32} (hs : rg 0 10 (gi (A 10) 2)) (es : gi (A 10) 2 = gm (A 12) 17) (er : ∀ k : Nat, (k : Int) < (gi (A 10) 2).toInt → gi (A 35) k = gm (A 54) k) : F_X10_placeOf τ Z gi gr (A 10) v = F_X12_placeOnList τ Z gm rm (A 12) v := by
  have hs2 := hs.2
  unfold F_X10_placeOf F_X12_placeOnList
  have go : ∀ (n : Nat) (y : Int32), 0 ≤ y.toInt → (10 - y.toInt).toNat < n → f_X10_placeOf_2 τ Z gi gr (A 10) v n y = f_X12_placeOnList_2 τ Z gm rm (A 12) v n y := by
    intro n
    induction n with
    | zero => intro y _ h; exact absurd h (Nat.not_lt_zero _)
    | succ n ih =>
      intro y h0 h
      unfold f_X10_placeOf_2 f_X12_placeOnList_2
      dsimp only
      rw [hC.g 10 1 35 (by decide), hQ.g 18 54 (by decide), ← es]
      by_cases hc : gi (A 10) 2 ≤ y
      · rw [if_pos hc, if_pos hc]
      · have hc' := i_ltI.mp (Int32.not_le.mp hc)
        have cy := i_cl h0
        have e := y_1 (m := 10) (by decide) h0 (by omega)
        rw [if_neg hc, if_neg hc, er y.toNatClampNeg (by omega), ih (y + 1) (by omega) (by omega)]
  exact go _ 0 (by decide) (Nat.lt_add_one _)
theorem dr_19 (hC : ro_C τ gr A) {v : Int32} : ∀ (n : Nat) (g : th_i) (y : Int32), rg 0 10 (g (A 10) 2) → 1 ≤ y.toInt → (10 - y.toInt).toNat < n → f_X10_drop_19 τ Z gi gr (A 10) v n g y (A 10) = upd (g (A 10)) 2 (g (A 10) 2 - 1) ∧ (∀ a, a ≠ A 10 → a ≠ A 35 → f_X10_drop_19 τ Z gi gr (A 10) v n g y a = g a) ∧ ∀ k : Nat, (k : Int) < (g (A 10) 2).toInt - 1 → f_X10_drop_19 τ Z gi gr (A 10) v n g y (A 35) k = if (k : Int) < y.toInt - 1 then g (A 35) k else g (A 35) (k + 1) := by
  have t10 := hC.t 10 10 (by decide) rfl
  have t35 := hC.t 35 35 (by decide) rfl
  have n1 := ro_ne t10 t35 (by decide)
  intro n
  induction n with
  | zero => intro g y _ _ h; exact absurd h (Nat.not_lt_zero _)
  | succ n ih =>
    intro g y hs h0 h
    have hs2 := hs.2
    have hu : f_X10_drop_19 τ Z gi gr (A 10) v (n + 1) g y = if g (A 10) 2 ≤ y then va_up g (A 10) (upd (g (A 10)) 2 (g (A 10) 2 - 1)) else f_X10_drop_19 τ Z gi gr (A 10) v n (va_up g (A 35) (upd (g (A 35)) (y - 1).toNatClampNeg (g (A 35) y.toNatClampNeg))) (y + 1) := by
      rw [← hC.g 10 1 35 (by decide)]
      rfl
    rw [hu]
    by_cases hc : g (A 10) 2 ≤ y
    · rw [if_pos hc]
      have hc' := i_le.mp hc
      refine ⟨up_s, fun a h1 _ => up_n h1, fun k hk => ?_⟩
      rw [up_n (Ne.symm n1), if_pos (by omega)]
    · rw [if_neg hc]
      have hc' := i_ltI.mp (Int32.not_le.mp hc)
      have cy := i_cl (v := y) (by omega)
      have e := y_1 (m := 10) (by decide) (y := y) (by omega) (by omega)
      have e1 : (y - 1).toInt = y.toInt - 1 := by rw [i_sub (by rw [k_1]; omega) (by rw [k_1]; omega), k_1]
      have cy1 := i_cl (v := y - 1) (by omega)
      have g10 : va_up g (A 35) (upd (g (A 35)) (y - 1).toNatClampNeg (g (A 35) y.toNatClampNeg)) (A 10) = g (A 10) := up_n n1
      obtain ⟨k1, k2, k3⟩ := ih (va_up g (A 35) (upd (g (A 35)) (y - 1).toNatClampNeg (g (A 35) y.toNatClampNeg))) (y + 1) (by rw [g10]; exact hs) (by omega) (by omega)
      rw [g10] at k1 k3
      rw [up_s] at k3
      refine ⟨k1, fun a h1 h2 => by rw [k2 a h1 h2, up_n h2], fun k hk => ?_⟩
      rw [k3 k hk]
      by_cases c : (k : Int) < y.toInt - 1
      · rw [if_pos (by omega), if_pos c, ud_n (by omega)]
      · rw [if_neg c]
        by_cases c2 : (k : Int) < (y + 1).toInt - 1
        · rw [if_pos c2]
          have ek : k = (y - 1).toNatClampNeg := by omega
          have ey : y.toNatClampNeg = k + 1 := by omega
          rw [ek, ud_s, ← ek, ey]
        · rw [if_neg c2, ud_n (by omega)]
theorem dr_sp (hC : ro_C τ gr A) {p : Int32} (hs : rg 0 10 (gi (A 10) 2)) (h0 : 0 ≤ p.toInt) (h1 : p.toInt < (gi (A 10) 2).toInt) : F_X10_drop τ Z gi gr (A 10) p (A 10) = upd (gi (A 10)) 2 (gi (A 10) 2 - 1) ∧ (∀ a, a ≠ A 10 → a ≠ A 35 → F_X10_drop τ Z gi gr (A 10) p a = gi a) ∧ ∀ k : Nat, (k : Int) < (gi (A 10) 2).toInt - 1 → F_X10_drop τ Z gi gr (A 10) p (A 35) k = li_dr (gi (A 35)) p.toNatClampNeg k := by
  have hs2 := hs.2
  have cp := i_cl h0
  have e := y_1 (m := 10) (by decide) h0 (by omega)
  unfold F_X10_drop
  dsimp only
  rw [w0_c, if_neg (fun q => (w0_n (by decide) hs).mp q ⟨h0, h1⟩)]
  obtain ⟨k1, k2, k3⟩ := dr_19 (Z := Z) (gi := gi) hC (v := p) ((10 - (p + 1).toInt).toNat + 1) gi (p + 1) hs (by omega) (Nat.lt_add_one _)
  refine ⟨k1, k2, fun k hk => ?_⟩
  rw [k3 k hk]
  unfold li_dr
  by_cases c : k < p.toNatClampNeg
  · rw [if_pos c, if_pos (by omega)]
  · rw [if_neg c, if_neg (by omega)]
theorem dr_no (hC : ro_C τ gr A) {p : Int32} (hs : rg 0 10 (gi (A 10) 2)) (h : p.toInt < 0) : F_X10_drop τ Z gi gr (A 10) p = gi := by
  unfold F_X10_drop
  dsimp only
  rw [w0_c, if_pos ((w0_n (by decide) hs).mpr (fun q => by omega))]
theorem go_12 (hQ : ro_M τ rm A) {v : Int32} : ∀ (n : Nat) (g : th_i) (y : Int32), rg 0 9 (g (A 12) 17) → 0 ≤ y.toInt → (9 - y.toInt).toNat < n → (∀ a, a ≠ A 54 → f_X12_goesOff_12 τ Z gi rm (A 12) v n g y a = g a) ∧ ∀ k : Nat, (k : Int) < (g (A 12) 17).toInt → f_X12_goesOff_12 τ Z gi rm (A 12) v n g y (A 54) k = if (k : Int) < y.toInt then g (A 54) k else g (A 54) (k + 1) := by
  have t54 := hQ.t 18 54 (by decide)
  have n1 := ro_ne hQ.1 t54 (by decide)
  intro n
  induction n with
  | zero => intro g y _ _ h; exact absurd h (Nat.not_lt_zero _)
  | succ n ih =>
    intro g y hs h0 h
    have hs2 := hs.2
    have hu : f_X12_goesOff_12 τ Z gi rm (A 12) v (n + 1) g y = if g (A 12) 17 ≤ y then g else f_X12_goesOff_12 τ Z gi rm (A 12) v n (va_up g (A 54) (upd (g (A 54)) y.toNatClampNeg (g (A 54) (y + 1).toNatClampNeg))) (y + 1) := by
      rw [← hQ.g 18 54 (by decide)]
      rfl
    rw [hu]
    by_cases hc : g (A 12) 17 ≤ y
    · rw [if_pos hc]
      have hc' := i_le.mp hc
      refine ⟨fun a _ => rfl, fun k hk => ?_⟩
      rw [if_pos (by omega)]
    · rw [if_neg hc]
      have hc' := i_ltI.mp (Int32.not_le.mp hc)
      have cy := i_cl h0
      have e := y_1 (m := 10) (by decide) h0 (by omega)
      have cy1 := i_cl (v := y + 1) (by omega)
      have g12 : va_up g (A 54) (upd (g (A 54)) y.toNatClampNeg (g (A 54) (y + 1).toNatClampNeg)) (A 12) = g (A 12) := up_n n1
      obtain ⟨k2, k3⟩ := ih (va_up g (A 54) (upd (g (A 54)) y.toNatClampNeg (g (A 54) (y + 1).toNatClampNeg))) (y + 1) (by rw [g12]; exact hs) (by omega) (by omega)
      rw [g12, up_s] at k3
      refine ⟨fun a h1 => by rw [k2 a h1, up_n h1], fun k hk => ?_⟩
      rw [k3 k hk]
      by_cases c : (k : Int) < y.toInt
      · rw [if_pos (by omega), if_pos c, ud_n (by omega)]
      · rw [if_neg c]
        by_cases c2 : (k : Int) < (y + 1).toInt
        · rw [if_pos c2]
          have ek : k = y.toNatClampNeg := by omega
          have ey : (y + 1).toNatClampNeg = k + 1 := by omega
          rw [ek, ud_s, ← ek, ey]
        · rw [if_neg c2, ud_n (by omega)]
theorem go_sp (hQ : ro_M τ rm A) {p : Int32} (hs : rg 0 10 (gm (A 12) 17)) (h0 : 0 ≤ p.toInt) (h1 : p.toInt < (gm (A 12) 17).toInt) : F_X12_goesOff τ Z gm rm (A 12) p (A 12) = upd (gm (A 12)) 17 (gm (A 12) 17 - 1) ∧ (∀ a, a ≠ A 12 → a ≠ A 54 → F_X12_goesOff τ Z gm rm (A 12) p a = gm a) ∧ ∀ k : Nat, (k : Int) < (gm (A 12) 17).toInt - 1 → F_X12_goesOff τ Z gm rm (A 12) p (A 54) k = li_dr (gm (A 54)) p.toNatClampNeg k := by
  have t54 := hQ.t 18 54 (by decide)
  have n1 := ro_ne hQ.1 t54 (by decide)
  have hs2 := hs.2
  have hs1 := hs.1
  have cp := i_cl h0
  have e := s_m1 hs
  unfold F_X12_goesOff
  have e17 : va_up gm (A 12) (upd (gm (A 12)) 17 (gm (A 12) 17 - 1)) (A 12) 17 = gm (A 12) 17 - 1 := by rw [up_s, ud_s]
  obtain ⟨k2, k3⟩ := go_12 (Z := Z) (gi := gm) hQ (v := p) ((9 - p.toInt).toNat + 1) (va_up gm (A 12) (upd (gm (A 12)) 17 (gm (A 12) 17 - 1))) p (by rw [e17]; exact ⟨by omega, by omega⟩) h0 (Nat.lt_add_one _)
  rw [e17, e, up_n (Ne.symm n1)] at k3
  refine ⟨by rw [k2 _ n1, up_s], fun a h1 h2 => by rw [k2 a h2, up_n h1], fun k hk => ?_⟩
  rw [k3 k hk]
  unfold li_dr
  by_cases c : k < p.toNatClampNeg
  · rw [if_pos c, if_pos (by omega)]
  · rw [if_neg c, if_neg (by omega)]
theorem ap_sp (hC : ro_C τ gr A) {v : Int32} (hs : gi (A 10) 2 < 10) : F_X10_append τ Z gi gr (A 10) v (A 10) = upd (gi (A 10)) 2 (gi (A 10) 2 + 1) ∧ (∀ a, a ≠ A 10 → a ≠ A 35 → F_X10_append τ Z gi gr (A 10) v a = gi a) ∧ F_X10_append τ Z gi gr (A 10) v (A 35) = upd (gi (A 35)) (gi (A 10) 2).toNatClampNeg v := by
  have n1 := ro_ne (hC.t 10 10 (by decide) rfl) (hC.t 35 35 (by decide) rfl) (by decide)
  unfold F_X10_append
  dsimp only
  rw [if_neg (Int32.not_le.mpr hs), hC.g 10 1 35 (by decide)]
  exact ⟨by rw [up_s, up_n n1], fun a h1 h2 => by rw [up_n h1, up_n h2], by rw [up_n (Ne.symm n1), up_s]⟩
end LI
