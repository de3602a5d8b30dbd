section
/-! ===== RINGS: circles ===== -/
def ci (p : Nat → Nat) (b : Nat) : Nat → Nat
  | 0 => b
  | t + 1 => p (ci p b t)
theorem ci_add (p : Nat → Nat) (b m : Nat) : ∀ n, ci p b (m + n) = ci p (ci p b m) n := by
  intro n
  induction n with
  | zero => rfl
  | succ n ih =>
    show p (ci p b (m + n)) = p (ci p (ci p b m) n)
    rw [ih]
def rnd (p : Nat → Nat) (b : Nat) : Prop := ∃ t, 1 ≤ t ∧ ci p b t = b
def cyc (p : Nat → Nat) (b T : Nat) : Prop := 1 ≤ T ∧ ci p b T = b ∧ ∀ t, 1 ≤ t → t < T → ¬ ci p b t = b
theorem rnd.cyc {p : Nat → Nat} {b : Nat} (h : rnd p b) : ∃ T, cyc p b T := by
  obtain ⟨t, t1, t2⟩ := h
  obtain ⟨m, a1, a2, a3⟩ := fr_least (P := fun n => 1 ≤ n ∧ ci p b n = b) t ⟨t1, t2⟩
  exact ⟨m, a1.1, a1.2, fun j j1 j2 e => a3 j j2 ⟨j1, e⟩⟩
theorem cyc.inj {p : Nat → Nat} {b T : Nat} (h : cyc p b T) : ∀ i j, i < T → j < T → ci p b i = ci p b j → i = j := by
  have key : ∀ i j, i < j → j < T → ¬ ci p b i = ci p b j := fun i j hij hj e => by
    refine h.2.2 (i + (T - j)) (by omega) (by omega) ?_
    rw [ci_add, e, ← ci_add, show j + (T - j) = T by omega]
    exact h.2.1
  intro i j hi hj e
  rcases Nat.lt_trichotomy i j with q | q | q
  · exact absurd e (key i j q hj)
  · exact q
  · exact absurd e.symm (key j i q hi)
theorem cyc.le {p : Nat → Nat} {b T N : Nat} (h : cyc p b T) (hN : ∀ t, ci p b t < N) : T ≤ N := fr_pig N T (fun i => ci p b i) (fun i _ => hN i) (fun i j hij hj e => by
  have := h.inj i j (by omega) hj e
  omega)
theorem cyc_ex {p : Nat → Nat} {L : Nat → Prop} {N : Nat} (hL : ∀ b, L b → b < N ∧ L (p b)) {c : Nat} (hc : L c) : ∃ b, L b ∧ rnd p b := by
  have all : ∀ t, L (ci p c t) := by
    intro t
    induction t with
    | zero => exact hc
    | succ t ih => exact (hL _ ih).2
  by_cases h : ∃ i j, i < j ∧ j < N + 1 ∧ ci p c i = ci p c j
  · obtain ⟨i, j, hij, hj, e⟩ := h
    refine ⟨ci p c i, all i, j - i, by omega, ?_⟩
    rw [← ci_add, show i + (j - i) = j by omega]
    exact e.symm
  · have := fr_pig N (N + 1) (fun i => ci p c i) (fun i _ => (hL _ (all i)).1) (fun i j hij hj e => h ⟨i, j, hij, hj, e⟩)
    omega
theorem ci_L {p : Nat → Nat} {L : Nat → Prop} (hL : ∀ b, L b → L (p b)) {c : Nat} (hc : L c) : ∀ t, L (ci p c t) := by
  intro t
  induction t with
  | zero => exact hc
  | succ t ih => exact hL _ ih
theorem nI_inj {a b : Nat} (ha : a < 2147483648) (hb : b < 2147483648) (h : nI a = nI b) : a = b := by
  have := congrArg Int32.toInt h
  rw [nI_t ha, nI_t hb] at this
  omega
theorem nI_sc {y : Nat} (h : y ≤ 16) : nI y + 1 = nI (y + 1) := by
  have a := nI_t (k := y) (by omega)
  have b := nI_t (k := y + 1) (by omega)
  have c := y_1 (y := nI y) (m := 16) (by decide) (by omega) (by omega)
  exact i_inj (by omega)
/-- who is in the ring before its k-th -/
def inR (p : Nat → Nat) (b k x : Nat) : Prop := ∃ t, t < k ∧ ci p b t = x
section RC
variable {τ τ1 : th_t} {Z : th_Zt} {gi gi1 gm gm2 : th_i} {gr gr1 rm rm2 : th_r} {A : Nat → Nat} {M1 M2 : List Nat}
theorem pb_at (hC : ro_C τ gr A) {g : th_i} {k : Nat} (h : k < 16) : F_X6_pointedAtBy τ Z g gr (A 6) (nI k) = g (A 29) k := by
  unfold F_X6_pointedAtBy
  dsimp only
  rw [w0_c, if_neg (w0_in (by rw [k_0, nI_t (by omega)]; omega) (by rw [k_15, nI_t (by omega)]; omega)), hC.g 6 2 29 (by decide), nI_c (by omega)]
theorem cr_sp (hC : ro_C τ gr A) {g : th_i} {p : Nat → Nat} {b : Nat} (hp : ∀ t, g (A 29) (ci p b t) = nI (ci p b (t + 1))) (hlt : ∀ t, ci p b t < 16) : ∀ (n t : Nat) (z : Int32), z.toInt = (t : Int) → t ≤ 16 → 16 - t < n → (f_X6_comesRound_8 τ Z g gr (A 6) (nI b) n (nI (ci p b (t + 1))) z = 1 ∧ rnd p b) ∨ (f_X6_comesRound_8 τ Z g gr (A 6) (nI b) n (nI (ci p b (t + 1))) z = 0 ∧ ∀ s, t ≤ s → s ≤ 16 → ¬ ci p b (s + 1) = b) := by
  have hb := hlt 0
  have eqb : ∀ t, nI (ci p b t) = nI b → ci p b t = b := fun t e => nI_inj (by have := hlt t; omega) (by have : b < 16 := hb; omega) e
  intro n
  induction n with
  | zero => intro t z _ _ h; exact absurd h (Nat.not_lt_zero _)
  | succ n ih =>
    intro t z hz h16 h
    unfold f_X6_comesRound_8 f_X6_comesRound_31
    dsimp only
    by_cases ce : nI (ci p b (t + 1)) = nI b
    · have r : rnd p b := ⟨t + 1, by omega, eqb _ ce⟩
      by_cases c : (16 : Int32) ≤ z
      · rw [if_pos c, if_pos ce]
        exact Or.inl ⟨rfl, r⟩
      · rw [if_neg c, if_pos ce, if_pos ce]
        exact Or.inl ⟨rfl, r⟩
    · have ne : ¬ ci p b (t + 1) = b := fun e => ce (by rw [e])
      by_cases c : (16 : Int32) ≤ z
      · rw [if_pos c, if_neg ce]
        have c' := i_le.mp c
        rw [k_16] at c'
        refine Or.inr ⟨rfl, fun s h1 h2 => ?_⟩
        have : s = t := by omega
        rw [this]
        exact ne
      · rw [if_neg c, if_neg ce, pb_at hC (hlt _), hp (t + 1)]
        have c' := i_ltI.mp (Int32.not_le.mp c)
        rw [k_16] at c'
        have e := y_1 (m := 16) (by decide) (y := z) (by omega) (by omega)
        rcases ih (t + 1) (z + 1) (by omega) (by omega) (by omega) with k | ⟨k1, k2⟩
        · exact Or.inl k
        · refine Or.inr ⟨k1, fun s h1 h2 => ?_⟩
          by_cases hs : s = t
          · rw [hs]
            exact ne
          · exact k2 s (by omega) h2
theorem cr_iff (hC : ro_C τ gr A) {g : th_i} {p : Nat → Nat} {b : Nat} (hp : ∀ t, g (A 29) (ci p b t) = nI (ci p b (t + 1))) (hlt : ∀ t, ci p b t < 16) : F_X6_comesRound τ Z g gr (A 6) (nI b) = 0 ↔ ¬ rnd p b := by
  unfold F_X6_comesRound
  dsimp only
  have h0 : F_X6_pointedAtBy τ Z g gr (A 6) (nI b) = nI (ci p b (0 + 1)) := (pb_at hC (hlt 0)).trans (hp 0)
  rw [h0]
  rcases cr_sp (Z := Z) hC hp hlt ((16 - (0 : Int32).toInt).toNat + 1) 0 0 k_0 (by decide) (by decide) with ⟨k1, k2⟩ | ⟨k1, k2⟩
  · rw [k1]
    exact ⟨fun q => absurd q (by decide), fun q => absurd k2 q⟩
  · rw [k1]
    refine ⟨fun _ q => ?_, fun _ => rfl⟩
    obtain ⟨T, hT⟩ := q.cyc
    have t1 := hT.1
    have := hT.le hlt
    exact k2 (T - 1) (by omega) (by omega) (by rw [show T - 1 + 1 = T by omega]; exact hT.2.1)
theorem lr_sp (hC : ro_C τ gr A) {g : th_i} {p : Nat → Nat} {N : Nat} (hN : (g (A 1) 6).toInt = (N : Int)) (h16 : N ≤ 16) (hp : ∀ b, b < N → bt (g (A 6) 3) b = true → g (A 29) b = nI (p b) ∧ p b < N ∧ bt (g (A 6) 3) (p b) = true) : ∀ (n y : Nat), y ≤ N → 16 - y < n → (f_X6_leastInRing_2 τ Z g gr (A 6) n (nI y) = -1 ∧ ∀ b, y ≤ b → b < N → ¬ (bt (g (A 6) 3) b = true ∧ rnd p b)) ∨ ∃ b, y ≤ b ∧ b < N ∧ bt (g (A 6) 3) b = true ∧ rnd p b ∧ f_X6_leastInRing_2 τ Z g gr (A 6) n (nI y) = nI b ∧ ∀ c, y ≤ c → c < b → ¬ (bt (g (A 6) 3) c = true ∧ rnd p c) := by
  intro n
  induction n with
  | zero => intro y _ h; exact absurd h (Nat.not_lt_zero _)
  | succ n ih =>
    intro y hy h
    have ty := nI_t (k := y) (by omega)
    unfold f_X6_leastInRing_2 f_X6_leastInRing_31
    dsimp only
    rw [hC.g 6 0 1 (by decide)]
    by_cases c : g (A 1) 6 ≤ nI y
    · rw [if_pos c]
      have c' := i_le.mp c
      exact Or.inl ⟨rfl, fun b h1 h2 => by omega⟩
    · rw [if_neg c]
      have c' := i_ltI.mp (Int32.not_le.mp c)
      have e1 : nI y + 1 = nI (y + 1) := nI_sc (by omega)
      have next : ¬ (bt (g (A 6) 3) y = true ∧ rnd p y) → (f_X6_leastInRing_2 τ Z g gr (A 6) n (nI y + 1) = -1 ∧ ∀ b, y ≤ b → b < N → ¬ (bt (g (A 6) 3) b = true ∧ rnd p b)) ∨ ∃ b, y ≤ b ∧ b < N ∧ bt (g (A 6) 3) b = true ∧ rnd p b ∧ f_X6_leastInRing_2 τ Z g gr (A 6) n (nI y + 1) = nI b ∧ ∀ c, y ≤ c → c < b → ¬ (bt (g (A 6) 3) c = true ∧ rnd p c) := fun hn => by
        rw [e1]
        rcases ih (y + 1) (by omega) (by omega) with ⟨k1, k2⟩ | ⟨b, k1, k2, k3, k4, k5, k6⟩
        · refine Or.inl ⟨k1, fun b h1 h2 => ?_⟩
          by_cases hb : b = y
          · rw [hb]; exact hn
          · exact k2 b (by omega) h2
        · refine Or.inr ⟨b, by omega, k2, k3, k4, k5, fun c h1 h2 => ?_⟩
          by_cases hb : c = y
          · rw [hb]; exact hn
          · exact k6 c (by omega) h2
      have il := il_at (τ := τ) (Z := Z) (gr := gr) (A := A) (g := g) (y := nI y) (by omega) (by omega)
      rw [nI_c (by omega)] at il
      rw [il]
      by_cases cl : bt (g (A 6) 3) y = true
      · have cl2 : ∀ t, ci p y t < N ∧ bt (g (A 6) 3) (ci p y t) = true := ci_L (L := fun b => b < N ∧ bt (g (A 6) 3) b = true) (fun b hb => (hp b hb.1 hb.2).2) ⟨by omega, cl⟩
        have ri := cr_iff (Z := Z) hC (g := g) (p := p) (b := y) (fun t => (hp _ (cl2 t).1 (cl2 t).2).1) (fun t => by have := (cl2 t).1; omega)
        rw [if_pos cl, if_neg (show ¬ (1 : Int32) = 0 by decide)]
        by_cases cr : F_X6_comesRound τ Z g gr (A 6) (nI y) = 0
        · rw [if_pos cr]
          exact next (fun q => ri.mp cr q.2)
        · rw [if_neg cr]
          refine Or.inr ⟨y, Nat.le_refl _, by omega, cl, Classical.byContradiction (fun q => cr (ri.mpr q)), rfl, fun c h1 h2 => by omega⟩
      · rw [if_neg cl, if_pos rfl]
        exact next (fun q => cl q.1)
/-- all point -/
theorem pa_sp (hC : ro_C τ gr A) {P : Nat → Int32} {N : Nat} (h16 : N ≤ 16) : ∀ (n : Nat) (g : th_i) (y : Nat), (g (A 1) 6).toInt = (N : Int) → y ≤ N → 16 - y < n → (∀ g' : th_i, (∀ a, a ≠ A 29 → g' a = g a) → ∀ b, b < N → bt (g (A 6) 3) b = true → ∃ q, gr (A 21) b = some q ∧ F_X6_holderOfWish τ Z g' gr (A 6) q = P b) → (∀ a, a ≠ A 29 → f_X6_pointAll_2 τ Z gi gr (A 6) n g (nI y) a = g a) ∧ (∀ b, y ≤ b → b < N → bt (g (A 6) 3) b = true → f_X6_pointAll_2 τ Z gi gr (A 6) n g (nI y) (A 29) b = P b) ∧ ∀ b, b < y → f_X6_pointAll_2 τ Z gi gr (A 6) n g (nI y) (A 29) b = g (A 29) b := by
  have t1 := hC.t 1 1 (by decide) rfl
  have t6 := hC.t 6 6 (by decide) rfl
  have t29 := hC.t 29 29 (by decide) rfl
  have n1 := ro_ne t1 t29 (by decide)
  have n6 := ro_ne t6 t29 (by decide)
  intro n
  induction n with
  | zero => intro g y _ _ h; exact absurd h (Nat.not_lt_zero _)
  | succ n ih =>
    intro g y hN hy h hP
    have ty := nI_t (k := y) (by omega)
    have il := il_at (τ := τ) (Z := Z) (gr := gr) (A := A) (g := g) (y := nI y) (by omega)
    have hu : f_X6_pointAll_2 τ Z gi gr (A 6) (n + 1) g (nI y) = if g (A 1) 6 ≤ nI y then g else if F_X6_isLeft τ Z g gr (A 6) (nI y) = 0 then f_X6_pointAll_2 τ Z gi gr (A 6) n g (nI y + 1) else Option.elim (F_X0_boatAt τ Z g gr (A 1) (nI y)) (f_X6_pointAll_2 τ Z gi gr (A 6) n g (nI y + 1)) (fun q => f_X6_pointAll_2 τ Z gi gr (A 6) n (va_up g (A 29) (upd (g (A 29)) (nI y).toNatClampNeg (F_X6_holderOfWish τ Z g gr (A 6) q))) (nI y + 1)) := by
      rw [← hC.g 6 0 1 (by decide), ← hC.g 6 2 29 (by decide)]
      rfl
    rw [hu]
    by_cases c : g (A 1) 6 ≤ nI y
    · rw [if_pos c]
      have c' := i_le.mp c
      exact ⟨fun _ _ => rfl, fun b h1 h2 => by omega, fun _ _ => rfl⟩
    · rw [if_neg c]
      have c' := i_ltI.mp (Int32.not_le.mp c)
      have e1 : nI y + 1 = nI (y + 1) := nI_sc (by omega)
      rw [il (by omega), nI_c (by omega), e1]
      by_cases cl : bt (g (A 6) 3) y = true
      · rw [if_pos cl, if_neg (show ¬ (1 : Int32) = 0 by decide)]
        obtain ⟨q, hq, hw⟩ := hP g (fun _ _ => rfl) y (by omega) cl
        have rN : rg 0 16 (g (A 1) 6) := ⟨by omega, by omega⟩
        rw [bo_g hC rN (by omega) (by omega), nI_c (by omega), hq]
        simp only [Option.elim_some]
        rw [hw]
        have u1 : va_up g (A 29) (upd (g (A 29)) y (P y)) (A 1) = g (A 1) := up_n n1
        have u6 : va_up g (A 29) (upd (g (A 29)) y (P y)) (A 6) = g (A 6) := up_n n6
        obtain ⟨k1, k2, k3⟩ := ih (va_up g (A 29) (upd (g (A 29)) y (P y))) (y + 1) (by rw [u1]; exact hN) (by omega) (by omega) (by
          intro g' hg' b hb hl
          rw [u6] at hl
          exact hP g' (fun a ha => (hg' a ha).trans (up_n ha)) b hb hl)
        rw [u6] at k2
        refine ⟨fun a ha => by rw [k1 a ha, up_n ha], fun b h1 h2 h3 => ?_, fun b hb => ?_⟩
        · by_cases hb : b = y
          · rw [hb, k3 y (by omega), up_s, ud_s]
          · exact k2 b (by omega) h2 h3
        · rw [k3 b (by omega), up_s, ud_n (by omega)]
      · rw [if_neg cl, if_pos rfl]
        obtain ⟨k1, k2, k3⟩ := ih g (y + 1) hN (by omega) (by omega) hP
        refine ⟨k1, fun b h1 h2 h3 => ?_, fun b hb => k3 b (by omega)⟩
        by_cases hb : b = y
        · rw [hb] at h3
          exact absurd h3 cl
        · exact k2 b (by omega) h2 h3
/-- a ring is taken -/
def tk (A : Nat → Nat) (g : th_i) (X : Nat → Int32) (p : Nat → Nat) (b k : Nat) (g' : th_i) : Prop := (∀ a, a ≠ A 6 → a ≠ A 28 → g' a = g a) ∧ (∀ x, x < 32 → (bt (g' (A 6) 3) x = true ↔ (bt (g (A 6) 3) x = true ∧ ¬ inR p b k x))) ∧ (∀ t, t < k → g' (A 28) (ci p b t) = X (ci p b (t + 1))) ∧ ∀ x, ¬ inR p b k x → g' (A 28) x = g (A 28) x
theorem tk_sp (hC : ro_C τ gr A) {g : th_i} {p : Nat → Nat} {b T : Nat} (hT : cyc p b T) (h16 : ∀ t, ci p b t < 16) (hp : ∀ t, g (A 29) (ci p b t) = nI (ci p b (t + 1))) (hl : ∀ t, bt (g (A 6) 3) (ci p b t) = true) : ∀ (n k : Nat) (g' : th_i) (z : Int32), k ≤ T → z.toInt = (k : Int) → 16 - k < n → tk A g (g (A 24)) p b k g' → tk A g (g (A 24)) p b T (f_X6_takeRing_4 τ Z gi gr (A 6) (nI b) n g' (nI (ci p b k)) z) := by
  have hTle := hT.le h16
  have t6 := hC.t 6 6 (by decide) rfl
  have t28 := hC.t 28 28 (by decide) rfl
  have n68 := ro_ne t6 t28 (by decide)
  intro n
  induction n with
  | zero => intro k g' z _ _ h; exact absurd h (Nat.not_lt_zero _)
  | succ n ih =>
    intro k g' z hk hz h W
    obtain ⟨w1, w2, w3, w4⟩ := W
    have hs := h16 k
    have ts := nI_t (k := ci p b k) (by omega)
    have cs := nI_c (k := ci p b k) (by omega)
    have hu : f_X6_takeRing_4 τ Z gi gr (A 6) (nI b) (n + 1) g' (nI (ci p b k)) z = if (16 : Int32) ≤ z then g' else if F_X6_isLeft τ Z g' gr (A 6) (nI (ci p b k)) = 0 then g' else f_X6_takeRing_4 τ Z gi gr (A 6) (nI b) n (va_up (va_up g' (A 6) (upd (g' (A 6)) 3 (g' (A 6) 3 &&& (1 <<< (nI (ci p b k) &&& 31) ^^^ (-1))))) (A 28) (upd (va_up g' (A 6) (upd (g' (A 6)) 3 (g' (A 6) 3 &&& (1 <<< (nI (ci p b k) &&& 31) ^^^ (-1)))) (A 28)) (nI (ci p b k)).toNatClampNeg (F_X1_buoyOf τ Z (va_up g' (A 6) (upd (g' (A 6)) 3 (g' (A 6) 3 &&& (1 <<< (nI (ci p b k) &&& 31) ^^^ (-1))))) gr (A 2) (va_up g' (A 6) (upd (g' (A 6)) 3 (g' (A 6) 3 &&& (1 <<< (nI (ci p b k) &&& 31) ^^^ (-1)))) (A 29) (nI (ci p b k)).toNatClampNeg)))) (va_up g' (A 6) (upd (g' (A 6)) 3 (g' (A 6) 3 &&& (1 <<< (nI (ci p b k) &&& 31) ^^^ (-1)))) (A 29) (nI (ci p b k)).toNatClampNeg) (z + 1) := by
      rw [← hC.g 6 1 28 (by decide), ← hC.g 6 2 29 (by decide), ← hC.g 1 4 2 (by decide), ← hC.g 6 0 1 (by decide)]
      rfl
    have il := il_at (τ := τ) (Z := Z) (gr := gr) (A := A) (g := g') (y := nI (ci p b k)) (by omega) (by omega)
    rw [cs] at il
    by_cases hkT : k = T
    · subst hkT
      rw [hu]
      by_cases c : (16 : Int32) ≤ z
      · rw [if_pos c]
        exact ⟨w1, w2, w3, w4⟩
      · have nl : ¬ bt (g' (A 6) 3) (ci p b k) = true := fun q => ((w2 _ (by omega)).mp q).2 ⟨0, by have := hT.1; omega, hT.2.1.symm⟩
        rw [if_neg c, il, if_neg nl, if_pos rfl]
        exact ⟨w1, w2, w3, w4⟩
    · have hkT' : k < T := by omega
      have nin : ¬ inR p b k (ci p b k) := fun ⟨t, t1, t2⟩ => by
        have := hT.inj t k (by omega) hkT' t2
        omega
      have yl : bt (g' (A 6) 3) (ci p b k) = true := (w2 _ (by omega)).mpr ⟨hl k, nin⟩
      have c : ¬ (16 : Int32) ≤ z := fun q => by
        have := i_le.mp q
        rw [k_16] at this
        omega
      have e := y_1 (m := 16) (by decide) (y := z) (by omega) (by omega)
      have t29 := hC.t 29 29 (by decide) rfl
      have t24 := hC.t 24 24 (by decide) rfl
      rw [hu, if_neg c, il, if_pos yl, if_neg (show ¬ (1 : Int32) = 0 by decide), cs]
      have g29 : va_up g' (A 6) (upd (g' (A 6)) 3 (g' (A 6) 3 &&& (1 <<< (nI (ci p b k) &&& 31) ^^^ (-1)))) (A 29) (ci p b k) = nI (ci p b (k + 1)) := by
        rw [up_n (ro_ne t29 t6 (by decide)), w1 _ (ro_ne t29 t6 (by decide)) (ro_ne t29 t28 (by decide)), hp k]
      have h1 := h16 (k + 1)
      have gX : va_up g' (A 6) (upd (g' (A 6)) 3 (g' (A 6) 3 &&& (1 <<< (nI (ci p b k) &&& 31) ^^^ (-1)))) (A 24) = g (A 24) := by
        rw [up_n (ro_ne t24 t6 (by decide)), w1 _ (ro_ne t24 t6 (by decide)) (ro_ne t24 t28 (by decide))]
      rw [g29, bo_of (hC.e 2 0 24 (by decide)) (by rw [nI_t (by omega)]; omega) (by rw [nI_t (by omega)]; omega), gX, nI_c (by omega)]
      refine ih (k + 1) _ (z + 1) (by omega) (by omega) (by omega) ⟨fun a a1 a2 => ?_, fun x hx => ?_, fun t ht => ?_, fun x hx => ?_⟩
      · rw [up_n a2, up_n a1]
        exact w1 a a1 a2
      · rw [up_n n68, up_s, ud_s, bt_clr (by omega) (by omega) hx, cs]
        have k0 := w2 x hx
        constructor
        · intro q
          rw [Bool.and_eq_true] at q
          obtain ⟨q1, q2⟩ := q
          have q3 : ¬ x = ci p b k := by simpa using q2
          obtain ⟨q4, q5⟩ := k0.mp q1
          refine ⟨q4, fun ⟨t, t1, t2⟩ => ?_⟩
          by_cases tk' : t = k
          · rw [tk'] at t2
            exact q3 t2.symm
          · exact q5 ⟨t, by omega, t2⟩
        · intro ⟨q1, q2⟩
          rw [Bool.and_eq_true]
          refine ⟨k0.mpr ⟨q1, fun ⟨t, t1, t2⟩ => q2 ⟨t, by omega, t2⟩⟩, ?_⟩
          have q3 : ¬ x = ci p b k := fun q => q2 ⟨k, by omega, q.symm⟩
          simpa using q3
      · rw [up_s]
        by_cases tk' : t = k
        · rw [tk', ud_s]
        · rw [ud_n (fun q => tk' (hT.inj t k (by omega) hkT' q)), up_n (Ne.symm n68)]
          exact w3 t (by omega)
      · rw [up_s, ud_n (fun q => hx ⟨k, by omega, q.symm⟩), up_n (Ne.symm n68)]
        exact w4 x (fun ⟨t, t1, t2⟩ => hx ⟨t, by omega, t2⟩)
end RC
end
section
/-! ===== RINGS of the reference ===== -/
section RF
variable {τ τ1 : th_t} {Z : th_Zt} {gi gi1 gm gm2 : th_i} {gr gr1 rm rm2 : th_r} {A : Nat → Nat} {M1 M2 : List Nat}
theorem ir_sp {m : th_i} {p : Nat → Nat} {b N : Nat} (hN : (m (A 12) 8).toInt = (N : Int)) (h16 : N ≤ 16) (hp : ∀ t, F_X12_pointed τ Z m rm (A 12) (nI (ci p b t)) = nI (ci p b (t + 1))) (hlt : ∀ t, ci p b t < N) : ∀ (n t : Nat) (z : Int32), z.toInt = (t : Int) → t ≤ N → 16 - t < n → (f_X12_isRound_8 τ Z m rm (A 12) (nI b) n (nI (ci p b (t + 1))) z = 1 ∧ rnd p b) ∨ (f_X12_isRound_8 τ Z m rm (A 12) (nI b) n (nI (ci p b (t + 1))) z = 0 ∧ ∀ s, t ≤ s → s ≤ N → ¬ ci p b (s + 1) = b) := by
  have hb := hlt 0
  have eqb : ∀ t, nI (ci p b t) = nI b → ci p b t = b := fun t e => nI_inj (by have := hlt t; omega) (by have : b < N := hb; omega) e
  intro n
  induction n with
  | zero => intro t z _ _ h; exact absurd h (Nat.not_lt_zero _)
  | succ n ih =>
    intro t z hz ht h
    unfold f_X12_isRound_8 f_X12_isRound_33
    dsimp only
    by_cases ce : nI (ci p b (t + 1)) = nI b
    · have r : rnd p b := ⟨t + 1, by omega, eqb _ ce⟩
      by_cases c : m (A 12) 8 ≤ z
      · rw [if_pos c, if_pos ce]
        exact Or.inl ⟨rfl, r⟩
      · rw [if_neg c, if_pos ce, if_pos ce]
        exact Or.inl ⟨rfl, r⟩
    · have ne : ¬ ci p b (t + 1) = b := fun e => ce (by rw [e])
      by_cases c : m (A 12) 8 ≤ z
      · rw [if_pos c, if_neg ce]
        have c' := i_le.mp c
        refine Or.inr ⟨rfl, fun s h1 h2 => ?_⟩
        have : s = t := by omega
        rw [this]
        exact ne
      · rw [if_neg c, if_neg ce, hp (t + 1)]
        have c' := i_ltI.mp (Int32.not_le.mp c)
        have e := y_1 (m := 16) (by decide) (y := z) (by omega) (by omega)
        rcases ih (t + 1) (z + 1) (by omega) (by omega) (by omega) with k | ⟨k1, k2⟩
        · exact Or.inl k
        · refine Or.inr ⟨k1, fun s h1 h2 => ?_⟩
          by_cases hs : s = t
          · rw [hs]
            exact ne
          · exact k2 s (by omega) h2
theorem ir_iff {m : th_i} {p : Nat → Nat} {b N : Nat} (hN : (m (A 12) 8).toInt = (N : Int)) (h16 : N ≤ 16) (hp : ∀ t, F_X12_pointed τ Z m rm (A 12) (nI (ci p b t)) = nI (ci p b (t + 1))) (hlt : ∀ t, ci p b t < N) : F_X12_isRound τ Z m rm (A 12) (nI b) = 0 ↔ ¬ rnd p b := by
  unfold F_X12_isRound
  dsimp only
  have h0 : F_X12_pointed τ Z m rm (A 12) (nI b) = nI (ci p b (0 + 1)) := hp 0
  rw [h0]
  rcases ir_sp (τ := τ) (Z := Z) (rm := rm) hN h16 hp hlt ((16 - (0 : Int32).toInt).toNat + 1) 0 0 k_0 (by omega) (by decide) with ⟨k1, k2⟩ | ⟨k1, k2⟩
  · rw [k1]
    exact ⟨fun q => absurd q (by decide), fun q => absurd k2 q⟩
  · rw [k1]
    refine ⟨fun _ q => ?_, fun _ => rfl⟩
    obtain ⟨T, hT⟩ := q.cyc
    have t1 := hT.1
    have := hT.le hlt
    exact k2 (T - 1) (by omega) (by omega) (by rw [show T - 1 + 1 = T by omega]; exact hT.2.1)
theorem f80_sp (hQ : ro_M τ rm A) {m m0 : th_i} {k45 : th_i → Int32 → th_i} {p : Nat → Nat} {b T : Nat} (hT : cyc p b T) (h16 : ∀ t, ci p b t < 16) (hp : ∀ t, F_X12_pointed τ Z m rm (A 12) (nI (ci p b t)) = nI (ci p b (t + 1))) : ∀ (n k : Nat) (g : th_i) (z : Int32), k < T → z.toInt = (k : Int) → 16 - k < n → (∀ a, a ≠ A 67 → g a = m a) → (∀ t, t < k → g (A 67) t = nI (ci p b t)) → ∃ g', f_X12_findRings_80 τ Z gi rm (A 12) m0 (nI b) k45 n g (nI (ci p b k)) z = f_X12_findRings_104 τ Z gi rm (A 12) m0 (nI b) k45 ((16 - (0 : Int32).toInt).toNat + 1) g' (nI T) 0 ∧ (∀ a, a ≠ A 67 → g' a = m a) ∧ ∀ t, t < T → g' (A 67) t = nI (ci p b t) := by
  have hTle := hT.le h16
  have hb : b < 16 := h16 0
  intro n
  induction n with
  | zero => intro k g z _ _ h; exact absurd h (Nat.not_lt_zero _)
  | succ n ih =>
    intro k g z hk hz h hg hr
    have hu : f_X12_findRings_80 τ Z gi rm (A 12) m0 (nI b) k45 (n + 1) g (nI (ci p b k)) z = if F_X12_pointed τ Z (va_up g (A 67) (upd (g (A 67)) z.toNatClampNeg (nI (ci p b k)))) rm (A 12) (nI (ci p b k)) = nI b then f_X12_findRings_104 τ Z gi rm (A 12) m0 (nI b) k45 ((16 - (0 : Int32).toInt).toNat + 1) (va_up g (A 67) (upd (g (A 67)) z.toNatClampNeg (nI (ci p b k)))) (z + 1) 0 else f_X12_findRings_80 τ Z gi rm (A 12) m0 (nI b) k45 n (va_up g (A 67) (upd (g (A 67)) z.toNatClampNeg (nI (ci p b k)))) (F_X12_pointed τ Z (va_up g (A 67) (upd (g (A 67)) z.toNatClampNeg (nI (ci p b k)))) rm (A 12) (nI (ci p b k))) (z + 1) := by
      rw [← hQ.g 36 67 (by decide)]
      rfl
    have zc : z.toNatClampNeg = k := cl_in hz.symm
    have e := y_1 (m := 16) (by decide) (y := z) (by omega) (by omega)
    rw [hu, zc]
    have hg2 : ∀ a, a ≠ A 67 → va_up g (A 67) (upd (g (A 67)) k (nI (ci p b k))) a = m a := fun a ha => by rw [up_n ha]; exact hg a ha
    have hr2 : ∀ t, t < k + 1 → va_up g (A 67) (upd (g (A 67)) k (nI (ci p b k))) (A 67) t = nI (ci p b t) := fun t ht => by
      rw [up_s]
      by_cases e' : t = k
      · rw [e', ud_s]
      · rw [ud_n e']
        exact hr t (by omega)
    generalize va_up g (A 67) (upd (g (A 67)) k (nI (ci p b k))) = g2 at hg2 hr2
    have hpt : F_X12_pointed τ Z g2 rm (A 12) (nI (ci p b k)) = nI (ci p b (k + 1)) := by
      rw [pt_cong hQ (m := g2) (m' := m) (fun a _ _ h67 => hg2 a h67) (hg2 _ (ro_ne (hQ.t 35 66 (by decide)) (hQ.t 36 67 (by decide)) (by decide)))]
      exact hp k
    rw [hpt]
    have h1 := h16 (k + 1)
    by_cases c : nI (ci p b (k + 1)) = nI b
    · have c' : ci p b (k + 1) = b := nI_inj (by omega) (by omega) c
      have ek : k + 1 = T := by
        by_cases q : k + 1 < T
        · exact absurd c' (hT.2.2 (k + 1) (by omega) q)
        · omega
      have ez : z + 1 = nI T := i_inj (by rw [nI_t (by omega)]; omega)
      rw [if_pos c, ez]
      exact ⟨g2, rfl, hg2, fun t ht => hr2 t (by omega)⟩
    · have kT : k + 1 < T := by
        by_cases q : k + 1 = T
        · exact absurd (show nI (ci p b (k + 1)) = nI b by rw [q, hT.2.1]) c
        · omega
      rw [if_neg c]
      exact ih (k + 1) g2 (z + 1) kT (by omega) (by omega) hg2 hr2
theorem md_T {z : Int32} {k T : Nat} (hz : z.toInt = (k : Int)) (hk : k < T) (hT : T ≤ 16) : ((z + 1) - (z + 1) / nI T * nI T).toNatClampNeg = if k + 1 = T then 0 else k + 1 := by
  have e := y_1 (m := 16) (by decide) (y := z) (by omega) (by omega)
  have tT := nI_t (k := T) (by omega)
  have ed : ((z + 1) / nI T).toInt = ((k : Int) + 1) / (T : Int) := by
    rw [i_div (by omega) (by omega), tT, e, hz]
  by_cases c : k + 1 = T
  · rw [if_pos c]
    have e1 : ((k : Int) + 1) / (T : Int) = 1 := by
      rw [show ((k : Int) + 1) = (T : Int) by omega]
      exact Int.ediv_self (by omega)
    rw [e1] at ed
    have em : ((z + 1) / nI T * nI T).toInt = (T : Int) := by
      rw [i_mul (by rw [ed, tT]; omega) (by rw [ed, tT]; omega), ed, tT]
      omega
    exact cl_in (by rw [i_sub (by omega) (by omega)]; omega)
  · rw [if_neg c]
    have e1 : ((k : Int) + 1) / (T : Int) = 0 := Int.ediv_eq_zero_of_lt (by omega) (by omega)
    rw [e1] at ed
    have em : ((z + 1) / nI T * nI T).toInt = 0 := by
      rw [i_mul (by rw [ed, tT]; omega) (by rw [ed, tT]; omega), ed, tT]
      omega
    exact cl_in (by rw [i_sub (by omega) (by omega)]; omega)
theorem f104_sp (hQ : ro_M τ rm A) {m m0 : th_i} {k45 : th_i → Int32 → th_i} {p : Nat → Nat} {b T : Nat} (hT : cyc p b T) (h16 : ∀ t, ci p b t < 16) : ∀ (n k : Nat) (g : th_i) (z : Int32), k ≤ T → z.toInt = (k : Int) → 16 - k < n → (∀ a, a ≠ A 65 → a ≠ A 67 → g a = m a) → (∀ t, t < T → g (A 67) t = nI (ci p b t)) → (∀ t, t < k → g (A 65) (ci p b t) = m (A 50) (ci p b (t + 1))) → (∀ x, ¬ inR p b k x → g (A 65) x = m (A 65) x) → ∃ g', f_X12_findRings_104 τ Z gi rm (A 12) m0 (nI b) k45 n g (nI T) z = f_X12_findRings_147 τ Z gi rm (A 12) m0 (nI b) k45 ((16 - (0 : Int32).toInt).toNat + 1) g' (nI T) 0 ∧ (∀ a, a ≠ A 65 → a ≠ A 67 → g' a = m a) ∧ (∀ t, t < T → g' (A 67) t = nI (ci p b t)) ∧ (∀ t, t < T → g' (A 65) (ci p b t) = m (A 50) (ci p b (t + 1))) ∧ ∀ x, ¬ inR p b T x → g' (A 65) x = m (A 65) x := by
  have hTle := hT.le h16
  have t65 := hQ.t 34 65 (by decide)
  have t67 := hQ.t 36 67 (by decide)
  have t50 := hQ.t 12 50 (by decide)
  intro n
  induction n with
  | zero => intro k g z _ _ h; exact absurd h (Nat.not_lt_zero _)
  | succ n ih =>
    intro k g z hk hz h hg hr h1 h2
    have tT := nI_t (k := T) (by omega)
    have hu : f_X12_findRings_104 τ Z gi rm (A 12) m0 (nI b) k45 (n + 1) g (nI T) z = if nI T ≤ z then f_X12_findRings_147 τ Z gi rm (A 12) m0 (nI b) k45 ((16 - (0 : Int32).toInt).toNat + 1) g (nI T) 0 else f_X12_findRings_104 τ Z gi rm (A 12) m0 (nI b) k45 n (va_up g (A 65) (upd (g (A 65)) (g (A 67) z.toNatClampNeg).toNatClampNeg (g (A 50) (g (A 67) ((z + 1) - (z + 1) / nI T * nI T).toNatClampNeg).toNatClampNeg))) (nI T) (z + 1) := by
      rw [← hQ.g 34 65 (by decide), ← hQ.g 36 67 (by decide), ← hQ.g 12 50 (by decide)]
      rfl
    have zc : z.toNatClampNeg = k := cl_in hz.symm
    rw [hu]
    by_cases c : nI T ≤ z
    · rw [if_pos c]
      have c' := i_le.mp c
      have : k = T := by omega
      subst this
      exact ⟨g, rfl, hg, hr, h1, h2⟩
    · rw [if_neg c]
      have c' := i_ltI.mp (Int32.not_le.mp c)
      have kT : k < T := by omega
      have e := y_1 (m := 16) (by decide) (y := z) (by omega) (by omega)
      have hs := h16 k
      have hs1 := h16 (k + 1)
      have x21 : g (A 67) ((z + 1) - (z + 1) / nI T * nI T).toNatClampNeg = nI (ci p b (k + 1)) := by
        rw [md_T hz kT hTle]
        by_cases q : k + 1 = T
        · rw [if_pos q, hr 0 (by omega), q, hT.2.1]
          rfl
        · rw [if_neg q]
          exact hr (k + 1) (by omega)
      rw [x21, zc, hr k kT, nI_c (by omega), nI_c (by omega), hg _ (ro_ne t50 t65 (by decide)) (ro_ne t50 t67 (by decide))]
      refine ih (k + 1) _ (z + 1) (by omega) (by omega) (by omega) (fun a a1 a2 => by rw [up_n a1]; exact hg a a1 a2) (fun t ht => by rw [up_n (ro_ne t67 t65 (by decide))]; exact hr t ht) (fun t ht => ?_) (fun x hx => ?_)
      · rw [up_s]
        by_cases q : t = k
        · rw [q, ud_s]
        · rw [ud_n (fun q' => q (hT.inj t k (by omega) kT q'))]
          exact h1 t (by omega)
      · rw [up_s, ud_n (fun q => hx ⟨k, by omega, q.symm⟩)]
        exact h2 x (fun ⟨t, t1, t2⟩ => hx ⟨t, by omega, t2⟩)
theorem f147_sp (hQ : ro_M τ rm A) {m m0 : th_i} {k45 : th_i → Int32 → th_i} {p : Nat → Nat} {b T : Nat} (hT : cyc p b T) (h16 : ∀ t, ci p b t < 16) : ∀ (n k : Nat) (g : th_i) (z : Int32), k ≤ T → z.toInt = (k : Int) → 16 - k < n → (∀ a, a ≠ A 66 → g a = m a) → (∀ t, t < T → m (A 67) t = nI (ci p b t)) → (∀ x, inR p b k x → g (A 66) x = 1) → (∀ x, ¬ inR p b k x → g (A 66) x = m (A 66) x) → ∃ g', f_X12_findRings_147 τ Z gi rm (A 12) m0 (nI b) k45 n g (nI T) z = k45 g' 0 ∧ (∀ a, a ≠ A 66 → g' a = m a) ∧ (∀ x, inR p b T x → g' (A 66) x = 1) ∧ ∀ x, ¬ inR p b T x → g' (A 66) x = m (A 66) x := by
  have hTle := hT.le h16
  have t66 := hQ.t 35 66 (by decide)
  have t67 := hQ.t 36 67 (by decide)
  intro n
  induction n with
  | zero => intro k g z _ _ h; exact absurd h (Nat.not_lt_zero _)
  | succ n ih =>
    intro k g z hk hz h hg hr h1 h2
    have tT := nI_t (k := T) (by omega)
    have hu : f_X12_findRings_147 τ Z gi rm (A 12) m0 (nI b) k45 (n + 1) g (nI T) z = if nI T ≤ z then k45 g 0 else f_X12_findRings_147 τ Z gi rm (A 12) m0 (nI b) k45 n (va_up g (A 66) (upd (g (A 66)) (g (A 67) z.toNatClampNeg).toNatClampNeg 1)) (nI T) (z + 1) := by
      rw [← hQ.g 35 66 (by decide), ← hQ.g 36 67 (by decide)]
      rfl
    have zc : z.toNatClampNeg = k := cl_in hz.symm
    rw [hu]
    by_cases c : nI T ≤ z
    · rw [if_pos c]
      have c' := i_le.mp c
      have : k = T := by omega
      subst this
      exact ⟨g, rfl, hg, h1, h2⟩
    · rw [if_neg c]
      have c' := i_ltI.mp (Int32.not_le.mp c)
      have kT : k < T := by omega
      have e := y_1 (m := 16) (by decide) (y := z) (by omega) (by omega)
      have hs := h16 k
      rw [zc, hg _ (ro_ne t67 t66 (by decide)), hr k kT, nI_c (by omega)]
      refine ih (k + 1) _ (z + 1) (by omega) (by omega) (by omega) (fun a a1 => by rw [up_n a1]; exact hg a a1) hr (fun x hx => ?_) (fun x hx => ?_)
      · rw [up_s]
        by_cases q : x = ci p b k
        · rw [q, ud_s]
        · rw [ud_n q]
          obtain ⟨t, t1, t2⟩ := hx
          refine h1 x ⟨t, ?_, t2⟩
          by_cases tk' : t = k
          · rw [tk'] at t2
            exact absurd t2.symm q
          · omega
      · rw [up_s, ud_n (fun q => hx ⟨k, by omega, q.symm⟩)]
        exact h2 x (fun ⟨t, t1, t2⟩ => hx ⟨t, by omega, t2⟩)
/-- one ring of the reference -/
theorem fr_round (hQ : ro_M τ rm A) {m m0 : th_i} {k45 : th_i → Int32 → th_i} {p : Nat → Nat} {b T : Nat} (hT : cyc p b T) (h16 : ∀ t, ci p b t < 16) (hp : ∀ t, F_X12_pointed τ Z m rm (A 12) (nI (ci p b t)) = nI (ci p b (t + 1))) : ∃ m', f_X12_findRings_80 τ Z gi rm (A 12) m0 (nI b) k45 ((16 - (0 : Int32).toInt).toNat + 1) m (nI b) 0 = k45 m' 0 ∧ (∀ a, a ≠ A 65 → a ≠ A 66 → a ≠ A 67 → m' a = m a) ∧ (∀ t, t < T → m' (A 65) (ci p b t) = m (A 50) (ci p b (t + 1))) ∧ (∀ x, ¬ inR p b T x → m' (A 65) x = m (A 65) x) ∧ (∀ x, inR p b T x → m' (A 66) x = 1) ∧ ∀ x, ¬ inR p b T x → m' (A 66) x = m (A 66) x := by
  have t65 := hQ.t 34 65 (by decide)
  have t66 := hQ.t 35 66 (by decide)
  have t67 := hQ.t 36 67 (by decide)
  obtain ⟨g1, a1, a2, a3⟩ := f80_sp (gi := gi) (m0 := m0) (k45 := k45) hQ hT h16 hp ((16 - (0 : Int32).toInt).toNat + 1) 0 m 0 hT.1 k_0 (by decide) (fun _ _ => rfl) (fun t ht => absurd ht (Nat.not_lt_zero _))
  obtain ⟨g2, b1, b2, b3, b4, b5⟩ := f104_sp (Z := Z) (gi := gi) (m := m) (m0 := m0) (k45 := k45) hQ hT h16 ((16 - (0 : Int32).toInt).toNat + 1) 0 g1 0 (Nat.zero_le _) k_0 (by decide) (fun a _ h => a2 a h) a3 (fun t ht => absurd ht (Nat.not_lt_zero _)) (fun x _ => by rw [a2 _ (ro_ne t65 t67 (by decide))])
  obtain ⟨g3, c1, c2, c3, c4⟩ := f147_sp (Z := Z) (gi := gi) (m := g2) (m0 := m0) (k45 := k45) hQ hT h16 ((16 - (0 : Int32).toInt).toNat + 1) 0 g2 0 (Nat.zero_le _) k_0 (by decide) (fun _ _ => rfl) b3 (fun x ⟨t, t1, _⟩ => absurd t1 (Nat.not_lt_zero _)) (fun _ _ => rfl)
  have g66 : g2 (A 66) = m (A 66) := b2 _ (ro_ne t66 t65 (by decide)) (ro_ne t66 t67 (by decide))
  have g65 : g3 (A 65) = g2 (A 65) := c2 _ (ro_ne t65 t66 (by decide))
  refine ⟨g3, a1.trans (b1.trans c1), fun a h1 h2 h3 => by rw [c2 a h2, b2 a h1 h3], fun t ht => by rw [g65]; exact b4 t ht, fun x hx => by rw [g65]; exact b5 x hx, c3, fun x hx => by rw [c4 x hx, g66]⟩
def mu (A : Nat → Nat) (m : th_i) (y : Nat) : Nat := 17 * fr_c (m (A 66)) 16 + (16 - y)
theorem sc_45 (hQ : ro_M τ rm A) {m : th_i} {p : Nat → Nat} {N : Nat} (hN : (m (A 12) 8).toInt = (N : Int)) (h16 : N ≤ 16) (hp : ∀ b, b < N → m (A 66) b = 0 → F_X12_pointed τ Z m rm (A 12) (nI b) = nI (p b) ∧ p b < N ∧ m (A 66) (p b) = 0) : ∀ (n y : Nat), y ≤ N → mu A m y < n → (f_X12_findRings_45 τ Z gi rm (A 12) n m (nI y) = m ∧ ∀ b, y ≤ b → b < N → ¬ (m (A 66) b = 0 ∧ rnd p b)) ∨ ∃ b n', y ≤ b ∧ b < N ∧ m (A 66) b = 0 ∧ rnd p b ∧ f_X12_findRings_45 τ Z gi rm (A 12) n m (nI y) = f_X12_findRings_80 τ Z gi rm (A 12) m (nI b) (f_X12_findRings_45 τ Z gi rm (A 12) n') ((16 - (0 : Int32).toInt).toNat + 1) m (nI b) 0 ∧ mu A m b < n' + 1 ∧ ∀ c, y ≤ c → c < b → ¬ (m (A 66) c = 0 ∧ rnd p c) := by
  intro n
  induction n with
  | zero => intro y _ h; exact absurd h (Nat.not_lt_zero _)
  | succ n ih =>
    intro y hy h
    have ty := nI_t (k := y) (by omega)
    have hu : f_X12_findRings_45 τ Z gi rm (A 12) (n + 1) m (nI y) = if m (A 12) 8 ≤ nI y then m else if m (A 66) (nI y).toNatClampNeg = 0 then (if F_X12_isRound τ Z m rm (A 12) (nI y) = 0 then f_X12_findRings_45 τ Z gi rm (A 12) n m (nI y + 1) else f_X12_findRings_80 τ Z gi rm (A 12) m (nI y) (f_X12_findRings_45 τ Z gi rm (A 12) n) ((16 - (0 : Int32).toInt).toNat + 1) m (nI y) 0) else f_X12_findRings_45 τ Z gi rm (A 12) n m (nI y + 1) := by
      rw [← hQ.g 35 66 (by decide)]
      rfl
    rw [hu, nI_c (by omega)]
    by_cases c : m (A 12) 8 ≤ nI y
    · rw [if_pos c]
      have c' := i_le.mp c
      exact Or.inl ⟨rfl, fun b h1 h2 => by omega⟩
    · rw [if_neg c]
      have c' := i_ltI.mp (Int32.not_le.mp c)
      have e1 : nI y + 1 = nI (y + 1) := nI_sc (by omega)
      rw [e1]
      have next : ¬ (m (A 66) y = 0 ∧ rnd p y) → (f_X12_findRings_45 τ Z gi rm (A 12) n m (nI (y + 1)) = m ∧ ∀ b, y ≤ b → b < N → ¬ (m (A 66) b = 0 ∧ rnd p b)) ∨ ∃ b n', y ≤ b ∧ b < N ∧ m (A 66) b = 0 ∧ rnd p b ∧ f_X12_findRings_45 τ Z gi rm (A 12) n m (nI (y + 1)) = f_X12_findRings_80 τ Z gi rm (A 12) m (nI b) (f_X12_findRings_45 τ Z gi rm (A 12) n') ((16 - (0 : Int32).toInt).toNat + 1) m (nI b) 0 ∧ mu A m b < n' + 1 ∧ ∀ c, y ≤ c → c < b → ¬ (m (A 66) c = 0 ∧ rnd p c) := fun hn => by
        rcases ih (y + 1) (by omega) (by unfold mu at h ⊢; omega) with ⟨k1, k2⟩ | ⟨b, n', k1, k2, k3, k4, k5, k6, k7⟩
        · refine Or.inl ⟨k1, fun b h1 h2 => ?_⟩
          by_cases hb : b = y
          · rw [hb]; exact hn
          · exact k2 b (by omega) h2
        · refine Or.inr ⟨b, n', by omega, k2, k3, k4, k5, k6, fun c h1 h2 => ?_⟩
          by_cases hb : c = y
          · rw [hb]; exact hn
          · exact k7 c (by omega) h2
      by_cases cl : m (A 66) y = 0
      · rw [if_pos cl]
        have cl2 : ∀ t, ci p y t < N ∧ m (A 66) (ci p y t) = 0 := ci_L (L := fun b => b < N ∧ m (A 66) b = 0) (fun b hb => (hp b hb.1 hb.2).2) ⟨by omega, cl⟩
        have ri := ir_iff (τ := τ) (Z := Z) (rm := rm) hN h16 (p := p) (b := y) (fun t => (hp _ (cl2 t).1 (cl2 t).2).1) (fun t => (cl2 t).1)
        by_cases cr : F_X12_isRound τ Z m rm (A 12) (nI y) = 0
        · rw [if_pos cr]
          exact next (fun q => ri.mp cr q.2)
        · rw [if_neg cr]
          exact Or.inr ⟨y, n, Nat.le_refl _, by omega, cl, Classical.byContradiction (fun q => cr (ri.mpr q)), rfl, h, fun c h1 h2 => by omega⟩
      · rw [if_neg cl]
        exact next (fun q => cl q.1)
end RF
end
section
/-! ===== RINGS: both the same ===== -/
section RR
variable {τ τ1 : th_t} {Z : th_Zt} {gi gi1 gm gm2 : th_i} {gr gr1 rm rm2 : th_r} {A : Nat → Nat} {M1 M2 : List Nat}
def dn (A : Nat → Nat) (gi m : th_i) (b : Nat) : Prop := ¬ m (A 66) b = 0 ∧ 0 ≤ (gi (A 24) b).toInt
def RS (gi gm : th_i) (A : Nat → Nat) (N : Nat) (g m : th_i) : Prop := d_c A g gi ∧ d_m A m gm ∧ (∀ x, x < 32 → bt (g (A 6) 3) x = true → x < N) ∧ (∀ b, b < N → (bt (g (A 6) 3) b = true ↔ m (A 66) b = 0)) ∧ (∀ b, b < N → m (A 66) b = 0 → 0 ≤ (gi (A 24) b).toInt) ∧ (∀ b, b < N → ¬ m (A 66) b = 0 → g (A 28) b = m (A 65) b) ∧ (∀ b, b < N → (gi (A 24) b).toInt < 0 → g (A 28) b = -1) ∧ (∀ b, b < N → dn A gi m b → ∃ c, c < N ∧ dn A gi m c ∧ g (A 28) b = gi (A 24) c) ∧ (∀ c, c < N → dn A gi m c → ∃ b, b < N ∧ dn A gi m b ∧ g (A 28) b = gi (A 24) c) ∧ ∀ b b', b < N → b' < N → dn A gi m b → dn A gi m b' → g (A 28) b = g (A 28) b' → b = b'
theorem rs_round (Q : q_all τ Z gi gr gm rm A) (K : c_core τ gi gr gm A) (W : c_wish τ gi gr gm A) (V : c_wnb gm A) {N : Nat} (hN : (gm (A 12) 8).toInt = (N : Int)) (h16 : N ≤ 16) {g m : th_i} (R : RS gi gm A N g m) (hne : ∃ b, b < N ∧ m (A 66) b = 0) {n' : Nat} {gz : th_i} (hn' : mu A m 0 < n') : ∃ g' m' n'', F_X6_takeRing τ Z (F_X6_pointAll τ Z g gr (A 6)) gr (A 6) (F_X6_leastInRing τ Z (F_X6_pointAll τ Z g gr (A 6)) gr (A 6)) = g' ∧ f_X12_findRings_45 τ Z gz rm (A 12) n' m 0 = f_X12_findRings_45 τ Z gz rm (A 12) n'' m' 0 ∧ RS gi gm A N g' m' ∧ mu A m' 0 < n'' ∧ fr_c (m' (A 66)) N < fr_c (m (A 66)) N := by
  have Q' := Q
  obtain ⟨hJ, hJm, hC, hQ, no, nb, wi, cb, cu, ct, cs, cl, cr, cw⟩ := Q'
  obtain ⟨a1, a2, -⟩ := id K
  obtain ⟨r1, r2, r3, r4, r5, r6, r7, r8, r9, r10⟩ := R
  have z0 : nI 0 = 0 := by decide
  have no' : gm (A 12) 8 = gi (A 1) 6 := no.symm
  have t1 := hC.t 1 1 (by decide) rfl
  have t6 := hC.t 6 6 (by decide) rfl
  have t24 := hC.t 24 24 (by decide) rfl
  have t28 := hC.t 28 28 (by decide) rfl
  have t29 := hC.t 29 29 (by decide) rfl
  have n69 := ro_ne t6 t29 (by decide)
  have n89 := ro_ne t28 t29 (by decide)
  have n49 := ro_ne t24 t29 (by decide)
  have g1N : (g (A 1) 6).toInt = (N : Int) := by
    rw [r1.at hC t1 (by decide) (by decide) (by decide), ← no']
    exact hN
  have mN : (m (A 12) 8).toInt = (N : Int) := by
    rw [r2.at hQ hQ.1 (by decide) (by decide) (by decide)]
    exact hN
  -- the pointers
  have hw : ∀ b, b < N → m (A 66) b = 0 → (∀ g' : th_i, (∀ a, a ≠ A 29 → g' a = g a) → ∃ q, gr (A 21) b = some q ∧ F_X6_holderOfWish τ Z g' gr (A 6) q = F_X12_pointed τ Z m rm (A 12) (nI b)) ∧ F_X12_pointed τ Z m rm (A 12) (nI b) = nI (F_X12_pointed τ Z m rm (A 12) (nI b)).toNatClampNeg ∧ (F_X12_pointed τ Z m rm (A 12) (nI b)).toNatClampNeg < N ∧ m (A 66) (F_X12_pointed τ Z m rm (A 12) (nI b)).toNatClampNeg = 0 := fun b hb hl => by
    have tb := nI_t (k := b) (by omega)
    have cbb := nI_c (k := b) (by omega)
    obtain ⟨q, hq⟩ := cb b (by omega)
    have H := fun (g' : th_i) (hg' : ∀ a, a ≠ A 29 → g' a = g a) => hw_eq Q K W V (g := g') (m := m) (fun a h6 h28 h29 => by rw [hg' a h29]; exact r1 a h6 h28 h29) r2 (fun c hc => by rw [hg' _ n69]; exact r4 c (by omega)) (v := nI b) (qb := q) (by omega) (by omega) (by rw [cbb]; exact hq.1)
    refine ⟨fun g' hg' => ⟨q, hq.1, (H g' hg').1⟩, ?_⟩
    rcases (H g (fun _ _ => rfl)).2 with e | ⟨e1, e2, e3⟩
    · rw [e, cbb]
      exact ⟨rfl, hb, hl⟩
    · exact ⟨(nI_cl e1).symm, by have := i_cl e1; omega, e3⟩
  obtain ⟨p, hp⟩ : ∃ p : Nat → Nat, ∀ b, (F_X12_pointed τ Z m rm (A 12) (nI b)).toNatClampNeg = p b := ⟨_, fun _ => rfl⟩
  have hpm : ∀ b, b < N → m (A 66) b = 0 → F_X12_pointed τ Z m rm (A 12) (nI b) = nI (p b) ∧ p b < N ∧ m (A 66) (p b) = 0 := fun b hb hl => by
    have := (hw b hb hl).2
    rw [hp b] at this
    exact this
  -- all point
  obtain ⟨q1, q2, -⟩ := pa_sp (Z := Z) (gi := g) hC (P := fun b => F_X12_pointed τ Z m rm (A 12) (nI b)) h16 ((16 - (0 : Int32).toInt).toNat + 1) g 0 g1N (Nat.zero_le _) (by decide) (fun g' hg' b hb hbt => (hw b hb ((r4 b hb).mp hbt)).1 g' hg')
  rw [z0] at q1 q2
  have q1 : ∀ a, a ≠ A 29 → F_X6_pointAll τ Z g gr (A 6) a = g a := q1
  have q2 : ∀ b, b < N → bt (g (A 6) 3) b = true → F_X6_pointAll τ Z g gr (A 6) (A 29) b = nI (p b) := fun b hb hbt => (q2 b (Nat.zero_le _) hb hbt).trans (hpm b hb ((r4 b hb).mp hbt)).1
  generalize F_X6_pointAll τ Z g gr (A 6) = gP at q1 q2
  have gP6 : gP (A 6) = g (A 6) := q1 _ n69
  -- the least
  have hpc : ∀ b, b < N → bt (gP (A 6) 3) b = true → gP (A 29) b = nI (p b) ∧ p b < N ∧ bt (gP (A 6) 3) (p b) = true := fun b hb hbt => by
    rw [gP6] at hbt ⊢
    obtain ⟨k1, k2, k3⟩ := hpm b hb ((r4 b hb).mp hbt)
    exact ⟨q2 b hb hbt, k2, (r4 _ k2).mpr k3⟩
  obtain ⟨c0, hc0, hl0⟩ := hne
  obtain ⟨b1, ⟨hb1, hl1⟩, hr1⟩ := cyc_ex (p := p) (L := fun b => b < N ∧ m (A 66) b = 0) (N := N) (fun b hb => ⟨hb.1, (hpm b hb.1 hb.2).2⟩) ⟨hc0, hl0⟩
  have LR := lr_sp (Z := Z) hC (g := gP) (p := p) (N := N) (by rw [q1 _ (ro_ne t1 t29 (by decide))]; exact g1N) h16 hpc ((16 - (0 : Int32).toInt).toNat + 1) 0 (Nat.zero_le _) (by decide)
  have SC := sc_45 (Z := Z) (gi := gz) hQ mN h16 hpm n' 0 (Nat.zero_le _) hn'
  rw [z0] at LR SC
  rcases LR with ⟨-, k2⟩ | ⟨b, -, kb, kl, kr, ke, km⟩
  · exact absurd ⟨by rw [gP6]; exact (r4 b1 hb1).mpr hl1, hr1⟩ (k2 b1 (Nat.zero_le _) hb1)
  rcases SC with ⟨-, k2⟩ | ⟨b', n1, -, jb, jl, jr, je, jn, jm⟩
  · exact absurd ⟨hl1, hr1⟩ (k2 b1 (Nat.zero_le _) hb1)
  have kl' : m (A 66) b = 0 := (r4 b kb).mp (by rw [← gP6]; exact kl)
  have ebb : b' = b := by
    rcases Nat.lt_trichotomy b' b with q | q | q
    · exact absurd ⟨by rw [gP6]; exact (r4 b' jb).mpr jl, jr⟩ (km b' (Nat.zero_le _) q)
    · exact q
    · exact absurd ⟨kl', kr⟩ (jm b (Nat.zero_le _) q)
  subst ebb
  obtain ⟨T, hT⟩ := kr.cyc
  have cl2 : ∀ t, ci p b' t < N ∧ m (A 66) (ci p b' t) = 0 := ci_L (L := fun b => b < N ∧ m (A 66) b = 0) (fun b hb => (hpm b hb.1 hb.2).2) ⟨kb, kl'⟩
  have c16 : ∀ t, ci p b' t < 16 := fun t => by have := (cl2 t).1; omega
  have TK := tk_sp (Z := Z) (gi := gP) hC (g := gP) hT c16 (fun t => (hpc _ (cl2 t).1 (by rw [gP6]; exact (r4 _ (cl2 t).1).mpr (cl2 t).2)).1) (fun t => by rw [gP6]; exact (r4 _ (cl2 t).1).mpr (cl2 t).2) ((16 - (0 : Int32).toInt).toNat + 1) 0 gP 0 (Nat.zero_le _) k_0 (by decide) ⟨fun _ _ _ => rfl, fun x hx => ⟨fun q => ⟨q, fun ⟨t, t1, _⟩ => absurd t1 (Nat.not_lt_zero _)⟩, fun q => q.1⟩, fun t ht => absurd ht (Nat.not_lt_zero _), fun _ _ => rfl⟩
  obtain ⟨m', f1, f2, f3, f4, f5, f6⟩ := fr_round (Z := Z) (gi := gz) (m0 := m) (k45 := f_X12_findRings_45 τ Z gz rm (A 12) n1) hQ hT c16 (fun t => (hpm _ (cl2 t).1 (cl2 t).2).1)
  have ke' : F_X6_leastInRing τ Z gP gr (A 6) = nI b' := ke
  have TK : tk A gP (gP (A 24)) p b' T (F_X6_takeRing τ Z gP gr (A 6) (F_X6_leastInRing τ Z gP gr (A 6))) := by
    rw [ke']
    exact TK
  generalize F_X6_takeRing τ Z gP gr (A 6) (F_X6_leastInRing τ Z gP gr (A 6)) = g' at TK
  obtain ⟨w1, w2, w3, w4⟩ := TK
  have gP24 : gP (A 24) = gi (A 24) := by rw [q1 _ n49, r1.at hC t24 (by decide) (by decide) (by decide)]
  have gP28 : gP (A 28) = g (A 28) := q1 _ n89
  rw [gP24] at w3
  rw [gP28] at w4
  rw [gP6] at w2
  have m50 : m (A 50) = gm (A 50) := r2.at hQ (hQ.t 12 50 (by decide)) (by decide) (by decide) (by decide)
  have inb : ∀ x, inR p b' T x → x < N ∧ m (A 66) x = 0 ∧ 0 ≤ (gi (A 24) x).toInt := fun x ⟨t, t1, t2⟩ => by
    rw [← t2]
    exact ⟨(cl2 t).1, (cl2 t).2, r5 _ (cl2 t).1 (cl2 t).2⟩
  have m66 : ∀ j, ¬ m (A 66) j = 0 → ¬ m' (A 66) j = 0 := fun j hj => by
    by_cases i : inR p b' T j
    · rw [f5 j i]
      decide
    · rw [f6 j i]
      exact hj
  have b0in : inR p b' T b' := ⟨0, by have := hT.1; omega, rfl⟩
  have m66b : ¬ m' (A 66) b' = 0 := by rw [f5 b' b0in]; decide
  have nxt : ∀ x, inR p b' T x → ∃ y, inR p b' T y ∧ g' (A 28) x = gi (A 24) y := fun x ⟨t, t1, t2⟩ => by
    rw [← t2, w3 t t1]
    by_cases q : t + 1 = T
    · exact ⟨b', b0in, by rw [q, hT.2.1]⟩
    · exact ⟨_, ⟨t + 1, by omega, rfl⟩, rfl⟩
  have prv : ∀ y, inR p b' T y → ∃ x, inR p b' T x ∧ g' (A 28) x = gi (A 24) y := fun y ⟨t, t1, t2⟩ => by
    by_cases q : t = 0
    · refine ⟨ci p b' (T - 1), ⟨T - 1, by omega, rfl⟩, ?_⟩
      have := hT.1
      rw [w3 (T - 1) (by omega), show T - 1 + 1 = T by omega, hT.2.1, ← t2, q]
      rfl
    · refine ⟨ci p b' (t - 1), ⟨t - 1, by omega, rfl⟩, ?_⟩
      rw [w3 (t - 1) (by omega), show t - 1 + 1 = t by omega, t2]
  have dn' : ∀ x, x < N → dn A gi m' x → inR p b' T x ∨ (¬ inR p b' T x ∧ dn A gi m x) := fun x hx h => by
    by_cases i : inR p b' T x
    · exact Or.inl i
    · refine Or.inr ⟨i, ?_, h.2⟩
      rw [← f6 x i]
      exact h.1
  have dnI : ∀ x, inR p b' T x → dn A gi m' x := fun x i => ⟨by rw [f5 x i]; decide, (inb x i).2.2⟩
  have dnO : ∀ x, dn A gi m x → ¬ inR p b' T x ∧ dn A gi m' x := fun x h => ⟨fun i => h.1 (inb x i).2.1, m66 x h.1, h.2⟩
  have Xinj : ∀ x y, x < N → y < N → 0 ≤ (gi (A 24) x).toInt → gi (A 24) x = gi (A 24) y → x = y := fun x y hx hy h0 e => by
    have k1 := ((a1.1 x (by omega)).2 h0).2.2
    have k2 := ((a1.1 y (by omega)).2 (by rw [← e]; exact h0)).2.2
    rw [e, k2] at k1
    omega
  refine ⟨g', m', n1, rfl, je.trans f1, ⟨fun a h6 h28 h29 => ?_, fun a h65 h66 h67 => ?_, fun x hx hbt => ?_, fun x hx => ?_, fun x hx h => ?_, fun x hx h => ?_, fun x hx h => ?_, fun x hx h => ?_, fun x hx h => ?_, fun x y hx hy h h' e => ?_⟩, ?_, ?_⟩
  · rw [w1 a h6 h28, q1 a h29]
    exact r1 a h6 h28 h29
  · rw [f2 a h65 h66 h67]
    exact r2 a h65 h66 h67
  · exact r3 x hx ((w2 x hx).mp hbt).1
  · rw [w2 x (by omega), r4 x hx]
    by_cases i : inR p b' T x
    · rw [f5 x i]
      exact ⟨fun q => absurd i q.2, fun q => absurd q (by decide)⟩
    · rw [f6 x i]
      exact ⟨fun q => q.1, fun q => ⟨q, i⟩⟩
  · by_cases i : inR p b' T x
    · exact (inb x i).2.2
    · rw [f6 x i] at h
      exact r5 x hx h
  · by_cases i : inR p b' T x
    · obtain ⟨t, t1, t2⟩ := i
      rw [← t2, w3 t t1, f3 t t1, m50]
      exact a2 _ (by have := (cl2 (t + 1)).1; omega)
    · rw [w4 x i, f4 x i]
      rw [f6 x i] at h
      exact r6 x hx h
  · by_cases i : inR p b' T x
    · have := (inb x i).2.2
      omega
    · rw [w4 x i]
      exact r7 x hx h
  · rcases dn' x hx h with i | ⟨i, d⟩
    · obtain ⟨y, y1, y2⟩ := nxt x i
      exact ⟨y, (inb y y1).1, dnI y y1, y2⟩
    · obtain ⟨c, c1, c2, c3⟩ := r8 x hx d
      exact ⟨c, c1, (dnO c c2).2, by rw [w4 x i]; exact c3⟩
  · rcases dn' x hx h with i | ⟨i, d⟩
    · obtain ⟨y, y1, y2⟩ := prv x i
      exact ⟨y, (inb y y1).1, dnI y y1, y2⟩
    · obtain ⟨c, c1, c2, c3⟩ := r9 x hx d
      exact ⟨c, c1, (dnO c c2).2, by rw [w4 c (dnO c c2).1]; exact c3⟩
  · rcases dn' x hx h with i | ⟨i, d⟩
    · rcases dn' y hy h' with j | ⟨j, d'⟩
      · obtain ⟨s, s1, s2⟩ := i
        obtain ⟨t, t1, t2⟩ := j
        rw [← s2, ← t2, w3 s s1, w3 t t1] at e
        have e2 := Xinj _ _ (cl2 (s + 1)).1 (cl2 (t + 1)).1 (r5 _ (cl2 (s + 1)).1 (cl2 (s + 1)).2) e
        have e3 : ci p b' (s + T) = ci p b' (t + T) := by
          have hT1 := hT.1
          rw [show s + T = (s + 1) + (T - 1) by omega, show t + T = (t + 1) + (T - 1) by omega, ci_add, ci_add p b' (t + 1), e2]
        rw [Nat.add_comm s, Nat.add_comm t, ci_add, ci_add p b' T t, hT.2.1] at e3
        rw [← s2, ← t2]
        exact e3
      · obtain ⟨z, z1, z2⟩ := nxt x i
        obtain ⟨c, c1, c2, c3⟩ := r8 y hy d'
        rw [z2, w4 y j, c3] at e
        have := Xinj z c (inb z z1).1 c1 (inb z z1).2.2 e
        rw [this] at z1
        exact absurd z1 (dnO c c2).1
    · rcases dn' y hy h' with j | ⟨j, d'⟩
      · obtain ⟨z, z1, z2⟩ := nxt y j
        obtain ⟨c, c1, c2, c3⟩ := r8 x hx d
        rw [z2, w4 x i, c3] at e
        have := Xinj c z c1 (inb z z1).1 c2.2 e
        rw [← this] at z1
        exact absurd z1 (dnO c c2).1
      · rw [w4 x i, w4 y j] at e
        exact r10 x y hx hy d d' e
  · have k := fr_clt m66 kl' m66b 16 (by omega)
    unfold mu at jn ⊢
    omega
  · exact fr_clt m66 kl' m66b N kb
theorem rs_main (Q : q_all τ Z gi gr gm rm A) (K : c_core τ gi gr gm A) (W : c_wish τ gi gr gm A) (V : c_wnb gm A) {N : Nat} (hN : (gm (A 12) 8).toInt = (N : Int)) (h16 : N ≤ 16) {gy gz : th_i} : ∀ (c : Nat) (g m : th_i) (z : Int32) (n n' : Nat), RS gi gm A N g m → fr_c (m (A 66)) N ≤ c → (c : Int) + z.toInt ≤ 16 → 0 ≤ z.toInt → (16 - z.toInt).toNat < n → mu A m 0 < n' → RS gi gm A N (f_X6_draw_65 τ Z gy gr (A 6) n g z) (f_X12_findRings_45 τ Z gz rm (A 12) n' m 0) ∧ ∀ b, b < N → ¬ f_X12_findRings_45 τ Z gz rm (A 12) n' m 0 (A 66) b = 0 := by
  have Q' := Q
  obtain ⟨hJ, hJm, hC, hQ, no, nb, wi, cb, cu, ct, cs, cl, cr, cw⟩ := Q'
  have none : ∀ (g m : th_i) (z : Int32) (n n' : Nat), RS gi gm A N g m → (16 - z.toInt).toNat < n → mu A m 0 < n' → (¬ ∃ b, b < N ∧ m (A 66) b = 0) → RS gi gm A N (f_X6_draw_65 τ Z gy gr (A 6) n g z) (f_X12_findRings_45 τ Z gz rm (A 12) n' m 0) ∧ ∀ b, b < N → ¬ f_X12_findRings_45 τ Z gz rm (A 12) n' m 0 (A 66) b = 0 := fun g m z n n' R hn hn' hne => by
    have e2 : f_X12_findRings_45 τ Z gz rm (A 12) n' m 0 = m := by
      have mN : (m (A 12) 8).toInt = (N : Int) := by
        rw [R.2.1.at hQ hQ.1 (by decide) (by decide) (by decide)]
        exact hN
      have SC := sc_45 (Z := Z) (gi := gz) hQ (m := m) (p := fun b => b) mN h16 (fun b hb hl => absurd ⟨b, hb, hl⟩ hne) n' 0 (Nat.zero_le _) hn'
      rw [show nI 0 = 0 by decide] at SC
      rcases SC with ⟨k, -⟩ | ⟨b, n1, -, jb, jl, -⟩
      · exact k
      · exact absurd ⟨b, jb, jl⟩ hne
    have e1 : f_X6_draw_65 τ Z gy gr (A 6) n g z = g := by
      cases n with
      | zero => exact absurd hn (Nat.not_lt_zero _)
      | succ n =>
        unfold f_X6_draw_65
        dsimp only
        by_cases c : (16 : Int32) ≤ z
        · rw [if_pos c]
        · rw [if_neg c]
          have l0 : g (A 6) 3 = 0 := b_ext (fun i hi => by
            rw [b_0]
            by_cases q : bt (g (A 6) 3) i = true
            · have hiN := R.2.2.1 i hi q
              exact absurd ⟨i, hiN, (R.2.2.2.1 i hiN).mp q⟩ hne
            · simpa using q)
          rw [if_pos l0]
    rw [e1, e2]
    exact ⟨R, fun b hb q => hne ⟨b, hb, q⟩⟩
  intro c
  induction c with
  | zero =>
    intro g m z n n' R hc hz z0 hn hn'
    refine none g m z n n' R hn hn' (fun ⟨b, hb, hl⟩ => ?_)
    have := fr_clt (f := m (A 66)) (f' := fun _ => 1) (fun j _ => by decide) hl (by decide) N hb
    omega
  | succ c ih =>
    intro g m z n n' R hc hz z0 hn hn'
    by_cases hne : ∃ b, b < N ∧ m (A 66) b = 0
    · obtain ⟨g', m', n'', k1, k2, k3, k4, k5⟩ := rs_round (gz := gz) Q K W V hN h16 R hne hn'
      cases n with
      | zero => exact absurd hn (Nat.not_lt_zero _)
      | succ n =>
        have cz : ¬ (16 : Int32) ≤ z := fun q => by
          have := i_le.mp q
          rw [k_16] at this
          omega
        obtain ⟨b, hb, hl⟩ := hne
        have l0 : ¬ g (A 6) 3 = 0 := fun q => by
          have := (R.2.2.2.1 b hb).mpr hl
          rw [q, b_0] at this
          cases this
        have e := y_1 (m := 16) (by decide) (y := z) z0 (by omega)
        have e1 : f_X6_draw_65 τ Z gy gr (A 6) (n + 1) g z = f_X6_draw_65 τ Z gy gr (A 6) n g' (z + 1) := by
          rw [← k1]
          show (if (16 : Int32) ≤ z then g else if g (A 6) 3 = 0 then g else _) = _
          rw [if_neg cz, if_neg l0]
        rw [e1, k2]
        exact ih g' m' (z + 1) n n'' k3 (by omega) (by omega) (by omega) (by omega) k4
    · exact none g m z n n' R hn hn' hne
end RR
end
section
/-! ===== RINGS: the start, the end; ring() ===== -/
section RE
variable {τ τ1 : th_t} {Z : th_Zt} {gi gi1 gm gm2 : th_i} {gr gr1 rm rm2 : th_r} {A : Nat → Nat} {M1 M2 : List Nat}
theorem d7_sp (hC : ro_C τ gr A) {N : Nat} {gz : th_i} (h16 : N ≤ 16) (hX : ∀ b, b < N → gi (A 24) b = -1 ∨ 0 ≤ (gi (A 24) b).toInt) : ∀ (n y : Nat) (g : th_i), y ≤ N → 16 - y < n → (g (A 1) 6).toInt = (N : Int) → d_c A g gi → (∀ x, x < 32 → (bt (g (A 6) 3) x = true ↔ (x < y ∧ 0 ≤ (gi (A 24) x).toInt))) → (∀ b, b < y → g (A 28) b = gi (A 24) b) → ∃ g', f_X6_draw_7 τ Z gz gr (A 6) n g (nI y) = f_X6_draw_65 τ Z gz gr (A 6) ((16 - (0 : Int32).toInt).toNat + 1) g' 0 ∧ d_c A g' gi ∧ (∀ x, x < 32 → (bt (g' (A 6) 3) x = true ↔ (x < N ∧ 0 ≤ (gi (A 24) x).toInt))) ∧ ∀ b, b < N → g' (A 28) b = gi (A 24) b := by
  have t1 := hC.t 1 1 (by decide) rfl
  have t6 := hC.t 6 6 (by decide) rfl
  have t24 := hC.t 24 24 (by decide) rfl
  have t28 := hC.t 28 28 (by decide) rfl
  have n68 := ro_ne t6 t28 (by decide)
  intro n
  induction n with
  | zero => intro y g _ h; exact absurd h (Nat.not_lt_zero _)
  | succ n ih =>
    intro y g hy h hN hd hb hg
    have ty := nI_t (k := y) (by omega)
    have hu : f_X6_draw_7 τ Z gz gr (A 6) (n + 1) g (nI y) = if g (A 1) 6 ≤ nI y then f_X6_draw_65 τ Z gz gr (A 6) ((16 - (0 : Int32).toInt).toNat + 1) g 0 else if F_X1_buoyOf τ Z g gr (A 2) (nI y) = -1 then f_X6_draw_7 τ Z gz gr (A 6) n (va_up g (A 28) (upd (g (A 28)) (nI y).toNatClampNeg (F_X1_buoyOf τ Z g gr (A 2) (nI y)))) (nI y + 1) else f_X6_draw_7 τ Z gz gr (A 6) n (va_up (va_up g (A 28) (upd (g (A 28)) (nI y).toNatClampNeg (F_X1_buoyOf τ Z g gr (A 2) (nI y)))) (A 6) (upd (va_up g (A 28) (upd (g (A 28)) (nI y).toNatClampNeg (F_X1_buoyOf τ Z g gr (A 2) (nI y))) (A 6)) 3 (g (A 6) 3 ||| 1 <<< (nI y &&& 31)))) (nI y + 1) := by
      rw [← hC.g 1 4 2 (by decide), ← hC.g 6 0 1 (by decide), ← hC.g 6 1 28 (by decide)]
      rfl
    rw [hu]
    by_cases c : g (A 1) 6 ≤ nI y
    · rw [if_pos c]
      have c' := i_le.mp c
      have : y = N := by omega
      subst this
      exact ⟨g, rfl, hd, hb, hg⟩
    · rw [if_neg c]
      have c' := i_ltI.mp (Int32.not_le.mp c)
      have hyN : y < N := by omega
      have e24 : g (A 24) = gi (A 24) := hd.at hC t24 (by decide) (by decide) (by decide)
      rw [bo_of (hC.e 2 0 24 (by decide)) (by omega) (by omega), nI_c (by omega), e24, nI_sc (by omega)]
      have g28 : ∀ b, b < y + 1 → upd (g (A 28)) y (gi (A 24) y) b = gi (A 24) b := fun b hb' => by
        by_cases e : b = y
        · rw [e, ud_s]
        · rw [ud_n e]
          exact hg b (by omega)
      rcases hX y hyN with z | z
      · rw [if_pos z]
        refine ih (y + 1) _ (by omega) (by omega) (by rw [up_n (ro_ne t1 t28 (by decide))]; exact hN) (fun a h6 h28 h29 => by rw [up_n h28]; exact hd a h6 h28 h29) (fun x hx => ?_) (fun b hb' => by rw [up_s]; exact g28 b hb')
        rw [up_n n68, hb x hx]
        refine ⟨fun q => ⟨by omega, q.2⟩, fun q => ⟨?_, q.2⟩⟩
        by_cases e : x = y
        · rw [e, z, k_m1] at q
          omega
        · omega
      · rw [if_neg (fun q => by rw [q, k_m1] at z; omega)]
        refine ih (y + 1) _ (by omega) (by omega) (by rw [up_n (ro_ne t1 t6 (by decide)), up_n (ro_ne t1 t28 (by decide))]; exact hN) (fun a h6 h28 h29 => by rw [up_n h6, up_n h28]; exact hd a h6 h28 h29) (fun x hx => ?_) (fun b hb' => by rw [up_n (Ne.symm n68), up_s]; exact g28 b hb')
        rw [up_s, ud_s, bt_set (by omega) (by omega) hx, nI_c (by omega), Bool.or_eq_true, hb x hx, decide_eq_true_iff]
        constructor
        · intro q
          rcases q with q | q
          · exact ⟨by omega, q.2⟩
          · rw [q]
            exact ⟨by omega, z⟩
        · intro q
          by_cases e : x = y
          · exact Or.inr e
          · exact Or.inl ⟨by omega, q.2⟩
theorem f2_sp (hQ : ro_M τ rm A) {N : Nat} {gz : th_i} (h16 : N ≤ 16) : ∀ (n y : Nat) (g : th_i), y ≤ N → 16 - y < n → (g (A 12) 8).toInt = (N : Int) → d_m A g gm → (∀ b, b < y → g (A 65) b = -1) → (∀ b, b < y → (g (A 66) b = 0 ↔ 0 ≤ (gm (A 50) b).toInt)) → ∃ g', f_X12_findRings_2 τ Z gz rm (A 12) n g (nI y) = f_X12_findRings_45 τ Z gz rm (A 12) (fr_m (fr_R τ g' rm (A 12)) 0 + 1) g' 0 ∧ d_m A g' gm ∧ (∀ b, b < N → g' (A 65) b = -1) ∧ ∀ b, b < N → (g' (A 66) b = 0 ↔ 0 ≤ (gm (A 50) b).toInt) := by
  have t65 := hQ.t 34 65 (by decide)
  have t66 := hQ.t 35 66 (by decide)
  have t50 := hQ.t 12 50 (by decide)
  have n56 := ro_ne t65 t66 (by decide)
  intro n
  induction n with
  | zero => intro y g _ h; exact absurd h (Nat.not_lt_zero _)
  | succ n ih =>
    intro y g hy h hN hd h65 h66
    have ty := nI_t (k := y) (by omega)
    have hu : f_X12_findRings_2 τ Z gz rm (A 12) (n + 1) g (nI y) = if g (A 12) 8 ≤ nI y then f_X12_findRings_45 τ Z gz rm (A 12) (fr_m (fr_R τ g rm (A 12)) 0 + 1) g 0 else if (0 : Int32) ≤ va_up g (A 65) (upd (g (A 65)) (nI y).toNatClampNeg (-1)) (A 50) (nI y).toNatClampNeg then f_X12_findRings_2 τ Z gz rm (A 12) n (va_up (va_up g (A 65) (upd (g (A 65)) (nI y).toNatClampNeg (-1))) (A 66) (upd (va_up g (A 65) (upd (g (A 65)) (nI y).toNatClampNeg (-1)) (A 66)) (nI y).toNatClampNeg 0)) (nI y + 1) else f_X12_findRings_2 τ Z gz rm (A 12) n (va_up (va_up g (A 65) (upd (g (A 65)) (nI y).toNatClampNeg (-1))) (A 66) (upd (va_up g (A 65) (upd (g (A 65)) (nI y).toNatClampNeg (-1)) (A 66)) (nI y).toNatClampNeg 1)) (nI y + 1) := by
      rw [← hQ.g 34 65 (by decide), ← hQ.g 35 66 (by decide), ← hQ.g 12 50 (by decide)]
      rfl
    rw [hu]
    by_cases c : g (A 12) 8 ≤ nI y
    · rw [if_pos c]
      have c' := i_le.mp c
      have : y = N := by omega
      subst this
      exact ⟨g, rfl, hd, h65, h66⟩
    · rw [if_neg c]
      have c' := i_ltI.mp (Int32.not_le.mp c)
      have hyN : y < N := by omega
      have e50 : g (A 50) = gm (A 50) := hd.at hQ t50 (by decide) (by decide) (by decide)
      rw [nI_c (by omega), up_n (ro_ne t50 t65 (by decide)), e50, nI_sc (by omega), up_n (Ne.symm n56)]
      have go : ∀ v : Int32, (v = 0 ↔ 0 ≤ (gm (A 50) y).toInt) → ∃ g', f_X12_findRings_2 τ Z gz rm (A 12) n (va_up (va_up g (A 65) (upd (g (A 65)) y (-1))) (A 66) (upd (g (A 66)) y v)) (nI (y + 1)) = f_X12_findRings_45 τ Z gz rm (A 12) (fr_m (fr_R τ g' rm (A 12)) 0 + 1) g' 0 ∧ d_m A g' gm ∧ (∀ b, b < N → g' (A 65) b = -1) ∧ ∀ b, b < N → (g' (A 66) b = 0 ↔ 0 ≤ (gm (A 50) b).toInt) := fun v hv => by
        refine ih (y + 1) _ (by omega) (by omega) (by rw [up_n (ro_ne hQ.1 t66 (by decide)), up_n (ro_ne hQ.1 t65 (by decide))]; exact hN) (fun a a1 a2 a3 => by rw [up_n a2, up_n a1]; exact hd a a1 a2 a3) (fun b hb => ?_) (fun b hb => ?_)
        · rw [up_n n56, up_s]
          by_cases e : b = y
          · rw [e, ud_s]
          · rw [ud_n e]
            exact h65 b (by omega)
        · rw [up_s]
          by_cases e : b = y
          · rw [e, ud_s]
            exact hv
          · rw [ud_n e]
            exact h66 b (by omega)
      by_cases c0 : (0 : Int32) ≤ gm (A 50) y
      · rw [if_pos c0]
        have c0' := i_le.mp c0
        rw [k_0] at c0'
        exact go 0 ⟨fun _ => c0', fun _ => rfl⟩
      · rw [if_neg c0]
        refine go 1 ⟨fun q => absurd q (by decide), fun q => absurd (i_le.mpr (by rw [k_0]; exact q)) c0⟩
theorem rings (Q : q_all τ Z gi gr gm rm A) (K : c_core τ gi gr gm A) (W : c_wish τ gi gr gm A) (V : c_wnb gm A) : ∃ N : Nat, (gm (A 12) 8).toInt = (N : Int) ∧ N ≤ 16 ∧ RS gi gm A N (F_X6_draw τ Z gi gr (A 6)) (F_X12_findRings τ Z gm rm (A 12)) ∧ ∀ b, b < N → ¬ F_X12_findRings τ Z gm rm (A 12) (A 66) b = 0 := by
  have Q' := Q
  obtain ⟨hJ, hJm, hC, hQ, no, nb, wi, cb, cu, ct, cs, cl, cr, cw⟩ := Q'
  obtain ⟨a1, a2, -⟩ := id K
  have no' : gm (A 12) 8 = gi (A 1) 6 := no.symm
  have n16 := n_b hJ hC
  have n161 := n16.1
  have n162 := n16.2
  have cN := i_cl n161
  have t1 := hC.t 1 1 (by decide) rfl
  have t6 := hC.t 6 6 (by decide) rfl
  have hN : (gm (A 12) 8).toInt = (((gi (A 1) 6).toNatClampNeg : Nat) : Int) := by rw [no']; exact cN.symm
  have h16 : (gi (A 1) 6).toNatClampNeg ≤ 16 := by omega
  refine ⟨(gi (A 1) 6).toNatClampNeg, hN, h16, ?_⟩
  generalize (gi (A 1) 6).toNatClampNeg = N at hN h16 cN
  obtain ⟨g', e1, d1, d2, d3⟩ := d7_sp (Z := Z) (gz := gi) hC h16 (fun b hb => (be_x a1 (i := b) (by omega)).imp id (fun q => q.1)) ((16 - (0 : Int32).toInt).toNat + 1) 0 (va_up gi (A 6) (upd (gi (A 6)) 3 0)) (Nat.zero_le _) (by decide) (by rw [up_n (ro_ne t1 t6 (by decide))]; exact cN.symm) (fun a h6 _ _ => up_n h6) (fun x hx => by
    rw [up_s, ud_s, b_0]
    exact ⟨fun q => absurd q (by decide), fun q => absurd q.1 (Nat.not_lt_zero _)⟩) (fun b hb => absurd hb (Nat.not_lt_zero _))
  obtain ⟨m', f1, f2, f3, f4⟩ := f2_sp (Z := Z) (gm := gm) (gz := gm) hQ h16 ((16 - (0 : Int32).toInt).toNat + 1) 0 gm (Nat.zero_le _) (by decide) hN (fun _ _ _ _ => rfl) (fun b hb => absurd hb (Nat.not_lt_zero _)) (fun b hb => absurd hb (Nat.not_lt_zero _))
  rw [show nI 0 = 0 by decide] at e1 f1
  have e1 : F_X6_draw τ Z gi gr (A 6) = _ := e1
  have f1 : F_X12_findRings τ Z gm rm (A 12) = _ := f1
  rw [e1, f1]
  have aX : ∀ b, b < N → gi (A 24) b = gm (A 50) b := fun b hb => a2 b (by omega)
  have t66 := hQ.t 35 66 (by decide)
  have hfr : fr_R τ m' rm (A 12) 35 = m' (A 66) := funext fun j => fr_at (hQ.e 35 66 (by decide)) t66 (by decide) rfl
  have hmu : mu A m' 0 < fr_m (fr_R τ m' rm (A 12)) 0 + 1 := by
    unfold mu fr_m
    rw [hfr, k_0]
    omega
  have hcl : ∀ (f : Nat → Int32) (n : Nat), fr_c f n ≤ n := fun f n => by
    induction n with
    | zero => exact Nat.le_refl _
    | succ n ih =>
      show fr_c f n + (if f n = 0 then 1 else 0) ≤ n + 1
      split <;> omega
  refine rs_main Q K W V hN h16 N g' m' 0 _ _ ⟨d1, f2, fun x hx q => ((d2 x hx).mp q).1, fun b hb => ?_, fun b hb q => ?_, fun b hb q => ?_, fun b hb q => ?_, fun b hb q => ?_, fun b hb q => ?_, fun b b' hb hb' q => ?_⟩ (hcl _ _) (by rw [k_0]; omega) (by decide) (Nat.lt_add_one _) hmu
  · rw [d2 b (by omega), f4 b hb, aX b hb]
    exact ⟨fun q => q.2, fun q => ⟨hb, q⟩⟩
  · rw [aX b hb]
    exact (f4 b hb).mp q
  · have : gi (A 24) b = -1 := by
      rcases be_x a1 (i := b) (by omega) with z | ⟨z, -⟩
      · exact z
      · exact absurd ((f4 b hb).mpr (by rw [← aX b hb]; exact z)) q
    rw [d3 b hb, f3 b hb, this]
  · rw [d3 b hb]
    exact m1_of (a1.1 b (by omega)).1 q
  · exact absurd ((f4 b hb).mpr (by rw [← aX b hb]; exact q.2)) q.1
  · exact absurd ((f4 b hb).mpr (by rw [← aX b hb]; exact q.2)) q.1
  · exact absurd ((f4 b hb).mpr (by rw [← aX b hb]; exact q.2)) q.1
theorem bf_at (hC : ro_C τ gr A) {g : th_i} {v : Int32} (h0 : 0 ≤ v.toInt) (h1 : v.toInt < 16) : F_X6_buoyFor τ Z g gr (A 6) v = g (A 28) v.toNatClampNeg := by
  unfold F_X6_buoyFor
  dsimp only
  rw [w0_c, if_neg (w0_in (by rw [k_0]; exact h0) (by rw [k_15]; omega)), hC.g 6 1 28 (by decide)]
theorem s_ring (Q : q_all τ Z gi gr gm rm A) (K : c_core τ gi gr gm A) (W : c_wish τ gi gr gm A) (V : c_wnb gm A) {v r1 r2 : Int32} (e1 : F_X11_ring τ Z gi gr (A 11) v = (r1, gi1)) (e2 : F_X12_ring τ Z gm rm (A 12) v = (r2, gm2)) : r1 = r2 := by
  obtain ⟨N, hN, h16, R, hz⟩ := rings Q K W V
  obtain ⟨hJ, hJm, hC, hQ, no, nb, wi, cb, cu, ct, cs, cl, cr, cw⟩ := Q
  obtain ⟨a1, a2, -⟩ := K
  have no' : gm (A 12) 8 = gi (A 1) 6 := no.symm
  have n162 := (n_b hJ hC).2
  unfold F_X11_ring at e1
  unfold F_X12_ring F_X12_isBoat at e2
  dsimp only at e1 e2
  rw [hC.g 11 0 1 (by decide), hC.g 1 4 2 (by decide), hC.g 11 3 6 (by decide)] at e1
  rw [w0_m, no', hQ.g 12 50 (by decide), hQ.g 34 65 (by decide)] at e2
  by_cases g1 : W0 v 0 (gi (A 1) 6 - 1) = 0
  · rw [bo_no hJ hC g1] at e1
    rw [if_pos g1] at e2
    exact (s_fip hC hQ (w1 := 1) (by decide) (by decide) e1 e2).1
  obtain ⟨f1, f2, f3, f4⟩ := bo_yes (Z := Z) hJ hC g1
  obtain ⟨qb, hqb⟩ := cb v.toNatClampNeg (by rw [f3, no']; exact f4)
  rw [f1, hqb.1] at e1
  rw [if_neg g1] at e2
  simp only [Option.elim_some] at e1
  have hv0 : 0 ≤ v.toInt := by omega
  rw [bo_of (hC.e 2 0 24 (by decide)) hv0 (by omega)] at e1
  rw [← a2 v.toNatClampNeg (by rw [no']; omega)] at e2
  rcases be_x a1 (i := v.toNatClampNeg) (by omega) with z1 | ⟨z1, -⟩
  · rw [z1, if_pos rfl] at e1
    rw [z1, if_neg (by decide)] at e2
    exact (s_fip hC hQ (w1 := 3) (by decide) (by decide) e1 e2).1
  · rw [if_neg (fun q => by rw [q, k_m1] at z1; omega), bf_at hC hv0 (by omega)] at e1
    rw [if_pos (i_le.mpr (by rw [k_0]; exact z1))] at e2
    rw [no'] at hN
    rw [← (pr2 e1).1, ← (pr2 e2).1]
    exact R.2.2.2.2.2.1 _ (by omega) (hz _ (by omega))
end RE
end
section
/-! ===== swap() ===== -/
def sw_ok (y : Nat) (X Y G x' y' : Nat → Int32) : Prop := (∀ b : Nat, b < y → 0 ≤ (X b).toInt → x' b = G b) ∧ (∀ b : Nat, ¬ (b < y ∧ 0 ≤ (X b).toInt) → x' b = X b) ∧ (∀ b : Nat, b < y → 0 ≤ (X b).toInt → y' (G b).toNatClampNeg = nI b) ∧ ∀ p : Nat, (∀ b : Nat, b < y → 0 ≤ (X b).toInt → ¬ (G b).toNatClampNeg = p) → y' p = Y p
theorem sw_0 {X Y G : Nat → Int32} : sw_ok 0 X Y G X Y := ⟨fun b h => absurd h (Nat.not_lt_zero _), fun _ _ => rfl, fun b h => absurd h (Nat.not_lt_zero _), fun _ _ => rfl⟩
theorem sw_n {y : Nat} {X Y G x' y' : Nat → Int32} (h : sw_ok y X Y G x' y') (hn : (X y).toInt < 0) : sw_ok (y + 1) X Y G x' y' := by
  obtain ⟨h1, h2, h3, h4⟩ := h
  have ne : ∀ b : Nat, b < y + 1 → 0 ≤ (X b).toInt → b < y := fun b hb hx => by
    by_cases e : b = y
    · rw [e] at hx
      omega
    · omega
  exact ⟨fun b hb hx => h1 b (ne b hb hx) hx, fun b hb => h2 b (fun q => hb ⟨by omega, q.2⟩), fun b hb hx => h3 b (ne b hb hx) hx, fun p hp => h4 p (fun b hb hx => hp b (by omega) hx)⟩
theorem sw_y {y : Nat} {X Y G x' y' : Nat → Int32} (h : sw_ok y X Y G x' y') (hy : 0 ≤ (X y).toInt) (inj : ∀ b : Nat, b < y → 0 ≤ (X b).toInt → ¬ (G b).toNatClampNeg = (G y).toNatClampNeg) : sw_ok (y + 1) X Y G (upd x' y (G y)) (upd y' (G y).toNatClampNeg (nI y)) := by
  obtain ⟨h1, h2, h3, h4⟩ := h
  refine ⟨fun b hb hx => ?_, fun b hb => ?_, fun b hb hx => ?_, fun p hp => ?_⟩
  · by_cases e : b = y
    · rw [e, ud_s]
    · rw [ud_n e]
      exact h1 b (by omega) hx
  · have e : b ≠ y := fun e => hb ⟨by omega, by rw [e]; exact hy⟩
    rw [ud_n e]
    exact h2 b (fun q => hb ⟨by omega, q.2⟩)
  · by_cases e : b = y
    · rw [e, ud_s]
    · rw [ud_n (inj b (by omega) hx)]
      exact h3 b (by omega) hx
  · rw [ud_n (fun q => hp y (by omega) hy q.symm)]
    exact h4 p (fun b hb hx => hp b (by omega) hx)
def kc (f g : Nat → Int32) : Nat → Nat → Int32 → Int32
  | 0, _, x => x
  | k + 1, y, x => kc f g k (y + 1) (if f y = g y then x else x + 1)
theorem kc_c {f g f' g' : Nat → Int32} {N : Nat} (h : ∀ b, b < N → f b = f' b ∧ g b = g' b) : ∀ (k y : Nat) (x : Int32), y + k ≤ N → kc f g k y x = kc f' g' k y x := by
  intro k
  induction k with
  | zero => intro y x _; rfl
  | succ k ih =>
    intro y x hy
    show kc f g k (y + 1) (if f y = g y then x else x + 1) = kc f' g' k (y + 1) (if f' y = g' y then x else x + 1)
    rw [(h y (by omega)).1, (h y (by omega)).2]
    exact ih _ _ (by omega)
section SP
variable {τ τ1 : th_t} {Z : th_Zt} {gi gi1 gm gm2 : th_i} {gr gr1 rm rm2 : th_r} {A : Nat → Nat} {M1 M2 : List Nat}
theorem pu_no {B : Nat} {v p : Int32} (h : p.toInt < 0) : F_X1_put τ Z gi gr B v p = gi := by
  unfold F_X1_put
  dsimp only
  rw [w0_c, w0_c]
  by_cases c : W0 v 0 15 = 0
  · rw [if_pos c]
  · rw [if_neg c, if_pos (w0_iff.mpr (fun q => by have := i_le.mp q.1; rw [k_0] at this; omega))]
theorem dw_fr (hb : ∀ i : Nat, i < 16 → ∀ q, gr (A 21) i = some q → τ q = 8 ∨ τ q = 9 ∨ τ q = 4) (hC : ro_C τ gr A) {a : Nat} (ha : ¬ (τ a = 8 ∨ τ a = 9 ∨ τ a = 4)) : ∀ (n : Nat) (g : th_i) (y : Int32), f_X0_dropWishes_2 τ Z gi gr (A 1) n g y a = g a := by
  intro n
  induction n with
  | zero => intro g y; rfl
  | succ n ih =>
    intro g y
    unfold f_X0_dropWishes_2 f_X0_dropWishes_25
    dsimp only
    by_cases hc : g (A 1) 6 ≤ y
    · rw [if_pos hc]
    · rw [if_neg hc]
      cases ho : F_X0_boatAt τ Z g gr (A 1) y with
      | none => exact ih _ _
      | some q =>
        have hq : ∃ i, i < 16 ∧ gr (A 21) i = some q := by
          unfold F_X0_boatAt at ho
          dsimp only at ho
          rw [w0_c, hC.g 1 1 21 (by decide)] at ho
          by_cases c1 : W0 y 0 (g (A 1) 6 - 1) = 0
          · rw [if_pos c1] at ho
            cases ho
          · rw [if_neg c1] at ho
            by_cases c2 : (16 : Int32) ≤ y
            · rw [if_pos c2] at ho
              cases ho
            · rw [if_neg c2] at ho
              have c2' := i_ltI.mp (Int32.not_le.mp c2)
              rw [k_16] at c2'
              have c1' := i_le.mp (w0_no c1).1
              rw [k_0] at c1'
              exact ⟨_, by have := i_cl c1'; omega, ho⟩
        obtain ⟨i, hi, hq⟩ := hq
        have nq : a ≠ q := fun e => ha (by rw [e]; exact hb i hi q hq)
        show f_X0_dropWishes_2 τ Z gi gr (A 1) n (va_up g q (upd (g q) 4 0)) (y + 1) a = g a
        rw [ih, up_n nq]
theorem sc_11 (hC : ro_C τ gr A) {N : Nat} (h16 : N ≤ 16) {g gz : th_i} (hN : (g (A 1) 6).toInt = (N : Int)) : ∀ (n y : Nat) (x : Int32), y ≤ N → 16 - y < n → f_X11_swap_11 τ Z gz gr (A 11) n g x (nI y) = f_X11_swap_55 τ Z gz gr (A 11) ((16 - (0 : Int32).toInt).toNat + 1) g (kc (g (A 28)) (g (A 24)) (N - y) y x) 0 := by
  intro n
  induction n with
  | zero => intro y x _ h; exact absurd h (Nat.not_lt_zero _)
  | succ n ih =>
    intro y x hy h
    have ty := nI_t (k := y) (by omega)
    have hu : f_X11_swap_11 τ Z gz gr (A 11) (n + 1) g x (nI y) = if g (A 1) 6 ≤ nI y then f_X11_swap_55 τ Z gz gr (A 11) ((16 - (0 : Int32).toInt).toNat + 1) g x 0 else if F_X6_buoyFor τ Z g gr (A 6) (nI y) = F_X1_buoyOf τ Z g gr (A 2) (nI y) then f_X11_swap_11 τ Z gz gr (A 11) n g x (nI y + 1) else f_X11_swap_11 τ Z gz gr (A 11) n g (x + 1) (nI y + 1) := by
      rw [← hC.g 1 4 2 (by decide), ← hC.g 11 0 1 (by decide), ← hC.g 11 3 6 (by decide)]
      rfl
    rw [hu]
    by_cases c : g (A 1) 6 ≤ nI y
    · rw [if_pos c]
      have c' := i_le.mp c
      have : N - y = 0 := by omega
      rw [this]
      rfl
    · rw [if_neg c]
      have c' := i_ltI.mp (Int32.not_le.mp c)
      rw [bf_at hC (by omega) (by omega), bo_of (hC.e 2 0 24 (by decide)) (by omega) (by omega), nI_c (by omega), nI_sc (by omega), ih (y + 1) _ (by omega) (by omega), ih (y + 1) _ (by omega) (by omega)]
      have e : N - y = (N - (y + 1)) + 1 := by omega
      rw [e]
      show _ = f_X11_swap_55 τ Z gz gr (A 11) ((16 - (0 : Int32).toInt).toNat + 1) g (kc (g (A 28)) (g (A 24)) (N - (y + 1)) (y + 1) (if g (A 28) y = g (A 24) y then x else x + 1)) 0
      by_cases q : g (A 28) y = g (A 24) y
      · rw [if_pos q, if_pos q]
      · rw [if_neg q, if_neg q]
theorem sc_55 (hC : ro_C τ gr A) {N : Nat} (h16 : N ≤ 16) {gz : th_i} {X Y G : Nat → Int32} (hG : ∀ b, b < N → 0 ≤ (X b).toInt → 0 ≤ (G b).toInt ∧ (G b).toInt ≤ 11) (hG0 : ∀ b, b < N → (X b).toInt < 0 → (G b).toInt < 0) (inj : ∀ b b', b < N → b' < N → 0 ≤ (X b).toInt → 0 ≤ (X b').toInt → (G b).toNatClampNeg = (G b').toNatClampNeg → b = b') : ∀ (n y : Nat) (g : th_i) (x : Int32), y ≤ N → 16 - y < n → (g (A 1) 6).toInt = (N : Int) → g (A 28) = G → sw_ok y X Y G (g (A 24)) (g (A 25)) → ∃ g', f_X11_swap_55 τ Z gz gr (A 11) n g x (nI y) = (x, F_X0_dropWishes τ Z g' gr (A 1)) ∧ sw_ok N X Y G (g' (A 24)) (g' (A 25)) := by
  have t1 := hC.t 1 1 (by decide) rfl
  have t24 := hC.t 24 24 (by decide) rfl
  have t25 := hC.t 25 25 (by decide) rfl
  have t28 := hC.t 28 28 (by decide) rfl
  intro n
  induction n with
  | zero => intro y g x _ h; exact absurd h (Nat.not_lt_zero _)
  | succ n ih =>
    intro y g x hy h hN hg28 S
    have ty := nI_t (k := y) (by omega)
    have hu : f_X11_swap_55 τ Z gz gr (A 11) (n + 1) g x (nI y) = if g (A 1) 6 ≤ nI y then (x, F_X0_dropWishes τ Z g gr (A 1)) else f_X11_swap_55 τ Z gz gr (A 11) n (F_X1_put τ Z g gr (A 2) (nI y) (F_X6_buoyFor τ Z g gr (A 6) (nI y))) x (nI y + 1) := by
      rw [← hC.g 1 4 2 (by decide), ← hC.g 11 0 1 (by decide), ← hC.g 11 3 6 (by decide)]
      rfl
    rw [hu]
    by_cases c : g (A 1) 6 ≤ nI y
    · rw [if_pos c]
      have c' := i_le.mp c
      have : y = N := by omega
      subst this
      exact ⟨g, rfl, S⟩
    · rw [if_neg c]
      have c' := i_ltI.mp (Int32.not_le.mp c)
      have yN : y < N := by omega
      rw [bf_at hC (by omega) (by omega), nI_c (by omega), nI_sc (by omega), hg28]
      by_cases q : 0 ≤ (X y).toInt
      · obtain ⟨q1, q2⟩ := hG y yN q
        obtain ⟨p1, p2, p3⟩ := pu_eq (τ := τ) (Z := Z) (gi := g) (v := nI y) (p := G y) (hC.e 2 0 24 (by decide)) (hC.e 2 1 25 (by decide)) (ro_ne t24 t25 (by decide)) (by omega) (by omega) q1 (by omega)
        rw [nI_c (by omega)] at p1
        exact ih (y + 1) _ x (by omega) (by omega) (by rw [p3 _ (ro_ne t1 t24 (by decide)) (ro_ne t1 t25 (by decide))]; exact hN) (by rw [p3 _ (ro_ne t28 t24 (by decide)) (ro_ne t28 t25 (by decide))]; exact hg28) (by
          rw [p1, p2]
          exact sw_y S q (fun b hb hx e => by have := inj b y (by omega) yN hx q e; omega))
      · rw [pu_no (hG0 y yN (by omega))]
        exact ih (y + 1) g x (by omega) (by omega) hN hg28 (sw_n S (by omega))
theorem sm_8 (hQ : ro_M τ rm A) {N : Nat} (h16 : N ≤ 16) {gz : th_i} {X Y G : Nat → Int32} (hG : ∀ b, b < N → 0 ≤ (X b).toInt → 0 ≤ (G b).toInt ∧ (G b).toInt ≤ 11) (hG0 : ∀ b, b < N → (X b).toInt < 0 → (G b).toInt < 0) (inj : ∀ b b', b < N → b' < N → 0 ≤ (X b).toInt → 0 ≤ (X b').toInt → (G b).toNatClampNeg = (G b').toNatClampNeg → b = b') : ∀ (n y : Nat) (g : th_i) (x : Int32), y ≤ N → 16 - y < n → (g (A 12) 8).toInt = (N : Int) → g (A 65) = G → sw_ok y X Y G (g (A 50)) (g (A 46)) → ∃ g', f_X12_swap_8 τ Z gz rm (A 12) n g x (nI y) = (kc G X (N - y) y x, g') ∧ sw_ok N X Y G (g' (A 50)) (g' (A 46)) := by
  have t56 := hQ.t 21 56 (by decide)
  have t50 := hQ.t 12 50 (by decide)
  have t46 := hQ.t 7 46 (by decide)
  have t65 := hQ.t 34 65 (by decide)
  intro n
  induction n with
  | zero => intro y g x _ h; exact absurd h (Nat.not_lt_zero _)
  | succ n ih =>
    intro y g x hy h hN hg65 S
    have ty := nI_t (k := y) (by omega)
    have hu : f_X12_swap_8 τ Z gz rm (A 12) (n + 1) g x (nI y) = if g (A 12) 8 ≤ nI y then (x, g) else if g (A 65) (nI y).toNatClampNeg = g (A 50) (nI y).toNatClampNeg then (if va_up g (A 56) (upd (g (A 56)) (nI y).toNatClampNeg 0) (A 65) (nI y).toNatClampNeg < 0 then f_X12_swap_8 τ Z gz rm (A 12) n (va_up g (A 56) (upd (g (A 56)) (nI y).toNatClampNeg 0)) (x + 0) (nI y + 1) else f_X12_swap_8 τ Z gz rm (A 12) n (F_X12_lies τ Z (va_up g (A 56) (upd (g (A 56)) (nI y).toNatClampNeg 0)) rm (A 12) (nI y) (va_up g (A 56) (upd (g (A 56)) (nI y).toNatClampNeg 0) (A 65) (nI y).toNatClampNeg)) (x + 0) (nI y + 1)) else (if va_up g (A 56) (upd (g (A 56)) (nI y).toNatClampNeg 0) (A 65) (nI y).toNatClampNeg < 0 then f_X12_swap_8 τ Z gz rm (A 12) n (va_up g (A 56) (upd (g (A 56)) (nI y).toNatClampNeg 0)) (x + 1) (nI y + 1) else f_X12_swap_8 τ Z gz rm (A 12) n (F_X12_lies τ Z (va_up g (A 56) (upd (g (A 56)) (nI y).toNatClampNeg 0)) rm (A 12) (nI y) (va_up g (A 56) (upd (g (A 56)) (nI y).toNatClampNeg 0) (A 65) (nI y).toNatClampNeg)) (x + 1) (nI y + 1)) := by
      rw [← hQ.g 34 65 (by decide), ← hQ.g 21 56 (by decide), ← hQ.g 12 50 (by decide)]
      rfl
    rw [hu]
    by_cases c : g (A 12) 8 ≤ nI y
    · rw [if_pos c]
      have c' := i_le.mp c
      have : y = N := by omega
      subst this
      refine ⟨g, ?_, S⟩
      rw [show y - y = 0 by omega]
      rfl
    · rw [if_neg c]
      have c' := i_ltI.mp (Int32.not_le.mp c)
      have yN : y < N := by omega
      have x50 : g (A 50) y = X y := S.2.1 y (fun q => absurd q.1 (Nat.lt_irrefl _))
      rw [nI_c (by omega), nI_sc (by omega), up_n (ro_ne t65 t56 (by decide)), hg65, x50, Int32.add_zero]
      have e : N - y = (N - (y + 1)) + 1 := by omega
      have u12 : va_up g (A 56) (upd (g (A 56)) y 0) (A 12) = g (A 12) := up_n (ro_ne hQ.1 t56 (by decide))
      have u65 : va_up g (A 56) (upd (g (A 56)) y 0) (A 65) = G := by rw [up_n (ro_ne t65 t56 (by decide))]; exact hg65
      have u50 : va_up g (A 56) (upd (g (A 56)) y 0) (A 50) = g (A 50) := up_n (ro_ne t50 t56 (by decide))
      have u46 : va_up g (A 56) (upd (g (A 56)) y 0) (A 46) = g (A 46) := up_n (ro_ne t46 t56 (by decide))
      generalize va_up g (A 56) (upd (g (A 56)) y 0) = g4 at u12 u65 u50 u46
      have go : ∀ x' : Int32, ∃ g', (if G y < 0 then f_X12_swap_8 τ Z gz rm (A 12) n g4 x' (nI (y + 1)) else f_X12_swap_8 τ Z gz rm (A 12) n (F_X12_lies τ Z g4 rm (A 12) (nI y) (G y)) x' (nI (y + 1))) = (kc G X (N - (y + 1)) (y + 1) x', g') ∧ sw_ok N X Y G (g' (A 50)) (g' (A 46)) := fun x' => by
        by_cases q : 0 ≤ (X y).toInt
        · obtain ⟨q1, q2⟩ := hG y yN q
          rw [if_neg (fun z => by have := i_ltI.mp z; rw [k_0] at this; omega)]
          obtain ⟨l1, l2, l3⟩ := li_eq (τ := τ) (Z := Z) (gm := g4) hQ (v := nI y) (p := G y)
          rw [nI_c (by omega)] at l1
          exact ih (y + 1) _ x' (by omega) (by omega) (by rw [l3 _ (ro_ne hQ.1 t50 (by decide)) (ro_ne hQ.1 t46 (by decide)), u12]; exact hN) (by rw [l3 _ (ro_ne t65 t50 (by decide)) (ro_ne t65 t46 (by decide))]; exact u65) (by
            rw [l1, l2, u50, u46]
            exact sw_y S q (fun b hb hx e => by have := inj b y (by omega) yN hx q e; omega))
        · rw [if_pos (i_ltI.mpr (by rw [k_0]; exact hG0 y yN (by omega)))]
          exact ih (y + 1) g4 x' (by omega) (by omega) (by rw [u12]; exact hN) u65 (by rw [u50, u46]; exact sw_n S (by omega))
      have ek : kc G X (N - y) y x = kc G X (N - (y + 1)) (y + 1) (if G y = X y then x else x + 1) := by
        rw [e]
        rfl
      rw [ek]
      by_cases q : G y = X y
      · rw [if_pos q, if_pos q]
        exact go x
      · rw [if_neg q, if_neg q]
        exact go (x + 1)
/-- all swap: answers, berths -/
theorem s_swap (Q : q_all τ Z gi gr gm rm A) (K : c_core τ gi gr gm A) (W : c_wish τ gi gr gm A) (V : c_wnb gm A) (h1 : th_Mod M1 τ gi gr gi1 gr) (h2 : th_Mod M2 τ gm rm gm2 rm) (k1 : ∀ k ∈ [1002, 3500, 805, 905, 405], k ∉ M1) (k2 : ∀ k ∈ [1208, 1200, 1217, 5400, 5500], k ∉ M2) {r1 r2 : Int32} (e1 : F_X11_swap τ Z gi gr (A 11) = (r1, gi1)) (e2 : F_X12_swap τ Z gm rm (A 12) = (r2, gm2)) : r1 = r2 ∧ c_core τ gi1 gr gm2 A ∧ c_wnb gm2 A := by
  obtain ⟨N, hN, h16, R, hz⟩ := rings Q K W V
  have Q' := Q
  obtain ⟨hJ, hJm, hC, hQ, no, nb, wi, cb, cu, ct, cs, cl, cr, cw⟩ := Q'
  obtain ⟨a1, a2, a3, a4, a5, a6, a7, a8⟩ := K
  have no' : gm (A 12) 8 = gi (A 1) 6 := no.symm
  have nb' : gm (A 12) 0 = gi (A 1) 5 := nb.symm
  have n122 : (gm (A 12) 0).toInt ≤ 12 := by rw [nb']; exact (n_p hJ hC).2
  have t1 := hC.t 1 1 (by decide) rfl
  have t6 := hC.t 6 6 (by decide) rfl
  have t24 := hC.t 24 24 (by decide) rfl
  have t25 := hC.t 25 25 (by decide) rfl
  have t50 := hQ.t 12 50 (by decide)
  have t46 := hQ.t 7 46 (by decide)
  obtain ⟨R1, R2, -, -, -, R6, R7, R8, R9, R10⟩ := R
  unfold F_X11_swap at e1
  unfold F_X12_swap at e2
  dsimp only at e1 e2
  rw [hC.g 11 3 6 (by decide)] at e1
  have e2' := e2
  generalize F_X6_draw τ Z gi gr (A 6) = G at e1 R1 R6 R7 R8 R9 R10
  have mfr : ∀ a, fr_a A a → F_X12_findRings τ Z gm rm (A 12) a = gm a := fun a ha => fr_fr hQ ha
  generalize F_X12_findRings τ Z gm rm (A 12) = M at e2 R2 R6 R8 R9 R10 hz mfr
  have G24 : G (A 24) = gi (A 24) := R1.at hC t24 (by decide) (by decide) (by decide)
  have G25 : G (A 25) = gi (A 25) := R1.at hC t25 (by decide) (by decide) (by decide)
  have G1 : (G (A 1) 6).toInt = (N : Int) := by
    rw [R1.at hC t1 (by decide) (by decide) (by decide), ← no']
    exact hN
  have M50 : M (A 50) = gm (A 50) := R2.at hQ t50 (by decide) (by decide) (by decide)
  have M46 : M (A 46) = gm (A 46) := R2.at hQ t46 (by decide) (by decide) (by decide)
  have M12 : (M (A 12) 8).toInt = (N : Int) := by
    rw [R2.at hQ hQ.1 (by decide) (by decide) (by decide)]
    exact hN
  have dnl : ∀ b, b < N → 0 ≤ (gi (A 24) b).toInt → dn A gi M b := fun b hb h => ⟨hz b hb, h⟩
  have gl : ∀ b, b < N → 0 ≤ (gi (A 24) b).toInt → ∃ c, c < N ∧ 0 ≤ (gi (A 24) c).toInt ∧ G (A 28) b = gi (A 24) c := fun b hb h => by
    obtain ⟨c, c1, c2, c3⟩ := R8 b hb (dnl b hb h)
    exact ⟨c, c1, c2.2, c3⟩
  have xr : ∀ b, b < N → 0 ≤ (gi (A 24) b).toInt → (gi (A 24) b).toInt ≤ 11 ∧ (gi (A 24) b).toInt < (gm (A 12) 0).toInt := fun b hb h => by
    rcases be_x a1 (i := b) (by omega) with z | ⟨-, z2, z3, -⟩
    · rw [z, k_m1] at h
      omega
    · exact ⟨z3, z2⟩
  have hG : ∀ b, b < N → 0 ≤ (gi (A 24) b).toInt → 0 ≤ (G (A 28) b).toInt ∧ (G (A 28) b).toInt ≤ 11 := fun b hb h => by
    obtain ⟨c, c1, c2, c3⟩ := gl b hb h
    rw [c3]
    exact ⟨c2, (xr c c1 c2).1⟩
  have hG0 : ∀ b, b < N → (gi (A 24) b).toInt < 0 → (G (A 28) b).toInt < 0 := fun b hb h => by
    rw [R7 b hb h, k_m1]
    decide
  have inj : ∀ b b', b < N → b' < N → 0 ≤ (gi (A 24) b).toInt → 0 ≤ (gi (A 24) b').toInt → (G (A 28) b).toNatClampNeg = (G (A 28) b').toNatClampNeg → b = b' := fun b b' hb hb' h h' e => by
    have e1 := i_cl (hG b hb h).1
    have e2 := i_cl (hG b' hb' h').1
    exact R10 b b' hb hb' (dnl b hb h) (dnl b' hb' h') (i_inj (by omega))
  have eG : ∀ b, b < N → G (A 28) b = M (A 65) b := fun b hb => R6 b hb (hz b hb)
  have eX : ∀ b, b < N → gi (A 24) b = gm (A 50) b := fun b hb => a2 b (by omega)
  have s11 := sc_11 (Z := Z) hC h16 (g := G) (gz := gi) G1 ((16 - (0 : Int32).toInt).toNat + 1) 0 0 (Nat.zero_le _) (by decide)
  rw [show nI 0 = 0 by decide] at s11
  rw [s11] at e1
  obtain ⟨g', u1, u2⟩ := sc_55 (Z := Z) hC h16 (gz := gi) (X := gi (A 24)) (Y := gi (A 25)) hG hG0 inj ((16 - (0 : Int32).toInt).toNat + 1) 0 G (kc (G (A 28)) (G (A 24)) (N - 0) 0 0) (Nat.zero_le _) (by decide) G1 rfl (by rw [G24, G25]; exact sw_0)
  rw [show nI 0 = 0 by decide] at u1
  rw [u1] at e1
  obtain ⟨m', v1, v2⟩ := sm_8 (Z := Z) hQ h16 (gz := gm) (X := gm (A 50)) (Y := gm (A 46)) (G := M (A 65)) (fun b hb h => by rw [← eX b hb] at h; rw [← eG b hb]; exact hG b hb h) (fun b hb h => by rw [← eX b hb] at h; rw [← eG b hb]; exact hG0 b hb h) (fun b b' hb hb' h h' e => by
    rw [← eX b hb] at h
    rw [← eX b' hb'] at h'
    rw [← eG b hb, ← eG b' hb'] at e
    exact inj b b' hb hb' h h' e) ((16 - (0 : Int32).toInt).toNat + 1) 0 M 0 (Nat.zero_le _) (by decide) M12 rfl (by rw [M50, M46]; exact sw_0)
  rw [show nI 0 = 0 by decide] at v1
  rw [v1] at e2
  obtain ⟨b1, b2⟩ := pr2 e1
  obtain ⟨b3, b4⟩ := pr2 e2
  have hbt : ∀ i : Nat, i < 16 → ∀ q, gr (A 21) i = some q → τ q = 8 ∨ τ q = 9 ∨ τ q = 4 := fun i hi q hq => (hJ.at (hC.t 21 21 (by decide) rfl) (by decide)) i hi q hq
  have f24 : gi1 (A 24) = g' (A 24) := by
    rw [← b2]
    unfold F_X0_dropWishes
    exact dw_fr hbt hC (by rw [t24]; decide) _ _ _
  have f25 : gi1 (A 25) = g' (A 25) := by
    rw [← b2]
    unfold F_X0_dropWishes
    exact dw_fr hbt hC (by rw [t25]; decide) _ _ _
  rw [← f24, ← f25] at u2
  rw [b4] at v2
  obtain ⟨p1, p2, p3, p4⟩ := u2
  obtain ⟨w1, w2, w3, w4⟩ := v2
  have m8 := (ro_k h2 8 hQ.1 (by decide) (k2 1208 (by decide))).1
  have m0 := (ro_k h2 0 hQ.1 (by decide) (k2 1200 (by decide))).1
  have m17 := (ro_k h2 17 hQ.1 (by decide) (k2 1217 (by decide))).1
  have m54 := (ro_ka h2 (hQ.t 18 54 (by decide)) (by decide) (k2 5400 (by decide))).1
  have m55 := (ro_ka h2 (hQ.t 19 55 (by decide)) (by decide) (k2 5500 (by decide))).1
  have e10 := (ro_k h1 2 (hC.t 10 10 (by decide) rfl) (by decide) (k1 1002 (by decide))).1
  have e35 := (ro_ka h1 (hC.t 35 35 (by decide) rfl) (by decide) (k1 3500 (by decide))).1
  have e5 : ∀ q, (τ q = 8 ∨ τ q = 9 ∨ τ q = 4) → gi1 q 5 = gi q 5 := fun q t => (b_cell (k := 5) h1 t (k1 805 (by decide)) (k1 905 (by decide)) (k1 405 (by decide))).1
  refine ⟨?_, ?_, ?_⟩
  · rw [← b1, ← b3, G24]
    exact kc_c (N := N) (fun b hb => ⟨eG b hb, eX b hb⟩) _ _ _ (by omega)
  · unfold c_core
    rw [m8, m0, m17, m54, m55, e10, e35]
    refine ⟨⟨fun i hi => ?_, fun p hp => ?_⟩, fun i hi => ?_, fun p hp => ?_, li_mono a4 (Int.le_refl _) (fun k hk => ?_), a5, a6, fun i q hi hq => ?_, a8⟩
    · by_cases c : i < N ∧ 0 ≤ (gi (A 24) i).toInt
      · rw [p1 i c.1 c.2]
        obtain ⟨c', c1, c2, c3⟩ := gl i c.1 c.2
        have r := xr c' c1 c2
        have hg := hG i c.1 c.2
        refine ⟨⟨by omega, hg.2⟩, fun _ => ⟨by omega, by rw [c3]; exact r.2, ?_⟩⟩
        rw [p3 i c.1 c.2, nI_t (by omega)]
      · rw [p2 i c]
        have : gi (A 24) i = -1 := by
          rcases be_x a1 (i := i) hi with z | ⟨z1, -, -, z4, -⟩
          · exact z
          · exact absurd ⟨by omega, z1⟩ c
        rw [this]
        exact ⟨⟨by rw [k_m1]; decide, by rw [k_m1]; decide⟩, fun q => by rw [k_m1] at q; omega⟩
    · by_cases c : ∃ b, b < N ∧ 0 ≤ (gi (A 24) b).toInt ∧ (G (A 28) b).toNatClampNeg = p
      · obtain ⟨b, c1, c2, c3⟩ := c
        obtain ⟨d, d1, d2, d3⟩ := gl b c1 c2
        have r := xr d d1 d2
        have hg := hG b c1 c2
        have cg := i_cl hg.1
        have ey : gi1 (A 25) p = nI b := by rw [← c3]; exact p3 b c1 c2
        have tb := nI_t (k := b) (by omega)
        rw [ey]
        refine ⟨⟨by omega, by omega⟩, fun _ => ⟨?_, by omega, ?_⟩⟩
        · rw [d3] at cg
          rw [← c3, d3]
          omega
        · rw [nI_c (by omega), p1 b c1 c2]
          omega
      · have ey : gi1 (A 25) p = gi (A 25) p := p4 p (fun b hb hx e => c ⟨b, hb, hx, e⟩)
        have : gi (A 25) p = -1 := by
          rcases be_y a1 (p := p) hp with z | ⟨z1, z2, z3, z4, z5⟩
          · exact z
          · have cz := i_cl z1
            obtain ⟨b, g1, g2, g3⟩ := R9 (gi (A 25) p).toNatClampNeg (by omega) (dnl _ (by omega) (by omega))
            exact absurd ⟨b, g1, g2.2, by rw [g3]; exact cl_in z5.symm⟩ c
        rw [ey, this]
        exact ⟨⟨by rw [k_m1]; decide, by rw [k_m1]; decide⟩, fun q => by rw [k_m1] at q; omega⟩
    · by_cases c : 0 ≤ (gi (A 24) i).toInt
      · rw [p1 i (by omega) c, w1 i (by omega) (by rw [← eX i (by omega)]; exact c)]
        exact eG i (by omega)
      · rw [p2 i (fun q => c q.2), w2 i (fun q => c (by rw [eX i (by omega)]; exact q.2))]
        exact eX i (by omega)
    · by_cases c : ∃ b, b < N ∧ 0 ≤ (gi (A 24) b).toInt ∧ (G (A 28) b).toNatClampNeg = p
      · obtain ⟨b, c1, c2, c3⟩ := c
        have ey : gi1 (A 25) p = nI b := by rw [← c3]; exact p3 b c1 c2
        have em : gm2 (A 46) p = nI b := by
          rw [← c3, eG b c1]
          exact w3 b c1 (by rw [← eX b c1]; exact c2)
        rw [ey, em]
      · rw [p4 p (fun b hb hx e => c ⟨b, hb, hx, e⟩), w4 p (fun b hb hx e => c ⟨b, hb, by rw [eX b hb]; exact hx, by rw [eG b hb]; exact e⟩)]
        exact a3 p hp
    · rw [p2 k (fun q => by rw [hk, k_m1] at q; omega)]
      exact hk
    · obtain ⟨t, k⟩ := a7 i q hi hq
      exact ⟨t, by rw [e5 q t]; exact k⟩
  · intro i j hi hj
    have n16m : rg 0 16 (gm (A 12) 8) := by rw [no']; exact n_b hJ hC
    have f12 : F_X12_findRings τ Z gm rm (A 12) (A 12) = gm (A 12) := fr_fr hQ (fr_of hQ hQ.1 (by decide) (by decide) (by decide))
    have f56 : F_X12_findRings τ Z gm rm (A 12) (A 56) = gm (A 56) := fr_fr hQ (fr_of hQ (hQ.t 21 56 (by decide)) (by decide) (by decide) (by decide))
    have mo := ms_8 (Z := Z) (gi := gm) hQ ((16 - (0 : Int32).toInt).toNat + 1) (F_X12_findRings τ Z gm rm (A 12)) 0 0 (by rw [f12]; exact n16m) (by decide) (Nat.lt_add_one _)
    rw [e2', f12, f56] at mo
    dsimp only at mo
    have z : gm2 (A 56) i = 0 := by
      by_cases c : (i : Int) < (gm (A 12) 8).toInt
      · exact mo.1 i (by rw [k_0]; omega) c
      · rw [mo.2 i (Or.inr (by omega))]
        exact W.2.2 i hi (by omega)
    rw [z, k_0] at hj
    omega
end SP
end
section
/-! ===== a STORM leaves the berths alone; wishes are numbers of BUOYS ===== -/
section BL
variable {τ τ1 : th_t} {Z : th_Zt} {gi gi1 gm gm2 : th_i} {gr gr1 rm rm2 : th_r} {A : Nat → Nat} {M1 M2 : List Nat}
theorem lf_fr {B X Y a : Nat} {g : th_i} {v : Int32} (hX : gr B 0 = some X) (hY : gr B 1 = some Y) (h1 : a ≠ X) (h2 : a ≠ Y) : F_X1_lift τ Z g gr B v a = g a := by
  unfold F_X1_lift
  dsimp only
  rw [hX, hY]
  by_cases c1 : F_X11_within τ Z g gr v 0 15 = 0
  · rw [if_pos c1]
  · rw [if_neg c1]
    by_cases c2 : F_X11_within τ Z g gr (F_X1_buoyOf τ Z g gr B v) 0 11 = 0
    · rw [if_pos c2]
    · rw [if_neg c2]
      show va_up (va_up g Y _) X _ a = g a
      rw [up_n h1, up_n h2]
theorem bl_21 (hC : ro_C τ gr A) {s : Int32} : ∀ (n : Nat) (g : th_i) (y : Int32) (a : Nat), a ≠ A 5 → a ≠ A 38 → a ≠ A 39 → f_X5_blow_21 τ Z gi gr (A 5) s n g y a = g a := by
  have rX := hC.e 13 0 38 (by decide)
  have rY := hC.e 13 1 39 (by decide)
  intro n
  induction n with
  | zero => intro g y a _ _ _; rfl
  | succ n ih =>
    intro g y a h5 h38 h39
    unfold f_X5_blow_21 f_X5_blow_113
    dsimp only
    rw [hC.g 5 0 1 (by decide), hC.g 5 1 13 (by decide)]
    by_cases c : g (A 1) 6 ≤ y
    · rw [if_pos c]
    · rw [if_neg c]
      cases F_X0_boatAt τ Z g gr (A 1) y with
      | none => exact ih _ _ a h5 h38 h39
      | some q =>
        cases F_X0_buoyAt τ Z g gr (A 1) (F_X1_buoyOf τ Z g gr (A 13) y) with
        | none => exact ih _ _ a h5 h38 h39
        | some u =>
          simp only [Option.elim_some]
          by_cases c2 : F_X3_holds τ Z g gr u q s = 0
          · rw [if_pos c2, ih _ _ a h5 h38 h39, pu_fr rX rY h38 h39, lf_fr rX rY h38 h39, up_n h5]
          · rw [if_neg c2]
            exact ih _ _ a h5 h38 h39
theorem bl_fr (hC : ro_C τ gr A) {s : Int32} {a : Nat} (h5 : a ≠ A 5) (h38 : a ≠ A 38) (h39 : a ≠ A 39) : F_X5_blow τ Z gi gr (A 5) s a = gi a := by
  unfold F_X5_blow F_X1_copyFrom
  dsimp only
  rw [hC.g 5 0 1 (by decide), hC.g 5 1 13 (by decide), hC.g 1 4 2 (by decide), hC.g 13 0 38 (by decide), hC.g 13 1 39 (by decide), bl_21 hC _ _ _ a h5 h38 h39, up_n h5, up_n h39, up_n h38]
/-- what stays of the core through a STORM -/
theorem c_core.sto (hC : ro_C τ gr A) (hQ : ro_M τ rm A) (h1 : th_Mod M1 τ gi gr gi1 gr) (h2 : th_Mod M2 τ gm rm gm2 rm) (k1 : ∀ k ∈ [1002, 3500, 2100, 805, 905, 405], k ∉ M1) (k2 : ∀ k ∈ [1208, 1200, 1217, 5000, 4600, 5400, 5500], k ∉ M2) (e24 : gi1 (A 24) = gi (A 24)) (e25 : gi1 (A 25) = gi (A 25)) (h : c_core τ gi gr gm A) : c_core τ gi1 gr gm2 A :=
  h.of e24 e25 (ro_k h1 2 (hC.t 10 10 (by decide) rfl) (by decide) (k1 1002 (by decide))).1 (ro_ka h1 (hC.t 35 35 (by decide) rfl) (by decide) (k1 3500 (by decide))).1 rfl (fun q t => (b_cell (k := 5) h1 t (k1 805 (by decide)) (k1 905 (by decide)) (k1 405 (by decide))).1) (ro_k h2 8 hQ.1 (by decide) (k2 1208 (by decide))).1 (ro_k h2 0 hQ.1 (by decide) (k2 1200 (by decide))).1 (ro_k h2 17 hQ.1 (by decide) (k2 1217 (by decide))).1 (ro_ka h2 (hQ.t 12 50 (by decide)) (by decide) (k2 5000 (by decide))).1 (ro_ka h2 (hQ.t 7 46 (by decide)) (by decide) (k2 4600 (by decide))).1 (ro_ka h2 (hQ.t 18 54 (by decide)) (by decide) (k2 5400 (by decide))).1 (ro_ka h2 (hQ.t 19 55 (by decide)) (by decide) (k2 5500 (by decide))).1
theorem bl_k (hC : ro_C τ gr A) {s : Int32} : F_X5_blow τ Z gi gr (A 5) s (A 24) = gi (A 24) ∧ F_X5_blow τ Z gi gr (A 5) s (A 25) = gi (A 25) := by
  have t5 := hC.t 5 5 (by decide) rfl
  have t24 := hC.t 24 24 (by decide) rfl
  have t25 := hC.t 25 25 (by decide) rfl
  have t38 := hC.t 38 24 (by decide) rfl
  have t39 := hC.t 39 25 (by decide) rfl
  exact ⟨bl_fr hC (ro_ne t24 t5 (by decide)) (Ne.symm hC.2.2.2.1) (ro_ne t24 t39 (by decide)), bl_fr hC (ro_ne t25 t5 (by decide)) (ro_ne t25 t38 (by decide)) (Ne.symm hC.2.2.2.2)⟩
theorem fi_k (hC : ro_C τ gr A) {w r1 : Int32} (hw : ¬ W0 w 1 5 = 0) (e1 : ((F_X11_finding τ Z gi gr (A 11) w).1, (F_X11_finding τ Z gi gr (A 11) w).2) = (r1, gi1)) : gi1 (A 24) = gi (A 24) ∧ gi1 (A 25) = gi (A 25) := by
  rw [fi_c hC hw] at e1
  have t36 := hC.t 36 36 (by decide) rfl
  rw [← (pr2 e1).2]
  exact ⟨up_n (ro_ne (hC.t 24 24 (by decide) rfl) t36 (by decide)), up_n (ro_ne (hC.t 25 25 (by decide) rfl) t36 (by decide))⟩
theorem st_k (hC : ro_C τ gr A) {s r1 : Int32} (e1 : F_X11_storm τ Z gi gr (A 11) s = (r1, gi1)) : gi1 (A 24) = gi (A 24) ∧ gi1 (A 25) = gi (A 25) := by
  unfold F_X11_storm at e1
  dsimp only at e1
  rw [hC.g 11 4 5 (by decide)] at e1
  by_cases c : F_X11_isForce τ Z gi gr s = 0
  · rw [if_pos c] at e1
    exact fi_k hC (by decide) e1
  · rw [if_neg c] at e1
    rw [← (pr2 e1).2]
    exact bl_k hC
theorem fl_k (hC : ro_C τ gr A) {v s r1 : Int32} (e1 : F_X11_fled τ Z gi gr (A 11) v s = (r1, gi1)) : gi1 (A 24) = gi (A 24) ∧ gi1 (A 25) = gi (A 25) := by
  unfold F_X11_fled f_X11_fled_18 at e1
  dsimp only at e1
  rw [hC.g 11 4 5 (by decide), hC.g 11 0 1 (by decide), hC.g 1 4 2 (by decide)] at e1
  cases hb : F_X0_boatAt τ Z gi gr (A 1) v with
  | none =>
    rw [hb] at e1
    exact fi_k hC (w := 1) (by decide) e1
  | some q =>
    rw [hb] at e1
    simp only [Option.elim_some] at e1
    by_cases c : F_X11_isForce τ Z gi gr s = 0
    · rw [if_pos c] at e1
      exact fi_k hC (w := 1) (by decide) e1
    · rw [if_neg c] at e1
      by_cases c2 : F_X1_buoyOf τ Z gi gr (A 2) v = -1
      · rw [if_pos c2] at e1
        exact fi_k hC (w := 3) (by decide) e1
      · rw [if_neg c2] at e1
        rw [← (pr2 e1).2]
        exact bl_k hC
/-- wishes' numbers -/
theorem wnb_fi (hQ : ro_M τ rm A) {w r2 : Int32} (h : c_wnb gm A) (e2 : ((F_X12_finding τ Z gm rm (A 12) w).1, (F_X12_finding τ Z gm rm (A 12) w).2) = (r2, gm2)) : c_wnb gm2 A := by
  rw [fi_m hQ] at e2
  exact h.fr hQ (fm_m hQ (fun a ha => by rw [← (pr2 e2).2]; exact up_n ha)) (by decide)
theorem wnb_content (hQ : ro_M τ rm A) {v r2 : Int32} (h : c_wnb gm A) (e2 : F_X12_content τ Z gm rm (A 12) v = (r2, gm2)) : c_wnb gm2 A := by
  unfold F_X12_content F_X12_isBoat at e2
  dsimp only at e2
  rw [hQ.g 21 56 (by decide)] at e2
  by_cases c : F_X12_within τ Z gm rm v 0 (gm (A 12) 8 - 1) = 0
  · rw [if_pos c] at e2
    exact wnb_fi hQ h e2
  · rw [if_neg c] at e2
    intro i j hi hj
    have t56 := hQ.t 21 56 (by decide)
    rw [← (pr2 e2).2] at hj ⊢
    rw [up_s] at hj
    rw [up_n (ro_ne (hQ.t 22 57 (by decide)) t56 (by decide)), up_n (ro_ne hQ.1 t56 (by decide))]
    by_cases e : i = v.toNatClampNeg
    · rw [e, ud_s, k_0] at hj
      omega
    · rw [ud_n e] at hj
      exact h i j hi hj
theorem wnb_rather (hJm : th_J τ gm rm) (hQ : ro_M τ rm A) {v p r2 : Int32} (h : c_wnb gm A) (e2 : F_X12_rather τ Z gm rm (A 12) v p = (r2, gm2)) : c_wnb gm2 A := by
  have n16 : rg 0 16 (gm (A 12) 8) := (hJm.at hQ.1 (by decide)).2.2.2.2.2.2.2.2.1
  have n12 : rg 0 12 (gm (A 12) 0) := (hJm.at hQ.1 (by decide)).1
  unfold F_X12_rather F_X12_isBoat F_X12_isBuoy f_X12_rather_16 at e2
  dsimp only at e2
  rw [w0_m, w0_m] at e2
  by_cases g1 : W0 v 0 (gm (A 12) 8 - 1) = 0
  · rw [if_pos g1] at e2
    exact wnb_fi hQ h e2
  rw [if_neg g1] at e2
  by_cases g2 : W0 p 0 (gm (A 12) 0 - 1) = 0
  · rw [if_pos g2] at e2
    exact wnb_fi hQ h e2
  rw [if_neg g2] at e2
  have hv := Decidable.not_not.mp (fun q => g1 ((w0_n (by decide) n16).mpr q))
  have hp := Decidable.not_not.mp (fun q => g2 ((w0_n (by decide) n12).mpr q))
  have n162 := n16.2
  have cv := i_cl hv.1
  have rn : ∀ i, i < 16 → rg 0 4 (gm (A 56) i) := fun i hi => (hJm.at (hQ.t 21 56 (by decide)) (by decide)) i hi
  have hc := rn v.toNatClampNeg (by omega)
  rcases ra_sp (Z := Z) (gi := gm) hQ (p := p) (v := v) ⟨hv.1, by omega⟩ hc ((4 - (0 : Int32).toInt).toNat + 1) 0 (by decide) (Nat.lt_add_one _) with ⟨d1, -⟩ | ⟨d1, -⟩
  · rw [d1] at e2
    exact wnb_fi hQ h e2
  · rw [d1] at e2
    by_cases c4 : gm (A 56) v.toNatClampNeg = 4
    · rw [if_pos c4] at e2
      exact wnb_fi hQ h e2
    · rw [if_neg c4] at e2
      have t56 := hQ.t 21 56 (by decide)
      have t57 := hQ.t 22 57 (by decide)
      have n57 : A 56 ≠ A 57 := ro_ne t56 t57 (by decide)
      have l2 := (pr2 e2).2
      have m12 : gm2 (A 12) = gm (A 12) := by rw [← l2, up_n (ro_ne hQ.1 t56 (by decide)), up_n (ro_ne hQ.1 t57 (by decide))]
      have m56 : gm2 (A 56) = upd (gm (A 56)) v.toNatClampNeg (gm (A 56) v.toNatClampNeg + 1) := by rw [← l2, up_s, up_n n57]
      have m57 : gm2 (A 57) = upd (gm (A 57)) (4 * v.toNatClampNeg + (gm (A 56) v.toNatClampNeg).toNatClampNeg) p := by rw [← l2, up_n (Ne.symm n57), up_s]
      have hc1 := hc.1
      have hc2 := hc.2
      have cn := i_cl hc1
      have n4 : (gm (A 56) v.toNatClampNeg).toInt ≠ 4 := fun q => c4 (i_inj (q.trans (by decide)))
      have e1' := y_1 (m := 4) (by decide) hc1 hc2
      intro i j hi hj
      rw [m12, m57]
      rw [m56] at hj
      by_cases e : i = v.toNatClampNeg
      · rw [e, ud_s, e1'] at hj
        rw [e]
        by_cases ej : j = (gm (A 56) v.toNatClampNeg).toNatClampNeg
        · rw [ej, ud_s]
          exact hp.2
        · rw [ud_n (by omega)]
          exact h _ j (by omega) (by omega)
      · rw [ud_n e] at hj
        have hci := (rn i hi).2
        rw [ud_n (by omega)]
        exact h i j hi hj
theorem c_wnb.fin (hQ : ro_M τ1 rm A) (f : x_fin τ gi gr gm A τ1 gi1 gr1 gm2) (h : c_wnb gm A) : c_wnb gm2 A := h.fr hQ (fm_m hQ f.2.2.2) (by decide)
theorem c_wnb.buoy (hJ : th_J τ gi gr) (hC : ro_C τ gr A) (hQ : ro_M τ rm A) (nb : c_eq 1 5 0 gi gm A) (hw : c_wnb gm A) {v1 v2 v3 v4 : Int32} (h : bu_ok τ gi gr gm A τ1 gi1 gr1 gm2 v1 v2 v3 v4) : c_wnb gm2 A := by
  obtain ⟨g5, -, -, -, -, -, m12, m40, m41, m42, m43, m46, mo⟩ := h
  obtain ⟨l1, l2, l3⟩ := nI12 (n_p hJ hC) g5
  have nb' : gm (A 12) 0 = gi (A 1) 5 := nb.symm
  have t56 := hQ.t 21 56 (by decide)
  have t57 := hQ.t 22 57 (by decide)
  have t40 := hQ.t 1 40 (by decide)
  have t41 := hQ.t 2 41 (by decide)
  have t42 := hQ.t 3 42 (by decide)
  have t43 := hQ.t 4 43 (by decide)
  have t46 := hQ.t 7 46 (by decide)
  have m56 := mo _ (ro_ne t56 hQ.1 (by decide)) (ro_ne t56 t40 (by decide)) (ro_ne t56 t41 (by decide)) (ro_ne t56 t42 (by decide)) (ro_ne t56 t43 (by decide)) (ro_ne t56 t46 (by decide))
  have m57 := mo _ (ro_ne t57 hQ.1 (by decide)) (ro_ne t57 t40 (by decide)) (ro_ne t57 t41 (by decide)) (ro_ne t57 t42 (by decide)) (ro_ne t57 t43 (by decide)) (ro_ne t57 t46 (by decide))
  intro i j hi hj
  rw [m56] at hj
  rw [m57, m12, ud_s, l3]
  have := hw i j hi hj
  rw [nb'] at this
  omega
end BL
end
section
/-! ===== the core at the start; about, dues ===== -/
section AB
variable {τ τ1 : th_t} {Z : th_Zt} {gi gi1 gm gm2 : th_i} {gr gr1 rm rm2 : th_r} {A : Nat → Nat} {M1 M2 : List Nat}
theorem st_core (h24 : ∀ j : Nat, j < 16 → gi (A 24) j = -1) (h25 : ∀ j : Nat, j < 12 → gi (A 25) j = -1) (h10 : gi (A 10) 2 = 0) (m8 : gm (A 12) 8 = 0) (m0 : gm (A 12) 0 = 0) (m17 : gm (A 12) 17 = 0) (m55 : gm (A 55) = fun _ => 0) : c_core τ gi gr gm A := by
  unfold c_core
  rw [m8, m0, m17, h10, m55, k_0]
  have r : ∀ hi : Int, 0 ≤ hi → rg (-1) hi (-1 : Int32) := fun hi q => ⟨by rw [k_m1]; omega, by rw [k_m1]; omega⟩
  refine ⟨⟨fun i hi => ?_, fun p hp => ?_⟩, fun i hi => by omega, fun p hp => by omega, ⟨⟨by rw [k_0]; omega, by rw [k_0]; omega⟩, fun k hk => by rw [k_0] at hk; omega, fun k k' hk => by rw [k_0] at hk; omega⟩, rfl, fun k hk => by omega, fun i q hi => by omega, fun _ _ _ => rfl⟩
  · rw [h24 i hi]
    exact ⟨r _ (by decide), fun q => by rw [k_m1] at q; omega⟩
  · rw [h25 p hp]
    exact ⟨r _ (by decide), fun q => by rw [k_m1] at q; omega⟩
end AB
end
section
/-! ===== the core at the start; about, dues ===== -/
section AB
variable {τ τ1 : th_t} {Z : th_Zt} {gi gi1 gm gm2 : th_i} {gr gr1 rm rm2 : th_r} {A : Nat → Nat} {M1 M2 : List Nat}
theorem s_about (Q : q_all τ Z gi gr gm rm A) (ra : c_eq 11 8 23 gi gm A) (K : c_core τ gi gr gm A) {v w r1 r2 : Int32} (e1 : F_X11_about τ Z gi gr (A 11) v w = (r1, gi1)) (e2 : F_X12_about τ Z gm rm (A 12) v w = (r2, gm2)) : r1 = r2 := by
  obtain ⟨hJ, hJm, hC, hQ, no, nb, wi, cb, cu, ct, cs, cl, cr, cw⟩ := Q
  obtain ⟨a1, a2, a3, a4, a5, a6, a7, a8⟩ := K
  have no' : gm (A 12) 8 = gi (A 1) 6 := no.symm
  have ra' : gm (A 12) 23 = gi (A 11) 8 := ra.symm
  have n162 := (n_b hJ hC).2
  unfold F_X11_about at e1
  unfold F_X12_about F_X12_isBoat at e2
  dsimp only at e1 e2
  rw [hC.g 11 0 1 (by decide), hC.g 1 4 2 (by decide), hC.g 11 1 10 (by decide)] at e1
  rw [w0_m, no', hQ.g 9 47 (by decide), hQ.g 10 48 (by decide), hQ.g 11 49 (by decide), hQ.g 12 50 (by decide), ← pl_eq (Z := Z) hC hQ (v := v) a4.1 a5 a6, due_at hQ, ra'] at e2
  by_cases g1 : W0 v 0 (gi (A 1) 6 - 1) = 0
  · rw [bo_no hJ hC g1] at e1
    rw [if_pos g1] at e2
    exact (s_fip hC hQ (w1 := 1) (by decide) (by decide) e1 e2).1
  obtain ⟨f1, f2, f3, f4⟩ := bo_yes (Z := Z) hJ hC g1
  have hvi : ((v.toNatClampNeg : Nat) : Int) < (gm (A 12) 8).toInt := by rw [f3, no']; exact f4
  obtain ⟨qb, hqb⟩ := cb v.toNatClampNeg hvi
  obtain ⟨b1, b2, b3, b4, b5, b6, b7⟩ := hqb
  rw [f1, b1] at e1
  rw [if_neg g1] at e2
  simp only [Option.elim_some] at e1
  rw [kn_at b5, fee_at b5, b3, b4, bo_of (hC.e 2 0 24 (by decide)) (by omega) (by omega)] at e1
  rw [← a2 v.toNatClampNeg hvi] at e2
  by_cases c0 : w.toInt < 0
  · rw [if_pos c0] at e1 e2
    exact (s_fip hC hQ (w1 := 1) (by decide) (by decide) e1 e2).1
  rw [if_neg c0] at e1 e2
  by_cases c1 : 5 < w.toInt
  · rw [if_pos c1] at e1 e2
    exact (s_fip hC hQ (w1 := 1) (by decide) (by decide) e1 e2).1
  rw [if_neg c1] at e1 e2
  by_cases c2 : w.toInt = 0
  · rw [if_pos c2] at e1 e2
    exact (pr2 e1).1.symm.trans (pr2 e2).1
  rw [if_neg c2] at e1 e2
  by_cases c3 : w.toInt = 1
  · rw [if_pos c3] at e1 e2
    exact (pr2 e1).1.symm.trans (pr2 e2).1
  rw [if_neg c3] at e1 e2
  by_cases c4 : w.toInt = 2
  · rw [if_pos c4] at e1 e2
    exact (pr2 e1).1.symm.trans (pr2 e2).1
  rw [if_neg c4] at e1 e2
  by_cases c5 : w.toInt = 3
  · rw [if_pos c5] at e1 e2
    exact (pr2 e1).1.symm.trans (pr2 e2).1
  rw [if_neg c5] at e1 e2
  by_cases c6 : w.toInt = 4
  · rw [if_pos c6] at e1 e2
    exact (pr2 e1).1.symm.trans (pr2 e2).1
  rw [if_neg c6] at e1 e2
  by_cases c7 : w.toInt = 5
  · rw [if_pos c7] at e1 e2
    rcases be_x a1 (i := v.toNatClampNeg) (by omega) with z1 | ⟨z1, -⟩
    · rw [z1, if_pos rfl] at e1
      rw [z1, if_neg (by decide)] at e2
      exact (pr2 e1).1.symm.trans (pr2 e2).1
    · rw [if_neg (fun q => by rw [q, k_m1] at z1; omega)] at e1
      rw [if_pos (i_le.mpr (by rw [k_0]; exact z1))] at e2
      exact (pr2 e1).1.symm.trans (pr2 e2).1
  · rw [if_neg c7] at e1 e2
    exact (pr2 e1).1.symm.trans (pr2 e2).1
end AB
end
