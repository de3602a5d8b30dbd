/-! ===== RINGS: circles ===== -/
def ci (p : Nat → Nat) (b : Nat) : Nat → Nat
  | 0 => b
  | t + 1 => p (ci p b t)
theorem ci_add (p : Nat → Nat) (b m : Nat) : ∀ n, ci p b (m + n) = ci p (ci p b m) n := by
  intro n
  induction n with
  | zero => rfl
  | succ n ih =>
    show p (ci p b (m + n)) = p (ci p (ci p b m) n)
    rw [ih]
def rnd (p : Nat → Nat) (b : Nat) : Prop := ∃ t, 1 ≤ t ∧ ci p b t = b
def cyc (p : Nat → Nat) (b T : Nat) : Prop := 1 ≤ T ∧ ci p b T = b ∧ ∀ t, 1 ≤ t → t < T → ¬ ci p b t = b
theorem rnd.cyc {p : Nat → Nat} {b : Nat} (h : rnd p b) : ∃ T, cyc p b T := by
  obtain ⟨t, t1, t2⟩ := h
  obtain ⟨m, a1, a2, a3⟩ := fr_least (P := fun n => 1 ≤ n ∧ ci p b n = b) t ⟨t1, t2⟩
  exact ⟨m, a1.1, a1.2, fun j j1 j2 e => a3 j j2 ⟨j1, e⟩⟩
theorem cyc.inj {p : Nat → Nat} {b T : Nat} (h : cyc p b T) : ∀ i j, i < T → j < T → ci p b i = ci p b j → i = j := by
  have key : ∀ i j, i < j → j < T → ¬ ci p b i = ci p b j := fun i j hij hj e => by
    refine h.2.2 (i + (T - j)) (by omega) (by omega) ?_
    rw [ci_add, e, ← ci_add, show j + (T - j) = T by omega]
    exact h.2.1
  intro i j hi hj e
  rcases Nat.lt_trichotomy i j with q | q | q
  · exact absurd e (key i j q hj)
  · exact q
  · exact absurd e.symm (key j i q hi)
theorem cyc.le {p : Nat → Nat} {b T N : Nat} (h : cyc p b T) (hN : ∀ t, ci p b t < N) : T ≤ N := fr_pig N T (fun i => ci p b i) (fun i _ => hN i) (fun i j hij hj e => by
  have := h.inj i j (by omega) hj e
  omega)
theorem cyc_ex {p : Nat → Nat} {L : Nat → Prop} {N : Nat} (hL : ∀ b, L b → b < N ∧ L (p b)) {c : Nat} (hc : L c) : ∃ b, L b ∧ rnd p b := by
  have all : ∀ t, L (ci p c t) := by
    intro t
    induction t with
    | zero => exact hc
    | succ t ih => exact (hL _ ih).2
  by_cases h : ∃ i j, i < j ∧ j < N + 1 ∧ ci p c i = ci p c j
  · obtain ⟨i, j, hij, hj, e⟩ := h
    refine ⟨ci p c i, all i, j - i, by omega, ?_⟩
    rw [← ci_add, show i + (j - i) = j by omega]
    exact e.symm
  · have := fr_pig N (N + 1) (fun i => ci p c i) (fun i _ => (hL _ (all i)).1) (fun i j hij hj e => h ⟨i, j, hij, hj, e⟩)
    omega
theorem ci_L {p : Nat → Nat} {L : Nat → Prop} (hL : ∀ b, L b → L (p b)) {c : Nat} (hc : L c) : ∀ t, L (ci p c t) := by
  intro t
  induction t with
  | zero => exact hc
  | succ t ih => exact hL _ ih
theorem nI_inj {a b : Nat} (ha : a < 2147483648) (hb : b < 2147483648) (h : nI a = nI b) : a = b := by
  have := congrArg Int32.toInt h
  rw [nI_t ha, nI_t hb] at this
  omega
theorem nI_sc {y : Nat} (h : y ≤ 16) : nI y + 1 = nI (y + 1) := by
  have a := nI_t (k := y) (by omega)
  have b := nI_t (k := y + 1) (by omega)
  have c := y_1 (y := nI y) (m := 16) (by decide) (by omega) (by omega)
  exact i_inj (by omega)
/-- who is in the ring before its k-th -/
def inR (p : Nat → Nat) (b k x : Nat) : Prop := ∃ t, t < k ∧ ci p b t = x
section RC
variable {τ τ1 : th_t} {Z : th_Zt} {gi gi1 gm gm2 : th_i} {gr gr1 rm rm2 : th_r} {A : Nat → Nat} {M1 M2 : List Nat}
theorem pb_at (hC : ro_C τ gr A) {g : th_i} {k : Nat} (h : k < 16) : F_X6_pointedAtBy τ Z g gr (A 6) (nI k) = g (A 29) k := by
  unfold F_X6_pointedAtBy
  dsimp only
  rw [w0_c, if_neg (w0_in (by rw [k_0, nI_t (by omega)]; omega) (by rw [k_15, nI_t (by omega)]; omega)), hC.g 6 2 29 (by decide), nI_c (by omega)]
theorem cr_sp (hC : ro_C τ gr A) {g : th_i} {p : Nat → Nat} {b : Nat} (hp : ∀ t, g (A 29) (ci p b t) = nI (ci p b (t + 1))) (hlt : ∀ t, ci p b t < 16) : ∀ (n t : Nat) (z : Int32), z.toInt = (t : Int) → t ≤ 16 → 16 - t < n → (f_X6_comesRound_8 τ Z g gr (A 6) (nI b) n (nI (ci p b (t + 1))) z = 1 ∧ rnd p b) ∨ (f_X6_comesRound_8 τ Z g gr (A 6) (nI b) n (nI (ci p b (t + 1))) z = 0 ∧ ∀ s, t ≤ s → s ≤ 16 → ¬ ci p b (s + 1) = b) := by
  have hb := hlt 0
  have eqb : ∀ t, nI (ci p b t) = nI b → ci p b t = b := fun t e => nI_inj (by have := hlt t; omega) (by have : b < 16 := hb; omega) e
  intro n
  induction n with
  | zero => intro t z _ _ h; exact absurd h (Nat.not_lt_zero _)
  | succ n ih =>
    intro t z hz h16 h
    unfold f_X6_comesRound_8 f_X6_comesRound_31
    dsimp only
    by_cases ce : nI (ci p b (t + 1)) = nI b
    · have r : rnd p b := ⟨t + 1, by omega, eqb _ ce⟩
      by_cases c : (16 : Int32) ≤ z
      · rw [if_pos c, if_pos ce]
        exact Or.inl ⟨rfl, r⟩
      · rw [if_neg c, if_pos ce, if_pos ce]
        exact Or.inl ⟨rfl, r⟩
    · have ne : ¬ ci p b (t + 1) = b := fun e => ce (by rw [e])
      by_cases c : (16 : Int32) ≤ z
      · rw [if_pos c, if_neg ce]
        have c' := i_le.mp c
        rw [k_16] at c'
        refine Or.inr ⟨rfl, fun s h1 h2 => ?_⟩
        have : s = t := by omega
        rw [this]
        exact ne
      · rw [if_neg c, if_neg ce, pb_at hC (hlt _), hp (t + 1)]
        have c' := i_ltI.mp (Int32.not_le.mp c)
        rw [k_16] at c'
        have e := y_1 (m := 16) (by decide) (y := z) (by omega) (by omega)
        rcases ih (t + 1) (z + 1) (by omega) (by omega) (by omega) with k | ⟨k1, k2⟩
        · exact Or.inl k
        · refine Or.inr ⟨k1, fun s h1 h2 => ?_⟩
          by_cases hs : s = t
          · rw [hs]
            exact ne
          · exact k2 s (by omega) h2
theorem cr_iff (hC : ro_C τ gr A) {g : th_i} {p : Nat → Nat} {b : Nat} (hp : ∀ t, g (A 29) (ci p b t) = nI (ci p b (t + 1))) (hlt : ∀ t, ci p b t < 16) : F_X6_comesRound τ Z g gr (A 6) (nI b) = 0 ↔ ¬ rnd p b := by
  unfold F_X6_comesRound
  dsimp only
  have h0 : F_X6_pointedAtBy τ Z g gr (A 6) (nI b) = nI (ci p b (0 + 1)) := (pb_at hC (hlt 0)).trans (hp 0)
  rw [h0]
  rcases cr_sp (Z := Z) hC hp hlt ((16 - (0 : Int32).toInt).toNat + 1) 0 0 k_0 (by decide) (by decide) with ⟨k1, k2⟩ | ⟨k1, k2⟩
  · rw [k1]
    exact ⟨fun q => absurd q (by decide), fun q => absurd k2 q⟩
  · rw [k1]
    refine ⟨fun _ q => ?_, fun _ => rfl⟩
    obtain ⟨T, hT⟩ := q.cyc
    have t1 := hT.1
    have := hT.le hlt
    exact k2 (T - 1) (by omega) (by omega) (by rw [show T - 1 + 1 = T by omega]; exact hT.2.1)
theorem lr_sp (hC : ro_C τ gr A) {g : th_i} {p : Nat → Nat} {N : Nat} (hN : (g (A 1) 6).toInt = (N : Int)) (h16 : N ≤ 16) (hp : ∀ b, b < N → bt (g (A 6) 3) b = true → g (A 29) b = nI (p b) ∧ p b < N ∧ bt (g (A 6) 3) (p b) = true) : ∀ (n y : Nat), y ≤ N → 16 - y < n → (f_X6_leastInRing_2 τ Z g gr (A 6) n (nI y) = -1 ∧ ∀ b, y ≤ b → b < N → ¬ (bt (g (A 6) 3) b = true ∧ rnd p b)) ∨ ∃ b, y ≤ b ∧ b < N ∧ bt (g (A 6) 3) b = true ∧ rnd p b ∧ f_X6_leastInRing_2 τ Z g gr (A 6) n (nI y) = nI b ∧ ∀ c, y ≤ c → c < b → ¬ (bt (g (A 6) 3) c = true ∧ rnd p c) := by
  intro n
  induction n with
  | zero => intro y _ h; exact absurd h (Nat.not_lt_zero _)
  | succ n ih =>
    intro y hy h
    have ty := nI_t (k := y) (by omega)
    unfold f_X6_leastInRing_2 f_X6_leastInRing_31
    dsimp only
    rw [hC.g 6 0 1 (by decide)]
    by_cases c : g (A 1) 6 ≤ nI y
    · rw [if_pos c]
      have c' := i_le.mp c
      exact Or.inl ⟨rfl, fun b h1 h2 => by omega⟩
    · rw [if_neg c]
      have c' := i_ltI.mp (Int32.not_le.mp c)
      have e1 : nI y + 1 = nI (y + 1) := nI_sc (by omega)
      have next : ¬ (bt (g (A 6) 3) y = true ∧ rnd p y) → (f_X6_leastInRing_2 τ Z g gr (A 6) n (nI y + 1) = -1 ∧ ∀ b, y ≤ b → b < N → ¬ (bt (g (A 6) 3) b = true ∧ rnd p b)) ∨ ∃ b, y ≤ b ∧ b < N ∧ bt (g (A 6) 3) b = true ∧ rnd p b ∧ f_X6_leastInRing_2 τ Z g gr (A 6) n (nI y + 1) = nI b ∧ ∀ c, y ≤ c → c < b → ¬ (bt (g (A 6) 3) c = true ∧ rnd p c) := fun hn => by
        rw [e1]
        rcases ih (y + 1) (by omega) (by omega) with ⟨k1, k2⟩ | ⟨b, k1, k2, k3, k4, k5, k6⟩
        · refine Or.inl ⟨k1, fun b h1 h2 => ?_⟩
          by_cases hb : b = y
          · rw [hb]; exact hn
          · exact k2 b (by omega) h2
        · refine Or.inr ⟨b, by omega, k2, k3, k4, k5, fun c h1 h2 => ?_⟩
          by_cases hb : c = y
          · rw [hb]; exact hn
          · exact k6 c (by omega) h2
      have il := il_at (τ := τ) (Z := Z) (gr := gr) (A := A) (g := g) (y := nI y) (by omega) (by omega)
      rw [nI_c (by omega)] at il
      rw [il]
      by_cases cl : bt (g (A 6) 3) y = true
      · have cl2 : ∀ t, ci p y t < N ∧ bt (g (A 6) 3) (ci p y t) = true := ci_L (L := fun b => b < N ∧ bt (g (A 6) 3) b = true) (fun b hb => (hp b hb.1 hb.2).2) ⟨by omega, cl⟩
        have ri := cr_iff (Z := Z) hC (g := g) (p := p) (b := y) (fun t => (hp _ (cl2 t).1 (cl2 t).2).1) (fun t => by have := (cl2 t).1; omega)
        rw [if_pos cl, if_neg (show ¬ (1 : Int32) = 0 by decide)]
        by_cases cr : F_X6_comesRound τ Z g gr (A 6) (nI y) = 0
        · rw [if_pos cr]
          exact next (fun q => ri.mp cr q.2)
        · rw [if_neg cr]
          refine Or.inr ⟨y, Nat.le_refl _, by omega, cl, Classical.byContradiction (fun q => cr (ri.mpr q)), rfl, fun c h1 h2 => by omega⟩
      · rw [if_neg cl, if_pos rfl]
        exact next (fun q => cl q.1)
/-- all point -/
theorem pa_sp (hC : ro_C τ gr A) {P : Nat → Int32} {N : Nat} (h16 : N ≤ 16) : ∀ (n : Nat) (g : th_i) (y : Nat), (g (A 1) 6).toInt = (N : Int) → y ≤ N → 16 - y < n → (∀ g' : th_i, (∀ a, a ≠ A 29 → g' a = g a) → ∀ b, b < N → bt (g (A 6) 3) b = true → ∃ q, gr (A 21) b = some q ∧ F_X6_holderOfWish τ Z g' gr (A 6) q = P b) → (∀ a, a ≠ A 29 → f_X6_pointAll_2 τ Z gi gr (A 6) n g (nI y) a = g a) ∧ (∀ b, y ≤ b → b < N → bt (g (A 6) 3) b = true → f_X6_pointAll_2 τ Z gi gr (A 6) n g (nI y) (A 29) b = P b) ∧ ∀ b, b < y → f_X6_pointAll_2 τ Z gi gr (A 6) n g (nI y) (A 29) b = g (A 29) b := by
  have t1 := hC.t 1 1 (by decide) rfl
  have t6 := hC.t 6 6 (by decide) rfl
  have t29 := hC.t 29 29 (by decide) rfl
  have n1 := ro_ne t1 t29 (by decide)
  have n6 := ro_ne t6 t29 (by decide)
  intro n
  induction n with
  | zero => intro g y _ _ h; exact absurd h (Nat.not_lt_zero _)
  | succ n ih =>
    intro g y hN hy h hP
    have ty := nI_t (k := y) (by omega)
    have il := il_at (τ := τ) (Z := Z) (gr := gr) (A := A) (g := g) (y := nI y) (by omega)
    have hu : f_X6_pointAll_2 τ Z gi gr (A 6) (n + 1) g (nI y) = if g (A 1) 6 ≤ nI y then g else if F_X6_isLeft τ Z g gr (A 6) (nI y) = 0 then f_X6_pointAll_2 τ Z gi gr (A 6) n g (nI y + 1) else Option.elim (F_X0_boatAt τ Z g gr (A 1) (nI y)) (f_X6_pointAll_2 τ Z gi gr (A 6) n g (nI y + 1)) (fun q => f_X6_pointAll_2 τ Z gi gr (A 6) n (va_up g (A 29) (upd (g (A 29)) (nI y).toNatClampNeg (F_X6_holderOfWish τ Z g gr (A 6) q))) (nI y + 1)) := by
      rw [← hC.g 6 0 1 (by decide), ← hC.g 6 2 29 (by decide)]
      rfl
    rw [hu]
    by_cases c : g (A 1) 6 ≤ nI y
    · rw [if_pos c]
      have c' := i_le.mp c
      exact ⟨fun _ _ => rfl, fun b h1 h2 => by omega, fun _ _ => rfl⟩
    · rw [if_neg c]
      have c' := i_ltI.mp (Int32.not_le.mp c)
      have e1 : nI y + 1 = nI (y + 1) := nI_sc (by omega)
      rw [il (by omega), nI_c (by omega), e1]
      by_cases cl : bt (g (A 6) 3) y = true
      · rw [if_pos cl, if_neg (show ¬ (1 : Int32) = 0 by decide)]
        obtain ⟨q, hq, hw⟩ := hP g (fun _ _ => rfl) y (by omega) cl
        have rN : rg 0 16 (g (A 1) 6) := ⟨by omega, by omega⟩
        rw [bo_g hC rN (by omega) (by omega), nI_c (by omega), hq]
        simp only [Option.elim_some]
        rw [hw]
        have u1 : va_up g (A 29) (upd (g (A 29)) y (P y)) (A 1) = g (A 1) := up_n n1
        have u6 : va_up g (A 29) (upd (g (A 29)) y (P y)) (A 6) = g (A 6) := up_n n6
        obtain ⟨k1, k2, k3⟩ := ih (va_up g (A 29) (upd (g (A 29)) y (P y))) (y + 1) (by rw [u1]; exact hN) (by omega) (by omega) (by
          intro g' hg' b hb hl
          rw [u6] at hl
          exact hP g' (fun a ha => (hg' a ha).trans (up_n ha)) b hb hl)
        rw [u6] at k2
        refine ⟨fun a ha => by rw [k1 a ha, up_n ha], fun b h1 h2 h3 => ?_, fun b hb => ?_⟩
        · by_cases hb : b = y
          · rw [hb, k3 y (by omega), up_s, ud_s]
          · exact k2 b (by omega) h2 h3
        · rw [k3 b (by omega), up_s, ud_n (by omega)]
      · rw [if_neg cl, if_pos rfl]
        obtain ⟨k1, k2, k3⟩ := ih g (y + 1) hN (by omega) (by omega) hP
        refine ⟨k1, fun b h1 h2 h3 => ?_, fun b hb => k3 b (by omega)⟩
        by_cases hb : b = y
        · rw [hb] at h3
          exact absurd h3 cl
        · exact k2 b (by omega) h2 h3
/-- a ring is taken -/
def tk (A : Nat → Nat) (g : th_i) (X : Nat → Int32) (p : Nat → Nat) (b k : Nat) (g' : th_i) : Prop := (∀ a, a ≠ A 6 → a ≠ A 28 → g' a = g a) ∧ (∀ x, x < 32 → (bt (g' (A 6) 3) x = true ↔ (bt (g (A 6) 3) x = true ∧ ¬ inR p b k x))) ∧ (∀ t, t < k → g' (A 28) (ci p b t) = X (ci p b (t + 1))) ∧ ∀ x, ¬ inR p b k x → g' (A 28) x = g (A 28) x
theorem tk_sp (hC : ro_C τ gr A) {g : th_i} {p : Nat → Nat} {b T : Nat} (hT : cyc p b T) (h16 : ∀ t, ci p b t < 16) (hp : ∀ t, g (A 29) (ci p b t) = nI (ci p b (t + 1))) (hl : ∀ t, bt (g (A 6) 3) (ci p b t) = true) : ∀ (n k : Nat) (g' : th_i) (z : Int32), k ≤ T → z.toInt = (k : Int) → 16 - k < n → tk A g (g (A 24)) p b k g' → tk A g (g (A 24)) p b T (f_X6_takeRing_4 τ Z gi gr (A 6) (nI b) n g' (nI (ci p b k)) z) := by
  have hTle := hT.le h16
  have t6 := hC.t 6 6 (by decide) rfl
  have t28 := hC.t 28 28 (by decide) rfl
  have n68 := ro_ne t6 t28 (by decide)
  intro n
  induction n with
  | zero => intro k g' z _ _ h; exact absurd h (Nat.not_lt_zero _)
  | succ n ih =>
    intro k g' z hk hz h W
    obtain ⟨w1, w2, w3, w4⟩ := W
    have hs := h16 k
    have ts := nI_t (k := ci p b k) (by omega)
    have cs := nI_c (k := ci p b k) (by omega)
    have hu : f_X6_takeRing_4 τ Z gi gr (A 6) (nI b) (n + 1) g' (nI (ci p b k)) z = if (16 : Int32) ≤ z then g' else if F_X6_isLeft τ Z g' gr (A 6) (nI (ci p b k)) = 0 then g' else f_X6_takeRing_4 τ Z gi gr (A 6) (nI b) n (va_up (va_up g' (A 6) (upd (g' (A 6)) 3 (g' (A 6) 3 &&& (1 <<< (nI (ci p b k) &&& 31) ^^^ (-1))))) (A 28) (upd (va_up g' (A 6) (upd (g' (A 6)) 3 (g' (A 6) 3 &&& (1 <<< (nI (ci p b k) &&& 31) ^^^ (-1)))) (A 28)) (nI (ci p b k)).toNatClampNeg (F_X1_buoyOf τ Z (va_up g' (A 6) (upd (g' (A 6)) 3 (g' (A 6) 3 &&& (1 <<< (nI (ci p b k) &&& 31) ^^^ (-1))))) gr (A 2) (va_up g' (A 6) (upd (g' (A 6)) 3 (g' (A 6) 3 &&& (1 <<< (nI (ci p b k) &&& 31) ^^^ (-1)))) (A 29) (nI (ci p b k)).toNatClampNeg)))) (va_up g' (A 6) (upd (g' (A 6)) 3 (g' (A 6) 3 &&& (1 <<< (nI (ci p b k) &&& 31) ^^^ (-1)))) (A 29) (nI (ci p b k)).toNatClampNeg) (z + 1) := by
      rw [← hC.g 6 1 28 (by decide), ← hC.g 6 2 29 (by decide), ← hC.g 1 4 2 (by decide), ← hC.g 6 0 1 (by decide)]
      rfl
    have il := il_at (τ := τ) (Z := Z) (gr := gr) (A := A) (g := g') (y := nI (ci p b k)) (by omega) (by omega)
    rw [cs] at il
    by_cases hkT : k = T
    · subst hkT
      rw [hu]
      by_cases c : (16 : Int32) ≤ z
      · rw [if_pos c]
        exact ⟨w1, w2, w3, w4⟩
      · have nl : ¬ bt (g' (A 6) 3) (ci p b k) = true := fun q => ((w2 _ (by omega)).mp q).2 ⟨0, by have := hT.1; omega, hT.2.1.symm⟩
        rw [if_neg c, il, if_neg nl, if_pos rfl]
        exact ⟨w1, w2, w3, w4⟩
    · have hkT' : k < T := by omega
      have nin : ¬ inR p b k (ci p b k) := fun ⟨t, t1, t2⟩ => by
        have := hT.inj t k (by omega) hkT' t2
        omega
      have yl : bt (g' (A 6) 3) (ci p b k) = true := (w2 _ (by omega)).mpr ⟨hl k, nin⟩
      have c : ¬ (16 : Int32) ≤ z := fun q => by
        have := i_le.mp q
        rw [k_16] at this
        omega
      have e := y_1 (m := 16) (by decide) (y := z) (by omega) (by omega)
      have t29 := hC.t 29 29 (by decide) rfl
      have t24 := hC.t 24 24 (by decide) rfl
      rw [hu, if_neg c, il, if_pos yl, if_neg (show ¬ (1 : Int32) = 0 by decide), cs]
      have g29 : va_up g' (A 6) (upd (g' (A 6)) 3 (g' (A 6) 3 &&& (1 <<< (nI (ci p b k) &&& 31) ^^^ (-1)))) (A 29) (ci p b k) = nI (ci p b (k + 1)) := by
        rw [up_n (ro_ne t29 t6 (by decide)), w1 _ (ro_ne t29 t6 (by decide)) (ro_ne t29 t28 (by decide)), hp k]
      have h1 := h16 (k + 1)
      have gX : va_up g' (A 6) (upd (g' (A 6)) 3 (g' (A 6) 3 &&& (1 <<< (nI (ci p b k) &&& 31) ^^^ (-1)))) (A 24) = g (A 24) := by
        rw [up_n (ro_ne t24 t6 (by decide)), w1 _ (ro_ne t24 t6 (by decide)) (ro_ne t24 t28 (by decide))]
      rw [g29, bo_of (hC.e 2 0 24 (by decide)) (by rw [nI_t (by omega)]; omega) (by rw [nI_t (by omega)]; omega), gX, nI_c (by omega)]
      refine ih (k + 1) _ (z + 1) (by omega) (by omega) (by omega) ⟨fun a a1 a2 => ?_, fun x hx => ?_, fun t ht => ?_, fun x hx => ?_⟩
      · rw [up_n a2, up_n a1]
        exact w1 a a1 a2
      · rw [up_n n68, up_s, ud_s, bt_clr (by omega) (by omega) hx, cs]
        have k0 := w2 x hx
        constructor
        · intro q
          rw [Bool.and_eq_true] at q
          obtain ⟨q1, q2⟩ := q
          have q3 : ¬ x = ci p b k := by simpa using q2
          obtain ⟨q4, q5⟩ := k0.mp q1
          refine ⟨q4, fun ⟨t, t1, t2⟩ => ?_⟩
          by_cases tk' : t = k
          · rw [tk'] at t2
            exact q3 t2.symm
          · exact q5 ⟨t, by omega, t2⟩
        · intro ⟨q1, q2⟩
          rw [Bool.and_eq_true]
          refine ⟨k0.mpr ⟨q1, fun ⟨t, t1, t2⟩ => q2 ⟨t, by omega, t2⟩⟩, ?_⟩
          have q3 : ¬ x = ci p b k := fun q => q2 ⟨k, by omega, q.symm⟩
          simpa using q3
      · rw [up_s]
        by_cases tk' : t = k
        · rw [tk', ud_s]
        · rw [ud_n (fun q => tk' (hT.inj t k (by omega) hkT' q)), up_n (Ne.symm n68)]
          exact w3 t (by omega)
      · rw [up_s, ud_n (fun q => hx ⟨k, by omega, q.symm⟩), up_n (Ne.symm n68)]
        exact w4 x (fun ⟨t, t1, t2⟩ => hx ⟨t, by omega, t2⟩)
end RC
