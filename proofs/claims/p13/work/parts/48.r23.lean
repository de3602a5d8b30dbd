/-! ===== RINGS of the reference ===== -/
section RF
variable {τ τ1 : th_t} {Z : th_Zt} {gi gi1 gm gm2 : th_i} {gr gr1 rm rm2 : th_r} {A : Nat → Nat} {M1 M2 : List Nat}
theorem ir_sp {m : th_i} {p : Nat → Nat} {b N : Nat} (hN : (m (A 12) 8).toInt = (N : Int)) (h16 : N ≤ 16) (hp : ∀ t, F_X12_pointed τ Z m rm (A 12) (nI (ci p b t)) = nI (ci p b (t + 1))) (hlt : ∀ t, ci p b t < N) : ∀ (n t : Nat) (z : Int32), z.toInt = (t : Int) → t ≤ N → 16 - t < n → (f_X12_isRound_8 τ Z m rm (A 12) (nI b) n (nI (ci p b (t + 1))) z = 1 ∧ rnd p b) ∨ (f_X12_isRound_8 τ Z m rm (A 12) (nI b) n (nI (ci p b (t + 1))) z = 0 ∧ ∀ s, t ≤ s → s ≤ N → ¬ ci p b (s + 1) = b) := by
  have hb := hlt 0
  have eqb : ∀ t, nI (ci p b t) = nI b → ci p b t = b := fun t e => nI_inj (by have := hlt t; omega) (by have : b < N := hb; omega) e
  intro n
  induction n with
  | zero => intro t z _ _ h; exact absurd h (Nat.not_lt_zero _)
  | succ n ih =>
    intro t z hz ht h
    unfold f_X12_isRound_8 f_X12_isRound_33
    dsimp only
    by_cases ce : nI (ci p b (t + 1)) = nI b
    · have r : rnd p b := ⟨t + 1, by omega, eqb _ ce⟩
      by_cases c : m (A 12) 8 ≤ z
      · rw [if_pos c, if_pos ce]
        exact Or.inl ⟨rfl, r⟩
      · rw [if_neg c, if_pos ce, if_pos ce]
        exact Or.inl ⟨rfl, r⟩
    · have ne : ¬ ci p b (t + 1) = b := fun e => ce (by rw [e])
      by_cases c : m (A 12) 8 ≤ z
      · rw [if_pos c, if_neg ce]
        have c' := i_le.mp c
        refine Or.inr ⟨rfl, fun s h1 h2 => ?_⟩
        have : s = t := by omega
        rw [this]
        exact ne
      · rw [if_neg c, if_neg ce, hp (t + 1)]
        have c' := i_ltI.mp (Int32.not_le.mp c)
        have e := y_1 (m := 16) (by decide) (y := z) (by omega) (by omega)
        rcases ih (t + 1) (z + 1) (by omega) (by omega) (by omega) with k | ⟨k1, k2⟩
        · exact Or.inl k
        · refine Or.inr ⟨k1, fun s h1 h2 => ?_⟩
          by_cases hs : s = t
          · rw [hs]
            exact ne
          · exact k2 s (by omega) h2
theorem ir_iff {m : th_i} {p : Nat → Nat} {b N : Nat} (hN : (m (A 12) 8).toInt = (N : Int)) (h16 : N ≤ 16) (hp : ∀ t, F_X12_pointed τ Z m rm (A 12) (nI (ci p b t)) = nI (ci p b (t + 1))) (hlt : ∀ t, ci p b t < N) : F_X12_isRound τ Z m rm (A 12) (nI b) = 0 ↔ ¬ rnd p b := by
  unfold F_X12_isRound
  dsimp only
  have h0 : F_X12_pointed τ Z m rm (A 12) (nI b) = nI (ci p b (0 + 1)) := hp 0
  rw [h0]
  rcases ir_sp (τ := τ) (Z := Z) (rm := rm) hN h16 hp hlt ((16 - (0 : Int32).toInt).toNat + 1) 0 0 k_0 (by omega) (by decide) with ⟨k1, k2⟩ | ⟨k1, k2⟩
  · rw [k1]
    exact ⟨fun q => absurd q (by decide), fun q => absurd k2 q⟩
  · rw [k1]
    refine ⟨fun _ q => ?_, fun _ => rfl⟩
    obtain ⟨T, hT⟩ := q.cyc
    have t1 := hT.1
    have := hT.le hlt
    exact k2 (T - 1) (by omega) (by omega) (by rw [show T - 1 + 1 = T by omega]; exact hT.2.1)
theorem f80_sp (hQ : ro_M τ rm A) {m m0 : th_i} {k45 : th_i → Int32 → th_i} {p : Nat → Nat} {b T : Nat} (hT : cyc p b T) (h16 : ∀ t, ci p b t < 16) (hp : ∀ t, F_X12_pointed τ Z m rm (A 12) (nI (ci p b t)) = nI (ci p b (t + 1))) : ∀ (n k : Nat) (g : th_i) (z : Int32), k < T → z.toInt = (k : Int) → 16 - k < n → (∀ a, a ≠ A 67 → g a = m a) → (∀ t, t < k → g (A 67) t = nI (ci p b t)) → ∃ g', f_X12_findRings_80 τ Z gi rm (A 12) m0 (nI b) k45 n g (nI (ci p b k)) z = f_X12_findRings_104 τ Z gi rm (A 12) m0 (nI b) k45 ((16 - (0 : Int32).toInt).toNat + 1) g' (nI T) 0 ∧ (∀ a, a ≠ A 67 → g' a = m a) ∧ ∀ t, t < T → g' (A 67) t = nI (ci p b t) := by
  have hTle := hT.le h16
  have hb : b < 16 := h16 0
  intro n
  induction n with
  | zero => intro k g z _ _ h; exact absurd h (Nat.not_lt_zero _)
  | succ n ih =>
    intro k g z hk hz h hg hr
    have hu : f_X12_findRings_80 τ Z gi rm (A 12) m0 (nI b) k45 (n + 1) g (nI (ci p b k)) z = if F_X12_pointed τ Z (va_up g (A 67) (upd (g (A 67)) z.toNatClampNeg (nI (ci p b k)))) rm (A 12) (nI (ci p b k)) = nI b then f_X12_findRings_104 τ Z gi rm (A 12) m0 (nI b) k45 ((16 - (0 : Int32).toInt).toNat + 1) (va_up g (A 67) (upd (g (A 67)) z.toNatClampNeg (nI (ci p b k)))) (z + 1) 0 else f_X12_findRings_80 τ Z gi rm (A 12) m0 (nI b) k45 n (va_up g (A 67) (upd (g (A 67)) z.toNatClampNeg (nI (ci p b k)))) (F_X12_pointed τ Z (va_up g (A 67) (upd (g (A 67)) z.toNatClampNeg (nI (ci p b k)))) rm (A 12) (nI (ci p b k))) (z + 1) := by
      rw [← hQ.g 36 67 (by decide)]
      rfl
    have zc : z.toNatClampNeg = k := cl_in hz.symm
    have e := y_1 (m := 16) (by decide) (y := z) (by omega) (by omega)
    rw [hu, zc]
    have hg2 : ∀ a, a ≠ A 67 → va_up g (A 67) (upd (g (A 67)) k (nI (ci p b k))) a = m a := fun a ha => by rw [up_n ha]; exact hg a ha
    have hr2 : ∀ t, t < k + 1 → va_up g (A 67) (upd (g (A 67)) k (nI (ci p b k))) (A 67) t = nI (ci p b t) := fun t ht => by
      rw [up_s]
      by_cases e' : t = k
      · rw [e', ud_s]
      · rw [ud_n e']
        exact hr t (by omega)
    generalize va_up g (A 67) (upd (g (A 67)) k (nI (ci p b k))) = g2 at hg2 hr2
    have hpt : F_X12_pointed τ Z g2 rm (A 12) (nI (ci p b k)) = nI (ci p b (k + 1)) := by
      rw [pt_cong hQ (m := g2) (m' := m) (fun a _ _ h67 => hg2 a h67) (hg2 _ (ro_ne (hQ.t 35 66 (by decide)) (hQ.t 36 67 (by decide)) (by decide)))]
      exact hp k
    rw [hpt]
    have h1 := h16 (k + 1)
    by_cases c : nI (ci p b (k + 1)) = nI b
    · have c' : ci p b (k + 1) = b := nI_inj (by omega) (by omega) c
      have ek : k + 1 = T := by
        by_cases q : k + 1 < T
        · exact absurd c' (hT.2.2 (k + 1) (by omega) q)
        · omega
      have ez : z + 1 = nI T := i_inj (by rw [nI_t (by omega)]; omega)
      rw [if_pos c, ez]
      exact ⟨g2, rfl, hg2, fun t ht => hr2 t (by omega)⟩
    · have kT : k + 1 < T := by
        by_cases q : k + 1 = T
        · exact absurd (show nI (ci p b (k + 1)) = nI b by rw [q, hT.2.1]) c
        · omega
      rw [if_neg c]
      exact ih (k + 1) g2 (z + 1) kT (by omega) (by omega) hg2 hr2
theorem md_T {z : Int32} {k T : Nat} (hz : z.toInt = (k : Int)) (hk : k < T) (hT : T ≤ 16) : ((z + 1) - (z + 1) / nI T * nI T).toNatClampNeg = if k + 1 = T then 0 else k + 1 := by
  have e := y_1 (m := 16) (by decide) (y := z) (by omega) (by omega)
  have tT := nI_t (k := T) (by omega)
  have ed : ((z + 1) / nI T).toInt = ((k : Int) + 1) / (T : Int) := by
    rw [i_div (by omega) (by omega), tT, e, hz]
  by_cases c : k + 1 = T
  · rw [if_pos c]
    have e1 : ((k : Int) + 1) / (T : Int) = 1 := by
      rw [show ((k : Int) + 1) = (T : Int) by omega]
      exact Int.ediv_self (by omega)
    rw [e1] at ed
    have em : ((z + 1) / nI T * nI T).toInt = (T : Int) := by
      rw [i_mul (by rw [ed, tT]; omega) (by rw [ed, tT]; omega), ed, tT]
      omega
    exact cl_in (by rw [i_sub (by omega) (by omega)]; omega)
  · rw [if_neg c]
    have e1 : ((k : Int) + 1) / (T : Int) = 0 := Int.ediv_eq_zero_of_lt (by omega) (by omega)
    rw [e1] at ed
    have em : ((z + 1) / nI T * nI T).toInt = 0 := by
      rw [i_mul (by rw [ed, tT]; omega) (by rw [ed, tT]; omega), ed, tT]
      omega
    exact cl_in (by rw [i_sub (by omega) (by omega)]; omega)
theorem f104_sp (hQ : ro_M τ rm A) {m m0 : th_i} {k45 : th_i → Int32 → th_i} {p : Nat → Nat} {b T : Nat} (hT : cyc p b T) (h16 : ∀ t, ci p b t < 16) : ∀ (n k : Nat) (g : th_i) (z : Int32), k ≤ T → z.toInt = (k : Int) → 16 - k < n → (∀ a, a ≠ A 65 → a ≠ A 67 → g a = m a) → (∀ t, t < T → g (A 67) t = nI (ci p b t)) → (∀ t, t < k → g (A 65) (ci p b t) = m (A 50) (ci p b (t + 1))) → (∀ x, ¬ inR p b k x → g (A 65) x = m (A 65) x) → ∃ g', f_X12_findRings_104 τ Z gi rm (A 12) m0 (nI b) k45 n g (nI T) z = f_X12_findRings_147 τ Z gi rm (A 12) m0 (nI b) k45 ((16 - (0 : Int32).toInt).toNat + 1) g' (nI T) 0 ∧ (∀ a, a ≠ A 65 → a ≠ A 67 → g' a = m a) ∧ (∀ t, t < T → g' (A 67) t = nI (ci p b t)) ∧ (∀ t, t < T → g' (A 65) (ci p b t) = m (A 50) (ci p b (t + 1))) ∧ ∀ x, ¬ inR p b T x → g' (A 65) x = m (A 65) x := by
  have hTle := hT.le h16
  have t65 := hQ.t 34 65 (by decide)
  have t67 := hQ.t 36 67 (by decide)
  have t50 := hQ.t 12 50 (by decide)
  intro n
  induction n with
  | zero => intro k g z _ _ h; exact absurd h (Nat.not_lt_zero _)
  | succ n ih =>
    intro k g z hk hz h hg hr h1 h2
    have tT := nI_t (k := T) (by omega)
    have hu : f_X12_findRings_104 τ Z gi rm (A 12) m0 (nI b) k45 (n + 1) g (nI T) z = if nI T ≤ z then f_X12_findRings_147 τ Z gi rm (A 12) m0 (nI b) k45 ((16 - (0 : Int32).toInt).toNat + 1) g (nI T) 0 else f_X12_findRings_104 τ Z gi rm (A 12) m0 (nI b) k45 n (va_up g (A 65) (upd (g (A 65)) (g (A 67) z.toNatClampNeg).toNatClampNeg (g (A 50) (g (A 67) ((z + 1) - (z + 1) / nI T * nI T).toNatClampNeg).toNatClampNeg))) (nI T) (z + 1) := by
      rw [← hQ.g 34 65 (by decide), ← hQ.g 36 67 (by decide), ← hQ.g 12 50 (by decide)]
      rfl
    have zc : z.toNatClampNeg = k := cl_in hz.symm
    rw [hu]
    by_cases c : nI T ≤ z
    · rw [if_pos c]
      have c' := i_le.mp c
      have : k = T := by omega
      subst this
      exact ⟨g, rfl, hg, hr, h1, h2⟩
    · rw [if_neg c]
      have c' := i_ltI.mp (Int32.not_le.mp c)
      have kT : k < T := by omega
      have e := y_1 (m := 16) (by decide) (y := z) (by omega) (by omega)
      have hs := h16 k
      have hs1 := h16 (k + 1)
      have x21 : g (A 67) ((z + 1) - (z + 1) / nI T * nI T).toNatClampNeg = nI (ci p b (k + 1)) := by
        rw [md_T hz kT hTle]
        by_cases q : k + 1 = T
        · rw [if_pos q, hr 0 (by omega), q, hT.2.1]
          rfl
        · rw [if_neg q]
          exact hr (k + 1) (by omega)
      rw [x21, zc, hr k kT, nI_c (by omega), nI_c (by omega), hg _ (ro_ne t50 t65 (by decide)) (ro_ne t50 t67 (by decide))]
      refine ih (k + 1) _ (z + 1) (by omega) (by omega) (by omega) (fun a a1 a2 => by rw [up_n a1]; exact hg a a1 a2) (fun t ht => by rw [up_n (ro_ne t67 t65 (by decide))]; exact hr t ht) (fun t ht => ?_) (fun x hx => ?_)
      · rw [up_s]
        by_cases q : t = k
        · rw [q, ud_s]
        · rw [ud_n (fun q' => q (hT.inj t k (by omega) kT q'))]
          exact h1 t (by omega)
      · rw [up_s, ud_n (fun q => hx ⟨k, by omega, q.symm⟩)]
        exact h2 x (fun ⟨t, t1, t2⟩ => hx ⟨t, by omega, t2⟩)
theorem f147_sp (hQ : ro_M τ rm A) {m m0 : th_i} {k45 : th_i → Int32 → th_i} {p : Nat → Nat} {b T : Nat} (hT : cyc p b T) (h16 : ∀ t, ci p b t < 16) : ∀ (n k : Nat) (g : th_i) (z : Int32), k ≤ T → z.toInt = (k : Int) → 16 - k < n → (∀ a, a ≠ A 66 → g a = m a) → (∀ t, t < T → m (A 67) t = nI (ci p b t)) → (∀ x, inR p b k x → g (A 66) x = 1) → (∀ x, ¬ inR p b k x → g (A 66) x = m (A 66) x) → ∃ g', f_X12_findRings_147 τ Z gi rm (A 12) m0 (nI b) k45 n g (nI T) z = k45 g' 0 ∧ (∀ a, a ≠ A 66 → g' a = m a) ∧ (∀ x, inR p b T x → g' (A 66) x = 1) ∧ ∀ x, ¬ inR p b T x → g' (A 66) x = m (A 66) x := by
  have hTle := hT.le h16
  have t66 := hQ.t 35 66 (by decide)
  have t67 := hQ.t 36 67 (by decide)
  intro n
  induction n with
  | zero => intro k g z _ _ h; exact absurd h (Nat.not_lt_zero _)
  | succ n ih =>
    intro k g z hk hz h hg hr h1 h2
    have tT := nI_t (k := T) (by omega)
    have hu : f_X12_findRings_147 τ Z gi rm (A 12) m0 (nI b) k45 (n + 1) g (nI T) z = if nI T ≤ z then k45 g 0 else f_X12_findRings_147 τ Z gi rm (A 12) m0 (nI b) k45 n (va_up g (A 66) (upd (g (A 66)) (g (A 67) z.toNatClampNeg).toNatClampNeg 1)) (nI T) (z + 1) := by
      rw [← hQ.g 35 66 (by decide), ← hQ.g 36 67 (by decide)]
      rfl
    have zc : z.toNatClampNeg = k := cl_in hz.symm
    rw [hu]
    by_cases c : nI T ≤ z
    · rw [if_pos c]
      have c' := i_le.mp c
      have : k = T := by omega
      subst this
      exact ⟨g, rfl, hg, h1, h2⟩
    · rw [if_neg c]
      have c' := i_ltI.mp (Int32.not_le.mp c)
      have kT : k < T := by omega
      have e := y_1 (m := 16) (by decide) (y := z) (by omega) (by omega)
      have hs := h16 k
      rw [zc, hg _ (ro_ne t67 t66 (by decide)), hr k kT, nI_c (by omega)]
      refine ih (k + 1) _ (z + 1) (by omega) (by omega) (by omega) (fun a a1 => by rw [up_n a1]; exact hg a a1) hr (fun x hx => ?_) (fun x hx => ?_)
      · rw [up_s]
        by_cases q : x = ci p b k
        · rw [q, ud_s]
        · rw [ud_n q]
          obtain ⟨t, t1, t2⟩ := hx
          refine h1 x ⟨t, ?_, t2⟩
          by_cases tk' : t = k
          · rw [tk'] at t2
            exact absurd t2.symm q
          · omega
      · rw [up_s, ud_n (fun q => hx ⟨k, by omega, q.symm⟩)]
        exact h2 x (fun ⟨t, t1, t2⟩ => hx ⟨t, by omega, t2⟩)
/-- one ring of the reference -/
theorem fr_round (hQ : ro_M τ rm A) {m m0 : th_i} {k45 : th_i → Int32 → th_i} {p : Nat → Nat} {b T : Nat} (hT : cyc p b T) (h16 : ∀ t, ci p b t < 16) (hp : ∀ t, F_X12_pointed τ Z m rm (A 12) (nI (ci p b t)) = nI (ci p b (t + 1))) : ∃ m', f_X12_findRings_80 τ Z gi rm (A 12) m0 (nI b) k45 ((16 - (0 : Int32).toInt).toNat + 1) m (nI b) 0 = k45 m' 0 ∧ (∀ a, a ≠ A 65 → a ≠ A 66 → a ≠ A 67 → m' a = m a) ∧ (∀ t, t < T → m' (A 65) (ci p b t) = m (A 50) (ci p b (t + 1))) ∧ (∀ x, ¬ inR p b T x → m' (A 65) x = m (A 65) x) ∧ (∀ x, inR p b T x → m' (A 66) x = 1) ∧ ∀ x, ¬ inR p b T x → m' (A 66) x = m (A 66) x := by
  have t65 := hQ.t 34 65 (by decide)
  have t66 := hQ.t 35 66 (by decide)
  have t67 := hQ.t 36 67 (by decide)
  obtain ⟨g1, a1, a2, a3⟩ := f80_sp (gi := gi) (m0 := m0) (k45 := k45) hQ hT h16 hp ((16 - (0 : Int32).toInt).toNat + 1) 0 m 0 hT.1 k_0 (by decide) (fun _ _ => rfl) (fun t ht => absurd ht (Nat.not_lt_zero _))
  obtain ⟨g2, b1, b2, b3, b4, b5⟩ := f104_sp (Z := Z) (gi := gi) (m := m) (m0 := m0) (k45 := k45) hQ hT h16 ((16 - (0 : Int32).toInt).toNat + 1) 0 g1 0 (Nat.zero_le _) k_0 (by decide) (fun a _ h => a2 a h) a3 (fun t ht => absurd ht (Nat.not_lt_zero _)) (fun x _ => by rw [a2 _ (ro_ne t65 t67 (by decide))])
  obtain ⟨g3, c1, c2, c3, c4⟩ := f147_sp (Z := Z) (gi := gi) (m := g2) (m0 := m0) (k45 := k45) hQ hT h16 ((16 - (0 : Int32).toInt).toNat + 1) 0 g2 0 (Nat.zero_le _) k_0 (by decide) (fun _ _ => rfl) b3 (fun x ⟨t, t1, _⟩ => absurd t1 (Nat.not_lt_zero _)) (fun _ _ => rfl)
  have g66 : g2 (A 66) = m (A 66) := b2 _ (ro_ne t66 t65 (by decide)) (ro_ne t66 t67 (by decide))
  have g65 : g3 (A 65) = g2 (A 65) := c2 _ (ro_ne t65 t66 (by decide))
  refine ⟨g3, a1.trans (b1.trans c1), fun a h1 h2 h3 => by rw [c2 a h2, b2 a h1 h3], fun t ht => by rw [g65]; exact b4 t ht, fun x hx => by rw [g65]; exact b5 x hx, c3, fun x hx => by rw [c4 x hx, g66]⟩
def mu (A : Nat → Nat) (m : th_i) (y : Nat) : Nat := 17 * fr_c (m (A 66)) 16 + (16 - y)
theorem sc_45 (hQ : ro_M τ rm A) {m : th_i} {p : Nat → Nat} {N : Nat} (hN : (m (A 12) 8).toInt = (N : Int)) (h16 : N ≤ 16) (hp : ∀ b, b < N → m (A 66) b = 0 → F_X12_pointed τ Z m rm (A 12) (nI b) = nI (p b) ∧ p b < N ∧ m (A 66) (p b) = 0) : ∀ (n y : Nat), y ≤ N → mu A m y < n → (f_X12_findRings_45 τ Z gi rm (A 12) n m (nI y) = m ∧ ∀ b, y ≤ b → b < N → ¬ (m (A 66) b = 0 ∧ rnd p b)) ∨ ∃ b n', y ≤ b ∧ b < N ∧ m (A 66) b = 0 ∧ rnd p b ∧ f_X12_findRings_45 τ Z gi rm (A 12) n m (nI y) = f_X12_findRings_80 τ Z gi rm (A 12) m (nI b) (f_X12_findRings_45 τ Z gi rm (A 12) n') ((16 - (0 : Int32).toInt).toNat + 1) m (nI b) 0 ∧ mu A m b < n' + 1 ∧ ∀ c, y ≤ c → c < b → ¬ (m (A 66) c = 0 ∧ rnd p c) := by
  intro n
  induction n with
  | zero => intro y _ h; exact absurd h (Nat.not_lt_zero _)
  | succ n ih =>
    intro y hy h
    have ty := nI_t (k := y) (by omega)
    have hu : f_X12_findRings_45 τ Z gi rm (A 12) (n + 1) m (nI y) = if m (A 12) 8 ≤ nI y then m else if m (A 66) (nI y).toNatClampNeg = 0 then (if F_X12_isRound τ Z m rm (A 12) (nI y) = 0 then f_X12_findRings_45 τ Z gi rm (A 12) n m (nI y + 1) else f_X12_findRings_80 τ Z gi rm (A 12) m (nI y) (f_X12_findRings_45 τ Z gi rm (A 12) n) ((16 - (0 : Int32).toInt).toNat + 1) m (nI y) 0) else f_X12_findRings_45 τ Z gi rm (A 12) n m (nI y + 1) := by
      rw [← hQ.g 35 66 (by decide)]
      rfl
    rw [hu, nI_c (by omega)]
    by_cases c : m (A 12) 8 ≤ nI y
    · rw [if_pos c]
      have c' := i_le.mp c
      exact Or.inl ⟨rfl, fun b h1 h2 => by omega⟩
    · rw [if_neg c]
      have c' := i_ltI.mp (Int32.not_le.mp c)
      have e1 : nI y + 1 = nI (y + 1) := nI_sc (by omega)
      rw [e1]
      have next : ¬ (m (A 66) y = 0 ∧ rnd p y) → (f_X12_findRings_45 τ Z gi rm (A 12) n m (nI (y + 1)) = m ∧ ∀ b, y ≤ b → b < N → ¬ (m (A 66) b = 0 ∧ rnd p b)) ∨ ∃ b n', y ≤ b ∧ b < N ∧ m (A 66) b = 0 ∧ rnd p b ∧ f_X12_findRings_45 τ Z gi rm (A 12) n m (nI (y + 1)) = f_X12_findRings_80 τ Z gi rm (A 12) m (nI b) (f_X12_findRings_45 τ Z gi rm (A 12) n') ((16 - (0 : Int32).toInt).toNat + 1) m (nI b) 0 ∧ mu A m b < n' + 1 ∧ ∀ c, y ≤ c → c < b → ¬ (m (A 66) c = 0 ∧ rnd p c) := fun hn => by
        rcases ih (y + 1) (by omega) (by unfold mu at h ⊢; omega) with ⟨k1, k2⟩ | ⟨b, n', k1, k2, k3, k4, k5, k6, k7⟩
        · refine Or.inl ⟨k1, fun b h1 h2 => ?_⟩
          by_cases hb : b = y
          · rw [hb]; exact hn
          · exact k2 b (by omega) h2
        · refine Or.inr ⟨b, n', by omega, k2, k3, k4, k5, k6, fun c h1 h2 => ?_⟩
          by_cases hb : c = y
          · rw [hb]; exact hn
          · exact k7 c (by omega) h2
      by_cases cl : m (A 66) y = 0
      · rw [if_pos cl]
        have cl2 : ∀ t, ci p y t < N ∧ m (A 66) (ci p y t) = 0 := ci_L (L := fun b => b < N ∧ m (A 66) b = 0) (fun b hb => (hp b hb.1 hb.2).2) ⟨by omega, cl⟩
        have ri := ir_iff (τ := τ) (Z := Z) (rm := rm) hN h16 (p := p) (b := y) (fun t => (hp _ (cl2 t).1 (cl2 t).2).1) (fun t => (cl2 t).1)
        by_cases cr : F_X12_isRound τ Z m rm (A 12) (nI y) = 0
        · rw [if_pos cr]
          exact next (fun q => ri.mp cr q.2)
        · rw [if_neg cr]
          exact Or.inr ⟨y, n, Nat.le_refl _, by omega, cl, Classical.byContradiction (fun q => cr (ri.mpr q)), rfl, h, fun c h1 h2 => by omega⟩
      · rw [if_neg cl]
        exact next (fun q => cl q.1)
end RF
