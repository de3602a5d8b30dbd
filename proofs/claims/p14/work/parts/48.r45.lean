/-! ===== THE MOST: who is asked; the reference's tables ===== -/
section TC
variable {τ τ1 : th_t} {Z : th_Zt} {gi gi1 gm gm2 : th_i} {gr gr1 rm rm2 : th_r} {A : Nat → Nat} {M1 M2 : List Nat}
/-- the i-th of those asked for -/
def sB (v : Int32) : Nat → Nat → Nat
  | 0, _ => 0
  | k + 1, i => if bt v k = true ∧ cnB v k = i then k else sB v k i
theorem sB_ok {v : Int32} : ∀ (k i : Nat), i < cnB v k → sB v k i < k ∧ bt v (sB v k i) = true ∧ cnB v (sB v k i) = i := by
  intro k
  induction k with
  | zero => intro i h; exact absurd h (Nat.not_lt_zero _)
  | succ k ih =>
    intro i h
    show (if bt v k = true ∧ cnB v k = i then k else sB v k i) < k + 1 ∧ bt v (if bt v k = true ∧ cnB v k = i then k else sB v k i) = true ∧ cnB v (if bt v k = true ∧ cnB v k = i then k else sB v k i) = i
    by_cases c : bt v k = true ∧ cnB v k = i
    · rw [if_pos c]
      exact ⟨Nat.lt_add_one _, c.1, c.2⟩
    · rw [if_neg c]
      have h' : i < cnB v k + (if bt v k = true then 1 else 0) := h
      have lt : i < cnB v k := by
        by_cases b : bt v k = true
        · rw [if_pos b] at h'
          have : cnB v k ≠ i := fun e => c ⟨b, e⟩
          omega
        · rw [if_neg b] at h'
          omega
      obtain ⟨k1, k2, k3⟩ := ih i lt
      exact ⟨by omega, k2, k3⟩
theorem I12 {f : Nat → Int32} {r : Nat → Option Nat} {c : Int32} (h : th_I 12 τ f r) (hc0 : rg 0 5 c) : th_I 12 τ (upd f 27 c) r := by
  have hc : rg 0 5 (upd f 27 c 27) := by rw [ud_s]; exact hc0
  obtain ⟨x0, x1, x2, x3, x4, x5, x6, x7, x8, x9, x10, x11, x12, x13, x15, x16, x17, x18, x19, x21, x22, x24, x25, x26, -, x28, x29, x30, x31, x32, x34, x35, x36, x37⟩ := h
  exact ⟨(by rw [ud_n (by decide)]; exact x0), x1, x2, x3, x4, x5, x6, x7, (by rw [ud_n (by decide)]; exact x8), x9, x10, x11, x12, x13, x15, x16, (by rw [ud_n (by decide)]; exact x17), x18, x19, x21, x22, (by rw [ud_n (by decide)]; exact x24), x25, x26, hc, x28, x29, x30, x31, x32, x34, x35, x36, x37⟩
theorem I12b {f : Nat → Int32} {r : Nat → Option Nat} {c : Int32} (h : th_I 12 τ f r) : th_I 12 τ (upd f 33 c) r := by
  obtain ⟨x0, x1, x2, x3, x4, x5, x6, x7, x8, x9, x10, x11, x12, x13, x15, x16, x17, x18, x19, x21, x22, x24, x25, x26, x27, x28, x29, x30, x31, x32, x34, x35, x36, x37⟩ := h
  exact ⟨(by rw [ud_n (by decide)]; exact x0), x1, x2, x3, x4, x5, x6, x7, (by rw [ud_n (by decide)]; exact x8), x9, x10, x11, x12, x13, x15, x16, (by rw [ud_n (by decide)]; exact x17), x18, x19, x21, x22, (by rw [ud_n (by decide)]; exact x24), x25, x26, (by rw [ud_n (by decide)]; exact x27), x28, x29, x30, x31, x32, x34, x35, x36, x37⟩
theorem I7 {f : Nat → Int32} {r : Nat → Option Nat} {c : Int32} (h : th_I 7 τ f r) (hc0 : rg 0 5 c) : th_I 7 τ (upd f 2 c) r := by
  have hc : rg 0 5 (upd f 2 c 2) := by rw [ud_s]; exact hc0
  obtain ⟨x0, x1, -, x3, x4, x5, x6⟩ := h
  exact ⟨x0, x1, hc, x3, x4, x5, x6⟩
theorem I7b {f : Nat → Int32} {r : Nat → Option Nat} {c : Int32} (h : th_I 7 τ f r) : th_I 7 τ (upd f 7 c) r := by
  obtain ⟨x0, x1, x2, x3, x4, x5, x6⟩ := h
  exact ⟨x0, x1, (by rw [ud_n (by decide)]; exact x2), x3, x4, x5, x6⟩
/-- a picture of the reference that differs in its tables alone -/
def yM (A : Nat → Nat) (m m0 : th_i) : Prop := ∀ a, a ≠ A 61 → a ≠ A 64 → m a = m0 a
theorem q_fm (Q : q_all τ Z gi gr gm rm A) (K : c_core τ gi gr gm A) {m : th_i} (h : yM A m gm) : q_all τ Z gi gr m rm A ∧ c_core τ gi gr m A := by
  have Q' := Q
  obtain ⟨hJ, hJm, hC, hQ, -⟩ := Q'
  have t61 := hQ.t 29 61 (by decide)
  have t64 := hQ.t 32 64 (by decide)
  have h2 : th_Mod rM τ gm rm m rm := fun b j hb hk => by
    refine ⟨?_, rfl⟩
    by_cases e1 : b = A 61
    · subst e1
      exact absurd (show th_key (τ (A 61)) j ∈ rM by rw [t61]; show (6100 : Nat) ∈ _; decide) hk
    · by_cases e2 : b = A 64
      · subst e2
        exact absurd (show th_key (τ (A 64)) j ∈ rM by rw [t64]; show (6400 : Nat) ∈ _; decide) hk
      · rw [h b e1 e2]
  have J : th_J τ m rm := fun a ha => by
    by_cases e1 : a = A 61
    · subst e1
      rw [t61]
      exact trivial
    · by_cases e2 : a = A 64
      · subst e2
        rw [t64]
        exact trivial
      · rw [h a e1 e2]
        exact hJm a ha
  exact ⟨q_ref Q h2 J, c_core.fr hC hQ (th_Mod.rf (M := [])) h2 (by decide) (by decide) K⟩
theorem or_0 (x : Int32) (q : Nat) : bt (x ||| 0) q = bt x q := by
  rw [b_or, b_0, Bool.or_false]
/-- the BUOYS that j can't have beside i at p -/
noncomputable def tcr (τ : th_t) (Z : th_Zt) (gi : th_i) (gr : th_r) (A : Nat → Nat) (may : Nat → Int32) (k l p j y q : Nat) : Bool := decide (q = p) || (decide (q < y) && (bt (may j) q && (decide (¬ q = p) && tcb τ Z gi gr A k p l q)))
theorem to_8 (Q : q_all τ Z gi gr gm rm A) (K : c_core τ gi gr gm A) {m : th_i} (F : yM A m gm) {nb i p j k l : Nat} (hnb : (gm (A 12) 0).toInt = (nb : Int)) (h12 : nb ≤ 12) (hi : i < 5) (hp : p < nb) (hj : j < 5) (e1 : gm (A 60) i = nI k) (e2 : gm (A 60) j = nI l) (hk : (k : Int) < (gm (A 12) 8).toInt) (hl : (l : Int) < (gm (A 12) 8).toInt) : ∀ (n y : Nat) (acc : Int32), y ≤ nb → 12 - y < n → (∀ q, q < 32 → bt acc q = tcr τ Z gi gr A (m (A 61)) k l p j y q) → ∀ q, q < 32 → bt (f_X12_touchingOf_8 τ Z m rm (A 12) (nI i) (nI p) (nI j) n acc (nI y)) q = tcr τ Z gi gr A (m (A 61)) k l p j nb q := by
  obtain ⟨Qm, Km⟩ := q_fm Q K F
  have Q' := Q
  obtain ⟨hJ, hJm, hC, hQ, no, -⟩ := Q'
  have t60 := hQ.t 28 60 (by decide)
  have t61 := hQ.t 29 61 (by decide)
  have t64 := hQ.t 32 64 (by decide)
  have m12 : m (A 12) = gm (A 12) := F _ (ro_ne hQ.1 t61 (by decide)) (ro_ne hQ.1 t64 (by decide))
  have m60 : m (A 60) = gm (A 60) := F _ (ro_ne t60 t61 (by decide)) (ro_ne t60 t64 (by decide))
  have e0 : gm (A 12) 0 = nI nb := i_inj (by rw [hnb, nI_t (by omega)])
  intro n
  induction n with
  | zero => intro y acc _ h; exact absurd h (Nat.not_lt_zero _)
  | succ n ih =>
    intro y acc hy h ha q hq
    have ty := nI_t (k := y) (by omega)
    have tn := nI_t (k := nb) (by omega)
    unfold f_X12_touchingOf_8 f_X12_touchingOf_64 f_X12_touchingOf_65 f_X12_touchingOf_82
    dsimp only
    rw [hQ.g 29 61 (by decide), hQ.g 28 60 (by decide), m12, m60, e0, nI_c (show j < 2147483648 by omega), nI_c (show i < 2147483648 by omega), e1, e2]
    by_cases c : nI nb ≤ nI y
    · have c' := i_le.mp c
      have : y = nb := by omega
      subst this
      rw [if_pos c]
      exact ha q hq
    · have c' := i_ltI.mp (Int32.not_le.mp c)
      have hyn : y < nb := by omega
      rw [if_neg c, nI_sc (by omega), if_pos rfl, if_neg (show ¬ (1 : Int32) = 0 by decide)]
      -- what y adds
      have skip : (∀ q, q < 32 → q = y → tcr τ Z gi gr A (m (A 61)) k l p j (y + 1) q = tcr τ Z gi gr A (m (A 61)) k l p j y q) → ∀ q, q < 32 → bt (acc ||| 0) q = tcr τ Z gi gr A (m (A 61)) k l p j (y + 1) q := fun w q hq => by
        rw [or_0, ha q hq]
        by_cases e : q = y
        · exact (w q hq e).symm
        · unfold tcr
          rw [decide_eq_decide.mpr (show q < y ↔ q < y + 1 by omega)]
      have B := bt_one (x := m (A 61) j) (y := nI y) (by omega) (by omega)
      rw [nI_c (by omega)] at B
      by_cases c1 : nI y = nI p
      · have ey : y = p := nI_inj (by omega) (by omega) c1
        rw [if_pos c1]
        refine ih (y + 1) _ (by omega) (by omega) (skip (fun q _ e => ?_)) q hq
        unfold tcr
        rw [e, ey, decide_eq_true (show p = p from rfl), Bool.true_or, Bool.true_or]
      · have ny : y ≠ p := fun e => c1 (by rw [e])
        rw [if_neg c1]
        by_cases c2 : m (A 61) j >>> (nI y &&& 31) &&& 1 = 1
        · rw [if_pos c2]
          have b1 := B.mp c2
          obtain ⟨f1, f2, -⟩ := ft_ref Qm (k := k) (p := p) (l := l) (q := y) (by rw [m12]; exact hk) (by rw [m12, hnb]; omega) (by rw [m12]; exact hl) (by rw [m12, hnb]; omega)
          rw [← f1]
          by_cases c3 : F_X0_firstTouch τ Z gi gr (A 1) (Bc gr A k) (Uc gr A p) (Bc gr A l) (Uc gr A y) < 0
          · rw [if_pos c3]
            have f3 : F_X0_firstTouch τ Z gi gr (A 1) (Bc gr A k) (Uc gr A p) (Bc gr A l) (Uc gr A y) = -1 := by
              rcases f2 with f | f
              · exact f
              · have := i_ltI.mp c3
                rw [k_0] at this
                have := f.1
                omega
            refine ih (y + 1) _ (by omega) (by omega) (skip (fun q _ e => ?_)) q hq
            unfold tcr tcb
            rw [e, decide_eq_false (show ¬ ¬ F_X0_firstTouch τ Z gi gr (A 1) (Bc gr A k) (Uc gr A p) (Bc gr A l) (Uc gr A y) = -1 from fun z => z f3), Bool.and_false, Bool.and_false, Bool.and_false, Bool.and_false]
          · rw [if_neg c3]
            have f3 : ¬ F_X0_firstTouch τ Z gi gr (A 1) (Bc gr A k) (Uc gr A p) (Bc gr A l) (Uc gr A y) = -1 := fun z => c3 (by rw [z]; decide)
            refine ih (y + 1) _ (by omega) (by omega) (fun q hq => ?_) q hq
            rw [bt_set (by omega) (by omega) hq, nI_c (by omega), ha q hq]
            unfold tcr
            by_cases e : q = y
            · rw [e, b1, decide_eq_true (show y = y from rfl), Bool.or_true, decide_eq_true (show y < y + 1 by omega), decide_eq_true ny]
              unfold tcb
              rw [decide_eq_true f3]
              simp
            · rw [decide_eq_false e, Bool.or_false, decide_eq_decide.mpr (show q < y ↔ q < y + 1 by omega)]
        · rw [if_neg c2]
          have b0 : bt (m (A 61) j) y = false := by
            cases hb : bt (m (A 61) j) y with
            | false => rfl
            | true => exact absurd (B.mpr hb) c2
          refine ih (y + 1) _ (by omega) (by omega) (skip (fun q _ e => ?_)) q hq
          unfold tcr
          rw [e, b0, Bool.false_and, Bool.and_false, Bool.and_false]
theorem to_eq (Q : q_all τ Z gi gr gm rm A) (K : c_core τ gi gr gm A) {m : th_i} (F : yM A m gm) {nb i p j k l : Nat} (hnb : (gm (A 12) 0).toInt = (nb : Int)) (h12 : nb ≤ 12) (hi : i < 5) (hp : p < nb) (hj : j < 5) (e1 : gm (A 60) i = nI k) (e2 : gm (A 60) j = nI l) (hk : (k : Int) < (gm (A 12) 8).toInt) (hl : (l : Int) < (gm (A 12) 8).toInt) : ∀ q, q < 32 → bt (F_X12_touchingOf τ Z m rm (A 12) (nI i) (nI p) (nI j)) q = tcr τ Z gi gr A (m (A 61)) k l p j nb q := by
  have tp := nI_t (k := p) (by omega)
  unfold F_X12_touchingOf
  dsimp only
  refine to_8 Q K F hnb h12 hi hp hj e1 e2 hk hl _ 0 _ (Nat.zero_le _) (by decide) (fun q hq => ?_)
  have s := bt_set (x := 0) (y := nI p) (b := q) (by omega) (by omega) hq
  rw [b_or, b_0, Bool.false_or, Bool.false_or, nI_c (by omega)] at s
  rw [s]
  unfold tcr
  rw [decide_eq_false (Nat.not_lt_zero q), Bool.false_and, Bool.or_false]
/-- where each may lie -/
noncomputable def mbr (τ : th_t) (Z : th_Zt) (gi : th_i) (gr : th_r) (A : Nat → Nat) (k y p : Nat) : Bool := decide (p < y) && mlb τ Z gi gr A k p
theorem my_19 (Q : q_all τ Z gi gr gm rm A) (K : c_core τ gi gr gm A) {gz g2 : th_i} {k2 : th_i → Int32 → th_i} {nb i k : Nat} (hnb : (gm (A 12) 0).toInt = (nb : Int)) (h12 : nb ≤ 12) (hi : i < 5) (e1 : gm (A 60) i = nI k) (hk : (k : Int) < (gm (A 12) 8).toInt) (fr : gi (A 24) k = -1) : ∀ (n y : Nat) (m : th_i), y ≤ nb → 12 - y < n → yM A m gm → (∀ p, p < 32 → bt (m (A 61) i) p = mbr τ Z gi gr A k y p) → ∃ m', f_X12_findMay_19 τ Z gz rm (A 12) g2 (nI i) k2 n m (nI y) = k2 m' (nI (i + 1)) ∧ (∀ a, a ≠ A 61 → m' a = m a) ∧ (∀ j, j ≠ i → m' (A 61) j = m (A 61) j) ∧ ∀ p, p < 32 → bt (m' (A 61) i) p = mbr τ Z gi gr A k nb p := by
  have Q' := Q
  obtain ⟨hJ, hJm, hC, hQ, no, nbE, -⟩ := Q'
  obtain ⟨a1, a2, a3, -⟩ := id K
  have t60 := hQ.t 28 60 (by decide)
  have t61 := hQ.t 29 61 (by decide)
  have t64 := hQ.t 32 64 (by decide)
  have t46 := hQ.t 7 46 (by decide)
  have e0 : gm (A 12) 0 = nI nb := i_inj (by rw [hnb, nI_t (by omega)])
  intro n
  induction n with
  | zero => intro y m _ h; exact absurd h (Nat.not_lt_zero _)
  | succ n ih =>
    intro y m hy h F hm
    obtain ⟨Qm, Km⟩ := q_fm Q K F
    have m12 : m (A 12) = gm (A 12) := F _ (ro_ne hQ.1 t61 (by decide)) (ro_ne hQ.1 t64 (by decide))
    have m60 : m (A 60) = gm (A 60) := F _ (ro_ne t60 t61 (by decide)) (ro_ne t60 t64 (by decide))
    have m46 : m (A 46) = gm (A 46) := F _ (ro_ne t46 t61 (by decide)) (ro_ne t46 t64 (by decide))
    have ty := nI_t (k := y) (by omega)
    have tn := nI_t (k := nb) (by omega)
    unfold f_X12_findMay_19 f_X12_findMay_67 f_X12_findMay_68
    dsimp only
    rw [hQ.g 29 61 (by decide), hQ.g 28 60 (by decide), hQ.g 7 46 (by decide), hQ.g 12 50 (by decide), m12, m60, m46, e0, nI_c (show i < 2147483648 by omega), nI_c (show y < 2147483648 by omega), e1]
    by_cases c : nI nb ≤ nI y
    · have c' := i_le.mp c
      have : y = nb := by omega
      subst this
      rw [if_pos c, nI_sc (by omega)]
      exact ⟨m, rfl, fun _ _ => rfl, fun _ _ => rfl, hm⟩
    · have c' := i_ltI.mp (Int32.not_le.mp c)
      have hyn : y < nb := by omega
      rw [if_neg c, nI_sc (by omega)]
      have go : ∀ x : Int32, (∀ p, p < 32 → bt x p = mbr τ Z gi gr A k (y + 1) p) → ∃ m', f_X12_findMay_19 τ Z gz rm (A 12) g2 (nI i) k2 n (va_up m (A 61) (upd (m (A 61)) i x)) (nI (y + 1)) = k2 m' (nI (i + 1)) ∧ (∀ a, a ≠ A 61 → m' a = m a) ∧ (∀ j, j ≠ i → m' (A 61) j = m (A 61) j) ∧ ∀ p, p < 32 → bt (m' (A 61) i) p = mbr τ Z gi gr A k nb p := fun x hx => by
        obtain ⟨m', w1, w2, w3, w4⟩ := ih (y + 1) (va_up m (A 61) (upd (m (A 61)) i x)) (by omega) (by omega) (fun a n1 n4 => by rw [up_n n1]; exact F a n1 n4) (fun p hp => by rw [up_s, ud_s]; exact hx p hp)
        exact ⟨m', w1, fun a ha => by rw [w2 a ha, up_n ha], fun j hj => by rw [w3 j hj, up_s, ud_n hj], w4⟩
      have L := ml_ref Qm Km (k := k) (p := y) (by rw [m12]; exact hk) (by rw [m12, hnb]; omega) fr
      have no1 : mlb τ Z gi gr A k y = false → ∀ p, p < 32 → bt (m (A 61) i ||| 0) p = mbr τ Z gi gr A k (y + 1) p := fun w p hp => by
        rw [or_0, hm p hp]
        unfold mbr
        by_cases e : p = y
        · rw [e, w, Bool.and_false, Bool.and_false]
        · rw [decide_eq_decide.mpr (show p < y ↔ p < y + 1 by omega)]
      by_cases c1 : (0 : Int32) ≤ gm (A 46) y
      · rw [if_pos c1]
        refine go _ (no1 ?_)
        -- another lies there
        have c1' := i_le.mp c1
        rw [k_0, ← a3 y (by rw [hnb]; omega)] at c1'
        unfold mlb
        refine decide_eq_false (fun z => z ?_)
        obtain ⟨u1, u2⟩ := u_Uc (Qm.2.2.2.2.2.2.2.2.1) (p := y) (by rw [m12, hnb]; omega)
        by_cases z2 : F_X0_mayLie τ Z gi gr (A 1) (Bc gr A k) (Uc gr A y) (A 2) = 0
        · exact z2
        · have := ml_fr (hC.e 2 1 25 (by decide)) (p := nI y) (i_inj (by rw [u2.2.2.1, ty])) (by omega) (by omega) z2
          rw [nI_c (by omega)] at this
          rw [this, k_m1] at c1'
          omega
      · rw [if_neg c1]
        by_cases c2 : F_X12_mayLie τ Z m rm (A 12) (nI k) (nI y) (A 50) = 0
        · rw [if_pos c2]
          refine go _ (no1 ?_)
          unfold mlb
          exact decide_eq_false (fun z => z (by rw [L]; exact c2))
        · rw [if_neg c2]
          refine go _ (fun p hp => ?_)
          rw [bt_set (by omega) (by omega) hp, nI_c (by omega), hm p hp]
          unfold mbr
          by_cases e : p = y
          · have w : mlb τ Z gi gr A k y = true := by
              unfold mlb
              exact decide_eq_true (by rw [L]; exact c2)
            rw [e, w, decide_eq_true (show y = y from rfl), Bool.or_true, decide_eq_true (show y < y + 1 by omega), Bool.true_and]
          · rw [decide_eq_false e, Bool.or_false, decide_eq_decide.mpr (show p < y ↔ p < y + 1 by omega)]
theorem my_2 (Q : q_all τ Z gi gr gm rm A) (K : c_core τ gi gr gm A) {gz : th_i} {s : Nat → Nat} {nb n : Nat} (hnb : (gm (A 12) 0).toInt = (nb : Int)) (h12 : nb ≤ 12) (hn : n ≤ 5) (h27 : gm (A 12) 27 = nI n) (hs : ∀ i, i < n → gm (A 60) i = nI (s i) ∧ ((s i : Nat) : Int) < (gm (A 12) 8).toInt ∧ gi (A 24) (s i) = -1) : ∀ (N i : Nat) (m : th_i), i ≤ n → 5 - i < N → yM A m gm → (∀ j, j < i → ∀ p, p < 32 → bt (m (A 61) j) p = mbr τ Z gi gr A (s j) nb p) → ∃ m', f_X12_findMay_2 τ Z gz rm (A 12) N m (nI i) = f_X12_findMay_84 τ Z gz rm (A 12) ((5 - (0 : Int32).toInt).toNat + 1) m' 0 ∧ yM A m' gm ∧ ∀ j, j < n → ∀ p, p < 32 → bt (m' (A 61) j) p = mbr τ Z gi gr A (s j) nb p := by
  have Q' := Q
  obtain ⟨hJ, hJm, hC, hQ, -⟩ := Q'
  have t61 := hQ.t 29 61 (by decide)
  have t64 := hQ.t 32 64 (by decide)
  intro N
  induction N with
  | zero => intro i m _ h; exact absurd h (Nat.not_lt_zero _)
  | succ N ih =>
    intro i m hi h F hm
    have m12 : m (A 12) = gm (A 12) := F _ (ro_ne hQ.1 t61 (by decide)) (ro_ne hQ.1 t64 (by decide))
    have ti := nI_t (k := i) (by omega)
    have tn := nI_t (k := n) (by omega)
    unfold f_X12_findMay_2
    dsimp only
    rw [hQ.g 29 61 (by decide), m12, h27, nI_c (show i < 2147483648 by omega)]
    by_cases c : nI n ≤ nI i
    · have c' := i_le.mp c
      have : i = n := by omega
      subst this
      rw [if_pos c]
      exact ⟨m, rfl, F, hm⟩
    · have c' := i_ltI.mp (Int32.not_le.mp c)
      rw [if_neg c]
      obtain ⟨s1, s2, s3⟩ := hs i (by omega)
      obtain ⟨m', w1, w2, w3, w4⟩ := my_19 (Z := Z) (gz := gz) (g2 := m) (k2 := f_X12_findMay_2 τ Z gz rm (A 12) N) Q K hnb h12 (i := i) (by omega) s1 s2 s3 ((12 - (0 : Int32).toInt).toNat + 1) 0 (va_up m (A 61) (upd (m (A 61)) i 0)) (Nat.zero_le _) (by decide) (fun a n1 n4 => by rw [up_n n1]; exact F a n1 n4) (fun p hp => by
        rw [up_s, ud_s, b_0]
        unfold mbr
        rw [decide_eq_false (Nat.not_lt_zero p), Bool.false_and])
      rw [show nI 0 = 0 by decide] at w1
      rw [w1]
      refine ih (i + 1) m' (by omega) (by omega) (fun a n1 n4 => by rw [w2 a n1, up_n n1]; exact F a n1 n4) (fun j hj p hp => ?_)
      by_cases e : j = i
      · rw [e]
        exact w4 p hp
      · rw [w3 j e, up_s, ud_n e]
        exact hm j (by omega) p hp
/-- the second table -/
def ttb (τ : th_t) (Z : th_Zt) (gi : th_i) (gr : th_r) (A : Nat → Nat) (s : Nat → Nat) (nb : Nat) (may : Nat → Int32) (x : Nat → Int32) (i p j : Nat) : Prop := bt (may i) p = true → ∀ q, q < 32 → bt (x (5 * (12 * i + p) + j)) q = tcr τ Z gi gr A may (s i) (s j) p j nb q
theorem my_104 (Q : q_all τ Z gi gr gm rm A) (K : c_core τ gi gr gm A) {gz g84 g94 : th_i} {k84 k94 : th_i → Int32 → th_i} {s : Nat → Nat} {nb n i p : Nat} (hnb : (gm (A 12) 0).toInt = (nb : Int)) (h12 : nb ≤ 12) (hn : n ≤ 5) (hs : ∀ i, i < n → gm (A 60) i = nI (s i) ∧ ((s i : Nat) : Int) < (gm (A 12) 8).toInt ∧ gi (A 24) (s i) = -1) (hi : i < n) (hp : p < nb) {may : Nat → Int32} : ∀ (N j : Nat) (m : th_i), j ≤ i → 4 - j < N → yM A m gm → m (A 61) = may → (∀ j', j' < j → ttb τ Z gi gr A s nb may (m (A 64)) i p j') → ∃ m', f_X12_findMay_104 τ Z gz rm (A 12) g84 (nI i) g94 (nI p) k84 k94 N m (nI j) = k94 m' (nI (p + 1)) ∧ yM A m' gm ∧ m' (A 61) = may ∧ (∀ x, (x < 5 * (12 * i + p) ∨ 5 * (12 * i + p) + 5 ≤ x) → m' (A 64) x = m (A 64) x) ∧ ∀ j', j' < i → ttb τ Z gi gr A s nb may (m' (A 64)) i p j' := by
  have Q' := Q
  obtain ⟨hJ, hJm, hC, hQ, -⟩ := Q'
  have t61 := hQ.t 29 61 (by decide)
  have t64 := hQ.t 32 64 (by decide)
  have n14 := ro_ne t61 t64 (by decide)
  intro N
  induction N with
  | zero => intro j m _ h; exact absurd h (Nat.not_lt_zero _)
  | succ N ih =>
    intro j m hj h F hm hd
    have ti := nI_t (k := i) (by omega)
    have tj := nI_t (k := j) (by omega)
    have tp := nI_t (k := p) (by omega)
    unfold f_X12_findMay_104 f_X12_findMay_148
    dsimp only
    rw [hQ.g 29 61 (by decide), hQ.g 32 64 (by decide), hm, nI_c (show i < 2147483648 by omega)]
    by_cases c : nI i ≤ nI j
    · have c' := i_le.mp c
      have : j = i := by omega
      subst this
      rw [if_pos c, nI_sc (by omega)]
      exact ⟨m, rfl, F, hm, fun _ _ => rfl, hd⟩
    · have c' := i_ltI.mp (Int32.not_le.mp c)
      have hji : j < i := by omega
      rw [if_neg c, ix_eq (by omega) (by omega) (by omega), nI_sc (by omega)]
      have B := bt_one (x := may i) (y := nI p) (by omega) (by omega)
      rw [nI_c (by omega)] at B
      have go : ∀ x : Int32, (bt (may i) p = true → ∀ q, q < 32 → bt x q = tcr τ Z gi gr A may (s i) (s j) p j nb q) → ∃ m', f_X12_findMay_104 τ Z gz rm (A 12) g84 (nI i) g94 (nI p) k84 k94 N (va_up m (A 64) (upd (m (A 64)) (5 * (12 * i + p) + j) x)) (nI (j + 1)) = k94 m' (nI (p + 1)) ∧ yM A m' gm ∧ m' (A 61) = may ∧ (∀ x, (x < 5 * (12 * i + p) ∨ 5 * (12 * i + p) + 5 ≤ x) → m' (A 64) x = m (A 64) x) ∧ ∀ j', j' < i → ttb τ Z gi gr A s nb may (m' (A 64)) i p j' := fun x hx => by
        obtain ⟨m', w1, w2, w3, w4, w5⟩ := ih (j + 1) (va_up m (A 64) (upd (m (A 64)) (5 * (12 * i + p) + j) x)) (by omega) (by omega) (fun a n1 n4 => by rw [up_n n4]; exact F a n1 n4) (by rw [up_n n14]; exact hm) (fun j' hj' b q hq => by
          rw [up_s]
          by_cases e : j' = j
          · rw [e, ud_s]
            exact hx b q hq
          · rw [ud_n (by omega)]
            exact hd j' (by omega) b q hq)
        exact ⟨m', w1, w2, w3, fun y hy => by rw [w4 y hy, up_s, ud_n (by omega)], w5⟩
      by_cases c1 : may i >>> (nI p &&& 31) &&& 1 = 1
      · rw [if_pos c1]
        refine go _ (fun b q hq => ?_)
        obtain ⟨s1, s2, -⟩ := hs i hi
        obtain ⟨s3, s4, -⟩ := hs j (by omega)
        have := to_eq (Z := Z) Q K F hnb h12 (i := i) (p := p) (j := j) (by omega) hp (by omega) s1 s3 s2 s4 q hq
        rw [hm] at this
        exact this
      · rw [if_neg c1]
        exact go _ (fun b => absurd (B.mpr b) c1)
theorem my_94 (Q : q_all τ Z gi gr gm rm A) (K : c_core τ gi gr gm A) {gz g84 : th_i} {k84 : th_i → Int32 → th_i} {s : Nat → Nat} {nb n i : Nat} (hnb : (gm (A 12) 0).toInt = (nb : Int)) (h12 : nb ≤ 12) (hn : n ≤ 5) (hs : ∀ i, i < n → gm (A 60) i = nI (s i) ∧ ((s i : Nat) : Int) < (gm (A 12) 8).toInt ∧ gi (A 24) (s i) = -1) (hi : i < n) {may : Nat → Int32} : ∀ (N p : Nat) (m : th_i), p ≤ nb → 12 - p < N → yM A m gm → m (A 61) = may → (∀ i' p' j', i' < n → p' < nb → j' < i' → (i' < i ∨ (i' = i ∧ p' < p)) → ttb τ Z gi gr A s nb may (m (A 64)) i' p' j') → ∃ m', f_X12_findMay_94 τ Z gz rm (A 12) g84 (nI i) k84 N m (nI p) = k84 m' (nI (i + 1)) ∧ yM A m' gm ∧ m' (A 61) = may ∧ ∀ i' p' j', i' < n → p' < nb → j' < i' → i' < i + 1 → ttb τ Z gi gr A s nb may (m' (A 64)) i' p' j' := by
  have Q' := Q
  obtain ⟨hJ, hJm, hC, hQ, -⟩ := Q'
  have t61 := hQ.t 29 61 (by decide)
  have t64 := hQ.t 32 64 (by decide)
  have e0 : gm (A 12) 0 = nI nb := i_inj (by rw [hnb, nI_t (by omega)])
  intro N
  induction N with
  | zero => intro p m _ h; exact absurd h (Nat.not_lt_zero _)
  | succ N ih =>
    intro p m hp h F hm hd
    have m12 : m (A 12) = gm (A 12) := F _ (ro_ne hQ.1 t61 (by decide)) (ro_ne hQ.1 t64 (by decide))
    have tn := nI_t (k := nb) (by omega)
    have tp := nI_t (k := p) (by omega)
    unfold f_X12_findMay_94
    dsimp only
    rw [m12, e0]
    by_cases c : nI nb ≤ nI p
    · have c' := i_le.mp c
      have : p = nb := by omega
      subst this
      rw [if_pos c, nI_sc (by omega)]
      exact ⟨m, rfl, F, hm, fun i' p' j' h1 h2 h3 h4 => hd i' p' j' h1 h2 h3 (by omega)⟩
    · have c' := i_ltI.mp (Int32.not_le.mp c)
      rw [if_neg c]
      obtain ⟨m', w1, w2, w3, w4, w5⟩ := my_104 (Z := Z) (gz := gz) (g84 := g84) (g94 := m) (k84 := k84) (k94 := f_X12_findMay_94 τ Z gz rm (A 12) g84 (nI i) k84 N) Q K hnb h12 hn hs hi (p := p) (by omega) (may := may) ((4 - (0 : Int32).toInt).toNat + 1) 0 m (Nat.zero_le _) (by decide) F hm (fun j' hj' => absurd hj' (Nat.not_lt_zero _))
      rw [show nI 0 = 0 by decide] at w1
      rw [w1]
      refine ih (p + 1) m' (by omega) (by omega) w2 w3 (fun i' p' j' h1 h2 h3 h4 => ?_)
      by_cases e : i' = i ∧ p' = p
      · rw [e.1, e.2]
        exact w5 j' (by omega)
      · have := hd i' p' j' h1 h2 h3 (by omega)
        intro b q hq
        rw [w4 _ (by
          rcases h4 with h4 | h4
          · left
            omega
          · left
            omega)]
        exact this b q hq
theorem my_84 (Q : q_all τ Z gi gr gm rm A) (K : c_core τ gi gr gm A) {gz : th_i} {s : Nat → Nat} {nb n : Nat} (hnb : (gm (A 12) 0).toInt = (nb : Int)) (h12 : nb ≤ 12) (hn : n ≤ 5) (h27 : gm (A 12) 27 = nI n) (hs : ∀ i, i < n → gm (A 60) i = nI (s i) ∧ ((s i : Nat) : Int) < (gm (A 12) 8).toInt ∧ gi (A 24) (s i) = -1) {may : Nat → Int32} : ∀ (N i : Nat) (m : th_i), i ≤ n → 5 - i < N → yM A m gm → m (A 61) = may → (∀ i' p' j', i' < n → p' < nb → j' < i' → i' < i → ttb τ Z gi gr A s nb may (m (A 64)) i' p' j') → yM A (f_X12_findMay_84 τ Z gz rm (A 12) N m (nI i)) gm ∧ f_X12_findMay_84 τ Z gz rm (A 12) N m (nI i) (A 61) = may ∧ ∀ i' p' j', i' < n → p' < nb → j' < i' → ttb τ Z gi gr A s nb may (f_X12_findMay_84 τ Z gz rm (A 12) N m (nI i) (A 64)) i' p' j' := by
  have Q' := Q
  obtain ⟨hJ, hJm, hC, hQ, -⟩ := Q'
  have t61 := hQ.t 29 61 (by decide)
  have t64 := hQ.t 32 64 (by decide)
  intro N
  induction N with
  | zero => intro i m _ h; exact absurd h (Nat.not_lt_zero _)
  | succ N ih =>
    intro i m hi h F hm hd
    have m12 : m (A 12) = gm (A 12) := F _ (ro_ne hQ.1 t61 (by decide)) (ro_ne hQ.1 t64 (by decide))
    have ti := nI_t (k := i) (by omega)
    have tn := nI_t (k := n) (by omega)
    have hu : f_X12_findMay_84 τ Z gz rm (A 12) (N + 1) m (nI i) = if nI n ≤ nI i then m else f_X12_findMay_94 τ Z gz rm (A 12) m (nI i) (f_X12_findMay_84 τ Z gz rm (A 12) N) ((12 - (0 : Int32).toInt).toNat + 1) m 0 := by
      conv => lhs; unfold f_X12_findMay_84
      dsimp only
      rw [m12, h27]
    rw [hu]
    by_cases c : nI n ≤ nI i
    · have c' := i_le.mp c
      rw [if_pos c]
      exact ⟨F, hm, fun i' p' j' h1 h2 h3 => hd i' p' j' h1 h2 h3 (by omega)⟩
    · have c' := i_ltI.mp (Int32.not_le.mp c)
      rw [if_neg c]
      obtain ⟨m', w1, w2, w3, w4⟩ := my_94 (Z := Z) (gz := gz) (g84 := m) (k84 := f_X12_findMay_84 τ Z gz rm (A 12) N) Q K hnb h12 hn hs (i := i) (by omega) (may := may) ((12 - (0 : Int32).toInt).toNat + 1) 0 m (Nat.zero_le _) (by decide) F hm (fun i' p' j' h1 h2 h3 h4 => hd i' p' j' h1 h2 h3 (by omega))
      rw [show nI 0 = 0 by decide] at w1
      rw [w1]
      exact ih (i + 1) m' (by omega) (by omega) w2 w3 w4
/-- the tables of the reference -/
theorem my_eq (Q : q_all τ Z gi gr gm rm A) (K : c_core τ gi gr gm A) {s : Nat → Nat} {nb n : Nat} (hnb : (gm (A 12) 0).toInt = (nb : Int)) (h12 : nb ≤ 12) (hn : n ≤ 5) (h27 : gm (A 12) 27 = nI n) (hs : ∀ i, i < n → gm (A 60) i = nI (s i) ∧ ((s i : Nat) : Int) < (gm (A 12) 8).toInt ∧ gi (A 24) (s i) = -1) : yM A (F_X12_findMay τ Z gm rm (A 12)) gm ∧ (∀ j, j < n → ∀ p, p < 32 → bt (F_X12_findMay τ Z gm rm (A 12) (A 61) j) p = mbr τ Z gi gr A (s j) nb p) ∧ ∀ i p j, i < n → p < nb → j < i → ttb τ Z gi gr A s nb (F_X12_findMay τ Z gm rm (A 12) (A 61)) (F_X12_findMay τ Z gm rm (A 12) (A 64)) i p j := by
  obtain ⟨m', w1, w2, w3⟩ := my_2 (Z := Z) (gz := gm) Q K hnb h12 hn h27 hs ((5 - (0 : Int32).toInt).toNat + 1) 0 gm (Nat.zero_le _) (by decide) (fun _ _ _ => rfl) (fun j hj => absurd hj (Nat.not_lt_zero _))
  obtain ⟨v1, v2, v3⟩ := my_84 (Z := Z) (gz := gm) Q K hnb h12 hn h27 hs (may := m' (A 61)) ((5 - (0 : Int32).toInt).toNat + 1) 0 m' (Nat.zero_le _) (by decide) w2 rfl (fun i' p' j' _ _ _ h => absurd h (Nat.not_lt_zero _))
  rw [show nI 0 = 0 by decide] at w1 v1 v2 v3
  have e : F_X12_findMay τ Z gm rm (A 12) = _ := w1
  rw [e]
  exact ⟨v1, fun j hj p hp => by rw [v2]; exact w3 j hj p hp, fun i p j h1 h2 h3 => by rw [v2]; exact v3 i p j h1 h2 h3⟩
end TC
