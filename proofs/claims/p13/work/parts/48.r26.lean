/-! ===== swap() ===== -/
def sw_ok (y : Nat) (X Y G x' y' : Nat → Int32) : Prop := (∀ b : Nat, b < y → 0 ≤ (X b).toInt → x' b = G b) ∧ (∀ b : Nat, ¬ (b < y ∧ 0 ≤ (X b).toInt) → x' b = X b) ∧ (∀ b : Nat, b < y → 0 ≤ (X b).toInt → y' (G b).toNatClampNeg = nI b) ∧ ∀ p : Nat, (∀ b : Nat, b < y → 0 ≤ (X b).toInt → ¬ (G b).toNatClampNeg = p) → y' p = Y p
theorem sw_0 {X Y G : Nat → Int32} : sw_ok 0 X Y G X Y := ⟨fun b h => absurd h (Nat.not_lt_zero _), fun _ _ => rfl, fun b h => absurd h (Nat.not_lt_zero _), fun _ _ => rfl⟩
theorem sw_n {y : Nat} {X Y G x' y' : Nat → Int32} (h : sw_ok y X Y G x' y') (hn : (X y).toInt < 0) : sw_ok (y + 1) X Y G x' y' := by
  obtain ⟨h1, h2, h3, h4⟩ := h
  have ne : ∀ b : Nat, b < y + 1 → 0 ≤ (X b).toInt → b < y := fun b hb hx => by
    by_cases e : b = y
    · rw [e] at hx
      omega
    · omega
  exact ⟨fun b hb hx => h1 b (ne b hb hx) hx, fun b hb => h2 b (fun q => hb ⟨by omega, q.2⟩), fun b hb hx => h3 b (ne b hb hx) hx, fun p hp => h4 p (fun b hb hx => hp b (by omega) hx)⟩
theorem sw_y {y : Nat} {X Y G x' y' : Nat → Int32} (h : sw_ok y X Y G x' y') (hy : 0 ≤ (X y).toInt) (inj : ∀ b : Nat, b < y → 0 ≤ (X b).toInt → ¬ (G b).toNatClampNeg = (G y).toNatClampNeg) : sw_ok (y + 1) X Y G (upd x' y (G y)) (upd y' (G y).toNatClampNeg (nI y)) := by
  obtain ⟨h1, h2, h3, h4⟩ := h
  refine ⟨fun b hb hx => ?_, fun b hb => ?_, fun b hb hx => ?_, fun p hp => ?_⟩
  · by_cases e : b = y
    · rw [e, ud_s]
    · rw [ud_n e]
      exact h1 b (by omega) hx
  · have e : b ≠ y := fun e => hb ⟨by omega, by rw [e]; exact hy⟩
    rw [ud_n e]
    exact h2 b (fun q => hb ⟨by omega, q.2⟩)
  · by_cases e : b = y
    · rw [e, ud_s]
    · rw [ud_n (inj b (by omega) hx)]
      exact h3 b (by omega) hx
  · rw [ud_n (fun q => hp y (by omega) hy q.symm)]
    exact h4 p (fun b hb hx => hp b (by omega) hx)
def kc (f g : Nat → Int32) : Nat → Nat → Int32 → Int32
  | 0, _, x => x
  | k + 1, y, x => kc f g k (y + 1) (if f y = g y then x else x + 1)
theorem kc_c {f g f' g' : Nat → Int32} {N : Nat} (h : ∀ b, b < N → f b = f' b ∧ g b = g' b) : ∀ (k y : Nat) (x : Int32), y + k ≤ N → kc f g k y x = kc f' g' k y x := by
  intro k
  induction k with
  | zero => intro y x _; rfl
  | succ k ih =>
    intro y x hy
    show kc f g k (y + 1) (if f y = g y then x else x + 1) = kc f' g' k (y + 1) (if f' y = g' y then x else x + 1)
    rw [(h y (by omega)).1, (h y (by omega)).2]
    exact ih _ _ (by omega)
section SP
variable {τ τ1 : th_t} {Z : th_Zt} {gi gi1 gm gm2 : th_i} {gr gr1 rm rm2 : th_r} {A : Nat → Nat} {M1 M2 : List Nat}
theorem pu_no {B : Nat} {v p : Int32} (h : p.toInt < 0) : F_X1_put τ Z gi gr B v p = gi := by
  unfold F_X1_put
  dsimp only
  rw [w0_c, w0_c]
  by_cases c : W0 v 0 15 = 0
  · rw [if_pos c]
  · rw [if_neg c, if_pos (w0_iff.mpr (fun q => by have := i_le.mp q.1; rw [k_0] at this; omega))]
theorem dw_fr (hb : ∀ i : Nat, i < 16 → ∀ q, gr (A 21) i = some q → τ q = 8 ∨ τ q = 9 ∨ τ q = 4) (hC : ro_C τ gr A) {a : Nat} (ha : ¬ (τ a = 8 ∨ τ a = 9 ∨ τ a = 4)) : ∀ (n : Nat) (g : th_i) (y : Int32), f_X0_dropWishes_2 τ Z gi gr (A 1) n g y a = g a := by
  intro n
  induction n with
  | zero => intro g y; rfl
  | succ n ih =>
    intro g y
    unfold f_X0_dropWishes_2 f_X0_dropWishes_25
    dsimp only
    by_cases hc : g (A 1) 6 ≤ y
    · rw [if_pos hc]
    · rw [if_neg hc]
      cases ho : F_X0_boatAt τ Z g gr (A 1) y with
      | none => exact ih _ _
      | some q =>
        have hq : ∃ i, i < 16 ∧ gr (A 21) i = some q := by
          unfold F_X0_boatAt at ho
          dsimp only at ho
          rw [w0_c, hC.g 1 1 21 (by decide)] at ho
          by_cases c1 : W0 y 0 (g (A 1) 6 - 1) = 0
          · rw [if_pos c1] at ho
            cases ho
          · rw [if_neg c1] at ho
            by_cases c2 : (16 : Int32) ≤ y
            · rw [if_pos c2] at ho
              cases ho
            · rw [if_neg c2] at ho
              have c2' := i_ltI.mp (Int32.not_le.mp c2)
              rw [k_16] at c2'
              have c1' := i_le.mp (w0_no c1).1
              rw [k_0] at c1'
              exact ⟨_, by have := i_cl c1'; omega, ho⟩
        obtain ⟨i, hi, hq⟩ := hq
        have nq : a ≠ q := fun e => ha (by rw [e]; exact hb i hi q hq)
        show f_X0_dropWishes_2 τ Z gi gr (A 1) n (va_up g q (upd (g q) 4 0)) (y + 1) a = g a
        rw [ih, up_n nq]
theorem sc_11 (hC : ro_C τ gr A) {N : Nat} (h16 : N ≤ 16) {g gz : th_i} (hN : (g (A 1) 6).toInt = (N : Int)) : ∀ (n y : Nat) (x : Int32), y ≤ N → 16 - y < n → f_X11_swap_11 τ Z gz gr (A 11) n g x (nI y) = f_X11_swap_55 τ Z gz gr (A 11) ((16 - (0 : Int32).toInt).toNat + 1) g (kc (g (A 28)) (g (A 24)) (N - y) y x) 0 := by
  intro n
  induction n with
  | zero => intro y x _ h; exact absurd h (Nat.not_lt_zero _)
  | succ n ih =>
    intro y x hy h
    have ty := nI_t (k := y) (by omega)
    have hu : f_X11_swap_11 τ Z gz gr (A 11) (n + 1) g x (nI y) = if g (A 1) 6 ≤ nI y then f_X11_swap_55 τ Z gz gr (A 11) ((16 - (0 : Int32).toInt).toNat + 1) g x 0 else if F_X6_buoyFor τ Z g gr (A 6) (nI y) = F_X1_buoyOf τ Z g gr (A 2) (nI y) then f_X11_swap_11 τ Z gz gr (A 11) n g x (nI y + 1) else f_X11_swap_11 τ Z gz gr (A 11) n g (x + 1) (nI y + 1) := by
      rw [← hC.g 1 4 2 (by decide), ← hC.g 11 0 1 (by decide), ← hC.g 11 3 6 (by decide)]
      rfl
    rw [hu]
    by_cases c : g (A 1) 6 ≤ nI y
    · rw [if_pos c]
      have c' := i_le.mp c
      have : N - y = 0 := by omega
      rw [this]
      rfl
    · rw [if_neg c]
      have c' := i_ltI.mp (Int32.not_le.mp c)
      rw [bf_at hC (by omega) (by omega), bo_of (hC.e 2 0 24 (by decide)) (by omega) (by omega), nI_c (by omega), nI_sc (by omega), ih (y + 1) _ (by omega) (by omega), ih (y + 1) _ (by omega) (by omega)]
      have e : N - y = (N - (y + 1)) + 1 := by omega
      rw [e]
      show _ = f_X11_swap_55 τ Z gz gr (A 11) ((16 - (0 : Int32).toInt).toNat + 1) g (kc (g (A 28)) (g (A 24)) (N - (y + 1)) (y + 1) (if g (A 28) y = g (A 24) y then x else x + 1)) 0
      by_cases q : g (A 28) y = g (A 24) y
      · rw [if_pos q, if_pos q]
      · rw [if_neg q, if_neg q]
theorem sc_55 (hC : ro_C τ gr A) {N : Nat} (h16 : N ≤ 16) {gz : th_i} {X Y G : Nat → Int32} (hG : ∀ b, b < N → 0 ≤ (X b).toInt → 0 ≤ (G b).toInt ∧ (G b).toInt ≤ 11) (hG0 : ∀ b, b < N → (X b).toInt < 0 → (G b).toInt < 0) (inj : ∀ b b', b < N → b' < N → 0 ≤ (X b).toInt → 0 ≤ (X b').toInt → (G b).toNatClampNeg = (G b').toNatClampNeg → b = b') : ∀ (n y : Nat) (g : th_i) (x : Int32), y ≤ N → 16 - y < n → (g (A 1) 6).toInt = (N : Int) → g (A 28) = G → sw_ok y X Y G (g (A 24)) (g (A 25)) → ∃ g', f_X11_swap_55 τ Z gz gr (A 11) n g x (nI y) = (x, F_X0_dropWishes τ Z g' gr (A 1)) ∧ sw_ok N X Y G (g' (A 24)) (g' (A 25)) := by
  have t1 := hC.t 1 1 (by decide) rfl
  have t24 := hC.t 24 24 (by decide) rfl
  have t25 := hC.t 25 25 (by decide) rfl
  have t28 := hC.t 28 28 (by decide) rfl
  intro n
  induction n with
  | zero => intro y g x _ h; exact absurd h (Nat.not_lt_zero _)
  | succ n ih =>
    intro y g x hy h hN hg28 S
    have ty := nI_t (k := y) (by omega)
    have hu : f_X11_swap_55 τ Z gz gr (A 11) (n + 1) g x (nI y) = if g (A 1) 6 ≤ nI y then (x, F_X0_dropWishes τ Z g gr (A 1)) else f_X11_swap_55 τ Z gz gr (A 11) n (F_X1_put τ Z g gr (A 2) (nI y) (F_X6_buoyFor τ Z g gr (A 6) (nI y))) x (nI y + 1) := by
      rw [← hC.g 1 4 2 (by decide), ← hC.g 11 0 1 (by decide), ← hC.g 11 3 6 (by decide)]
      rfl
    rw [hu]
    by_cases c : g (A 1) 6 ≤ nI y
    · rw [if_pos c]
      have c' := i_le.mp c
      have : y = N := by omega
      subst this
      exact ⟨g, rfl, S⟩
    · rw [if_neg c]
      have c' := i_ltI.mp (Int32.not_le.mp c)
      have yN : y < N := by omega
      rw [bf_at hC (by omega) (by omega), nI_c (by omega), nI_sc (by omega), hg28]
      by_cases q : 0 ≤ (X y).toInt
      · obtain ⟨q1, q2⟩ := hG y yN q
        obtain ⟨p1, p2, p3⟩ := pu_eq (τ := τ) (Z := Z) (gi := g) (v := nI y) (p := G y) (hC.e 2 0 24 (by decide)) (hC.e 2 1 25 (by decide)) (ro_ne t24 t25 (by decide)) (by omega) (by omega) q1 (by omega)
        rw [nI_c (by omega)] at p1
        exact ih (y + 1) _ x (by omega) (by omega) (by rw [p3 _ (ro_ne t1 t24 (by decide)) (ro_ne t1 t25 (by decide))]; exact hN) (by rw [p3 _ (ro_ne t28 t24 (by decide)) (ro_ne t28 t25 (by decide))]; exact hg28) (by
          rw [p1, p2]
          exact sw_y S q (fun b hb hx e => by have := inj b y (by omega) yN hx q e; omega))
      · rw [pu_no (hG0 y yN (by omega))]
        exact ih (y + 1) g x (by omega) (by omega) hN hg28 (sw_n S (by omega))
theorem sm_8 (hQ : ro_M τ rm A) {N : Nat} (h16 : N ≤ 16) {gz : th_i} {X Y G : Nat → Int32} (hG : ∀ b, b < N → 0 ≤ (X b).toInt → 0 ≤ (G b).toInt ∧ (G b).toInt ≤ 11) (hG0 : ∀ b, b < N → (X b).toInt < 0 → (G b).toInt < 0) (inj : ∀ b b', b < N → b' < N → 0 ≤ (X b).toInt → 0 ≤ (X b').toInt → (G b).toNatClampNeg = (G b').toNatClampNeg → b = b') : ∀ (n y : Nat) (g : th_i) (x : Int32), y ≤ N → 16 - y < n → (g (A 12) 8).toInt = (N : Int) → g (A 65) = G → sw_ok y X Y G (g (A 50)) (g (A 46)) → ∃ g', f_X12_swap_8 τ Z gz rm (A 12) n g x (nI y) = (kc G X (N - y) y x, g') ∧ sw_ok N X Y G (g' (A 50)) (g' (A 46)) := by
  have t56 := hQ.t 21 56 (by decide)
  have t50 := hQ.t 12 50 (by decide)
  have t46 := hQ.t 7 46 (by decide)
  have t65 := hQ.t 34 65 (by decide)
  intro n
  induction n with
  | zero => intro y g x _ h; exact absurd h (Nat.not_lt_zero _)
  | succ n ih =>
    intro y g x hy h hN hg65 S
    have ty := nI_t (k := y) (by omega)
    have hu : f_X12_swap_8 τ Z gz rm (A 12) (n + 1) g x (nI y) = if g (A 12) 8 ≤ nI y then (x, g) else if g (A 65) (nI y).toNatClampNeg = g (A 50) (nI y).toNatClampNeg then (if va_up g (A 56) (upd (g (A 56)) (nI y).toNatClampNeg 0) (A 65) (nI y).toNatClampNeg < 0 then f_X12_swap_8 τ Z gz rm (A 12) n (va_up g (A 56) (upd (g (A 56)) (nI y).toNatClampNeg 0)) (x + 0) (nI y + 1) else f_X12_swap_8 τ Z gz rm (A 12) n (F_X12_lies τ Z (va_up g (A 56) (upd (g (A 56)) (nI y).toNatClampNeg 0)) rm (A 12) (nI y) (va_up g (A 56) (upd (g (A 56)) (nI y).toNatClampNeg 0) (A 65) (nI y).toNatClampNeg)) (x + 0) (nI y + 1)) else (if va_up g (A 56) (upd (g (A 56)) (nI y).toNatClampNeg 0) (A 65) (nI y).toNatClampNeg < 0 then f_X12_swap_8 τ Z gz rm (A 12) n (va_up g (A 56) (upd (g (A 56)) (nI y).toNatClampNeg 0)) (x + 1) (nI y + 1) else f_X12_swap_8 τ Z gz rm (A 12) n (F_X12_lies τ Z (va_up g (A 56) (upd (g (A 56)) (nI y).toNatClampNeg 0)) rm (A 12) (nI y) (va_up g (A 56) (upd (g (A 56)) (nI y).toNatClampNeg 0) (A 65) (nI y).toNatClampNeg)) (x + 1) (nI y + 1)) := by
      rw [← hQ.g 34 65 (by decide), ← hQ.g 21 56 (by decide), ← hQ.g 12 50 (by decide)]
      rfl
    rw [hu]
    by_cases c : g (A 12) 8 ≤ nI y
    · rw [if_pos c]
      have c' := i_le.mp c
      have : y = N := by omega
      subst this
      refine ⟨g, ?_, S⟩
      rw [show y - y = 0 by omega]
      rfl
    · rw [if_neg c]
      have c' := i_ltI.mp (Int32.not_le.mp c)
      have yN : y < N := by omega
      have x50 : g (A 50) y = X y := S.2.1 y (fun q => absurd q.1 (Nat.lt_irrefl _))
      rw [nI_c (by omega), nI_sc (by omega), up_n (ro_ne t65 t56 (by decide)), hg65, x50, Int32.add_zero]
      have e : N - y = (N - (y + 1)) + 1 := by omega
      have u12 : va_up g (A 56) (upd (g (A 56)) y 0) (A 12) = g (A 12) := up_n (ro_ne hQ.1 t56 (by decide))
      have u65 : va_up g (A 56) (upd (g (A 56)) y 0) (A 65) = G := by rw [up_n (ro_ne t65 t56 (by decide))]; exact hg65
      have u50 : va_up g (A 56) (upd (g (A 56)) y 0) (A 50) = g (A 50) := up_n (ro_ne t50 t56 (by decide))
      have u46 : va_up g (A 56) (upd (g (A 56)) y 0) (A 46) = g (A 46) := up_n (ro_ne t46 t56 (by decide))
      generalize va_up g (A 56) (upd (g (A 56)) y 0) = g4 at u12 u65 u50 u46
      have go : ∀ x' : Int32, ∃ g', (if G y < 0 then f_X12_swap_8 τ Z gz rm (A 12) n g4 x' (nI (y + 1)) else f_X12_swap_8 τ Z gz rm (A 12) n (F_X12_lies τ Z g4 rm (A 12) (nI y) (G y)) x' (nI (y + 1))) = (kc G X (N - (y + 1)) (y + 1) x', g') ∧ sw_ok N X Y G (g' (A 50)) (g' (A 46)) := fun x' => by
        by_cases q : 0 ≤ (X y).toInt
        · obtain ⟨q1, q2⟩ := hG y yN q
          rw [if_neg (fun z => by have := i_ltI.mp z; rw [k_0] at this; omega)]
          obtain ⟨l1, l2, l3⟩ := li_eq (τ := τ) (Z := Z) (gm := g4) hQ (v := nI y) (p := G y)
          rw [nI_c (by omega)] at l1
          exact ih (y + 1) _ x' (by omega) (by omega) (by rw [l3 _ (ro_ne hQ.1 t50 (by decide)) (ro_ne hQ.1 t46 (by decide)), u12]; exact hN) (by rw [l3 _ (ro_ne t65 t50 (by decide)) (ro_ne t65 t46 (by decide))]; exact u65) (by
            rw [l1, l2, u50, u46]
            exact sw_y S q (fun b hb hx e => by have := inj b y (by omega) yN hx q e; omega))
        · rw [if_pos (i_ltI.mpr (by rw [k_0]; exact hG0 y yN (by omega)))]
          exact ih (y + 1) g4 x' (by omega) (by omega) (by rw [u12]; exact hN) u65 (by rw [u50, u46]; exact sw_n S (by omega))
      have ek : kc G X (N - y) y x = kc G X (N - (y + 1)) (y + 1) (if G y = X y then x else x + 1) := by
        rw [e]
        rfl
      rw [ek]
      by_cases q : G y = X y
      · rw [if_pos q, if_pos q]
        exact go x
      · rw [if_neg q, if_neg q]
        exact go (x + 1)
/-- all swap: answers, berths -/
theorem s_swap (Q : q_all τ Z gi gr gm rm A) (K : c_core τ gi gr gm A) (W : c_wish τ gi gr gm A) (V : c_wnb gm A) (h1 : th_Mod M1 τ gi gr gi1 gr) (h2 : th_Mod M2 τ gm rm gm2 rm) (k1 : ∀ k ∈ [1002, 3500, 805, 905, 405], k ∉ M1) (k2 : ∀ k ∈ [1208, 1200, 1217, 5400, 5500], k ∉ M2) {r1 r2 : Int32} (e1 : F_X11_swap τ Z gi gr (A 11) = (r1, gi1)) (e2 : F_X12_swap τ Z gm rm (A 12) = (r2, gm2)) : r1 = r2 ∧ c_core τ gi1 gr gm2 A ∧ c_wnb gm2 A := by
  obtain ⟨N, hN, h16, R, hz⟩ := rings Q K W V
  have Q' := Q
  obtain ⟨hJ, hJm, hC, hQ, no, nb, wi, cb, cu, ct, cs, cl, cr, cw⟩ := Q'
  obtain ⟨a1, a2, a3, a4, a5, a6, a7, a8⟩ := K
  have no' : gm (A 12) 8 = gi (A 1) 6 := no.symm
  have nb' : gm (A 12) 0 = gi (A 1) 5 := nb.symm
  have n122 : (gm (A 12) 0).toInt ≤ 12 := by rw [nb']; exact (n_p hJ hC).2
  have t1 := hC.t 1 1 (by decide) rfl
  have t6 := hC.t 6 6 (by decide) rfl
  have t24 := hC.t 24 24 (by decide) rfl
  have t25 := hC.t 25 25 (by decide) rfl
  have t50 := hQ.t 12 50 (by decide)
  have t46 := hQ.t 7 46 (by decide)
  obtain ⟨R1, R2, -, -, -, R6, R7, R8, R9, R10⟩ := R
  unfold F_X11_swap at e1
  unfold F_X12_swap at e2
  dsimp only at e1 e2
  rw [hC.g 11 3 6 (by decide)] at e1
  have e2' := e2
  generalize F_X6_draw τ Z gi gr (A 6) = G at e1 R1 R6 R7 R8 R9 R10
  have mfr : ∀ a, fr_a A a → F_X12_findRings τ Z gm rm (A 12) a = gm a := fun a ha => fr_fr hQ ha
  generalize F_X12_findRings τ Z gm rm (A 12) = M at e2 R2 R6 R8 R9 R10 hz mfr
  have G24 : G (A 24) = gi (A 24) := R1.at hC t24 (by decide) (by decide) (by decide)
  have G25 : G (A 25) = gi (A 25) := R1.at hC t25 (by decide) (by decide) (by decide)
  have G1 : (G (A 1) 6).toInt = (N : Int) := by
    rw [R1.at hC t1 (by decide) (by decide) (by decide), ← no']
    exact hN
  have M50 : M (A 50) = gm (A 50) := R2.at hQ t50 (by decide) (by decide) (by decide)
  have M46 : M (A 46) = gm (A 46) := R2.at hQ t46 (by decide) (by decide) (by decide)
  have M12 : (M (A 12) 8).toInt = (N : Int) := by
    rw [R2.at hQ hQ.1 (by decide) (by decide) (by decide)]
    exact hN
  have dnl : ∀ b, b < N → 0 ≤ (gi (A 24) b).toInt → dn A gi M b := fun b hb h => ⟨hz b hb, h⟩
  have gl : ∀ b, b < N → 0 ≤ (gi (A 24) b).toInt → ∃ c, c < N ∧ 0 ≤ (gi (A 24) c).toInt ∧ G (A 28) b = gi (A 24) c := fun b hb h => by
    obtain ⟨c, c1, c2, c3⟩ := R8 b hb (dnl b hb h)
    exact ⟨c, c1, c2.2, c3⟩
  have xr : ∀ b, b < N → 0 ≤ (gi (A 24) b).toInt → (gi (A 24) b).toInt ≤ 11 ∧ (gi (A 24) b).toInt < (gm (A 12) 0).toInt := fun b hb h => by
    rcases be_x a1 (i := b) (by omega) with z | ⟨-, z2, z3, -⟩
    · rw [z, k_m1] at h
      omega
    · exact ⟨z3, z2⟩
  have hG : ∀ b, b < N → 0 ≤ (gi (A 24) b).toInt → 0 ≤ (G (A 28) b).toInt ∧ (G (A 28) b).toInt ≤ 11 := fun b hb h => by
    obtain ⟨c, c1, c2, c3⟩ := gl b hb h
    rw [c3]
    exact ⟨c2, (xr c c1 c2).1⟩
  have hG0 : ∀ b, b < N → (gi (A 24) b).toInt < 0 → (G (A 28) b).toInt < 0 := fun b hb h => by
    rw [R7 b hb h, k_m1]
    decide
  have inj : ∀ b b', b < N → b' < N → 0 ≤ (gi (A 24) b).toInt → 0 ≤ (gi (A 24) b').toInt → (G (A 28) b).toNatClampNeg = (G (A 28) b').toNatClampNeg → b = b' := fun b b' hb hb' h h' e => by
    have e1 := i_cl (hG b hb h).1
    have e2 := i_cl (hG b' hb' h').1
    exact R10 b b' hb hb' (dnl b hb h) (dnl b' hb' h') (i_inj (by omega))
  have eG : ∀ b, b < N → G (A 28) b = M (A 65) b := fun b hb => R6 b hb (hz b hb)
  have eX : ∀ b, b < N → gi (A 24) b = gm (A 50) b := fun b hb => a2 b (by omega)
  have s11 := sc_11 (Z := Z) hC h16 (g := G) (gz := gi) G1 ((16 - (0 : Int32).toInt).toNat + 1) 0 0 (Nat.zero_le _) (by decide)
  rw [show nI 0 = 0 by decide] at s11
  rw [s11] at e1
  obtain ⟨g', u1, u2⟩ := sc_55 (Z := Z) hC h16 (gz := gi) (X := gi (A 24)) (Y := gi (A 25)) hG hG0 inj ((16 - (0 : Int32).toInt).toNat + 1) 0 G (kc (G (A 28)) (G (A 24)) (N - 0) 0 0) (Nat.zero_le _) (by decide) G1 rfl (by rw [G24, G25]; exact sw_0)
  rw [show nI 0 = 0 by decide] at u1
  rw [u1] at e1
  obtain ⟨m', v1, v2⟩ := sm_8 (Z := Z) hQ h16 (gz := gm) (X := gm (A 50)) (Y := gm (A 46)) (G := M (A 65)) (fun b hb h => by rw [← eX b hb] at h; rw [← eG b hb]; exact hG b hb h) (fun b hb h => by rw [← eX b hb] at h; rw [← eG b hb]; exact hG0 b hb h) (fun b b' hb hb' h h' e => by
    rw [← eX b hb] at h
    rw [← eX b' hb'] at h'
    rw [← eG b hb, ← eG b' hb'] at e
    exact inj b b' hb hb' h h' e) ((16 - (0 : Int32).toInt).toNat + 1) 0 M 0 (Nat.zero_le _) (by decide) M12 rfl (by rw [M50, M46]; exact sw_0)
  rw [show nI 0 = 0 by decide] at v1
  rw [v1] at e2
  obtain ⟨b1, b2⟩ := pr2 e1
  obtain ⟨b3, b4⟩ := pr2 e2
  have hbt : ∀ i : Nat, i < 16 → ∀ q, gr (A 21) i = some q → τ q = 8 ∨ τ q = 9 ∨ τ q = 4 := fun i hi q hq => (hJ.at (hC.t 21 21 (by decide) rfl) (by decide)) i hi q hq
  have f24 : gi1 (A 24) = g' (A 24) := by
    rw [← b2]
    unfold F_X0_dropWishes
    exact dw_fr hbt hC (by rw [t24]; decide) _ _ _
  have f25 : gi1 (A 25) = g' (A 25) := by
    rw [← b2]
    unfold F_X0_dropWishes
    exact dw_fr hbt hC (by rw [t25]; decide) _ _ _
  rw [← f24, ← f25] at u2
  rw [b4] at v2
  obtain ⟨p1, p2, p3, p4⟩ := u2
  obtain ⟨w1, w2, w3, w4⟩ := v2
  have m8 := (ro_k h2 8 hQ.1 (by decide) (k2 1208 (by decide))).1
  have m0 := (ro_k h2 0 hQ.1 (by decide) (k2 1200 (by decide))).1
  have m17 := (ro_k h2 17 hQ.1 (by decide) (k2 1217 (by decide))).1
  have m54 := (ro_ka h2 (hQ.t 18 54 (by decide)) (by decide) (k2 5400 (by decide))).1
  have m55 := (ro_ka h2 (hQ.t 19 55 (by decide)) (by decide) (k2 5500 (by decide))).1
  have e10 := (ro_k h1 2 (hC.t 10 10 (by decide) rfl) (by decide) (k1 1002 (by decide))).1
  have e35 := (ro_ka h1 (hC.t 35 35 (by decide) rfl) (by decide) (k1 3500 (by decide))).1
  have e5 : ∀ q, (τ q = 8 ∨ τ q = 9 ∨ τ q = 4) → gi1 q 5 = gi q 5 := fun q t => (b_cell (k := 5) h1 t (k1 805 (by decide)) (k1 905 (by decide)) (k1 405 (by decide))).1
  refine ⟨?_, ?_, ?_⟩
  · rw [← b1, ← b3, G24]
    exact kc_c (N := N) (fun b hb => ⟨eG b hb, eX b hb⟩) _ _ _ (by omega)
  · unfold c_core
    rw [m8, m0, m17, m54, m55, e10, e35]
    refine ⟨⟨fun i hi => ?_, fun p hp => ?_⟩, fun i hi => ?_, fun p hp => ?_, li_mono a4 (Int.le_refl _) (fun k hk => ?_), a5, a6, fun i q hi hq => ?_, a8⟩
    · by_cases c : i < N ∧ 0 ≤ (gi (A 24) i).toInt
      · rw [p1 i c.1 c.2]
        obtain ⟨c', c1, c2, c3⟩ := gl i c.1 c.2
        have r := xr c' c1 c2
        have hg := hG i c.1 c.2
        refine ⟨⟨by omega, hg.2⟩, fun _ => ⟨by omega, by rw [c3]; exact r.2, ?_⟩⟩
        rw [p3 i c.1 c.2, nI_t (by omega)]
      · rw [p2 i c]
        have : gi (A 24) i = -1 := by
          rcases be_x a1 (i := i) hi with z | ⟨z1, -, -, z4, -⟩
          · exact z
          · exact absurd ⟨by omega, z1⟩ c
        rw [this]
        exact ⟨⟨by rw [k_m1]; decide, by rw [k_m1]; decide⟩, fun q => by rw [k_m1] at q; omega⟩
    · by_cases c : ∃ b, b < N ∧ 0 ≤ (gi (A 24) b).toInt ∧ (G (A 28) b).toNatClampNeg = p
      · obtain ⟨b, c1, c2, c3⟩ := c
        obtain ⟨d, d1, d2, d3⟩ := gl b c1 c2
        have r := xr d d1 d2
        have hg := hG b c1 c2
        have cg := i_cl hg.1
        have ey : gi1 (A 25) p = nI b := by rw [← c3]; exact p3 b c1 c2
        have tb := nI_t (k := b) (by omega)
        rw [ey]
        refine ⟨⟨by omega, by omega⟩, fun _ => ⟨?_, by omega, ?_⟩⟩
        · rw [d3] at cg
          rw [← c3, d3]
          omega
        · rw [nI_c (by omega), p1 b c1 c2]
          omega
      · have ey : gi1 (A 25) p = gi (A 25) p := p4 p (fun b hb hx e => c ⟨b, hb, hx, e⟩)
        have : gi (A 25) p = -1 := by
          rcases be_y a1 (p := p) hp with z | ⟨z1, z2, z3, z4, z5⟩
          · exact z
          · have cz := i_cl z1
            obtain ⟨b, g1, g2, g3⟩ := R9 (gi (A 25) p).toNatClampNeg (by omega) (dnl _ (by omega) (by omega))
            exact absurd ⟨b, g1, g2.2, by rw [g3]; exact cl_in z5.symm⟩ c
        rw [ey, this]
        exact ⟨⟨by rw [k_m1]; decide, by rw [k_m1]; decide⟩, fun q => by rw [k_m1] at q; omega⟩
    · by_cases c : 0 ≤ (gi (A 24) i).toInt
      · rw [p1 i (by omega) c, w1 i (by omega) (by rw [← eX i (by omega)]; exact c)]
        exact eG i (by omega)
      · rw [p2 i (fun q => c q.2), w2 i (fun q => c (by rw [eX i (by omega)]; exact q.2))]
        exact eX i (by omega)
    · by_cases c : ∃ b, b < N ∧ 0 ≤ (gi (A 24) b).toInt ∧ (G (A 28) b).toNatClampNeg = p
      · obtain ⟨b, c1, c2, c3⟩ := c
        have ey : gi1 (A 25) p = nI b := by rw [← c3]; exact p3 b c1 c2
        have em : gm2 (A 46) p = nI b := by
          rw [← c3, eG b c1]
          exact w3 b c1 (by rw [← eX b c1]; exact c2)
        rw [ey, em]
      · rw [p4 p (fun b hb hx e => c ⟨b, hb, hx, e⟩), w4 p (fun b hb hx e => c ⟨b, hb, by rw [eX b hb]; exact hx, by rw [eG b hb]; exact e⟩)]
        exact a3 p hp
    · rw [p2 k (fun q => by rw [hk, k_m1] at q; omega)]
      exact hk
    · obtain ⟨t, k⟩ := a7 i q hi hq
      exact ⟨t, by rw [e5 q t]; exact k⟩
  · intro i j hi hj
    have n16m : rg 0 16 (gm (A 12) 8) := by rw [no']; exact n_b hJ hC
    have f12 : F_X12_findRings τ Z gm rm (A 12) (A 12) = gm (A 12) := fr_fr hQ (fr_of hQ hQ.1 (by decide) (by decide) (by decide))
    have f56 : F_X12_findRings τ Z gm rm (A 12) (A 56) = gm (A 56) := fr_fr hQ (fr_of hQ (hQ.t 21 56 (by decide)) (by decide) (by decide) (by decide))
    have mo := ms_8 (Z := Z) (gi := gm) hQ ((16 - (0 : Int32).toInt).toNat + 1) (F_X12_findRings τ Z gm rm (A 12)) 0 0 (by rw [f12]; exact n16m) (by decide) (Nat.lt_add_one _)
    rw [e2', f12, f56] at mo
    dsimp only at mo
    have z : gm2 (A 56) i = 0 := by
      by_cases c : (i : Int) < (gm (A 12) 8).toInt
      · exact mo.1 i (by rw [k_0]; omega) c
      · rw [mo.2 i (Or.inr (by omega))]
        exact W.2.2 i hi (by omega)
    rw [z, k_0] at hj
    omega
end SP
