/-! ===== YEARS, THE NEXT LOOK ===== -/
section YE
variable {τ τ1 : th_t} {Z : th_Zt} {gi gi1 gm gm2 : th_i} {gr gr1 rm rm2 : th_r} {A : Nat → Nat} {M1 M2 : List Nat}
theorem mnI (a b : Int32) : (th_mn a b).toInt = min a.toInt b.toInt := by
  unfold th_mn
  by_cases h : b < a
  · rw [if_pos h]
    have := i_ltI.mp h
    omega
  · rw [if_neg h]
    have := i_le.mp (Int32.not_lt.mp h)
    omega
def yd (gm : th_i) (A : Nat → Nat) (i : Nat) : Int32 := if gm (A 46) i < 0 then 12 else if gm (A 48) (gm (A 46) i).toNatClampNeg < 150 then 12 else 20
theorem yd_v (i : Nat) : (yd gm A i).toInt = 12 ∨ (yd gm A i).toInt = 20 := by
  unfold yd
  split
  · exact Or.inl (by decide)
  · split
    · exact Or.inl (by decide)
    · exact Or.inr (by decide)
theorem wr_q {g : th_i} {q : Nat} {f : Int32} : F_X3_wear τ Z g gr q f = va_up g q (upd (upd (g q) 6 (th_mn (g q 6 + 3) 100)) 7 (th_mn (g q 7 + if f = 0 then 12 else 20) 100)) := by
  unfold F_X3_wear f_X3_wear_31
  dsimp only
  have e : ∀ v w : Int32, va_up (va_up g q (upd (g q) 6 w)) q (upd (va_up g q (upd (g q) 6 w) q) 7 v) = va_up g q (upd (upd (g q) 6 w) 7 v) := fun v w => by
    funext a
    by_cases h : a = q
    · subst h
      rw [up_s, up_s, up_s]
    · rw [up_n h, up_n h, up_n h]
  rw [up_s, ud_n (show (7 : Nat) ≠ 6 by decide)]
  by_cases c : f = 0
  · rw [if_pos c, if_pos c, ← e, up_s]
  · rw [if_neg c, if_neg c, ← e, up_s]
/-- the picture but for WEAR -/
def y_fr (τ : th_t) (g gi : th_i) : Prop := (∀ a, τ a ≠ 3 → g a = gi a) ∧ ∀ q k, τ q = 3 → k ≠ 6 → k ≠ 7 → g q k = gi q k
theorem py_sp (Q : q_all τ Z gi gr gm rm A) (K : c_core τ gi gr gm A) {gz : th_i} : ∀ (n : Nat) (g : th_i) (y : Int32), 0 ≤ y.toInt → (12 - y.toInt).toNat < n → y_fr τ g gi → y_fr τ (f_X0_passYear_2 τ Z gz gr (A 1) n g y) gi ∧ (∀ i q : Nat, y.toInt ≤ (i : Int) → (i : Int) < (gm (A 12) 0).toInt → gr (A 20) i = some q → f_X0_passYear_2 τ Z gz gr (A 1) n g y q 6 = th_mn (g q 6 + 3) 100 ∧ f_X0_passYear_2 τ Z gz gr (A 1) n g y q 7 = th_mn (g q 7 + yd gm A i) 100) ∧ ∀ q : Nat, (∀ i : Nat, y.toInt ≤ (i : Int) → (i : Int) < (gm (A 12) 0).toInt → ¬ gr (A 20) i = some q) → f_X0_passYear_2 τ Z gz gr (A 1) n g y q = g q := by
  obtain ⟨hJ, hJm, hC, hQ, no, nb, wi, cb, cu, ct, cs, cl, cr, cw⟩ := Q
  obtain ⟨a1, a2, a3, a4, a5, a6, a7, a8⟩ := K
  have no' : gm (A 12) 8 = gi (A 1) 6 := no.symm
  have nb' : gm (A 12) 0 = gi (A 1) 5 := nb.symm
  have n16 := n_b hJ hC
  have n12 := n_p hJ hC
  have n122 := n12.2
  have n162 := n16.2
  have t1 := hC.t 1 1 (by decide) rfl
  have t25 := hC.t 25 25 (by decide) rfl
  intro n
  induction n with
  | zero => intro g y _ h; exact absurd h (Nat.not_lt_zero _)
  | succ n ih =>
    intro g y h0 h F
    have g1 : g (A 1) = gi (A 1) := F.1 _ (by rw [t1]; decide)
    have g25 : g (A 25) = gi (A 25) := F.1 _ (by rw [t25]; decide)
    have hu : f_X0_passYear_2 τ Z gz gr (A 1) (n + 1) g y = if g (A 1) 5 ≤ y then g else Option.elim (F_X0_buoyAt τ Z g gr (A 1) y) (f_X0_passYear_2 τ Z gz gr (A 1) n g (y + 1)) (fun q => Option.elim (F_X0_boatAt τ Z g gr (A 1) (F_X1_boatOf τ Z g gr (A 2) y)) (f_X0_passYear_2 τ Z gz gr (A 1) n (F_X3_wear τ Z g gr q 0) (y + 1)) (fun b => if g b 1 < 150 then f_X0_passYear_2 τ Z gz gr (A 1) n (F_X3_wear τ Z g gr q 0) (y + 1) else f_X0_passYear_2 τ Z gz gr (A 1) n (F_X3_wear τ Z g gr q 1) (y + 1))) := by
      rw [← hC.g 1 4 2 (by decide)]
      rfl
    by_cases c : g (A 1) 5 ≤ y
    · rw [hu, if_pos c]
      have c' := i_le.mp c
      rw [g1, ← nb'] at c'
      exact ⟨F, fun i q h1 h2 => by omega, fun _ _ => rfl⟩
    · have c' := i_ltI.mp (Int32.not_le.mp c)
      rw [g1, ← nb'] at c'
      have cy := i_cl h0
      have nb12 : (gm (A 12) 0).toInt ≤ 12 := by rw [nb']; exact n122
      have e := y_1 (m := 12) (by decide) h0 (by omega)
      obtain ⟨qy, u⟩ := cu y.toNatClampNeg (by omega)
      have hk : f_X0_passYear_2 τ Z gz gr (A 1) (n + 1) g y = f_X0_passYear_2 τ Z gz gr (A 1) n (va_up g qy (upd (upd (g qy) 6 (th_mn (g qy 6 + 3) 100)) 7 (th_mn (g qy 7 + yd gm A y.toNatClampNeg) 100))) (y + 1) := by
        rw [hu, if_neg c, bu_g hC (by rw [g1]; exact n12) h0 (by rw [g1, ← nb']; exact c'), u.1]
        simp only [Option.elim_some]
        rw [bu_of (hC.e 2 1 25 (by decide)) h0 (by omega), g25]
        unfold yd
        rw [← a3 y.toNatClampNeg (by omega)]
        rcases be_y a1 (p := y.toNatClampNeg) (by omega) with z | ⟨z1, z2, z3, z4, z5⟩
        · rw [z, bo_gn (by rw [g1]; exact n16) (by rw [k_m1]; omega), if_pos (by decide)]
          simp only [Option.elim_none]
          rw [wr_q, if_pos rfl]
        · have cz := i_cl z1
          obtain ⟨qb, b1, b2, b3, b4, b5, b6, b7⟩ := cb (gi (A 25) y.toNatClampNeg).toNatClampNeg (by omega)
          have gb : g qb = gi qb := F.1 qb (by rcases b5.nz with t | t | t <;> (rw [t]; decide))
          have nn : ¬ gi (A 25) y.toNatClampNeg < 0 := fun q => by have := i_ltI.mp q; rw [k_0] at this; omega
          rw [bo_g hC (by rw [g1]; exact n16) z1 (by rw [g1, ← no']; exact z2), b1, if_neg nn]
          simp only [Option.elim_some]
          rw [gb, b3]
          by_cases c5 : gm (A 48) (gi (A 25) y.toNatClampNeg).toNatClampNeg < 150
          · rw [if_pos c5, if_pos c5, wr_q, if_pos rfl]
          · rw [if_neg c5, if_neg c5, wr_q, if_neg (show ¬ (1 : Int32) = 0 by decide)]
      rw [hk]
      have nq : ∀ a, τ a ≠ 3 → a ≠ qy := fun a ha e' => ha (by rw [e']; exact u.2.1)
      obtain ⟨k1, k2, k3⟩ := ih (va_up g qy (upd (upd (g qy) 6 (th_mn (g qy 6 + 3) 100)) 7 (th_mn (g qy 7 + yd gm A y.toNatClampNeg) 100))) (y + 1) (by omega) (by omega) ⟨fun a ha => by rw [up_n (nq a ha)]; exact F.1 a ha, fun q k hq h6 h7 => by
        by_cases e' : q = qy
        · rw [e', up_s, ud_n h7, ud_n h6, ← e']
          exact F.2 q k hq h6 h7
        · rw [up_n e']
          exact F.2 q k hq h6 h7⟩
      refine ⟨k1, fun i q h1 h2 hq => ?_, fun q hq => ?_⟩
      · by_cases ei : (i : Int) = y.toInt
        · have ei' : i = y.toNatClampNeg := by omega
          rw [ei'] at hq ⊢
          have : qy = q := Option.some.inj (u.1.symm.trans hq)
          subst this
          rw [k3 qy (fun j j1 j2 j3 => by
            have := cu.ne j2 (by omega : ((y.toNatClampNeg : Nat) : Int) < (gm (A 12) 0).toInt) j3 hq rfl
            omega), up_s, ud_n (show (6 : Nat) ≠ 7 by decide), ud_s, ud_s]
          exact ⟨rfl, rfl⟩
        · obtain ⟨l1, l2⟩ := k2 i q (by omega) h2 hq
          have nqq : q ≠ qy := fun e' => ei (by have := cu.ne h2 (by omega : ((y.toNatClampNeg : Nat) : Int) < (gm (A 12) 0).toInt) hq u.1 e'; omega)
          rw [up_n nqq] at l1 l2
          exact ⟨l1, l2⟩
      · rw [k3 q (fun i h1 h2 => hq i (by omega) h2), up_n (fun e' => hq y.toNatClampNeg (by omega) (by omega) (by rw [e']; exact u.1))]
/-- after t YEARS -/
def y_st (τ : th_t) (gi : th_i) (gr : th_r) (gm : th_i) (A : Nat → Nat) (t : Int) (g : th_i) : Prop := y_fr τ g gi ∧ ∀ i q : Nat, (i : Int) < (gm (A 12) 0).toInt → gr (A 20) i = some q → (g q 6).toInt = min ((gm (A 44) i).toInt + 3 * t) 100 ∧ (g q 7).toInt = min ((gm (A 45) i).toInt + (yd gm A i).toInt * t) 100
theorem yl_sp (Q : q_all τ Z gi gr gm rm A) (K : c_core τ gi gr gm A) (we : c_wear τ gi gr gm A) {p : Int32} {gz : th_i} (hp : rg 1 30 p) : ∀ (n : Nat) (g : th_i) (y : Int32), 0 ≤ y.toInt → y.toInt ≤ p.toInt → (30 - y.toInt).toNat < n → y_st τ gi gr gm A y.toInt g → ∃ g', f_X11_years_18 τ Z gz gr (A 11) p n g y = (F_X0_partedChains τ Z g' gr (A 1), g') ∧ y_st τ gi gr gm A p.toInt g' := by
  have Q' := Q
  obtain ⟨hJ, hJm, hC, hQ, -⟩ := Q'
  have hp2 := hp.2
  have k3 : (3 : Int32).toInt = 3 := by decide
  intro n
  induction n with
  | zero => intro g y _ _ h; exact absurd h (Nat.not_lt_zero _)
  | succ n ih =>
    intro g y h0 hy h S
    unfold f_X11_years_18
    dsimp only
    rw [hC.g 11 0 1 (by decide)]
    by_cases c : p ≤ y
    · rw [if_pos c]
      have c' := i_le.mp c
      have e : y.toInt = p.toInt := by omega
      rw [← e]
      exact ⟨g, rfl, S⟩
    · rw [if_neg c]
      have c' := i_ltI.mp (Int32.not_le.mp c)
      have e := y_1 (m := 30) (by decide) h0 (by omega)
      unfold F_X0_passYear
      obtain ⟨k1, k2, -⟩ := py_sp Q K (gz := g) ((12 - (0 : Int32).toInt).toNat + 1) g 0 (by decide) (Nat.lt_add_one _) S.1
      refine ih _ (y + 1) (by omega) (by omega) (by omega) ⟨k1, fun i q hi hq => ?_⟩
      obtain ⟨l1, l2⟩ := k2 i q (by rw [k_0]; omega) hi hq
      obtain ⟨s1, s2⟩ := S.2 i q hi hq
      obtain ⟨x0, x1, x2, x3, x4⟩ := we.1 i q hi hq
      have r1 := x3.1
      have r2 := x4.1
      rw [x1] at r1
      rw [x2] at r2
      rw [l1, l2, mnI, mnI, k_100, e]
      rcases yd_v (gm := gm) (A := A) i with d | d
      · rw [d] at s2 ⊢
        rw [i_add (by rw [k3]; omega) (by rw [k3]; omega), i_add (by rw [d]; omega) (by rw [d]; omega), k3, d]
        exact ⟨by omega, by omega⟩
      · rw [d] at s2 ⊢
        rw [i_add (by rw [k3]; omega) (by rw [k3]; omega), i_add (by rw [d]; omega) (by rw [d]; omega), k3, d]
        exact ⟨by omega, by omega⟩
theorem ym_sp (hQ : ro_M τ rm A) (hn : rg 0 12 (gm (A 12) 0)) {p : Int32} {gz : th_i} : ∀ (n : Nat) (g : th_i) (y : Int32), 0 ≤ y.toInt → (12 - y.toInt).toNat < n → (∀ a, a ≠ A 44 → a ≠ A 45 → g a = gm a) → ∃ g', f_X12_years_19 τ Z gz rm (A 12) p n g y = (F_X12_partedMany τ Z g' rm (A 12), g') ∧ (∀ a, a ≠ A 44 → a ≠ A 45 → g' a = gm a) ∧ (∀ i : Nat, y.toInt ≤ (i : Int) → (i : Int) < (gm (A 12) 0).toInt → g' (A 44) i = th_mn 100 (g (A 44) i + 3 * p) ∧ g' (A 45) i = th_mn 100 (g (A 45) i + p * yd gm A i)) ∧ ∀ i : Nat, (i : Int) < y.toInt ∨ (gm (A 12) 0).toInt ≤ (i : Int) → g' (A 44) i = g (A 44) i ∧ g' (A 45) i = g (A 45) i := by
  have hn2 := hn.2
  have t44 := hQ.t 5 44 (by decide)
  have t45 := hQ.t 6 45 (by decide)
  have t46 := hQ.t 7 46 (by decide)
  have t48 := hQ.t 10 48 (by decide)
  have n45 := ro_ne t44 t45 (by decide)
  intro n
  induction n with
  | zero => intro g y _ h; exact absurd h (Nat.not_lt_zero _)
  | succ n ih =>
    intro g y h0 h F
    have g12 : g (A 12) = gm (A 12) := F _ (ro_ne hQ.1 t44 (by decide)) (ro_ne hQ.1 t45 (by decide))
    have g46 : g (A 46) = gm (A 46) := F _ (ro_ne t46 t44 (by decide)) (ro_ne t46 t45 (by decide))
    have g48 : g (A 48) = gm (A 48) := F _ (ro_ne t48 t44 (by decide)) (ro_ne t48 t45 (by decide))
    have hu : ∀ d : Int32, f_X12_years_84 τ Z gz rm (A 12) p g y (f_X12_years_19 τ Z gz rm (A 12) p n) g (A 45) 100 (g (A 45) y.toNatClampNeg) d = f_X12_years_19 τ Z gz rm (A 12) p n (va_up (va_up g (A 45) (upd (g (A 45)) y.toNatClampNeg (th_mn 100 (g (A 45) y.toNatClampNeg + p * d)))) (A 44) (upd (g (A 44)) y.toNatClampNeg (th_mn 100 (g (A 44) y.toNatClampNeg + 3 * p)))) (y + 1) := fun d => by
      unfold f_X12_years_84
      dsimp only
      rw [hQ.g 5 44 (by decide), up_n n45]
    by_cases c : gm (A 12) 0 ≤ y
    · have c' := i_le.mp c
      refine ⟨g, ?_, F, fun i h1 h2 => by omega, fun _ _ => ⟨rfl, rfl⟩⟩
      unfold f_X12_years_19
      dsimp only
      rw [g12, if_pos c]
    · have c' := i_ltI.mp (Int32.not_le.mp c)
      have cy := i_cl h0
      have e := y_1 (m := 12) (by decide) h0 (by omega)
      have hk : f_X12_years_19 τ Z gz rm (A 12) p (n + 1) g y = f_X12_years_19 τ Z gz rm (A 12) p n (va_up (va_up g (A 45) (upd (g (A 45)) y.toNatClampNeg (th_mn 100 (g (A 45) y.toNatClampNeg + p * yd gm A y.toNatClampNeg)))) (A 44) (upd (g (A 44)) y.toNatClampNeg (th_mn 100 (g (A 44) y.toNatClampNeg + 3 * p)))) (y + 1) := by
        rw [← hu]
        have h10 : ¬ (1 : Int32) = 0 := by decide
        conv => lhs; unfold f_X12_years_19
        unfold f_X12_years_57 f_X12_years_58 yd
        dsimp only
        rw [hQ.g 7 46 (by decide), hQ.g 6 45 (by decide), hQ.g 10 48 (by decide), g12, if_neg c, g46, g48]
        by_cases c1 : gm (A 46) y.toNatClampNeg < 0
        · rw [if_pos c1, if_pos c1, if_pos rfl]
        · rw [if_neg c1, if_neg c1]
          by_cases c2 : gm (A 48) (gm (A 46) y.toNatClampNeg).toNatClampNeg < 150
          · rw [if_pos c2, if_pos c2, if_pos rfl]
          · rw [if_neg c2, if_neg c2, if_neg h10]
      rw [hk]
      obtain ⟨g', k1, k2, k3, k4⟩ := ih (va_up (va_up g (A 45) (upd (g (A 45)) y.toNatClampNeg (th_mn 100 (g (A 45) y.toNatClampNeg + p * yd gm A y.toNatClampNeg)))) (A 44) (upd (g (A 44)) y.toNatClampNeg (th_mn 100 (g (A 44) y.toNatClampNeg + 3 * p)))) (y + 1) (by omega) (by omega) (fun a a1 a2 => by rw [up_n a1, up_n a2]; exact F a a1 a2)
      rw [up_s, up_n (Ne.symm n45), up_s] at k3 k4
      refine ⟨g', k1, k2, fun i h1 h2 => ?_, fun i hi => ?_⟩
      · by_cases ei : (i : Int) = y.toInt
        · have ei' : i = y.toNatClampNeg := by omega
          obtain ⟨l1, l2⟩ := k4 i (Or.inl (by omega))
          rw [l1, l2, ei', ud_s, ud_s]
          exact ⟨rfl, rfl⟩
        · obtain ⟨l1, l2⟩ := k3 i (by omega) h2
          rw [ud_n (by omega)] at l1 l2
          exact ⟨l1, l2⟩
      · obtain ⟨l1, l2⟩ := k4 i (by omega)
        rw [ud_n (by omega)] at l1 l2
        exact ⟨l1, l2⟩
theorem pc_eq (hC : ro_C τ gr A) (hQ : ro_M τ rm A) {g m : th_i} (hn : rg 0 12 (g (A 1) 5)) (en : m (A 12) 0 = g (A 1) 5) (hb : ∀ i : Nat, (i : Int) < (g (A 1) 5).toInt → ∃ q, gr (A 20) i = some q ∧ g q 6 = m (A 44) i) : F_X0_partedChains τ Z g gr (A 1) = F_X12_partedMany τ Z m rm (A 12) := by
  have hn2 := hn.2
  unfold F_X0_partedChains F_X12_partedMany
  have go : ∀ (n : Nat) (x y : Int32), 0 ≤ y.toInt → (12 - y.toInt).toNat < n → f_X0_partedChains_4 τ Z g gr (A 1) n x y = f_X12_partedMany_4 τ Z m rm (A 12) n x y := by
    intro n
    induction n with
    | zero => intro x y _ h; exact absurd h (Nat.not_lt_zero _)
    | succ n ih =>
      intro x y h0 h
      unfold f_X0_partedChains_4 f_X0_partedChains_32 f_X12_partedMany_4 f_X12_partedMany_26
      dsimp only
      rw [en]
      by_cases c : g (A 1) 5 ≤ y
      · rw [if_pos c, if_pos c]
      · rw [if_neg c, if_neg c]
        have c' := i_ltI.mp (Int32.not_le.mp c)
        have cy := i_cl h0
        have e := y_1 (m := 12) (by decide) h0 (by omega)
        obtain ⟨q, q1, q2⟩ := hb y.toNatClampNeg (by omega)
        rw [bu_g hC hn h0 c', q1]
        simp only [Option.elim_some]
        rw [pa_at (Z := Z) (gi := g) (gr := gr) (gm := m) (rm := rm) hQ rfl q2]
        by_cases d : F_X12_isParted τ Z m rm (A 12) y = 0
        · rw [if_pos d, if_pos d, Int32.add_zero]
          exact ih _ _ (by omega) (by omega)
        · rw [if_neg d, if_neg d]
          exact ih _ _ (by omega) (by omega)
  exact go _ 0 0 (by decide) (Nat.lt_add_one _)
theorem s_years (Q : q_all τ Z gi gr gm rm A) (K : c_core τ gi gr gm A) (we : c_wear τ gi gr gm A) {p r1 r2 : Int32} (e1 : F_X11_years τ Z gi gr (A 11) p = (r1, gi1)) (e2 : F_X12_years τ Z gm rm (A 12) p = (r2, gm2)) : r1 = r2 ∧ c_wear τ gi1 gr gm2 A := by
  have Q' := Q
  obtain ⟨hJ, hJm, hC, hQ, no, nb, wi, cb, cu, ct, cs, cl, cr, cw⟩ := Q'
  have nb' : gm (A 12) 0 = gi (A 1) 5 := nb.symm
  have n12 := n_p hJ hC
  unfold F_X11_years at e1
  unfold F_X12_years at e2
  dsimp only at e1 e2
  rw [w0_c] at e1
  rw [w0_m] at e2
  by_cases g1 : W0 p 1 30 = 0
  · rw [if_pos g1] at e1 e2
    exact we.fip hC hQ (w1 := 1) (by decide) (by decide) e1 e2
  rw [if_neg g1] at e1 e2
  have hp := w0_rg (l := 1) (h := 30) (by decide) (by decide) g1
  obtain ⟨w1, w2⟩ := we
  have S0 : y_st τ gi gr gm A (0 : Int32).toInt gi := ⟨⟨fun _ _ => rfl, fun _ _ _ _ _ => rfl⟩, fun i q hi hq => by
    obtain ⟨x0, x1, x2, x3, x4⟩ := w1 i q hi hq
    have := x3.2
    have := x4.2
    rw [x1] at *
    rw [x2] at *
    rw [k_0]
    exact ⟨by omega, by omega⟩⟩
  have hp0 := hp.1
  have hp2 := hp.2
  obtain ⟨g', u1, u2⟩ := yl_sp (gz := gi) Q K ⟨w1, w2⟩ hp ((30 - (0 : Int32).toInt).toNat + 1) gi 0 (by decide) (by rw [k_0]; omega) (Nat.lt_add_one _) S0
  obtain ⟨m', v1, v2, v3, v4⟩ := ym_sp (τ := τ) (Z := Z) (gm := gm) (gz := gm) hQ (by rw [nb']; exact n12) (p := p) ((12 - (0 : Int32).toInt).toNat + 1) gm 0 (by decide) (Nat.lt_add_one _) (fun _ _ _ => rfl)
  rw [u1] at e1
  rw [v1] at e2
  obtain ⟨b1, b2⟩ := pr2 e1
  obtain ⟨b3, b4⟩ := pr2 e2
  have t1 := hC.t 1 1 (by decide) rfl
  have t44 := hQ.t 5 44 (by decide)
  have t45 := hQ.t 6 45 (by decide)
  have gp1 : g' (A 1) = gi (A 1) := u2.1.1 _ (by rw [t1]; decide)
  have mp12 : m' (A 12) = gm (A 12) := v2 _ (ro_ne hQ.1 t44 (by decide)) (ro_ne hQ.1 t45 (by decide))
  have k3 : (3 : Int32).toInt = 3 := by decide
  have same : ∀ i q : Nat, (i : Int) < (gm (A 12) 0).toInt → gr (A 20) i = some q → τ q = 3 ∧ g' q 6 = m' (A 44) i ∧ g' q 7 = m' (A 45) i ∧ rg 0 100 (g' q 6) ∧ rg 0 100 (g' q 7) := fun i q hi hq => by
    obtain ⟨x0, x1, x2, x3, x4⟩ := w1 i q hi hq
    obtain ⟨s1, s2⟩ := u2.2 i q hi hq
    obtain ⟨l1, l2⟩ := v3 i (by rw [k_0]; omega) hi
    rw [x1] at x3
    rw [x2] at x4
    obtain ⟨a1, a2⟩ := x3
    obtain ⟨c1, c2⟩ := x4
    have m3 : (3 * p).toInt = 3 * p.toInt := by rw [i_mul (by rw [k3]; omega) (by rw [k3]; omega), k3]
    have z1 : (m' (A 44) i).toInt = min 100 ((gm (A 44) i).toInt + 3 * p.toInt) := by
      rw [l1, mnI, k_100, i_add (by omega) (by omega), m3]
    rcases yd_v (gm := gm) (A := A) i with d | d
    · have md : (p * yd gm A i).toInt = p.toInt * 12 := by rw [i_mul (by rw [d]; omega) (by rw [d]; omega), d]
      have z2 : (m' (A 45) i).toInt = min 100 ((gm (A 45) i).toInt + p.toInt * 12) := by
        rw [l2, mnI, k_100, i_add (by omega) (by omega), md]
      rw [d] at s2
      exact ⟨x0, i_inj (by omega), i_inj (by omega), ⟨by omega, by omega⟩, ⟨by omega, by omega⟩⟩
    · have md : (p * yd gm A i).toInt = p.toInt * 20 := by rw [i_mul (by rw [d]; omega) (by rw [d]; omega), d]
      have z2 : (m' (A 45) i).toInt = min 100 ((gm (A 45) i).toInt + p.toInt * 20) := by
        rw [l2, mnI, k_100, i_add (by omega) (by omega), md]
      rw [d] at s2
      exact ⟨x0, i_inj (by omega), i_inj (by omega), ⟨by omega, by omega⟩, ⟨by omega, by omega⟩⟩
  refine ⟨?_, ?_⟩
  · rw [← b1, ← b3]
    refine pc_eq hC hQ (by rw [gp1]; exact n12) (by rw [gp1, mp12]; exact nb') (fun i hi => ?_)
    rw [gp1, ← nb'] at hi
    obtain ⟨q, u⟩ := cu i hi
    exact ⟨q, u.1, (same i q hi u.1).2.1⟩
  · rw [← b2, ← b4]
    refine ⟨fun i q hi hq => ?_, fun i hi hn => ?_⟩
    · rw [mp12] at hi
      exact same i q hi hq
    · rw [mp12] at hn
      obtain ⟨l1, l2⟩ := v4 i (Or.inr hn)
      rw [l1, l2]
      exact w2 i hi hn
theorem s_next (Q : q_all τ Z gi gr gm rm A) (we : c_wear τ gi gr gm A) {r1 r2 : Int32} (e1 : F_X11_next τ Z gi gr (A 11) = (r1, gi1)) (e2 : F_X12_next τ Z gm rm (A 12) = (r2, gm2)) : r1 = r2 := by
  obtain ⟨hJ, hJm, hC, hQ, no, nb, wi, cb, cu, ct, cs, cl, cr, cw⟩ := Q
  have nb' : gm (A 12) 0 = gi (A 1) 5 := nb.symm
  have n12 := n_p hJ hC
  have n120 := n12.1
  have n122 := n12.2
  have w1 := we.1
  rw [nb'] at w1
  have go : ∀ (n m : Nat) (b qb : Nat) (y : Int32), 0 ≤ y.toInt → (12 - y.toInt).toNat < n → (12 - y.toInt).toNat < m → (b : Int) < (gi (A 1) 5).toInt → gr (A 20) b = some qb → f_X0_leastKnown_4 τ Z gi gr (A 1) n (some qb) y = (f_X12_next_18 τ Z gm rm (A 12) m gm (nI b) y).1 ∧ 0 ≤ (f_X0_leastKnown_4 τ Z gi gr (A 1) n (some qb) y).toInt := by
    intro n
    induction n with
    | zero => intro m b qb y _ h; exact absurd h (Nat.not_lt_zero _)
    | succ n ih =>
      intro m b qb y h0 h hm hb hqb
      cases m with
      | zero => exact absurd hm (Nat.not_lt_zero _)
      | succ m =>
        obtain ⟨-, x1, x2, x3, x4⟩ := w1 b qb hb hqb
        unfold f_X0_leastKnown_4 f_X0_leastKnown_34 f_X0_leastKnown_36 F_X0_isLessKnown F_X3_doubt f_X12_next_18 f_X12_next_77 f_X12_next_81 f_X12_next_82
        dsimp only
        rw [hQ.g 6 45 (by decide), hQ.g 5 44 (by decide), nb', nI_c (by omega)]
        by_cases c : gi (A 1) 5 ≤ y
        · rw [if_pos c, if_pos c]
          simp only [Option.elim_some]
          obtain ⟨q, u1, -, u3, -⟩ := cu b (by rw [nb']; exact hb)
          have : q = qb := Option.some.inj (u1.symm.trans hqb)
          subst this
          exact ⟨i_inj (by rw [u3, nI_t (by omega)]), by omega⟩
        · rw [if_neg c, if_neg c]
          have c' := i_ltI.mp (Int32.not_le.mp c)
          have cy := i_cl h0
          have e := y_1 (m := 12) (by decide) h0 (by omega)
          obtain ⟨qy, u⟩ := cu y.toNatClampNeg (by rw [nb']; omega)
          obtain ⟨-, y1, y2, y3, y4⟩ := w1 y.toNatClampNeg qy (by omega) u.1
          rw [bu_g hC n12 h0 c', u.1]
          simp only [Option.elim_some]
          have I1 := ih m b qb (y + 1) (by omega) (by omega) (by omega) hb hqb
          have I2 := ih m y.toNatClampNeg qy (y + 1) (by omega) (by omega) (by omega) (by omega) u.1
          rw [nI_cl h0] at I2
          rw [← x1, ← x2, ← y1, ← y2]
          obtain ⟨p1, p2⟩ := x3
          obtain ⟨p3, p4⟩ := x4
          obtain ⟨p5, p6⟩ := y3
          obtain ⟨p7, p8⟩ := y4
          have d1 : (gi qy 7 - gi qy 6).toInt = (gi qy 7).toInt - (gi qy 6).toInt := i_sub (by omega) (by omega)
          have d2 : (gi qb 7 - gi qb 6).toInt = (gi qb 7).toInt - (gi qb 6).toInt := i_sub (by omega) (by omega)
          have d3 : (gi qy 7 - gi qy 6 - gi qb 7).toInt = (gi qy 7).toInt - (gi qy 6).toInt - (gi qb 7).toInt := by rw [i_sub (by omega) (by omega), d1]
          have d4 : (gi qy 7 - gi qy 6 - gi qb 7 + gi qb 6).toInt = (gi qy 7).toInt - (gi qy 6).toInt - (gi qb 7).toInt + (gi qb 6).toInt := by rw [i_add (by omega) (by omega), d3]
          by_cases c1 : gi qy 7 - gi qy 6 = gi qb 7 - gi qb 6
          · have c1' := congrArg Int32.toInt c1
            rw [d1, d2] at c1'
            have z : gi qy 7 - gi qy 6 - gi qb 7 + gi qb 6 = 0 := i_inj (by rw [d4, k_0]; omega)
            have h0' : ¬ (0 : Int32) < 0 := by decide
            rw [if_pos c1, z, if_neg h0', if_pos rfl]
            by_cases c2 : gi qy 7 ≤ gi qb 7
            · rw [if_pos c2, if_pos rfl, if_pos c2]
              exact I1
            · rw [if_neg c2, if_neg (show ¬ (1 : Int32) = 0 by decide), if_neg c2]
              exact I2
          · have c1' : ¬ (gi qy 7).toInt - (gi qy 6).toInt = (gi qb 7).toInt - (gi qb 6).toInt := fun q => c1 (i_inj (by rw [d1, d2]; exact q))
            have nz : ¬ gi qy 7 - gi qy 6 - gi qb 7 + gi qb 6 = 0 := fun q => by
              have := congrArg Int32.toInt q
              rw [d4, k_0] at this
              omega
            rw [if_neg c1]
            by_cases c2 : gi qy 7 - gi qy 6 ≤ gi qb 7 - gi qb 6
            · have c2' := i_le.mp c2
              rw [d1, d2] at c2'
              have np : ¬ (0 : Int32) < gi qy 7 - gi qy 6 - gi qb 7 + gi qb 6 := fun q => by
                have := i_ltI.mp q
                rw [d4, k_0] at this
                omega
              rw [if_pos c2, if_pos rfl, if_neg np, if_neg nz]
              exact I1
            · have c2' := i_ltI.mp (Int32.not_le.mp c2)
              rw [d1, d2] at c2'
              have pp : (0 : Int32) < gi qy 7 - gi qy 6 - gi qb 7 + gi qb 6 := i_ltI.mpr (by rw [d4, k_0]; omega)
              rw [if_neg c2, if_neg (show ¬ (1 : Int32) = 0 by decide), if_pos pp]
              exact I2
  unfold F_X11_next F_X0_leastKnown at e1
  unfold F_X12_next at e2
  dsimp only at e1 e2
  rw [hC.g 11 0 1 (by decide)] at e1
  rw [nb'] at e2
  by_cases g0 : gi (A 1) 5 = 0
  · rw [if_pos g0] at e2
    have z : f_X0_leastKnown_4 τ Z gi gr (A 1) ((12 - (0 : Int32).toInt).toNat + 1) none 0 = -1 := by
      show (if gi (A 1) 5 ≤ 0 then Option.elim (none : Option Nat) (-1) (fun q => gi q 0) else _) = _
      rw [g0, if_pos (by decide)]
      rfl
    rw [z, if_pos rfl] at e1
    exact (s_fip hC hQ (w1 := 2) (by decide) (by decide) e1 e2).1
  · have pos : 0 < (gi (A 1) 5).toInt := by
      have : (gi (A 1) 5).toInt ≠ 0 := fun q => g0 (i_inj (q.trans k_0.symm))
      omega
    rw [if_neg g0] at e2
    obtain ⟨q0, u⟩ := cu 0 (by rw [nb']; omega)
    have z : f_X0_leastKnown_4 τ Z gi gr (A 1) ((12 - (0 : Int32).toInt).toNat + 1) none 0 = f_X0_leastKnown_4 τ Z gi gr (A 1) ((12 - (0 : Int32).toInt).toNat) (some q0) 1 := by
      have hb := bu_g (Z := Z) hC n12 (y := 0) (by decide) (by rw [k_0]; exact pos)
      rw [show (0 : Int32).toNatClampNeg = 0 by decide, u.1] at hb
      show (if gi (A 1) 5 ≤ 0 then _ else Option.elim (F_X0_buoyAt τ Z gi gr (A 1) 0) _ _) = _
      rw [if_neg (fun q => by have := i_le.mp q; rw [k_0] at this; omega), hb]
      rfl
    have k := go ((12 - (0 : Int32).toInt).toNat) ((12 - (1 : Int32).toInt).toNat + 1) 0 q0 1 (by decide) (by decide) (by decide) (by omega) u.1
    rw [z, if_neg (fun q => by rw [q, k_m1] at k; omega)] at e1
    rw [← (pr2 e1).1, k.1, show nI 0 = 0 by decide, e2]
end YE
