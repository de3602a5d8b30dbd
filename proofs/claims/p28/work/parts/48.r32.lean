/-! ===== a STORM ===== -/
theorem be_cong {n b : Int} {x y x' y' : Nat → Int32} (hx : ∀ i : Nat, i < 16 → x' i = x i) (hy : ∀ p : Nat, p < 12 → y' p = y p) (h : be_ok n b x y) : be_ok n b x' y' := by
  refine ⟨fun i hi => ?_, fun p hp => ?_⟩
  · rw [hx i hi]
    obtain ⟨k1, k2⟩ := h.1 i hi
    have := k1.2
    exact ⟨k1, fun q => by have c := i_cl q; rw [hy _ (by omega)]; exact k2 q⟩
  · rw [hy p hp]
    obtain ⟨k1, k2⟩ := h.2 p hp
    have := k1.2
    exact ⟨k1, fun q => by have c := i_cl q; rw [hx _ (by omega)]; exact k2 q⟩
section ST
variable {τ τ1 : th_t} {Z : th_Zt} {gi gi1 gm gm2 : th_i} {gr gr1 rm rm2 : th_r} {A : Nat → Nat} {M1 M2 : List Nat}
/-- pictures that differ in what a STORM writes alone -/
def s_c (A : Nat → Nat) (g gi : th_i) : Prop := (∀ a, a ≠ A 5 → a ≠ A 38 → a ≠ A 39 → g a = gi a) ∧ ∀ j, j ≠ 2 → g (A 5) j = gi (A 5) j
def s_m (A : Nat → Nat) (m gm : th_i) : Prop := (∀ a, a ≠ A 68 → m a = gm a) ∧ ∀ j : Nat, j < 16 → rg (-1) 11 (m (A 68) j)
theorem q_sto (Q : q_all τ Z gi gr gm rm A) (K : c_core τ gi gr gm A) (we : c_wear τ gi gr gm A) {g m : th_i} (hg : s_c A g gi) (hm : s_m A m gm) : q_all τ Z g gr m rm A ∧ c_wear τ g gr m A ∧ g (A 24) = gi (A 24) ∧ m (A 50) = gm (A 50) ∧ m (A 12) = gm (A 12) := by
  obtain ⟨hJ, hJm, hC, hQ, no, nb, wi, cb, cu, ct, cs, cl, cr, cw⟩ := Q
  have t5 := hC.t 5 5 (by decide) rfl
  have t38 := hC.t 38 24 (by decide) rfl
  have t39 := hC.t 39 25 (by decide) rfl
  have t24 := hC.t 24 24 (by decide) rfl
  have t68 := hQ.t 37 68 (by decide)
  have t50 := hQ.t 12 50 (by decide)
  have h1 : th_Mod [502, 2400, 2500] τ gi gr g gr := fun b j hb hk => by
    refine ⟨?_, rfl⟩
    by_cases e5 : b = A 5
    · subst e5
      exact hg.2 j (fun q => hk (by rw [q, t5]; show (502 : Nat) ∈ _; decide))
    · by_cases e38 : b = A 38
      · subst e38
        exact absurd (show th_key (τ (A 38)) j ∈ [502, 2400, 2500] by rw [t38]; show (2400 : Nat) ∈ _; decide) hk
      · by_cases e39 : b = A 39
        · subst e39
          exact absurd (show th_key (τ (A 39)) j ∈ [502, 2400, 2500] by rw [t39]; show (2500 : Nat) ∈ _; decide) hk
        · rw [hg.1 b e5 e38 e39]
  have h2 : th_Mod [6800] τ gm rm m rm := fun b j hb hk => by
    refine ⟨?_, rfl⟩
    by_cases e : b = A 68
    · subst e
      exact absurd (show th_key (τ (A 68)) j ∈ [6800] by rw [t68]; show (6800 : Nat) ∈ _; decide) hk
    · rw [hm.1 b e]
  have J1 : th_J τ g gr := fun a ha => by
    by_cases e5 : a = A 5
    · subst e5
      obtain ⟨x1, x2⟩ := hJ.at t5 (by decide)
      rw [t5]
      exact ⟨x1, x2⟩
    · by_cases e38 : a = A 38
      · subst e38
        rw [t38]
        exact trivial
      · by_cases e39 : a = A 39
        · subst e39
          rw [t39]
          exact trivial
        · rw [hg.1 a e5 e38 e39]
          exact hJ a ha
  have J2 : th_J τ m rm := fun a ha => by
    by_cases e : a = A 68
    · subst e
      rw [t68]
      exact hm.2
    · rw [hm.1 a e]
      exact hJm a ha
  refine ⟨⟨J1, J2, hC, hQ, c_eq.fr (by decide) rfl hC hQ h1 h2 (by decide) (by decide) (by decide) no, c_eq.fr (by decide) rfl hC hQ h1 h2 (by decide) (by decide) (by decide) nb, c_eq.fr (by decide) rfl hC hQ h1 h2 (by decide) (by decide) (by decide) wi, cb.fr hC hQ h1 h2 (by decide) (by decide), cu.fr hC hQ h1 h2 (by decide) (by decide), ct.fr hC hQ h1 h2 (by decide) (by decide), cs.fr hC h1 (by decide), cl.fr hC h1 (by decide), cr.fr hC h1 (by decide), cw.fr hQ h2 (by decide)⟩, we.fr hC hQ h1 h2 (by decide) (by decide), ?_, hm.1 _ (ro_ne t50 t68 (by decide)), hm.1 _ (ro_ne hQ.1 t68 (by decide))⟩
  exact hg.1 _ (ro_ne t24 t5 (by decide)) (Ne.symm hC.2.2.2.1) (ro_ne t24 t39 (by decide))
theorem hd_eq (hQ : ro_M τ rm A) {v p s : Int32} {qb qp : Nat} (hb : gi qb 1 = gm (A 48) v.toNatClampNeg) (hp : gi qp 7 = gm (A 45) p.toNatClampNeg) : F_X3_holds τ Z gi gr qp qb s = F_X12_holds τ Z gm rm (A 12) v p s := by
  unfold F_X3_holds F_X12_holds
  dsimp only
  rw [hQ.g 6 45 (by decide), hQ.g 10 48 (by decide), hb, hp]
theorem ml_fr {qb qp B Y : Nat} {p : Int32} (hY : gr B 1 = some Y) (hp : gi qp 0 = p) (h0 : 0 ≤ p.toInt) (h1 : p.toInt < 12) (h : ¬ F_X0_mayLie τ Z gi gr (A 1) qb qp B = 0) : gi Y p.toNatClampNeg = -1 := by
  unfold F_X0_mayLie at h
  dsimp only at h
  rw [hp, bu_of hY h0 h1] at h
  exact Classical.byContradiction fun q => h (by rw [if_neg q])
/-- the first refuge -/
theorem rf_sp (hC : ro_C τ gr A) {g : th_i} {qb : Nat} {s : Int32} {N : Nat} (hN : (g (A 1) 5).toInt = (N : Int)) (h12 : N ≤ 12) (cu : ∀ i, i < N → ∃ q, gr (A 20) i = some q) : ∀ (n y : Nat), y ≤ N → 12 - y < n → (f_X5_refugeOf_2 τ Z g gr (A 5) qb s n (nI y) = -1 ∧ ∀ i q : Nat, y ≤ i → i < N → gr (A 20) i = some q → F_X3_holds τ Z g gr q qb s = 0 ∨ F_X0_mayLie τ Z g gr (A 1) qb q (A 13) = 0) ∨ ∃ b q, y ≤ b ∧ b < N ∧ gr (A 20) b = some q ∧ ¬ F_X3_holds τ Z g gr q qb s = 0 ∧ ¬ F_X0_mayLie τ Z g gr (A 1) qb q (A 13) = 0 ∧ f_X5_refugeOf_2 τ Z g gr (A 5) qb s n (nI y) = nI b ∧ ∀ i q : Nat, y ≤ i → i < b → gr (A 20) i = some q → F_X3_holds τ Z g gr q qb s = 0 ∨ F_X0_mayLie τ Z g gr (A 1) qb q (A 13) = 0 := by
  intro n
  induction n with
  | zero => intro y _ h; exact absurd h (Nat.not_lt_zero _)
  | succ n ih =>
    intro y hy h
    have ty := nI_t (k := y) (by omega)
    unfold f_X5_refugeOf_2 f_X5_refugeOf_57
    dsimp only
    rw [hC.g 5 0 1 (by decide), hC.g 5 1 13 (by decide)]
    by_cases c : g (A 1) 5 ≤ nI y
    · rw [if_pos c]
      have c' := i_le.mp c
      exact Or.inl ⟨rfl, fun i q h1 h2 => by omega⟩
    · rw [if_neg c]
      have c' := i_ltI.mp (Int32.not_le.mp c)
      obtain ⟨qy, hqy⟩ := cu y (by omega)
      rw [bu_g hC ⟨by omega, by omega⟩ (by omega) (by omega), nI_c (by omega), hqy, nI_sc (by omega)]
      simp only [Option.elim_some]
      have next : (F_X3_holds τ Z g gr qy qb s = 0 ∨ F_X0_mayLie τ Z g gr (A 1) qb qy (A 13) = 0) → (f_X5_refugeOf_2 τ Z g gr (A 5) qb s n (nI (y + 1)) = -1 ∧ ∀ i q : Nat, y ≤ i → i < N → gr (A 20) i = some q → F_X3_holds τ Z g gr q qb s = 0 ∨ F_X0_mayLie τ Z g gr (A 1) qb q (A 13) = 0) ∨ ∃ b q, y ≤ b ∧ b < N ∧ gr (A 20) b = some q ∧ ¬ F_X3_holds τ Z g gr q qb s = 0 ∧ ¬ F_X0_mayLie τ Z g gr (A 1) qb q (A 13) = 0 ∧ f_X5_refugeOf_2 τ Z g gr (A 5) qb s n (nI (y + 1)) = nI b ∧ ∀ i q : Nat, y ≤ i → i < b → gr (A 20) i = some q → F_X3_holds τ Z g gr q qb s = 0 ∨ F_X0_mayLie τ Z g gr (A 1) qb q (A 13) = 0 := fun hn => by
        have at_y : ∀ i q : Nat, i = y → gr (A 20) i = some q → F_X3_holds τ Z g gr q qb s = 0 ∨ F_X0_mayLie τ Z g gr (A 1) qb q (A 13) = 0 := fun i q e hq => by
          rw [e] at hq
          have : qy = q := Option.some.inj (hqy.symm.trans hq)
          rw [← this]
          exact hn
        rcases ih (y + 1) (by omega) (by omega) with ⟨k1, k2⟩ | ⟨b, q, k1, k2, k3, k4, k5, k6, k7⟩
        · refine Or.inl ⟨k1, fun i q h1 h2 h3 => ?_⟩
          by_cases e : i = y
          · exact at_y i q e h3
          · exact k2 i q (by omega) h2 h3
        · refine Or.inr ⟨b, q, by omega, k2, k3, k4, k5, k6, fun i q h1 h2 h3 => ?_⟩
          by_cases e : i = y
          · exact at_y i q e h3
          · exact k7 i q (by omega) h2 h3
      by_cases d1 : F_X3_holds τ Z g gr qy qb s = 0
      · rw [if_pos d1]
        exact next (Or.inl d1)
      · rw [if_neg d1]
        by_cases d2 : F_X0_mayLie τ Z g gr (A 1) qb qy (A 13) = 0
        · rw [if_pos d2]
          exact next (Or.inr d2)
        · rw [if_neg d2]
          exact Or.inr ⟨y, qy, Nat.le_refl _, by omega, hqy, d1, d2, rfl, fun i q h1 h2 => by omega⟩
theorem fl_88 (hQ : ro_M τ rm A) {m0 g : th_i} {x0 x s y : Int32} {k32 : th_i → Int32 → Int32 → Int32 × th_i} {gz : th_i} : ∀ (n : Nat) (to z : Int32) (Zn : Nat), z.toInt = (Zn : Int) - 1 → Zn ≤ 12 → Zn < n → ∃ to', f_X12_flee_88 τ Z gz rm (A 12) s m0 x0 y k32 n g x to z = k32 (va_up g (A 68) (upd (g (A 68)) y.toNatClampNeg to')) x (y + 1) ∧ ((to' = to ∧ ∀ b, b < Zn → F_X12_holds τ Z g rm (A 12) y (nI b) s = 0 ∨ F_X12_mayLie τ Z g rm (A 12) y (nI b) (A 68) = 0) ∨ ∃ b, b < Zn ∧ to' = nI b ∧ ¬ F_X12_holds τ Z g rm (A 12) y (nI b) s = 0 ∧ ¬ F_X12_mayLie τ Z g rm (A 12) y (nI b) (A 68) = 0 ∧ ∀ c, c < b → F_X12_holds τ Z g rm (A 12) y (nI c) s = 0 ∨ F_X12_mayLie τ Z g rm (A 12) y (nI c) (A 68) = 0) := by
  intro n
  induction n with
  | zero => intro to z Zn _ _ h; exact absurd h (Nat.not_lt_zero _)
  | succ n ih =>
    intro to z Zn hz h12 h
    unfold f_X12_flee_88 f_X12_flee_141 f_X12_flee_123 f_X12_flee_125
    dsimp only
    rw [hQ.g 37 68 (by decide)]
    by_cases c : z < 0
    · rw [if_pos c]
      have c' := i_ltI.mp c
      rw [k_0] at c'
      exact ⟨to, rfl, Or.inl ⟨rfl, fun b hb => by omega⟩⟩
    · rw [if_neg c]
      have c' := i_le.mp (Int32.not_lt.mp c)
      rw [k_0] at c'
      have ez : z = nI (Zn - 1) := i_inj (by rw [nI_t (by omega)]; omega)
      have e : (z + (-1)).toInt = ((Zn - 1 : Nat) : Int) - 1 := by
        rw [i_add (by rw [k_m1]; omega) (by rw [k_m1]; omega), k_m1]
        omega
      have I := fun to => ih to (z + (-1)) (Zn - 1) e (by omega) (by omega)
      have low : (F_X12_holds τ Z g rm (A 12) y z s = 0 ∨ F_X12_mayLie τ Z g rm (A 12) y z (A 68) = 0) → ∃ to', f_X12_flee_88 τ Z gz rm (A 12) s m0 x0 y k32 n g x to (z + (-1)) = k32 (va_up g (A 68) (upd (g (A 68)) y.toNatClampNeg to')) x (y + 1) ∧ ((to' = to ∧ ∀ b, b < Zn → F_X12_holds τ Z g rm (A 12) y (nI b) s = 0 ∨ F_X12_mayLie τ Z g rm (A 12) y (nI b) (A 68) = 0) ∨ ∃ b, b < Zn ∧ to' = nI b ∧ ¬ F_X12_holds τ Z g rm (A 12) y (nI b) s = 0 ∧ ¬ F_X12_mayLie τ Z g rm (A 12) y (nI b) (A 68) = 0 ∧ ∀ c, c < b → F_X12_holds τ Z g rm (A 12) y (nI c) s = 0 ∨ F_X12_mayLie τ Z g rm (A 12) y (nI c) (A 68) = 0) := fun hn => by
        obtain ⟨to', k1, k2⟩ := I to
        refine ⟨to', k1, ?_⟩
        rcases k2 with ⟨k2, k3⟩ | ⟨b, b1, b2⟩
        · refine Or.inl ⟨k2, fun b hb => ?_⟩
          by_cases eb : b = Zn - 1
          · rw [eb, ← ez]
            exact hn
          · exact k3 b (by omega)
        · exact Or.inr ⟨b, by omega, b2⟩
      by_cases d1 : F_X12_holds τ Z g rm (A 12) y z s = 0
      · rw [if_pos d1]
        exact low (Or.inl d1)
      · rw [if_neg d1]
        by_cases d2 : F_X12_mayLie τ Z g rm (A 12) y z (A 68) = 0
        · rw [if_pos d2]
          exact low (Or.inr d2)
        · rw [if_neg d2]
          obtain ⟨to', k1, k2⟩ := I z
          refine ⟨to', k1, Or.inr ?_⟩
          rcases k2 with ⟨k2, k3⟩ | ⟨b, b1, b2⟩
          · rw [ez] at k2 d1 d2
            exact ⟨Zn - 1, by omega, k2, d1, d2, k3⟩
          · exact ⟨b, by omega, b2⟩
theorem st_go (Q : q_all τ Z gi gr gm rm A) (K : c_core τ gi gr gm A) (we : c_wear τ gi gr gm A) {s : Int32} {gy gz : th_i} : ∀ (n k : Nat) (g m : th_i) (x y : Int32), 0 ≤ y.toInt → (16 - y.toInt).toNat < n → (16 - y.toInt).toNat < k → s_c A g gi → s_m A m gm → g (A 5) 2 = x → be_ok (gm (A 12) 8).toInt (gm (A 12) 0).toInt (g (A 38)) (g (A 39)) → (∀ i : Nat, (i : Int) < (gm (A 12) 8).toInt → g (A 38) i = m (A 68) i) → (∀ i : Nat, y.toInt ≤ (i : Int) → (i : Int) < (gm (A 12) 8).toInt → g (A 38) i = gi (A 24) i) → f_X5_blow_21 τ Z gy gr (A 5) s n g y (A 5) 2 = (f_X12_flee_32 τ Z gz rm (A 12) s k m x y).1 ∧ ∀ i : Nat, (i : Int) < (gm (A 12) 8).toInt → f_X5_blow_21 τ Z gy gr (A 5) s n g y (A 38) i = (f_X12_flee_32 τ Z gz rm (A 12) s k m x y).2 (A 68) i := by
  have Q' := Q
  obtain ⟨hJ, hJm, hC, hQ, no, nb, -⟩ := Q'
  have K' := K
  obtain ⟨a1, a2, -⟩ := K'
  have no' : gm (A 12) 8 = gi (A 1) 6 := no.symm
  have nb' : gm (A 12) 0 = gi (A 1) 5 := nb.symm
  have n16 := n_b hJ hC
  have n12 := n_p hJ hC
  have n162 : (gm (A 12) 8).toInt ≤ 16 := by rw [no']; exact n16.2
  have n122 : (gm (A 12) 0).toInt ≤ 12 := by rw [nb']; exact n12.2
  have n120 : 0 ≤ (gm (A 12) 0).toInt := by rw [nb']; exact n12.1
  have t5 := hC.t 5 5 (by decide) rfl
  have t38 := hC.t 38 24 (by decide) rfl
  have t39 := hC.t 39 25 (by decide) rfl
  have t68 := hQ.t 37 68 (by decide)
  have n58 := ro_ne t5 t38 (by decide)
  have n59 := ro_ne t5 t39 (by decide)
  have n89 := ro_ne t38 t39 (by decide)
  have rX := hC.e 13 0 38 (by decide)
  have rY := hC.e 13 1 39 (by decide)
  intro n
  induction n with
  | zero => intro k g m x y _ h; exact absurd h (Nat.not_lt_zero _)
  | succ n ih =>
    intro k g m x y h0 h hk hg hm hx hbe hrow hold
    cases k with
    | zero => exact absurd hk (Nat.not_lt_zero _)
    | succ k =>
      obtain ⟨QQ, wq, g24, m50, m12⟩ := q_sto Q K we hg hm
      obtain ⟨gJ, mJ, -, -, gno, gnb, -, gcb, gcu, -⟩ := id QQ
      have gno' : m (A 12) 8 = g (A 1) 6 := gno.symm
      have gnb' : m (A 12) 0 = g (A 1) 5 := gnb.symm
      rw [m12] at gno' gnb'
      have gn16 := n_b gJ hC
      have gn12 := n_p gJ hC
      unfold f_X5_blow_21 f_X5_blow_113 f_X12_flee_32 f_X12_flee_141
      dsimp only
      rw [hC.g 5 0 1 (by decide), hC.g 5 1 13 (by decide), hQ.g 12 50 (by decide), hQ.g 37 68 (by decide), m50, m12]
      by_cases c : g (A 1) 6 ≤ y
      · rw [if_pos c, if_pos (show gm (A 12) 8 ≤ y by rw [gno']; exact c)]
        exact ⟨hx, hrow⟩
      · rw [if_neg c, if_neg (show ¬ gm (A 12) 8 ≤ y by rw [gno']; exact c)]
        have c' := i_ltI.mp (Int32.not_le.mp c)
        rw [← gno'] at c'
        have cy := i_cl h0
        have e := y_1 (m := 16) (by decide) h0 (by omega)
        obtain ⟨qy, hqy⟩ := gcb y.toNatClampNeg (by rw [m12]; omega)
        have own := hold y.toNatClampNeg (by omega) (by omega)
        rw [bo_g hC gn16 h0 (by rw [← gno']; exact c'), hqy.1, bo_of rX h0 (by omega), own, ← a2 y.toNatClampNeg (by omega)]
        simp only [Option.elim_some]
        have I := ih k g m x (y + 1) (by omega) (by omega) (by omega) hg hm hx hbe hrow (fun i h1 h2 => hold i (by omega) h2)
        rcases be_x a1 (i := y.toNatClampNeg) (by omega) with z | ⟨z1, z2, z3, -, -⟩
        · have zn : (-1 : Int32) < 0 := by decide
          rw [z, bu_gn gn12 (by rw [k_m1]; omega), if_pos zn]
          simp only [Option.elim_none]
          exact I
        · have cz := i_cl z1
          have nn : ¬ gi (A 24) y.toNatClampNeg < 0 := fun q => by have := i_ltI.mp q; rw [k_0] at this; omega
          obtain ⟨qo, hqo⟩ := gcu (gi (A 24) y.toNatClampNeg).toNatClampNeg (by rw [m12]; omega)
          obtain ⟨-, -, o7, -⟩ := wq.1 _ qo (by rw [m12]; omega) hqo.1
          rw [bu_g hC gn12 z1 (by rw [← gnb']; exact z2), hqo.1, if_neg nn]
          simp only [Option.elim_some]
          rw [hd_eq (Z := Z) (gr := gr) (gm := m) (rm := rm) hQ (v := y) (p := gi (A 24) y.toNatClampNeg) hqy.2.2.1 o7]
          by_cases d : F_X12_holds τ Z m rm (A 12) y (gi (A 24) y.toNatClampNeg) s = 0
          rotate_left
          · rw [if_neg d, if_neg d]
            exact I
          rw [if_pos d, if_pos d]
          have hg1 : s_c A (va_up g (A 5) (upd (g (A 5)) 2 (g (A 5) 2 + 1))) gi := ⟨fun a h5 h38 h39 => by rw [up_n h5]; exact hg.1 a h5 h38 h39, fun j hj => by rw [up_s, ud_n hj]; exact hg.2 j hj⟩
          have g138 : va_up g (A 5) (upd (g (A 5)) 2 (g (A 5) 2 + 1)) (A 38) = g (A 38) := up_n (Ne.symm n58)
          have g139 : va_up g (A 5) (upd (g (A 5)) 2 (g (A 5) 2 + 1)) (A 39) = g (A 39) := up_n (Ne.symm n59)
          have g15 : va_up g (A 5) (upd (g (A 5)) 2 (g (A 5) 2 + 1)) (A 5) 2 = x + 1 := by rw [up_s, ud_s, hx]
          have m1r : ∀ hi : Int, 0 ≤ hi → rg (-1) hi (-1 : Int32) := fun hi q => ⟨by rw [k_m1]; omega, by rw [k_m1]; omega⟩
          have hm1 : s_m A (va_up m (A 68) (upd (m (A 68)) y.toNatClampNeg (-1))) gm := ⟨fun a ha => by rw [up_n ha]; exact hm.1 a ha, fun j hj => by
            rw [up_s]
            by_cases ej : j = y.toNatClampNeg
            · rw [ej, ud_s]
              exact m1r _ (by decide)
            · rw [ud_n ej]
              exact hm.2 j hj⟩
          have m168 : va_up m (A 68) (upd (m (A 68)) y.toNatClampNeg (-1)) (A 68) = upd (m (A 68)) y.toNatClampNeg (-1) := up_s
          obtain ⟨Q1, wq1, -, -, m112⟩ := q_sto Q K we hg1 hm1
          generalize va_up g (A 5) (upd (g (A 5)) 2 (g (A 5) 2 + 1)) = g1 at hg1 g138 g139 g15 Q1 wq1
          generalize va_up m (A 68) (upd (m (A 68)) y.toNatClampNeg (-1)) = m1 at hm1 m168 Q1 wq1 m112
          obtain ⟨gJ1, -, -, -, gno1, gnb1, -, gcb1, gcu1, -⟩ := id Q1
          have gnb1' : m1 (A 12) 0 = g1 (A 1) 5 := gnb1.symm
          obtain ⟨Nb, hNb⟩ : ∃ Nb : Nat, (gm (A 12) 0).toInt = (Nb : Int) := ⟨(gm (A 12) 0).toNatClampNeg, (i_cl n120).symm⟩
          obtain ⟨qy1, hqy1⟩ := gcb1 y.toNatClampNeg (by rw [m112]; omega)
          have : qy1 = qy := Option.some.inj (hqy1.1.symm.trans hqy.1)
          subst this
          rw [m112]
          have hx42 : (gm (A 12) 0 - 1).toInt = (Nb : Int) - 1 := by
            rw [i_sub (by rw [k_1]; omega) (by rw [k_1]; omega), k_1, hNb]
          -- both find the same refuge
          have cond : ∀ b q : Nat, b < Nb → gr (A 20) b = some q → ((F_X3_holds τ Z g1 gr q qy1 s = 0 ∨ F_X0_mayLie τ Z g1 gr (A 1) qy1 q (A 13) = 0) ↔ (F_X12_holds τ Z m1 rm (A 12) y (nI b) s = 0 ∨ F_X12_mayLie τ Z m1 rm (A 12) y (nI b) (A 68) = 0)) := fun b q hb hq => by
            have cb' := nI_c (k := b) (by omega)
            obtain ⟨-, -, w7, -⟩ := wq1.1 b q (by rw [m112]; omega) hq
            have he := hd_eq (Z := Z) (gi := g1) (gr := gr) (gm := m1) (rm := rm) hQ (v := y) (p := nI b) (s := s) hqy1.2.2.1 (by rw [cb']; exact w7)
            rw [he]
            by_cases dh : F_X12_holds τ Z m1 rm (A 12) y (nI b) s = 0
            · exact ⟨fun _ => Or.inl dh, fun _ => Or.inl dh⟩
            · obtain ⟨u, hu⟩ := gcu1 b (by rw [m112]; omega)
              have : u = q := Option.some.inj (hu.1.symm.trans hq)
              subst this
              have hvp : ¬ g1 (A 38) y.toNatClampNeg = nI b := fun q => by
                rw [g138, own] at q
                refine dh ?_
                have e45 : m1 (A 45) = m (A 45) := (hm1.1 _ (ro_ne (hQ.t 6 45 (by decide)) t68 (by decide))).trans (hm.1 _ (ro_ne (hQ.t 6 45 (by decide)) t68 (by decide))).symm
                have e48 : m1 (A 48) = m (A 48) := (hm1.1 _ (ro_ne (hQ.t 10 48 (by decide)) t68 (by decide))).trans (hm.1 _ (ro_ne (hQ.t 10 48 (by decide)) t68 (by decide))).symm
                have d' := d
                unfold F_X12_holds at d' ⊢
                dsimp only at d' ⊢
                rw [hQ.g 6 45 (by decide), hQ.g 10 48 (by decide)] at d' ⊢
                rw [e45, e48, ← q]
                exact d'
              have hml := ml_eq Q1 (v := y) (p := nI b) (B := A 13) (m := A 68) hqy1 (by rw [cb']; exact hu) h0 (by rw [nI_t (by omega)]; omega) (by rw [m112, nI_t (by omega)]; omega) rX rY (by rw [m112, g138, g139]; exact hbe) (fun i hi ni => by
                rw [m112] at hi
                rw [g138, m168, ud_n ni]
                exact hrow i hi) hvp
              rw [hml]
          have RF := rf_sp (Z := Z) hC (g := g1) (qb := qy1) (s := s) (N := Nb) (by rw [← gnb1', m112]; exact hNb) (by omega) (fun i hi => by
            obtain ⟨q, hq⟩ := gcu1 i (by rw [m112]; omega)
            exact ⟨q, hq.1⟩) ((12 - (0 : Int32).toInt).toNat + 1) 0 (Nat.zero_le _) (by decide)
          rw [show nI 0 = 0 by decide] at RF
          have RF' : F_X5_refugeOf τ Z g1 gr (A 5) qy1 s = f_X5_refugeOf_2 τ Z g1 gr (A 5) qy1 s ((12 - (0 : Int32).toInt).toNat + 1) 0 := rfl
          rw [← RF'] at RF
          obtain ⟨to', F1, F2⟩ := fl_88 (Z := Z) (gz := gz) (m0 := m) (g := m1) (x0 := x) (x := x + 1) (s := s) (y := y) (k32 := f_X12_flee_32 τ Z gz rm (A 12) s k) hQ (((gm (A 12) 0 - 1).toInt - (-1)).toNat + 1) (-1) (gm (A 12) 0 - 1) Nb hx42 (by omega) (by rw [hx42]; omega)
          rw [F1]
          have both : F_X5_refugeOf τ Z g1 gr (A 5) qy1 s = to' ∧ (to' = -1 ∨ ∃ b q, b < Nb ∧ gr (A 20) b = some q ∧ to' = nI b ∧ ¬ F_X0_mayLie τ Z g1 gr (A 1) qy1 q (A 13) = 0) := by
            rcases RF with ⟨r1, r2⟩ | ⟨b, q, -, r2, r3, r4, r5, r6, r7⟩
            · rcases F2 with ⟨f1, -⟩ | ⟨c, c1, c2, c3, c4, c5⟩
              · rw [r1, f1]
                exact ⟨rfl, Or.inl rfl⟩
              · obtain ⟨q, hq⟩ := gcu1 c (by rw [m112]; omega)
                exact absurd ((cond c q c1 hq.1).mp (r2 c q (Nat.zero_le _) c1 hq.1)) (fun q => q.elim c3 c4)
            · rcases F2 with ⟨-, f2⟩ | ⟨c, c1, c2, c3, c4, c5⟩
              · exact absurd ((cond b q r2 r3).mpr (f2 b r2)) (fun q => q.elim r4 r5)
              · have ebc : b = c := by
                  rcases Nat.lt_trichotomy b c with q' | q' | q'
                  · exact absurd ((cond b q r2 r3).mpr (c5 b q')) (fun q => q.elim r4 r5)
                  · exact q'
                  · obtain ⟨u, hu⟩ := gcu1 c (by rw [m112]; omega)
                    exact absurd ((cond c u c1 hu.1).mp (r7 c u (Nat.zero_le _) q' hu.1)) (fun q => q.elim c3 c4)
                subst ebc
                exact ⟨r6.trans c2.symm, Or.inr ⟨b, q, c1, r3, c2, r5⟩⟩
          obtain ⟨both1, both2⟩ := both
          rw [both1]
          -- the new berths
          have own1 : g1 (A 38) y.toNatClampNeg = gi (A 24) y.toNatClampNeg := by rw [g138]; exact own
          obtain ⟨p1, p2, p3⟩ := lf_eq (τ := τ) (Z := Z) (gi := g1) (v := y) rX rY n89 h0 (by omega) (by rw [own1]; exact z1) (by rw [own1]; omega)
          have bl := be_lift (v := y) hbe h0 (by omega) (by rw [own]; exact z1)
          rw [own1, g139] at p2
          rw [g138] at p1
          rw [own] at bl
          generalize F_X1_lift τ Z g1 gr (A 13) y = g32 at p1 p2 p3
          have goal2 : ∀ g37 : th_i, (∀ a, a ≠ A 38 → a ≠ A 39 → g37 a = g32 a) → g37 (A 38) = upd (g (A 38)) y.toNatClampNeg to' → be_ok (gm (A 12) 8).toInt (gm (A 12) 0).toInt (g37 (A 38)) (g37 (A 39)) → rg (-1) 11 to' → f_X5_blow_21 τ Z gy gr (A 5) s n g37 (y + 1) (A 5) 2 = (f_X12_flee_32 τ Z gz rm (A 12) s k (va_up m1 (A 68) (upd (m1 (A 68)) y.toNatClampNeg to')) (x + 1) (y + 1)).1 ∧ ∀ i : Nat, (i : Int) < (gm (A 12) 8).toInt → f_X5_blow_21 τ Z gy gr (A 5) s n g37 (y + 1) (A 38) i = (f_X12_flee_32 τ Z gz rm (A 12) s k (va_up m1 (A 68) (upd (m1 (A 68)) y.toNatClampNeg to')) (x + 1) (y + 1)).2 (A 68) i := fun g37 q1 q2 q3 q4 => by
            refine ih k g37 _ (x + 1) (y + 1) (by omega) (by omega) (by omega) ⟨fun a h5 h38 h39 => ?_, fun j hj => ?_⟩ ⟨fun a ha => ?_, fun j hj => ?_⟩ ?_ q3 (fun i hi => ?_) (fun i i1 i2 => ?_)
            · rw [q1 a h38 h39, p3 a h38 h39]
              exact hg1.1 a h5 h38 h39
            · rw [q1 _ n58 n59, p3 _ n58 n59]
              exact hg1.2 j hj
            · rw [up_n ha]
              exact hm1.1 a ha
            · rw [up_s]
              by_cases ej : j = y.toNatClampNeg
              · rw [ej, ud_s]
                exact q4
              · rw [ud_n ej]
                exact hm1.2 j hj
            · rw [q1 _ n58 n59, p3 _ n58 n59]
              exact g15
            · rw [up_s, q2]
              by_cases ej : i = y.toNatClampNeg
              · rw [ej, ud_s, ud_s]
              · rw [ud_n ej, ud_n ej, m168, ud_n ej]
                exact hrow i hi
            · rw [q2, ud_n (by omega)]
              exact hold i (by omega) i2
          rcases both2 with b1 | ⟨b, q, b1, b2, b3, b4⟩
          · rw [b1, pu_no (by decide)]
            rw [b1] at goal2
            exact goal2 g32 (fun _ _ _ => rfl) p1 (by rw [p1, p2]; exact bl) (m1r _ (by decide))
          · have tb := nI_t (k := b) (by omega)
            have cb' := nI_c (k := b) (by omega)
            obtain ⟨u, hu⟩ := gcu1 b (by rw [m112]; omega)
            have : u = q := Option.some.inj (hu.1.symm.trans b2)
            subst this
            have fy := ml_fr (Z := Z) (A := A) (gi := g1) rY (p := nI b) (i_inj (by rw [hu.2.2.1, tb])) (by omega) (by omega) b4
            rw [g139] at fy
            rw [b3]
            rw [b3] at goal2
            obtain ⟨s1, s2, s3⟩ := pu_eq (τ := τ) (Z := Z) (gi := g32) (v := y) (p := nI b) rX rY n89 h0 (by omega) (by omega) (by omega)
            refine goal2 _ (fun a h38 h39 => s3 a h38 h39) ?_ ?_ ⟨by omega, by omega⟩
            · rw [s1, p1]
              funext j
              by_cases ej : j = y.toNatClampNeg
              · rw [ej, ud_s, ud_s]
              · rw [ud_n ej, ud_n ej, ud_n ej]
            · rw [s1, s2, p1, p2]
              exact be_put bl h0 (by omega) n162 (by omega) (by omega) n122 (by rw [ud_s]) (by
                by_cases eo : (nI b).toNatClampNeg = (gi (A 24) y.toNatClampNeg).toNatClampNeg
                · rw [eo, ud_s]
                · rw [ud_n eo]
                  exact fy)
theorem fl_4 (hQ : ro_M τ rm A) (hn : rg 0 16 (gm (A 12) 8)) {s : Int32} {gz : th_i} : ∀ (n : Nat) (g : th_i) (x y : Int32), 0 ≤ y.toInt → (16 - y.toInt).toNat < n → (∀ a, a ≠ A 68 → g a = gm a) → (∀ j : Nat, j < 16 → rg (-1) 11 (g (A 68) j)) → (∀ j : Nat, j < 16 → rg (-1) 11 (gm (A 50) j)) → (∀ i : Nat, (i : Int) < y.toInt → g (A 68) i = gm (A 50) i) → ∃ g', f_X12_flee_4 τ Z gz rm (A 12) s n g x y = f_X12_flee_32 τ Z gz rm (A 12) s ((16 - (0 : Int32).toInt).toNat + 1) g' x 0 ∧ s_m A g' gm ∧ ∀ i : Nat, (i : Int) < (gm (A 12) 8).toInt → g' (A 68) i = gm (A 50) i := by
  have hn2 := hn.2
  have t68 := hQ.t 37 68 (by decide)
  have t50 := hQ.t 12 50 (by decide)
  intro n
  induction n with
  | zero => intro g x y _ h; exact absurd h (Nat.not_lt_zero _)
  | succ n ih =>
    intro g x y h0 h F1 F2 F3 F4
    have g12 : g (A 12) = gm (A 12) := F1 _ (ro_ne hQ.1 t68 (by decide))
    have g50 : g (A 50) = gm (A 50) := F1 _ (ro_ne t50 t68 (by decide))
    unfold f_X12_flee_4
    dsimp only
    rw [hQ.g 37 68 (by decide), hQ.g 12 50 (by decide), g12, g50]
    by_cases c : gm (A 12) 8 ≤ y
    · rw [if_pos c]
      have c' := i_le.mp c
      exact ⟨g, rfl, ⟨F1, F2⟩, fun i hi => F4 i (by omega)⟩
    · rw [if_neg c]
      have c' := i_ltI.mp (Int32.not_le.mp c)
      have cy := i_cl h0
      have e := y_1 (m := 16) (by decide) h0 (by omega)
      refine ih _ x (y + 1) (by omega) (by omega) (fun a ha => by rw [up_n ha]; exact F1 a ha) (fun j hj => ?_) F3 (fun i hi => ?_)
      · rw [up_s]
        by_cases ej : j = y.toNatClampNeg
        · rw [ej, ud_s]
          exact F3 _ (by omega)
        · rw [ud_n ej]
          exact F2 j hj
      · rw [up_s]
        by_cases ej : i = y.toNatClampNeg
        · rw [ej, ud_s]
        · rw [ud_n ej]
          exact F4 i (by omega)
theorem sto_eq (Q : q_all τ Z gi gr gm rm A) (K : c_core τ gi gr gm A) (we : c_wear τ gi gr gm A) {s : Int32} : F_X5_blow τ Z gi gr (A 5) s (A 5) 2 = (F_X12_flee τ Z gm rm (A 12) s).1 ∧ ∀ i : Nat, (i : Int) < (gm (A 12) 8).toInt → F_X5_blow τ Z gi gr (A 5) s (A 38) i = (F_X12_flee τ Z gm rm (A 12) s).2 (A 68) i := by
  have Q' := Q
  obtain ⟨hJ, hJm, hC, hQ, no, nb, -⟩ := Q'
  have K' := K
  obtain ⟨a1, a2, -⟩ := K'
  have no' : gm (A 12) 8 = gi (A 1) 6 := no.symm
  have n16 : rg 0 16 (gm (A 12) 8) := by rw [no']; exact n_b hJ hC
  have n162 := n16.2
  have t5 := hC.t 5 5 (by decide) rfl
  have t38 := hC.t 38 24 (by decide) rfl
  have t39 := hC.t 39 25 (by decide) rfl
  have t25 := hC.t 25 25 (by decide) rfl
  have n58 := ro_ne t5 t38 (by decide)
  have n59 := ro_ne t5 t39 (by decide)
  have n89 := ro_ne t38 t39 (by decide)
  obtain ⟨m', f1, f2, f3⟩ := fl_4 (Z := Z) (gm := gm) (gz := gm) hQ n16 (s := s) ((16 - (0 : Int32).toInt).toNat + 1) gm 0 0 (by decide) (Nat.lt_add_one _) (fun _ _ => rfl) (fun j hj => (hJm.at (hQ.t 37 68 (by decide)) (by decide)) j hj) (fun j hj => (hJm.at (hQ.t 12 50 (by decide)) (by decide)) j hj) (fun i hi => by rw [k_0] at hi; omega)
  have f1 : F_X12_flee τ Z gm rm (A 12) s = _ := f1
  rw [f1]
  unfold F_X5_blow F_X1_copyFrom
  dsimp only
  have z0 : (0 : Int32).toNatClampNeg = 0 := by decide
  have z16 : (16 : Int32).toNatClampNeg = 16 := by decide
  have z12 : (12 : Int32).toNatClampNeg = 12 := by decide
  rw [hC.g 5 0 1 (by decide), hC.g 5 1 13 (by decide), hC.g 1 4 2 (by decide), hC.g 13 0 38 (by decide), hC.g 13 1 39 (by decide), hC.g 2 0 24 (by decide), hC.g 2 1 25 (by decide), z0, z16, z12]
  have e25 : va_up gi (A 38) (va_cpy (gi (A 24)) (gi (A 38)) 0 0 16) (A 25) = gi (A 25) := up_n (ro_ne t25 t38 (by decide))
  have e39 : va_up gi (A 38) (va_cpy (gi (A 24)) (gi (A 38)) 0 0 16) (A 39) = gi (A 39) := up_n (Ne.symm n89)
  rw [e25, e39]
  have c16 : ∀ (f g : Nat → Int32) (N i : Nat), i < N → va_cpy f g 0 0 N i = f i := fun f g N i hi => by
    unfold va_cpy
    rw [if_pos ⟨Nat.zero_le _, by omega⟩]
    congr 1
    omega
  have hX : ∀ i : Nat, i < 16 → va_up (va_up (va_up gi (A 38) (va_cpy (gi (A 24)) (gi (A 38)) 0 0 16)) (A 39) (va_cpy (gi (A 25)) (gi (A 39)) 0 0 12)) (A 5) (upd (va_up (va_up gi (A 38) (va_cpy (gi (A 24)) (gi (A 38)) 0 0 16)) (A 39) (va_cpy (gi (A 25)) (gi (A 39)) 0 0 12) (A 5)) 2 0) (A 38) i = gi (A 24) i := fun i hi => by
    rw [up_n (Ne.symm n58), up_n n89, up_s]
    exact c16 _ _ _ i hi
  have hY : ∀ i : Nat, i < 12 → va_up (va_up (va_up gi (A 38) (va_cpy (gi (A 24)) (gi (A 38)) 0 0 16)) (A 39) (va_cpy (gi (A 25)) (gi (A 39)) 0 0 12)) (A 5) (upd (va_up (va_up gi (A 38) (va_cpy (gi (A 24)) (gi (A 38)) 0 0 16)) (A 39) (va_cpy (gi (A 25)) (gi (A 39)) 0 0 12) (A 5)) 2 0) (A 39) i = gi (A 25) i := fun i hi => by
    rw [up_n (Ne.symm n59), up_s]
    exact c16 _ _ _ i hi
  refine st_go Q K we _ _ _ m' 0 0 (by decide) (Nat.lt_add_one _) (Nat.lt_add_one _) ⟨fun a h5 h38 h39 => by rw [up_n h5, up_n h39, up_n h38], fun j hj => by rw [up_s, ud_n hj, up_n n59, up_n n58]⟩ f2 (by rw [up_s, ud_s]) (be_cong hX hY a1) (fun i hi => ?_) (fun i _ hi => hX i (by omega))
  rw [hX i (by omega), f3 i hi]
  exact a2 i hi
theorem s_storm (Q : q_all τ Z gi gr gm rm A) (K : c_core τ gi gr gm A) (we : c_wear τ gi gr gm A) {s r1 r2 : Int32} (e1 : F_X11_storm τ Z gi gr (A 11) s = (r1, gi1)) (e2 : F_X12_storm τ Z gm rm (A 12) s = (r2, gm2)) : r1 = r2 := by
  have E := sto_eq (s := s) Q K we
  obtain ⟨hJ, hJm, hC, hQ, -⟩ := Q
  unfold F_X11_storm F_X11_isForce at e1
  unfold F_X12_storm at e2
  dsimp only at e1 e2
  rw [w0_c, hC.g 11 4 5 (by decide)] at e1
  rw [w0_m] at e2
  by_cases c : W0 s 1 100 = 0
  · rw [if_pos c] at e1 e2
    exact (s_fip hC hQ (w1 := 1) (by decide) (by decide) e1 e2).1
  · rw [if_neg c] at e1 e2
    rw [← (pr2 e1).1, ← (pr2 e2).1]
    exact E.1
theorem s_fled (Q : q_all τ Z gi gr gm rm A) (K : c_core τ gi gr gm A) (we : c_wear τ gi gr gm A) {v s r1 r2 : Int32} (e1 : F_X11_fled τ Z gi gr (A 11) v s = (r1, gi1)) (e2 : F_X12_fled τ Z gm rm (A 12) v s = (r2, gm2)) : r1 = r2 := by
  have E := sto_eq (s := s) Q K we
  obtain ⟨hJ, hJm, hC, hQ, no, nb, wi, cb, -⟩ := Q
  obtain ⟨a1, a2, -⟩ := K
  have no' : gm (A 12) 8 = gi (A 1) 6 := no.symm
  have n162 := (n_b hJ hC).2
  unfold F_X11_fled f_X11_fled_18 F_X11_isForce at e1
  unfold F_X12_fled F_X12_isBoat f_X12_fled_18 at e2
  dsimp only at e1 e2
  rw [w0_c, hC.g 11 4 5 (by decide), hC.g 11 0 1 (by decide), hC.g 1 4 2 (by decide), hC.g 5 1 13 (by decide)] at e1
  rw [w0_m, w0_m, no', hQ.g 12 50 (by decide), hQ.g 37 68 (by decide)] at e2
  by_cases g1 : W0 v 0 (gi (A 1) 6 - 1) = 0
  · rw [bo_no hJ hC g1] at e1
    rw [if_pos g1] at e2
    exact (s_fip hC hQ (w1 := 1) (by decide) (by decide) e1 e2).1
  obtain ⟨f1, f2, f3, f4⟩ := bo_yes (Z := Z) hJ hC g1
  have hvi : ((v.toNatClampNeg : Nat) : Int) < (gm (A 12) 8).toInt := by rw [f3, no']; exact f4
  obtain ⟨qb, hqb⟩ := cb v.toNatClampNeg hvi
  rw [f1, hqb.1] at e1
  rw [if_neg g1] at e2
  simp only [Option.elim_some] at e1
  by_cases c : W0 s 1 100 = 0
  · rw [if_pos c] at e1 e2
    exact (s_fip hC hQ (w1 := 1) (by decide) (by decide) e1 e2).1
  rw [if_neg c] at e1 e2
  rw [bo_of (hC.e 2 0 24 (by decide)) (by omega) (by omega)] at e1
  rw [← a2 v.toNatClampNeg hvi] at e2
  rcases be_x a1 (i := v.toNatClampNeg) (by omega) with z1 | ⟨z1, -⟩
  · rw [z1, if_pos rfl] at e1
    rw [z1, if_neg (by decide)] at e2
    exact (s_fip hC hQ (w1 := 3) (by decide) (by decide) e1 e2).1
  · rw [if_neg (fun q => by rw [q, k_m1] at z1; omega), bo_of (hC.e 13 0 38 (by decide)) (by omega) (by omega)] at e1
    rw [if_pos (i_le.mpr (by rw [k_0]; exact z1))] at e2
    rw [← (pr2 e1).1, ← (pr2 e2).1]
    exact E.2 _ hvi
end ST
