/-! ===== RINGS: the start, the end; ring() ===== -/
section RE
variable {τ τ1 : th_t} {Z : th_Zt} {gi gi1 gm gm2 : th_i} {gr gr1 rm rm2 : th_r} {A : Nat → Nat} {M1 M2 : List Nat}
theorem d7_sp (hC : ro_C τ gr A) {N : Nat} {gz : th_i} (h16 : N ≤ 16) (hX : ∀ b, b < N → gi (A 24) b = -1 ∨ 0 ≤ (gi (A 24) b).toInt) : ∀ (n y : Nat) (g : th_i), y ≤ N → 16 - y < n → (g (A 1) 6).toInt = (N : Int) → d_c A g gi → (∀ x, x < 32 → (bt (g (A 6) 3) x = true ↔ (x < y ∧ 0 ≤ (gi (A 24) x).toInt))) → (∀ b, b < y → g (A 28) b = gi (A 24) b) → ∃ g', f_X6_draw_7 τ Z gz gr (A 6) n g (nI y) = f_X6_draw_65 τ Z gz gr (A 6) ((16 - (0 : Int32).toInt).toNat + 1) g' 0 ∧ d_c A g' gi ∧ (∀ x, x < 32 → (bt (g' (A 6) 3) x = true ↔ (x < N ∧ 0 ≤ (gi (A 24) x).toInt))) ∧ ∀ b, b < N → g' (A 28) b = gi (A 24) b := by
  have t1 := hC.t 1 1 (by decide) rfl
  have t6 := hC.t 6 6 (by decide) rfl
  have t24 := hC.t 24 24 (by decide) rfl
  have t28 := hC.t 28 28 (by decide) rfl
  have n68 := ro_ne t6 t28 (by decide)
  intro n
  induction n with
  | zero => intro y g _ h; exact absurd h (Nat.not_lt_zero _)
  | succ n ih =>
    intro y g hy h hN hd hb hg
    have ty := nI_t (k := y) (by omega)
    have hu : f_X6_draw_7 τ Z gz gr (A 6) (n + 1) g (nI y) = if g (A 1) 6 ≤ nI y then f_X6_draw_65 τ Z gz gr (A 6) ((16 - (0 : Int32).toInt).toNat + 1) g 0 else if F_X1_buoyOf τ Z g gr (A 2) (nI y) = -1 then f_X6_draw_7 τ Z gz gr (A 6) n (va_up g (A 28) (upd (g (A 28)) (nI y).toNatClampNeg (F_X1_buoyOf τ Z g gr (A 2) (nI y)))) (nI y + 1) else f_X6_draw_7 τ Z gz gr (A 6) n (va_up (va_up g (A 28) (upd (g (A 28)) (nI y).toNatClampNeg (F_X1_buoyOf τ Z g gr (A 2) (nI y)))) (A 6) (upd (va_up g (A 28) (upd (g (A 28)) (nI y).toNatClampNeg (F_X1_buoyOf τ Z g gr (A 2) (nI y))) (A 6)) 3 (g (A 6) 3 ||| 1 <<< (nI y &&& 31)))) (nI y + 1) := by
      rw [← hC.g 1 4 2 (by decide), ← hC.g 6 0 1 (by decide), ← hC.g 6 1 28 (by decide)]
      rfl
    rw [hu]
    by_cases c : g (A 1) 6 ≤ nI y
    · rw [if_pos c]
      have c' := i_le.mp c
      have : y = N := by omega
      subst this
      exact ⟨g, rfl, hd, hb, hg⟩
    · rw [if_neg c]
      have c' := i_ltI.mp (Int32.not_le.mp c)
      have hyN : y < N := by omega
      have e24 : g (A 24) = gi (A 24) := hd.at hC t24 (by decide) (by decide) (by decide)
      rw [bo_of (hC.e 2 0 24 (by decide)) (by omega) (by omega), nI_c (by omega), e24, nI_sc (by omega)]
      have g28 : ∀ b, b < y + 1 → upd (g (A 28)) y (gi (A 24) y) b = gi (A 24) b := fun b hb' => by
        by_cases e : b = y
        · rw [e, ud_s]
        · rw [ud_n e]
          exact hg b (by omega)
      rcases hX y hyN with z | z
      · rw [if_pos z]
        refine ih (y + 1) _ (by omega) (by omega) (by rw [up_n (ro_ne t1 t28 (by decide))]; exact hN) (fun a h6 h28 h29 => by rw [up_n h28]; exact hd a h6 h28 h29) (fun x hx => ?_) (fun b hb' => by rw [up_s]; exact g28 b hb')
        rw [up_n n68, hb x hx]
        refine ⟨fun q => ⟨by omega, q.2⟩, fun q => ⟨?_, q.2⟩⟩
        by_cases e : x = y
        · rw [e, z, k_m1] at q
          omega
        · omega
      · rw [if_neg (fun q => by rw [q, k_m1] at z; omega)]
        refine ih (y + 1) _ (by omega) (by omega) (by rw [up_n (ro_ne t1 t6 (by decide)), up_n (ro_ne t1 t28 (by decide))]; exact hN) (fun a h6 h28 h29 => by rw [up_n h6, up_n h28]; exact hd a h6 h28 h29) (fun x hx => ?_) (fun b hb' => by rw [up_n (Ne.symm n68), up_s]; exact g28 b hb')
        rw [up_s, ud_s, bt_set (by omega) (by omega) hx, nI_c (by omega), Bool.or_eq_true, hb x hx, decide_eq_true_iff]
        constructor
        · intro q
          rcases q with q | q
          · exact ⟨by omega, q.2⟩
          · rw [q]
            exact ⟨by omega, z⟩
        · intro q
          by_cases e : x = y
          · exact Or.inr e
          · exact Or.inl ⟨by omega, q.2⟩
theorem f2_sp (hQ : ro_M τ rm A) {N : Nat} {gz : th_i} (h16 : N ≤ 16) : ∀ (n y : Nat) (g : th_i), y ≤ N → 16 - y < n → (g (A 12) 8).toInt = (N : Int) → d_m A g gm → (∀ b, b < y → g (A 65) b = -1) → (∀ b, b < y → (g (A 66) b = 0 ↔ 0 ≤ (gm (A 50) b).toInt)) → ∃ g', f_X12_findRings_2 τ Z gz rm (A 12) n g (nI y) = f_X12_findRings_45 τ Z gz rm (A 12) (fr_m (fr_R τ g' rm (A 12)) 0 + 1) g' 0 ∧ d_m A g' gm ∧ (∀ b, b < N → g' (A 65) b = -1) ∧ ∀ b, b < N → (g' (A 66) b = 0 ↔ 0 ≤ (gm (A 50) b).toInt) := by
  have t65 := hQ.t 34 65 (by decide)
  have t66 := hQ.t 35 66 (by decide)
  have t50 := hQ.t 12 50 (by decide)
  have n56 := ro_ne t65 t66 (by decide)
  intro n
  induction n with
  | zero => intro y g _ h; exact absurd h (Nat.not_lt_zero _)
  | succ n ih =>
    intro y g hy h hN hd h65 h66
    have ty := nI_t (k := y) (by omega)
    have hu : f_X12_findRings_2 τ Z gz rm (A 12) (n + 1) g (nI y) = if g (A 12) 8 ≤ nI y then f_X12_findRings_45 τ Z gz rm (A 12) (fr_m (fr_R τ g rm (A 12)) 0 + 1) g 0 else if (0 : Int32) ≤ va_up g (A 65) (upd (g (A 65)) (nI y).toNatClampNeg (-1)) (A 50) (nI y).toNatClampNeg then f_X12_findRings_2 τ Z gz rm (A 12) n (va_up (va_up g (A 65) (upd (g (A 65)) (nI y).toNatClampNeg (-1))) (A 66) (upd (va_up g (A 65) (upd (g (A 65)) (nI y).toNatClampNeg (-1)) (A 66)) (nI y).toNatClampNeg 0)) (nI y + 1) else f_X12_findRings_2 τ Z gz rm (A 12) n (va_up (va_up g (A 65) (upd (g (A 65)) (nI y).toNatClampNeg (-1))) (A 66) (upd (va_up g (A 65) (upd (g (A 65)) (nI y).toNatClampNeg (-1)) (A 66)) (nI y).toNatClampNeg 1)) (nI y + 1) := by
      rw [← hQ.g 34 65 (by decide), ← hQ.g 35 66 (by decide), ← hQ.g 12 50 (by decide)]
      rfl
    rw [hu]
    by_cases c : g (A 12) 8 ≤ nI y
    · rw [if_pos c]
      have c' := i_le.mp c
      have : y = N := by omega
      subst this
      exact ⟨g, rfl, hd, h65, h66⟩
    · rw [if_neg c]
      have c' := i_ltI.mp (Int32.not_le.mp c)
      have hyN : y < N := by omega
      have e50 : g (A 50) = gm (A 50) := hd.at hQ t50 (by decide) (by decide) (by decide)
      rw [nI_c (by omega), up_n (ro_ne t50 t65 (by decide)), e50, nI_sc (by omega), up_n (Ne.symm n56)]
      have go : ∀ v : Int32, (v = 0 ↔ 0 ≤ (gm (A 50) y).toInt) → ∃ g', f_X12_findRings_2 τ Z gz rm (A 12) n (va_up (va_up g (A 65) (upd (g (A 65)) y (-1))) (A 66) (upd (g (A 66)) y v)) (nI (y + 1)) = f_X12_findRings_45 τ Z gz rm (A 12) (fr_m (fr_R τ g' rm (A 12)) 0 + 1) g' 0 ∧ d_m A g' gm ∧ (∀ b, b < N → g' (A 65) b = -1) ∧ ∀ b, b < N → (g' (A 66) b = 0 ↔ 0 ≤ (gm (A 50) b).toInt) := fun v hv => by
        refine ih (y + 1) _ (by omega) (by omega) (by rw [up_n (ro_ne hQ.1 t66 (by decide)), up_n (ro_ne hQ.1 t65 (by decide))]; exact hN) (fun a a1 a2 a3 => by rw [up_n a2, up_n a1]; exact hd a a1 a2 a3) (fun b hb => ?_) (fun b hb => ?_)
        · rw [up_n n56, up_s]
          by_cases e : b = y
          · rw [e, ud_s]
          · rw [ud_n e]
            exact h65 b (by omega)
        · rw [up_s]
          by_cases e : b = y
          · rw [e, ud_s]
            exact hv
          · rw [ud_n e]
            exact h66 b (by omega)
      by_cases c0 : (0 : Int32) ≤ gm (A 50) y
      · rw [if_pos c0]
        have c0' := i_le.mp c0
        rw [k_0] at c0'
        exact go 0 ⟨fun _ => c0', fun _ => rfl⟩
      · rw [if_neg c0]
        refine go 1 ⟨fun q => absurd q (by decide), fun q => absurd (i_le.mpr (by rw [k_0]; exact q)) c0⟩
theorem rings (Q : q_all τ Z gi gr gm rm A) (K : c_core τ gi gr gm A) (W : c_wish τ gi gr gm A) (V : c_wnb gm A) : ∃ N : Nat, (gm (A 12) 8).toInt = (N : Int) ∧ N ≤ 16 ∧ RS gi gm A N (F_X6_draw τ Z gi gr (A 6)) (F_X12_findRings τ Z gm rm (A 12)) ∧ ∀ b, b < N → ¬ F_X12_findRings τ Z gm rm (A 12) (A 66) b = 0 := by
  have Q' := Q
  obtain ⟨hJ, hJm, hC, hQ, no, nb, wi, cb, cu, ct, cs, cl, cr, cw⟩ := Q'
  obtain ⟨a1, a2, -⟩ := id K
  have no' : gm (A 12) 8 = gi (A 1) 6 := no.symm
  have n16 := n_b hJ hC
  have n161 := n16.1
  have n162 := n16.2
  have cN := i_cl n161
  have t1 := hC.t 1 1 (by decide) rfl
  have t6 := hC.t 6 6 (by decide) rfl
  have hN : (gm (A 12) 8).toInt = (((gi (A 1) 6).toNatClampNeg : Nat) : Int) := by rw [no']; exact cN.symm
  have h16 : (gi (A 1) 6).toNatClampNeg ≤ 16 := by omega
  refine ⟨(gi (A 1) 6).toNatClampNeg, hN, h16, ?_⟩
  generalize (gi (A 1) 6).toNatClampNeg = N at hN h16 cN
  obtain ⟨g', e1, d1, d2, d3⟩ := d7_sp (Z := Z) (gz := gi) hC h16 (fun b hb => (be_x a1 (i := b) (by omega)).imp id (fun q => q.1)) ((16 - (0 : Int32).toInt).toNat + 1) 0 (va_up gi (A 6) (upd (gi (A 6)) 3 0)) (Nat.zero_le _) (by decide) (by rw [up_n (ro_ne t1 t6 (by decide))]; exact cN.symm) (fun a h6 _ _ => up_n h6) (fun x hx => by
    rw [up_s, ud_s, b_0]
    exact ⟨fun q => absurd q (by decide), fun q => absurd q.1 (Nat.not_lt_zero _)⟩) (fun b hb => absurd hb (Nat.not_lt_zero _))
  obtain ⟨m', f1, f2, f3, f4⟩ := f2_sp (Z := Z) (gm := gm) (gz := gm) hQ h16 ((16 - (0 : Int32).toInt).toNat + 1) 0 gm (Nat.zero_le _) (by decide) hN (fun _ _ _ _ => rfl) (fun b hb => absurd hb (Nat.not_lt_zero _)) (fun b hb => absurd hb (Nat.not_lt_zero _))
  rw [show nI 0 = 0 by decide] at e1 f1
  have e1 : F_X6_draw τ Z gi gr (A 6) = _ := e1
  have f1 : F_X12_findRings τ Z gm rm (A 12) = _ := f1
  rw [e1, f1]
  have aX : ∀ b, b < N → gi (A 24) b = gm (A 50) b := fun b hb => a2 b (by omega)
  have t66 := hQ.t 35 66 (by decide)
  have hfr : fr_R τ m' rm (A 12) 35 = m' (A 66) := funext fun j => fr_at (hQ.e 35 66 (by decide)) t66 (by decide) rfl
  have hmu : mu A m' 0 < fr_m (fr_R τ m' rm (A 12)) 0 + 1 := by
    unfold mu fr_m
    rw [hfr, k_0]
    omega
  have hcl : ∀ (f : Nat → Int32) (n : Nat), fr_c f n ≤ n := fun f n => by
    induction n with
    | zero => exact Nat.le_refl _
    | succ n ih =>
      show fr_c f n + (if f n = 0 then 1 else 0) ≤ n + 1
      split <;> omega
  refine rs_main Q K W V hN h16 N g' m' 0 _ _ ⟨d1, f2, fun x hx q => ((d2 x hx).mp q).1, fun b hb => ?_, fun b hb q => ?_, fun b hb q => ?_, fun b hb q => ?_, fun b hb q => ?_, fun b hb q => ?_, fun b b' hb hb' q => ?_⟩ (hcl _ _) (by rw [k_0]; omega) (by decide) (Nat.lt_add_one _) hmu
  · rw [d2 b (by omega), f4 b hb, aX b hb]
    exact ⟨fun q => q.2, fun q => ⟨hb, q⟩⟩
  · rw [aX b hb]
    exact (f4 b hb).mp q
  · have : gi (A 24) b = -1 := by
      rcases be_x a1 (i := b) (by omega) with z | ⟨z, -⟩
      · exact z
      · exact absurd ((f4 b hb).mpr (by rw [← aX b hb]; exact z)) q
    rw [d3 b hb, f3 b hb, this]
  · rw [d3 b hb]
    exact m1_of (a1.1 b (by omega)).1 q
  · exact absurd ((f4 b hb).mpr (by rw [← aX b hb]; exact q.2)) q.1
  · exact absurd ((f4 b hb).mpr (by rw [← aX b hb]; exact q.2)) q.1
  · exact absurd ((f4 b hb).mpr (by rw [← aX b hb]; exact q.2)) q.1
theorem bf_at (hC : ro_C τ gr A) {g : th_i} {v : Int32} (h0 : 0 ≤ v.toInt) (h1 : v.toInt < 16) : F_X6_buoyFor τ Z g gr (A 6) v = g (A 28) v.toNatClampNeg := by
  unfold F_X6_buoyFor
  dsimp only
  rw [w0_c, if_neg (w0_in (by rw [k_0]; exact h0) (by rw [k_15]; omega)), hC.g 6 1 28 (by decide)]
theorem s_ring (Q : q_all τ Z gi gr gm rm A) (K : c_core τ gi gr gm A) (W : c_wish τ gi gr gm A) (V : c_wnb gm A) {v r1 r2 : Int32} (e1 : F_X11_ring τ Z gi gr (A 11) v = (r1, gi1)) (e2 : F_X12_ring τ Z gm rm (A 12) v = (r2, gm2)) : r1 = r2 := by
  obtain ⟨N, hN, h16, R, hz⟩ := rings Q K W V
  obtain ⟨hJ, hJm, hC, hQ, no, nb, wi, cb, cu, ct, cs, cl, cr, cw⟩ := Q
  obtain ⟨a1, a2, -⟩ := K
  have no' : gm (A 12) 8 = gi (A 1) 6 := no.symm
  have n162 := (n_b hJ hC).2
  unfold F_X11_ring at e1
  unfold F_X12_ring F_X12_isBoat at e2
  dsimp only at e1 e2
  rw [hC.g 11 0 1 (by decide), hC.g 1 4 2 (by decide), hC.g 11 3 6 (by decide)] at e1
  rw [w0_m, no', hQ.g 12 50 (by decide), hQ.g 34 65 (by decide)] at e2
  by_cases g1 : W0 v 0 (gi (A 1) 6 - 1) = 0
  · rw [bo_no hJ hC g1] at e1
    rw [if_pos g1] at e2
    exact (s_fip hC hQ (w1 := 1) (by decide) (by decide) e1 e2).1
  obtain ⟨f1, f2, f3, f4⟩ := bo_yes (Z := Z) hJ hC g1
  obtain ⟨qb, hqb⟩ := cb v.toNatClampNeg (by rw [f3, no']; exact f4)
  rw [f1, hqb.1] at e1
  rw [if_neg g1] at e2
  simp only [Option.elim_some] at e1
  have hv0 : 0 ≤ v.toInt := by omega
  rw [bo_of (hC.e 2 0 24 (by decide)) hv0 (by omega)] at e1
  rw [← a2 v.toNatClampNeg (by rw [no']; omega)] at e2
  rcases be_x a1 (i := v.toNatClampNeg) (by omega) with z1 | ⟨z1, -⟩
  · rw [z1, if_pos rfl] at e1
    rw [z1, if_neg (by decide)] at e2
    exact (s_fip hC hQ (w1 := 3) (by decide) (by decide) e1 e2).1
  · rw [if_neg (fun q => by rw [q, k_m1] at z1; omega), bf_at hC hv0 (by omega)] at e1
    rw [if_pos (i_le.mpr (by rw [k_0]; exact z1))] at e2
    rw [no'] at hN
    rw [← (pr2 e1).1, ← (pr2 e2).1]
    exact R.2.2.2.2.2.1 _ (by omega) (hz _ (by omega))
end RE
