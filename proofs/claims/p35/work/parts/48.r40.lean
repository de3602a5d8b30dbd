/-! ===== THE MOST: both find the same ===== -/
section MF
variable {τ τ1 : th_t} {Z : th_Zt} {gi gi1 gm gm2 : th_i} {gr gr1 rm rm2 : th_r} {A : Nat → Nat} {M1 M2 : List Nat}
theorem fi_most (Q : q_all τ Z gi gr gm rm A) (K : c_core τ gi gr gm A) (hf : c_find gi gm A) {v w r1 r2 : Int32} (e1 : F_X11_most τ Z gi gr (A 11) v w = (r1, gi1, gr1)) (e2 : F_X12_most τ Z gm rm (A 12) v w = (r2, gm2)) : c_find gi1 gm2 A := by
  obtain ⟨hJ, hJm, hC, hQ, no, nb, wi, cb, cu, ct, cs, cl, cr, cw⟩ := Q
  obtain ⟨a1, a2, -⟩ := K
  have no' : gm (A 12) 8 = gi (A 1) 6 := no.symm
  have n16 := n_b hJ hC
  have n161 := n16.1
  have n162 := n16.2
  have cN := i_cl n161
  have h10 : ¬ (1 : Int32) = 0 := by decide
  unfold F_X11_most f_X11_most_22 f_X11_most_43 at e1
  unfold F_X12_most f_X12_most_14 at e2
  dsimp only at e1 e2
  rw [hC.g 11 0 1 (by decide), hC.g 11 2 7 (by decide)] at e1
  rw [no'] at e2
  obtain ⟨kA, kB⟩ := kn_eq (v := v) (k := (gi (A 1) 6).toNatClampNeg) (by omega)
  rw [nI_cl n161] at kA kB
  by_cases k : (v.toUInt32 >>> (Int32.toUInt32 (gi (A 1) 6) &&& Int32.toUInt32 31)).toInt32 = 0
  rotate_left
  · rw [if_neg k, if_pos rfl] at e1
    have e2' : ((F_X12_finding τ Z gm rm (A 12) (-1000001)).1, (F_X12_finding τ Z gm rm (A 12) (-1000001)).2) = (r2, gm2) := by
      by_cases c1 : v < 0
      · rw [if_pos c1] at e2
        exact e2
      · rw [if_neg c1, if_neg (fun c2 => k (kA.mpr (kB.mp ⟨c1, c2⟩)))] at e2
        exact e2
    exact hf.fip hC hQ (w1 := 1) (by decide) (by decide) (pr3 e1).1 e2'
  have hu := kA.mp k
  obtain ⟨b1, b2⟩ := kB.mpr hu
  rw [if_pos k, if_neg h10] at e1
  rw [if_neg b1, if_pos b2] at e2
  have lt : 2 ^ (gi (A 1) 6).toNatClampNeg ≤ 65536 := Nat.pow_le_pow_right (by decide) (show (gi (A 1) 6).toNatClampNeg ≤ 16 by omega)
  obtain ⟨g', c', f', q1, s1, s2, s3, s4, s5⟩ := mo_29 (Z := Z) (gz := gm) hQ (by rw [no']; exact n16) (v := v) (w := w) ((16 - (0 : Int32).toInt).toNat + 1) 0 gm 0 1 (by decide) (by rw [k_0, no']; exact n161) (Nat.lt_add_one _) ⟨fun _ _ => rfl, rfl, fun j hj => absurd hj (Nat.not_lt_zero _), ⟨fun q => absurd q h10, fun q => absurd (fun j hj => absurd hj (Nat.not_lt_zero _)) q⟩, fun j hj => (hJm.at (hQ.t 28 60 (by decide)) (by decide)) j hj⟩
  rw [q1] at e2
  rw [no'] at s2 s4 e2
  have ec : F_J6_bitCount_0f7a4 τ Z gi gr v = c' := by
    have p := bc_eq (τ := τ) (Z := Z) (gi := gi) (gr := gr) v (by omega)
    have p2 := cn_16 v (by omega)
    have p3 := cn_up hu (16 - (gi (A 1) 6).toNatClampNeg)
    rw [show (gi (A 1) 6).toNatClampNeg + (16 - (gi (A 1) 6).toNatClampNeg) = 16 by omega] at p3
    have p4 := cn_le v 16
    rw [← p2] at p
    refine i_inj ?_
    rw [u_toInt (by omega), p, p3, s2]
  rw [ec] at e1
  have t36 := hC.t 36 36 (by decide) rfl
  have t59 := hQ.t 26 59 (by decide)
  have t60 := hQ.t 28 60 (by decide)
  have g12 : g' (A 12) = gm (A 12) := s1 _ (ro_ne hQ.1 t60 (by decide))
  have fin : ∀ {w1 w2 : Int32}, ¬ W0 w1 1 5 = 0 → (-1000000) - w2 = w1 → ((F_X11_finding τ Z gi gr (A 11) w1).1, (F_X11_finding τ Z gi gr (A 11) w1).2, gr) = (r1, gi1, gr1) → ((F_X12_finding τ Z g' rm (A 12) w2).1, (F_X12_finding τ Z g' rm (A 12) w2).2) = (r2, gm2) → c_find gi1 gm2 A := fun q1 q2 q3 q4 => (hf.up rfl (s1 _ (ro_ne t59 t60 (by decide)))).fip hC hQ q1 q2 (pr3 q3).1 q4
  unfold f_X12_most_29 f_X12_most_106 at e2
  dsimp only at e2
  rw [g12, no', if_pos (Int32.le_refl _), w0_m] at e2
  rw [w0_c] at e1
  by_cases c1 : (5 : Int32) < c'
  · rw [if_pos c1] at e1 e2
    exact fin (w1 := 1) (by decide) (by decide) e1 e2
  rw [if_neg c1] at e1 e2
  by_cases c2 : W0 w 0 c' = 0
  · rw [if_pos c2] at e1 e2
    exact fin (w1 := 1) (by decide) (by decide) e1 e2
  rw [if_neg c2] at e1 e2
  have AL := al_2 (Z := Z) hC n16 (v := v) ((16 - (0 : Int32).toInt).toNat + 1) 0 (by decide) (Nat.lt_add_one _)
  have AL : F_X0_anyLies τ Z gi gr (A 1) v = 0 ↔ _ := AL
  have eqF : F_X0_anyLies τ Z gi gr (A 1) v = 0 ↔ ¬ f' = 0 := by
    rw [AL, s4, Classical.not_not]
    constructor
    · intro q j hj hb
      have := q j (by rw [k_0]; omega) (by omega) hb
      rw [a2 j (by rw [no']; omega)] at this
      rw [this]
      decide
    · intro q j h1 h2 hb
      have := q j (by omega) hb
      rcases be_x a1 (i := j) (by omega) with z | ⟨z, -⟩
      · exact z
      · rw [a2 j (by rw [no']; omega)] at z
        exact absurd z this
  by_cases c3 : F_X0_anyLies τ Z gi gr (A 1) v = 0
  rotate_left
  · have c4 : f' = 0 := Classical.not_not.mp (fun q => c3 (eqF.mpr q))
    rw [if_neg c3] at e1
    rw [if_pos c4] at e2
    exact fin (w1 := 3) (by decide) (by decide) e1 e2
  rw [if_pos c3] at e1
  rw [if_neg (eqF.mp c3)] at e2
  have F1 : (F_X7_run τ Z gi gr (A 7) v).1 (A 36) = gi (A 36) := ru_fr hC (ro_ne t36 (hC.t 7 7 (by decide) rfl) (by decide)) (ro_ne t36 (hC.t 31 31 (by decide) rfl) (by decide)) (ro_ne t36 (hC.t 32 32 (by decide) rfl) (by decide)) (ro_ne t36 (hC.t 33 33 (by decide) rfl) (by decide)) (ro_ne t36 (hC.t 34 34 (by decide) rfl) (by decide))
  have F2 : F_X12_findMost τ Z (F_X12_findMay τ Z (va_up g' (A 12) (upd (gm (A 12)) 27 c')) rm (A 12)) rm (A 12) (A 59) = gm (A 59) := by
    rw [fo_fr hQ (ro_ne t59 hQ.1 (by decide)) (ro_ne t59 (hQ.t 30 62 (by decide)) (by decide)) (ro_ne t59 (hQ.t 31 63 (by decide)) (by decide)), fy_fr hQ (ro_ne t59 (hQ.t 29 61 (by decide)) (by decide)) (ro_ne t59 (hQ.t 32 64 (by decide)) (by decide)), up_n (ro_ne t59 hQ.1 (by decide))]
    exact s1 _ (ro_ne t59 t60 (by decide))
  by_cases c5 : w = 0
  · rw [if_pos c5] at e1 e2
    exact hf.up (by rw [← (pr2 (pr3 e1).1).2]; exact F1) (by rw [← (pr2 e2).2]; exact F2)
  · rw [if_neg c5] at e1 e2
    exact hf.up (by rw [← (pr2 (pr3 e1).1).2]; exact F1) (by rw [← (pr2 e2).2]; exact F2)
end MF
