/-! ===== most: the answers are the same ===== -/
section MM
variable {τ τ1 : th_t} {Z : th_Zt} {gi gi1 gm gm2 : th_i} {gr gr1 rm rm2 : th_r} {A : Nat → Nat} {M1 M2 : List Nat}
theorem nI_s3 {y : Nat} (h : y ≤ 1000) : nI y + 1 = nI (y + 1) := by
  have a := nI_t (k := y) (by omega)
  have b := nI_t (k := y + 1) (by omega)
  exact i_inj (by rw [i_add (by rw [a, k_1]; omega) (by rw [a, k_1]; omega), a, b, k_1]; omega)
theorem fl_all {q : Nat} {r : th_r} {gz : th_i} : ∀ (N y : Nat) (g : th_i), y ≤ 300 → 300 - y < N → (∀ k, k < y → g q k = -1) → (∀ a, a ≠ q → f_J7_fill_53178_32_5 τ Z gz r q (-1) N g (nI y) 300 a = g a) ∧ ∀ k, k < 300 → f_J7_fill_53178_32_5 τ Z gz r q (-1) N g (nI y) 300 q k = -1 := by
  intro N
  induction N with
  | zero => intro y g _ h; exact absurd h (Nat.not_lt_zero _)
  | succ N ih =>
    intro y g hy h hk
    have ty := nI_t (k := y) (by omega)
    have k300 : (300 : Int32).toInt = 300 := by decide
    unfold f_J7_fill_53178_32_5
    dsimp only
    by_cases c : (300 : Int32) ≤ nI y
    · have c' := i_le.mp c
      rw [k300, ty] at c'
      rw [if_pos c]
      exact ⟨fun _ _ => rfl, fun k h' => hk k (by omega)⟩
    · have c' := i_ltI.mp (Int32.not_le.mp c)
      rw [k300, ty] at c'
      rw [if_neg c, nI_s3 (by omega), nI_c (by omega)]
      obtain ⟨w1, w2⟩ := ih (y + 1) (va_up g q (upd (g q) y (-1))) (by omega) (by omega) (fun k h' => by
        rw [up_s]
        by_cases e : k = y
        · rw [e, ud_s]
        · rw [ud_n e]
          exact hk k (by omega))
      exact ⟨fun a ha => by rw [w1 a ha, up_n ha], w2⟩
/-- where each may lie at first, in a picture on the way -/
theorem oa_4 (Q : q_all τ Z gi gr gm rm A) (K : c_core τ gi gr gm A) {g : th_i} {r : th_r} (M : th_Mod sM τ gi gr g r) (J : th_J τ g r) {nb k : Nat} (hnb : (gm (A 12) 0).toInt = (nb : Int)) (h12 : nb ≤ 12) (hk : (k : Int) < (gm (A 12) 8).toInt) (fr : gi (A 24) k = -1) : ∀ (N y : Nat) (acc : Int32), y ≤ nb → 12 - y < N → (∀ p, p < 32 → bt acc p = mbr τ Z gi gr A k y p) → ∀ p, p < 32 → bt (f_X7_openAtFirst_4 τ Z g r (A 7) (Bc gr A k) N acc (nI y)) p = mbr τ Z gi gr A k nb p := by
  have Qg := q_sea Q M J
  have hC := Q.2.2.1
  have hC1 : ro_C τ r A := hC.mod M (rc_okE (by decide))
  obtain ⟨gJ, -, -, -, gno, gnb, -, gcb, gcu, -⟩ := id Qg
  have gn12 := n_p gJ hC1
  have e0 : g (A 1) 5 = nI nb := i_inj (by rw [nI_t (by omega), ← hnb]; exact congrArg Int32.toInt gnb)
  have Kg : c_core τ g r gm A := c_core.fr hC Q.2.2.2.1 M (th_Mod.rf (M := [])) (by decide) (by decide) K
  have r20 : r (A 20) = gr (A 20) := (ro_ka M (hC.t 20 20 (by decide) rfl) (by decide) (by decide)).2
  have r21 : r (A 21) = gr (A 21) := (ro_ka M (hC.t 21 21 (by decide) rfl) (by decide) (by decide)).2
  have g24 : g (A 24) = gi (A 24) := (ro_ka M (hC.t 24 24 (by decide) rfl) (by decide) (by decide)).1
  intro N
  induction N with
  | zero => intro y acc _ h; exact absurd h (Nat.not_lt_zero _)
  | succ N ih =>
    intro y acc hy h ha p hp
    have ty := nI_t (k := y) (by omega)
    have tn := nI_t (k := nb) (by omega)
    unfold f_X7_openAtFirst_4 f_X7_openAtFirst_56
    dsimp only
    rw [hC1.g 7 0 1 (by decide), hC1.g 1 4 2 (by decide), e0]
    by_cases c : nI nb ≤ nI y
    · have c' := i_le.mp c
      have : y = nb := by omega
      subst this
      rw [if_pos c]
      exact ha p hp
    · have c' := i_ltI.mp (Int32.not_le.mp c)
      rw [if_neg c, bu_g hC1 gn12 (by omega) (by rw [e0, tn]; omega), nI_c (by omega), nI_sc (by omega)]
      have uy := (u_Uc gcu (p := y) (by rw [hnb]; omega)).1
      rw [uy]
      simp only [Option.elim_some]
      have L1 := ml_ref Qg Kg (k := k) (p := y) hk (by rw [hnb]; omega) (by rw [g24]; exact fr)
      have L2 := ml_ref Q K (k := k) (p := y) hk (by rw [hnb]; omega) fr
      have eB : Bc r A k = Bc gr A k := by unfold Bc; rw [r21]
      rw [eB, ← L2] at L1
      rw [L1]
      have eU : Uc r A y = Uc gr A y := by unfold Uc; rw [r20]
      by_cases c1 : F_X0_mayLie τ Z gi gr (A 1) (Bc gr A k) (Uc gr A y) (A 2) = 0
      · rw [if_pos c1]
        refine ih (y + 1) acc (by omega) (by omega) (fun p hp => ?_) p hp
        rw [ha p hp]
        unfold mbr
        by_cases e : p = y
        · have w : mlb τ Z gi gr A k y = false := by
            unfold mlb
            exact decide_eq_false (fun z => z c1)
          rw [e, w, Bool.and_false, Bool.and_false]
        · rw [decide_eq_decide.mpr (show p < y ↔ p < y + 1 by omega)]
      · rw [if_neg c1]
        refine ih (y + 1) _ (by omega) (by omega) (fun p hp => ?_) p hp
        rw [bt_set (by omega) (by omega) hp, nI_c (by omega), ha p hp]
        unfold mbr
        by_cases e : p = y
        · have w : mlb τ Z gi gr A k y = true := by
            unfold mlb
            exact decide_eq_true c1
          rw [e, w, decide_eq_true (show y = y from rfl), Bool.or_true, decide_eq_true (show y < y + 1 by omega), Bool.true_and]
        · rw [decide_eq_false e, Bool.or_false, decide_eq_decide.mpr (show p < y ↔ p < y + 1 by omega)]
/-- the class: who is asked for -/
def RI (τ : th_t) (Z : th_Zt) (gi : th_i) (gr : th_r) (A : Nat → Nat) (v : Int32) (nb y : Nat) (g : th_i) (r : th_r) : Prop := th_Mod sM τ gi gr g r ∧ th_J τ g r ∧ g (A 7) 2 = nI (cnB v y) ∧ (∀ j, j < y → bt v j = true → r (A 30) (cnB v j) = some (Bc gr A j)) ∧ ∀ j, j < y → bt v j = true → ∀ p, p < 32 → bt (g (A 31) (cnB v j)) p = mbr τ Z gi gr A j nb p
theorem ru_sp (Q : q_all τ Z gi gr gm rm A) (K : c_core τ gi gr gm A) {v : Int32} {nb Nb : Nat} {gz : th_i} {rz : th_r} (hnb : (gm (A 12) 0).toInt = (nb : Int)) (h12 : nb ≤ 12) (hNb : (gm (A 12) 8).toInt = (Nb : Int)) (h16 : Nb ≤ 16) (h5 : cnB v Nb ≤ 5) (fr : ∀ j, j < Nb → bt v j = true → gi (A 24) j = -1) : ∀ (N y : Nat) (g : th_i) (r : th_r), y ≤ Nb → 16 - y < N → RI τ Z gi gr A v nb y g r → ∃ g' r', f_X7_run_7 τ Z gz rz (A 7) v N g r (nI y) = (F_X7_settle_0 τ Z (va_up (F_J7_fill_53178_32 τ Z g' r' (A 32) (-1)) (A 7) (upd (F_J7_fill_53178_32 τ Z g' r' (A 32) (-1) (A 7)) 7 (-1))) r' (A 7) 0 0, r') ∧ RI τ Z gi gr A v nb Nb g' r' := by
  have hC := Q.2.2.1
  have t7 := hC.t 7 7 (by decide) rfl
  have t30 := hC.t 30 30 (by decide) rfl
  have t31 := hC.t 31 31 (by decide) rfl
  have n71 := ro_ne t7 t31 (by decide)
  have n70 := ro_ne t7 t30 (by decide)
  intro N
  induction N with
  | zero => intro y g r _ h; exact absurd h (Nat.not_lt_zero _)
  | succ N ih =>
    intro y g r hy h R
    obtain ⟨M, J, sz, ak, op⟩ := R
    have Qg := q_sea Q M J
    have hC1 : ro_C τ r A := hC.mod M (rc_okE (by decide))
    obtain ⟨gJ, -, -, -, gno, gnb, -, gcb, gcu, -⟩ := id Qg
    have gn16 := n_b gJ hC1
    have e0 : g (A 1) 6 = nI Nb := i_inj (by rw [nI_t (by omega), ← hNb]; exact congrArg Int32.toInt gno)
    have r21 : r (A 21) = gr (A 21) := (ro_ka M (hC.t 21 21 (by decide) rfl) (by decide) (by decide)).2
    have ty := nI_t (k := y) (by omega)
    have tn := nI_t (k := Nb) (by omega)
    have hcy := cn_mono v (show y ≤ Nb from hy)
    have tc := nI_t (k := cnB v y) (by omega)
    have hu : f_X7_run_7 τ Z gz rz (A 7) v (N + 1) g r (nI y) = if nI Nb ≤ nI y then (F_X7_settle_0 τ Z (va_up (F_J7_fill_53178_32 τ Z g r (A 32) (-1)) (A 7) (upd (F_J7_fill_53178_32 τ Z g r (A 32) (-1) (A 7)) 7 (-1))) r (A 7) 0 0, r) else if v >>> (nI y &&& 31) &&& 1 = 0 then f_X7_run_38 τ Z gz rz (A 7) v g r (nI y) (f_X7_run_7 τ Z gz rz (A 7) v N) g r none else f_X7_run_38 τ Z gz rz (A 7) v g r (nI y) (f_X7_run_7 τ Z gz rz (A 7) v N) g r (F_X0_boatAt τ Z g r (A 1) (nI y)) := by
      conv => lhs; unfold f_X7_run_7
      dsimp only
      rw [hC1.g 7 0 1 (by decide), hC1.g 7 4 32 (by decide), e0]
    rw [hu]
    by_cases c : nI Nb ≤ nI y
    · have c' := i_le.mp c
      have : y = Nb := by omega
      subst this
      rw [if_pos c]
      exact ⟨g, r, rfl, M, J, sz, ak, op⟩
    · have c' := i_ltI.mp (Int32.not_le.mp c)
      have hyN : y < Nb := by omega
      rw [if_neg c]
      have B := bt_at (x := v) (y := nI y) (by omega) (by omega)
      rw [nI_c (by omega)] at B
      by_cases c1 : v >>> (nI y &&& 31) &&& 1 = 0
      · rw [if_pos c1]
        have b0 := B.mp c1
        unfold f_X7_run_38 f_X7_run_85
        dsimp only
        rw [nI_sc (by omega)]
        have ec : cnB v (y + 1) = cnB v y := by
          show cnB v y + (if bt v y = true then 1 else 0) = _
          rw [if_neg (by rw [b0]; decide)]
          rfl
        refine ih (y + 1) g r (by omega) (by omega) ⟨M, J, by rw [ec]; exact sz, fun j hj hb => ?_, fun j hj hb => ?_⟩
        · by_cases e : j = y
          · rw [e, b0] at hb
            exact absurd hb (by decide)
          · exact ak j (by omega) hb
        · by_cases e : j = y
          · rw [e, b0] at hb
            exact absurd hb (by decide)
          · exact op j (by omega) hb
      · rw [if_neg c1]
        have b1 : bt v y = true := by
          cases hb : bt v y with
          | true => rfl
          | false => exact absurd (B.mpr hb) c1
        have lt := cn_lt v hyN b1
        have ec : cnB v (y + 1) = cnB v y + 1 := by
          show cnB v y + (if bt v y = true then 1 else 0) = _
          rw [if_pos b1]
        obtain ⟨bc1, bc2⟩ := b_Bc gcb (k := y) (by rw [hNb]; omega)
        have eB : Bc r A y = Bc gr A y := by unfold Bc; rw [r21]
        rw [bo_g hC1 gn16 (by omega) (by rw [e0, tn]; omega), nI_c (by omega), bc1]
        unfold f_X7_run_38 f_X7_run_85
        dsimp only
        rw [sz]
        simp only [Option.elim_some]
        rw [if_neg (fun q => by have := i_le.mp q; rw [tc, show (5 : Int32).toInt = 5 by decide] at this; omega), hC1.g 7 1 30 (by decide), nI_c (show cnB v y < 2147483648 by omega), up_n n70, hC1.g 7 3 31 (by decide), nI_sc (show cnB v y ≤ 16 by omega), nI_sc (by omega), up_n n71, eB]
        have tb : τ (Bc gr A y) = 8 ∨ τ (Bc gr A y) = 9 ∨ τ (Bc gr A y) = 4 := by
          rw [← eB]
          exact bc2.2.2.2.2.1.nz
        have J1 : th_J τ g (va_up r (A 30) (va_up (r (A 30)) (cnB v y) (some (Bc gr A y)))) := fun a ha => by
          by_cases e : a = A 30
          · subst e
            rw [t30, up_s]
            have X := J.at t30 (by decide)
            intro j hj q hq
            by_cases ej : j = cnB v y
            · rw [ej, up_s] at hq
              have : Bc gr A y = q := Option.some.inj hq
              rw [← this]
              exact tb
            · rw [up_n ej] at hq
              exact X j hj q hq
          · rw [up_n e]
            exact J a ha
        have M1 : th_Mod sM τ gi gr g (va_up r (A 30) (va_up (r (A 30)) (cnB v y) (some (Bc gr A y)))) := fun b j hb hk => by
          obtain ⟨k1, k2⟩ := M b j hb hk
          refine ⟨k1, ?_⟩
          by_cases e : b = A 30
          · subst e
            exact absurd (show th_key (τ (A 30)) j ∈ sM by rw [t30]; show (3000 : Nat) ∈ _; decide) hk
          · rw [up_n e]
            exact k2
        have OA := oa_4 (Z := Z) Q K M1 J1 hnb h12 (k := y) (by rw [hNb]; omega) (fr y hyN b1) ((12 - (0 : Int32).toInt).toNat + 1) 0 0 (Nat.zero_le _) (by decide) (fun p hp => by
          rw [b_0]
          unfold mbr
          rw [decide_eq_false (Nat.not_lt_zero p), Bool.false_and])
        rw [show nI 0 = 0 by decide] at OA
        have OA : ∀ p, p < 32 → bt (F_X7_openAtFirst τ Z g (va_up r (A 30) (va_up (r (A 30)) (cnB v y) (some (Bc gr A y)))) (A 7) (Bc gr A y)) p = mbr τ Z gi gr A y nb p := OA
        generalize F_X7_openAtFirst τ Z g (va_up r (A 30) (va_up (r (A 30)) (cnB v y) (some (Bc gr A y)))) (A 7) (Bc gr A y) = x at OA ⊢
        refine ih (y + 1) _ _ (by omega) (by omega) ⟨cf_M hC M1 (fun a a7 a31 _ _ _ => by rw [up_n a7, up_n a31]) (fun j h2 _ => by rw [up_s, ud_n h2]), fun a ha => ?_, by rw [up_s, ud_s, ec], fun j hj hb => ?_, fun j hj hb p hp => ?_⟩
        · by_cases e7 : a = A 7
          · subst e7
            rw [t7, up_s]
            have X := J1.at t7 (by decide)
            exact I7 X ⟨by rw [nI_t (by omega)]; omega, by rw [nI_t (by omega)]; omega⟩
          · rw [up_n e7]
            by_cases e31 : a = A 31
            · subst e31
              rw [t31]
              exact trivial
            · rw [up_n e31]
              exact J1 a ha
        · rw [up_s]
          by_cases e : j = y
          · rw [e, up_s]
          · rw [up_n (by have := cn_lt v (show j < y by omega) hb; omega)]
            exact ak j (by omega) hb
        · rw [up_n (Ne.symm n71), up_s]
          by_cases e : j = y
          · rw [e, ud_s]
            exact OA p hp
          · rw [ud_n (by have := cn_lt v (show j < y by omega) hb; omega)]
            exact op j (by omega) hb p hp
theorem s_most (Q : q_all τ Z gi gr gm rm A) (K : c_core τ gi gr gm A) {v w r1 r2 : Int32} (e1 : F_X11_most τ Z gi gr (A 11) v w = (r1, gi1, gr1)) (e2 : F_X12_most τ Z gm rm (A 12) v w = (r2, gm2)) : r1 = r2 := by
  have Q0 := Q
  have K0 := K
  obtain ⟨hJ, hJm, hC, hQ, no, nb, wi, cb, cu, ct, cs, cl, cr, cw⟩ := Q
  obtain ⟨a1, a2, -⟩ := K
  have no' : gm (A 12) 8 = gi (A 1) 6 := no.symm
  have n16 := n_b hJ hC
  have n161 := n16.1
  have n162 := n16.2
  have cN := i_cl n161
  have h10 : ¬ (1 : Int32) = 0 := by decide
  unfold F_X11_most f_X11_most_22 f_X11_most_43 at e1
  unfold F_X12_most f_X12_most_14 at e2
  dsimp only at e1 e2
  rw [hC.g 11 0 1 (by decide), hC.g 11 2 7 (by decide)] at e1
  rw [no'] at e2
  obtain ⟨kA, kB⟩ := kn_eq (v := v) (k := (gi (A 1) 6).toNatClampNeg) (by omega)
  rw [nI_cl n161] at kA kB
  by_cases k : (v.toUInt32 >>> (Int32.toUInt32 (gi (A 1) 6) &&& Int32.toUInt32 31)).toInt32 = 0
  rotate_left
  · rw [if_neg k, if_pos rfl] at e1
    have e2' : ((F_X12_finding τ Z gm rm (A 12) (-1000001)).1, (F_X12_finding τ Z gm rm (A 12) (-1000001)).2) = (r2, gm2) := by
      by_cases c1 : v < 0
      · rw [if_pos c1] at e2
        exact e2
      · rw [if_neg c1, if_neg (fun c2 => k (kA.mpr (kB.mp ⟨c1, c2⟩)))] at e2
        exact e2
    exact (s_fip hC hQ (w1 := 1) (by decide) (by decide) (pr3 e1).1 e2').1
  have hu := kA.mp k
  obtain ⟨b1, b2⟩ := kB.mpr hu
  rw [if_pos k, if_neg h10] at e1
  rw [if_neg b1, if_pos b2] at e2
  have lt : 2 ^ (gi (A 1) 6).toNatClampNeg ≤ 65536 := Nat.pow_le_pow_right (by decide) (show (gi (A 1) 6).toNatClampNeg ≤ 16 by omega)
  obtain ⟨g', c', f', q1, s1, s2, s3, s4, s5⟩ := mo_29 (Z := Z) (gz := gm) hQ (by rw [no']; exact n16) (v := v) (w := w) ((16 - (0 : Int32).toInt).toNat + 1) 0 gm 0 1 (by decide) (by rw [k_0, no']; exact n161) (Nat.lt_add_one _) ⟨fun _ _ => rfl, rfl, fun j hj => absurd hj (Nat.not_lt_zero _), ⟨fun q => absurd q h10, fun q => absurd (fun j hj => absurd hj (Nat.not_lt_zero _)) q⟩, fun j hj => (hJm.at (hQ.t 28 60 (by decide)) (by decide)) j hj⟩
  rw [q1] at e2
  rw [no'] at s2 s4 e2
  have ec : F_J6_bitCount_0f7a4 τ Z gi gr v = c' := by
    have p := bc_eq (τ := τ) (Z := Z) (gi := gi) (gr := gr) v (by omega)
    have p2 := cn_16 v (by omega)
    have p3 := cn_up hu (16 - (gi (A 1) 6).toNatClampNeg)
    rw [show (gi (A 1) 6).toNatClampNeg + (16 - (gi (A 1) 6).toNatClampNeg) = 16 by omega] at p3
    have p4 := cn_le v 16
    rw [← p2] at p
    refine i_inj ?_
    rw [u_toInt (by omega), p, p3, s2]
  rw [ec] at e1
  have t36 := hC.t 36 36 (by decide) rfl
  have t59 := hQ.t 26 59 (by decide)
  have t60 := hQ.t 28 60 (by decide)
  have g12 : g' (A 12) = gm (A 12) := s1 _ (ro_ne hQ.1 t60 (by decide))
  have fin : ∀ {w1 w2 : Int32}, ¬ W0 w1 1 5 = 0 → (-1000000) - w1 = w2 → ((F_X11_finding τ Z gi gr (A 11) w1).1, (F_X11_finding τ Z gi gr (A 11) w1).2, gr) = (r1, gi1, gr1) → ((F_X12_finding τ Z g' rm (A 12) w2).1, (F_X12_finding τ Z g' rm (A 12) w2).2) = (r2, gm2) → r1 = r2 := fun q1 q2 q3 q4 => (s_fip hC hQ q1 q2 (pr3 q3).1 q4).1
  unfold f_X12_most_29 f_X12_most_106 at e2
  dsimp only at e2
  rw [g12, no', if_pos (Int32.le_refl _), w0_m] at e2
  rw [w0_c] at e1
  by_cases c1 : (5 : Int32) < c'
  · rw [if_pos c1] at e1 e2
    exact fin (w1 := 1) (by decide) (by decide) e1 e2
  rw [if_neg c1] at e1 e2
  by_cases c2 : W0 w 0 c' = 0
  · rw [if_pos c2] at e1 e2
    exact fin (w1 := 1) (by decide) (by decide) e1 e2
  rw [if_neg c2] at e1 e2
  have AL := al_2 (Z := Z) hC n16 (v := v) ((16 - (0 : Int32).toInt).toNat + 1) 0 (by decide) (Nat.lt_add_one _)
  have AL : F_X0_anyLies τ Z gi gr (A 1) v = 0 ↔ _ := AL
  have eqF : F_X0_anyLies τ Z gi gr (A 1) v = 0 ↔ ¬ f' = 0 := by
    rw [AL, s4, Classical.not_not]
    constructor
    · intro q j hj hb
      have := q j (by rw [k_0]; omega) (by omega) hb
      rw [a2 j (by rw [no']; omega)] at this
      rw [this]
      decide
    · intro q j h1 h2 hb
      have := q j (by omega) hb
      rcases be_x a1 (i := j) (by omega) with z | ⟨z, -⟩
      · exact z
      · rw [a2 j (by rw [no']; omega)] at z
        exact absurd z this
  by_cases c3 : F_X0_anyLies τ Z gi gr (A 1) v = 0
  rotate_left
  · have c4 : f' = 0 := Classical.not_not.mp (fun q => c3 (eqF.mpr q))
    rw [if_neg c3] at e1
    rw [if_pos c4] at e2
    exact fin (w1 := 3) (by decide) (by decide) e1 e2
  rw [if_pos c3] at e1
  rw [if_neg (eqF.mp c3)] at e2
  -- the tables of the reference
  have cN' : (((gi (A 1) 6).toNatClampNeg : Nat) : Int) = (gi (A 1) 6).toInt := cN
  have n12 := n_p hJ hC
  have n121 := n12.1
  have n122 := n12.2
  have cB := i_cl n121
  have nb' : gm (A 12) 0 = gi (A 1) 5 := nb.symm
  have c5 : cnB v (gi (A 1) 6).toNatClampNeg ≤ 5 := by
    have := i_le.mp (Int32.not_lt.mp c1)
    rw [s2, show (5 : Int32).toInt = 5 by decide] at this
    omega
  have free : ∀ j, j < (gi (A 1) 6).toNatClampNeg → bt v j = true → gi (A 24) j = -1 := fun j hj hb => AL.mp c3 j (by rw [k_0]; omega) (by omega) hb
  have ec' : c' = nI (cnB v (gi (A 1) 6).toNatClampNeg) := i_inj (by rw [s2, nI_t (by omega)])
  have t12 := hQ.1
  have M0 : th_Mod rM τ gm rm (va_up g' (A 12) (upd (gm (A 12)) 27 c')) rm := fun b j hb hk => by
    refine ⟨?_, rfl⟩
    by_cases e : b = A 12
    · subst e
      rw [up_s, ud_n (fun q => hk (by rw [q, t12]; show (1227 : Nat) ∈ _; decide))]
    · rw [up_n e]
      by_cases e2 : b = A 60
      · subst e2
        exact absurd (show th_key (τ (A 60)) j ∈ rM by rw [t60]; show (6000 : Nat) ∈ _; decide) hk
      · rw [s1 b e2]
  have J0 : th_J τ (va_up g' (A 12) (upd (gm (A 12)) 27 c')) rm := fun a ha => by
    by_cases e : a = A 12
    · subst e
      rw [t12, up_s]
      exact I12 (hJm.at t12 (by decide)) ⟨by rw [s2]; omega, by rw [s2]; omega⟩
    · rw [up_n e]
      by_cases e2 : a = A 60
      · subst e2
        rw [t60]
        exact s5
      · rw [s1 a e2]
        exact hJm a ha
  have QR := q_ref Q0 M0 J0
  have KR : c_core τ gi gr (va_up g' (A 12) (upd (gm (A 12)) 27 c')) A := c_core.fr hC hQ (th_Mod.rf (M := [])) M0 (by decide) (by decide) K0
  have u0 : va_up g' (A 12) (upd (gm (A 12)) 27 c') (A 12) 0 = gi (A 1) 5 := by rw [up_s, ud_n (by decide), nb']
  have u8 : va_up g' (A 12) (upd (gm (A 12)) 27 c') (A 12) 8 = gi (A 1) 6 := by rw [up_s, ud_n (by decide), no']
  have u27 : va_up g' (A 12) (upd (gm (A 12)) 27 c') (A 12) 27 = nI (cnB v (gi (A 1) 6).toNatClampNeg) := by rw [up_s, ud_s, ec']
  have hs : ∀ i, i < cnB v (gi (A 1) 6).toNatClampNeg → va_up g' (A 12) (upd (gm (A 12)) 27 c') (A 60) i = nI (sB v (gi (A 1) 6).toNatClampNeg i) ∧ ((sB v (gi (A 1) 6).toNatClampNeg i : Nat) : Int) < (va_up g' (A 12) (upd (gm (A 12)) 27 c') (A 12) 8).toInt ∧ gi (A 24) (sB v (gi (A 1) 6).toNatClampNeg i) = -1 := fun i hi => by
    obtain ⟨z1, z2, z3⟩ := sB_ok (v := v) (gi (A 1) 6).toNatClampNeg i hi
    have z4 := s3 (sB v (gi (A 1) 6).toNatClampNeg i) (by rw [no']; exact z1) z2 (by omega)
    rw [z3] at z4
    exact ⟨by rw [up_n (ro_ne t60 t12 (by decide))]; exact z4, by rw [u8]; omega, free _ z1 z2⟩
  obtain ⟨y1, y2, y3⟩ := my_eq (Z := Z) QR KR (s := sB v (gi (A 1) 6).toNatClampNeg) (nb := (gi (A 1) 5).toNatClampNeg) (by rw [u0]; exact cB.symm) (by omega) c5 u27 hs
  have RF := rf_most (Z := Z) (g0 := F_X12_findMay τ Z (va_up g' (A 12) (upd (gm (A 12)) 27 c')) rm (A 12)) hQ c5 (by rw [y1 _ (ro_ne t12 (hQ.t 29 61 (by decide)) (by decide)) (ro_ne t12 (hQ.t 32 64 (by decide)) (by decide))]; exact u27)
  -- the class
  have t7 := hC.t 7 7 (by decide) rfl
  have t31 := hC.t 31 31 (by decide) rfl
  have t32 := hC.t 32 32 (by decide) rfl
  have R0 : RI τ Z gi gr A v (gi (A 1) 5).toNatClampNeg 0 (va_up gi (A 7) (upd (gi (A 7)) 2 0)) gr := by
    refine ⟨cf_M hC (th_Mod.rf) (fun a a7 _ _ _ _ => up_n a7) (fun j h2 _ => by rw [up_s, ud_n h2]), fun a ha => ?_, by rw [up_s, ud_s]; rfl, fun j hj => absurd hj (Nat.not_lt_zero _), fun j hj => absurd hj (Nat.not_lt_zero _)⟩
    by_cases e : a = A 7
    · subst e
      rw [t7, up_s]
      exact I7 (hJ.at t7 (by decide)) ⟨by decide, by decide⟩
    · rw [up_n e]
      exact hJ a ha
  obtain ⟨ga, ra, w1, wM, wJ, wsz, wak, wop⟩ := ru_sp (Z := Z) (gz := gi) (rz := gr) Q0 K0 (v := v) (nb := (gi (A 1) 5).toNatClampNeg) (Nb := (gi (A 1) 6).toNatClampNeg) (by rw [nb']; exact cB.symm) (by omega) (by rw [no']; exact cN.symm) (by omega) c5 free ((16 - (0 : Int32).toInt).toNat + 1) 0 (va_up gi (A 7) (upd (gi (A 7)) 2 0)) gr (Nat.zero_le _) (by decide) R0
  rw [show nI 0 = 0 by decide] at w1
  have hR : F_X7_run τ Z gi gr (A 7) v = _ := w1
  rw [hR] at e1
  dsimp only at e1
  have hC1 : ro_C τ ra A := hC.mod wM (rc_okE (by decide))
  have X : SB τ Z gi gr gm rm A (sB v (gi (A 1) 6).toNatClampNeg) (gi (A 1) 5).toNatClampNeg (cnB v (gi (A 1) 6).toNatClampNeg) (F_X12_findMay τ Z (va_up g' (A 12) (upd (gm (A 12)) 27 c')) rm (A 12)) ra := by
    refine ⟨Q0, K0, by rw [nb']; exact cB.symm, by omega, c5, fun i hi => ?_, y2, y3, hC1, (ro_ka wM (hC.t 20 20 (by decide) rfl) (by decide) (by decide)).2, (ro_ka wM (hC.t 21 21 (by decide) rfl) (by decide) (by decide)).2, fun i hi => ?_⟩
    · obtain ⟨-, z2, z3⟩ := hs i hi
      rw [u8] at z2
      exact ⟨by rw [no']; exact z2, z3⟩
    · obtain ⟨z1, z2, z3⟩ := sB_ok (v := v) (gi (A 1) 6).toNatClampNeg i hi
      have := wak _ z1 z2
      rw [z3] at this
      exact this
  obtain ⟨x1, x2⟩ := fl_all (τ := τ) (Z := Z) (q := A 32) (r := ra) (gz := ga) ((300 - (0 : Int32).toInt).toNat + 1) 0 ga (Nat.zero_le _) (by decide) (fun k hk => absurd hk (Nat.not_lt_zero _))
  rw [show nI 0 = 0 by decide] at x1 x2
  have x1 : ∀ a, a ≠ A 32 → F_J7_fill_53178_32 τ Z ga ra (A 32) (-1) a = ga a := x1
  have x2 : ∀ k, k < 300 → F_J7_fill_53178_32 τ Z ga ra (A 32) (-1) (A 32) k = -1 := x2
  have CI : CS τ gi gr A (gi (A 1) 5).toNatClampNeg (cnB v (gi (A 1) 6).toNatClampNeg) (F_X12_findMay τ Z (va_up g' (A 12) (upd (gm (A 12)) 27 c')) rm (A 12)) ra 0 (fun _ => 0) (va_up (F_J7_fill_53178_32 τ Z ga ra (A 32) (-1)) (A 7) (upd (F_J7_fill_53178_32 τ Z ga ra (A 32) (-1) (A 7)) 7 (-1))) (-1, fun _ => 0) := by
    have k7 := x1 _ (ro_ne t7 t32 (by decide))
    have F0 : CF τ gi gr A (cnB v (gi (A 1) 6).toNatClampNeg) ra ga := ⟨wM, wJ, wsz⟩
    refine ⟨F0.up hC (fun a a7 a31 a32 _ _ => by rw [up_n a7]; exact x1 a a32) (Or.inr ⟨-1, by rw [up_s, k7]⟩), fun l hl j h1 h2 p hp => ?_, fun j hj => absurd hj (Nat.not_lt_zero _), fun o j b h1 h2 h3 h4 => Or.inl ?_, by rw [up_s, ud_s]; decide, by decide, by decide, fun q => absurd q (by decide)⟩
    · have : l = 0 := by omega
      subst this
      obtain ⟨z1, z2, z3⟩ := sB_ok (v := v) (gi (A 1) 6).toNatClampNeg j h2
      have := wop _ z1 z2 p hp
      rw [z3] at this
      rw [Nat.zero_mul, Nat.zero_add, up_n (ro_ne t31 t7 (by decide)), x1 _ (ro_ne t31 t32 (by decide)), this, y2 j h2 p hp]
      show _ = (_ && true)
      rw [Bool.and_true]
    · rw [up_n (ro_ne t32 t7 (by decide))]
      exact x2 _ (by omega)
  have D := se_0' hC X _ _ _ 0 CI (by decide) (by decide)
  dsimp only at D
  rw [show nI 0 = 0 by decide, Nat.sub_zero] at D
  obtain ⟨V, -, -, -, v1, v2, v3, v4⟩ := D
  obtain ⟨f1, f2, f3, f4⟩ := RF
  have g0 := ex_ge (ok := okR (F_X12_findMay τ Z (va_up g' (A 12) (upd (gm (A 12)) 27 c')) rm (A 12)) A) (cnB v (gi (A 1) 6).toNatClampNeg) 0 (fun _ => 0) (0 : Int32).toInt (-1, fun _ => 0)
  rw [k_0] at v1 v4 g0
  by_cases cw0 : w = 0
  · rw [if_pos cw0] at e1 e2
    rw [← (pr2 (pr3 e1).1).1, ← (pr2 e2).1]
    exact i_inj (v1.trans f1.symm)
  · rw [if_neg cw0] at e1 e2
    have hw := w0_rg (l := 0) (h := c'.toInt) (by decide) rfl c2
    have hw1 := hw.1
    have hw2 := hw.2
    rw [s2] at hw2
    have wne : w.toInt ≠ 0 := fun q => cw0 (i_inj (q.trans k_0.symm))
    have tw : (w - 1).toInt = w.toInt - 1 := by rw [i_sub (by rw [k_1]; omega) (by rw [k_1]; omega), k_1]
    have cw1 := i_cl (v := w - 1) (by omega)
    have bf : ∀ (G : th_i), G (A 7) 2 = nI (cnB v (gi (A 1) 6).toNatClampNeg) → F_X7_buoyFor τ Z G ra (A 7) (w - 1) = G (A 34) (w - 1).toNatClampNeg := fun G hG => by
      have tn := nI_t (k := cnB v (gi (A 1) 6).toNatClampNeg) (by omega)
      have tn1 : (nI (cnB v (gi (A 1) 6).toNatClampNeg) - 1).toInt = (cnB v (gi (A 1) 6).toNatClampNeg : Int) - 1 := by rw [i_sub (by rw [tn, k_1]; omega) (by rw [tn, k_1]; omega), tn, k_1]
      unfold F_X7_buoyFor
      dsimp only
      rw [w0_c, hG, if_neg (w0_in (by rw [k_0]; omega) (by rw [tn1]; omega)), if_neg (fun q => by have := i_le.mp q; rw [show (5 : Int32).toInt = 5 by decide] at this; omega), hC1.g 7 6 34 (by decide)]
    rw [bf _ V.2.2] at e1
    rw [hQ.g 31 63 (by decide)] at e2
    rw [← (pr2 (pr3 e1).1).1, ← (pr2 e2).1, v4 g0 _ (by omega), f4 g0 _ (by omega)]
end MM
