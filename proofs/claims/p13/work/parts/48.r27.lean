/-! ===== a STORM leaves the berths alone; wishes are numbers of BUOYS ===== -/
section BL
variable {τ τ1 : th_t} {Z : th_Zt} {gi gi1 gm gm2 : th_i} {gr gr1 rm rm2 : th_r} {A : Nat → Nat} {M1 M2 : List Nat}
theorem lf_fr {B X Y a : Nat} {g : th_i} {v : Int32} (hX : gr B 0 = some X) (hY : gr B 1 = some Y) (h1 : a ≠ X) (h2 : a ≠ Y) : F_X1_lift τ Z g gr B v a = g a := by
  unfold F_X1_lift
  dsimp only
  rw [hX, hY]
  by_cases c1 : F_X11_within τ Z g gr v 0 15 = 0
  · rw [if_pos c1]
  · rw [if_neg c1]
    by_cases c2 : F_X11_within τ Z g gr (F_X1_buoyOf τ Z g gr B v) 0 11 = 0
    · rw [if_pos c2]
    · rw [if_neg c2]
      show va_up (va_up g Y _) X _ a = g a
      rw [up_n h1, up_n h2]
theorem bl_21 (hC : ro_C τ gr A) {s : Int32} : ∀ (n : Nat) (g : th_i) (y : Int32) (a : Nat), a ≠ A 5 → a ≠ A 38 → a ≠ A 39 → f_X5_blow_21 τ Z gi gr (A 5) s n g y a = g a := by
  have rX := hC.e 13 0 38 (by decide)
  have rY := hC.e 13 1 39 (by decide)
  intro n
  induction n with
  | zero => intro g y a _ _ _; rfl
  | succ n ih =>
    intro g y a h5 h38 h39
    unfold f_X5_blow_21 f_X5_blow_113
    dsimp only
    rw [hC.g 5 0 1 (by decide), hC.g 5 1 13 (by decide)]
    by_cases c : g (A 1) 6 ≤ y
    · rw [if_pos c]
    · rw [if_neg c]
      cases F_X0_boatAt τ Z g gr (A 1) y with
      | none => exact ih _ _ a h5 h38 h39
      | some q =>
        cases F_X0_buoyAt τ Z g gr (A 1) (F_X1_buoyOf τ Z g gr (A 13) y) with
        | none => exact ih _ _ a h5 h38 h39
        | some u =>
          simp only [Option.elim_some]
          by_cases c2 : F_X3_holds τ Z g gr u q s = 0
          · rw [if_pos c2, ih _ _ a h5 h38 h39, pu_fr rX rY h38 h39, lf_fr rX rY h38 h39, up_n h5]
          · rw [if_neg c2]
            exact ih _ _ a h5 h38 h39
theorem bl_fr (hC : ro_C τ gr A) {s : Int32} {a : Nat} (h5 : a ≠ A 5) (h38 : a ≠ A 38) (h39 : a ≠ A 39) : F_X5_blow τ Z gi gr (A 5) s a = gi a := by
  unfold F_X5_blow F_X1_copyFrom
  dsimp only
  rw [hC.g 5 0 1 (by decide), hC.g 5 1 13 (by decide), hC.g 1 4 2 (by decide), hC.g 13 0 38 (by decide), hC.g 13 1 39 (by decide), bl_21 hC _ _ _ a h5 h38 h39, up_n h5, up_n h39, up_n h38]
/-- what stays of the core through a STORM -/
theorem c_core.sto (hC : ro_C τ gr A) (hQ : ro_M τ rm A) (h1 : th_Mod M1 τ gi gr gi1 gr) (h2 : th_Mod M2 τ gm rm gm2 rm) (k1 : ∀ k ∈ [1002, 3500, 2100, 805, 905, 405], k ∉ M1) (k2 : ∀ k ∈ [1208, 1200, 1217, 5000, 4600, 5400, 5500], k ∉ M2) (e24 : gi1 (A 24) = gi (A 24)) (e25 : gi1 (A 25) = gi (A 25)) (h : c_core τ gi gr gm A) : c_core τ gi1 gr gm2 A :=
  h.of e24 e25 (ro_k h1 2 (hC.t 10 10 (by decide) rfl) (by decide) (k1 1002 (by decide))).1 (ro_ka h1 (hC.t 35 35 (by decide) rfl) (by decide) (k1 3500 (by decide))).1 rfl (fun q t => (b_cell (k := 5) h1 t (k1 805 (by decide)) (k1 905 (by decide)) (k1 405 (by decide))).1) (ro_k h2 8 hQ.1 (by decide) (k2 1208 (by decide))).1 (ro_k h2 0 hQ.1 (by decide) (k2 1200 (by decide))).1 (ro_k h2 17 hQ.1 (by decide) (k2 1217 (by decide))).1 (ro_ka h2 (hQ.t 12 50 (by decide)) (by decide) (k2 5000 (by decide))).1 (ro_ka h2 (hQ.t 7 46 (by decide)) (by decide) (k2 4600 (by decide))).1 (ro_ka h2 (hQ.t 18 54 (by decide)) (by decide) (k2 5400 (by decide))).1 (ro_ka h2 (hQ.t 19 55 (by decide)) (by decide) (k2 5500 (by decide))).1
theorem bl_k (hC : ro_C τ gr A) {s : Int32} : F_X5_blow τ Z gi gr (A 5) s (A 24) = gi (A 24) ∧ F_X5_blow τ Z gi gr (A 5) s (A 25) = gi (A 25) := by
  have t5 := hC.t 5 5 (by decide) rfl
  have t24 := hC.t 24 24 (by decide) rfl
  have t25 := hC.t 25 25 (by decide) rfl
  have t38 := hC.t 38 24 (by decide) rfl
  have t39 := hC.t 39 25 (by decide) rfl
  exact ⟨bl_fr hC (ro_ne t24 t5 (by decide)) (Ne.symm hC.2.2.2.1) (ro_ne t24 t39 (by decide)), bl_fr hC (ro_ne t25 t5 (by decide)) (ro_ne t25 t38 (by decide)) (Ne.symm hC.2.2.2.2)⟩
theorem fi_k (hC : ro_C τ gr A) {w r1 : Int32} (hw : ¬ W0 w 1 5 = 0) (e1 : ((F_X11_finding τ Z gi gr (A 11) w).1, (F_X11_finding τ Z gi gr (A 11) w).2) = (r1, gi1)) : gi1 (A 24) = gi (A 24) ∧ gi1 (A 25) = gi (A 25) := by
  rw [fi_c hC hw] at e1
  have t36 := hC.t 36 36 (by decide) rfl
  rw [← (pr2 e1).2]
  exact ⟨up_n (ro_ne (hC.t 24 24 (by decide) rfl) t36 (by decide)), up_n (ro_ne (hC.t 25 25 (by decide) rfl) t36 (by decide))⟩
theorem st_k (hC : ro_C τ gr A) {s r1 : Int32} (e1 : F_X11_storm τ Z gi gr (A 11) s = (r1, gi1)) : gi1 (A 24) = gi (A 24) ∧ gi1 (A 25) = gi (A 25) := by
  unfold F_X11_storm at e1
  dsimp only at e1
  rw [hC.g 11 4 5 (by decide)] at e1
  by_cases c : F_X11_isForce τ Z gi gr s = 0
  · rw [if_pos c] at e1
    exact fi_k hC (by decide) e1
  · rw [if_neg c] at e1
    rw [← (pr2 e1).2]
    exact bl_k hC
theorem fl_k (hC : ro_C τ gr A) {v s r1 : Int32} (e1 : F_X11_fled τ Z gi gr (A 11) v s = (r1, gi1)) : gi1 (A 24) = gi (A 24) ∧ gi1 (A 25) = gi (A 25) := by
  unfold F_X11_fled f_X11_fled_18 at e1
  dsimp only at e1
  rw [hC.g 11 4 5 (by decide), hC.g 11 0 1 (by decide), hC.g 1 4 2 (by decide)] at e1
  cases hb : F_X0_boatAt τ Z gi gr (A 1) v with
  | none =>
    rw [hb] at e1
    exact fi_k hC (w := 1) (by decide) e1
  | some q =>
    rw [hb] at e1
    simp only [Option.elim_some] at e1
    by_cases c : F_X11_isForce τ Z gi gr s = 0
    · rw [if_pos c] at e1
      exact fi_k hC (w := 1) (by decide) e1
    · rw [if_neg c] at e1
      by_cases c2 : F_X1_buoyOf τ Z gi gr (A 2) v = -1
      · rw [if_pos c2] at e1
        exact fi_k hC (w := 3) (by decide) e1
      · rw [if_neg c2] at e1
        rw [← (pr2 e1).2]
        exact bl_k hC
/-- wishes' numbers -/
theorem wnb_fi (hQ : ro_M τ rm A) {w r2 : Int32} (h : c_wnb gm A) (e2 : ((F_X12_finding τ Z gm rm (A 12) w).1, (F_X12_finding τ Z gm rm (A 12) w).2) = (r2, gm2)) : c_wnb gm2 A := by
  rw [fi_m hQ] at e2
  exact h.fr hQ (fm_m hQ (fun a ha => by rw [← (pr2 e2).2]; exact up_n ha)) (by decide)
theorem wnb_content (hQ : ro_M τ rm A) {v r2 : Int32} (h : c_wnb gm A) (e2 : F_X12_content τ Z gm rm (A 12) v = (r2, gm2)) : c_wnb gm2 A := by
  unfold F_X12_content F_X12_isBoat at e2
  dsimp only at e2
  rw [hQ.g 21 56 (by decide)] at e2
  by_cases c : F_X12_within τ Z gm rm v 0 (gm (A 12) 8 - 1) = 0
  · rw [if_pos c] at e2
    exact wnb_fi hQ h e2
  · rw [if_neg c] at e2
    intro i j hi hj
    have t56 := hQ.t 21 56 (by decide)
    rw [← (pr2 e2).2] at hj ⊢
    rw [up_s] at hj
    rw [up_n (ro_ne (hQ.t 22 57 (by decide)) t56 (by decide)), up_n (ro_ne hQ.1 t56 (by decide))]
    by_cases e : i = v.toNatClampNeg
    · rw [e, ud_s, k_0] at hj
      omega
    · rw [ud_n e] at hj
      exact h i j hi hj
theorem wnb_rather (hJm : th_J τ gm rm) (hQ : ro_M τ rm A) {v p r2 : Int32} (h : c_wnb gm A) (e2 : F_X12_rather τ Z gm rm (A 12) v p = (r2, gm2)) : c_wnb gm2 A := by
  have n16 : rg 0 16 (gm (A 12) 8) := (hJm.at hQ.1 (by decide)).2.2.2.2.2.2.2.2.1
  have n12 : rg 0 12 (gm (A 12) 0) := (hJm.at hQ.1 (by decide)).1
  unfold F_X12_rather F_X12_isBoat F_X12_isBuoy f_X12_rather_16 at e2
  dsimp only at e2
  rw [w0_m, w0_m] at e2
  by_cases g1 : W0 v 0 (gm (A 12) 8 - 1) = 0
  · rw [if_pos g1] at e2
    exact wnb_fi hQ h e2
  rw [if_neg g1] at e2
  by_cases g2 : W0 p 0 (gm (A 12) 0 - 1) = 0
  · rw [if_pos g2] at e2
    exact wnb_fi hQ h e2
  rw [if_neg g2] at e2
  have hv := Decidable.not_not.mp (fun q => g1 ((w0_n (by decide) n16).mpr q))
  have hp := Decidable.not_not.mp (fun q => g2 ((w0_n (by decide) n12).mpr q))
  have n162 := n16.2
  have cv := i_cl hv.1
  have rn : ∀ i, i < 16 → rg 0 4 (gm (A 56) i) := fun i hi => (hJm.at (hQ.t 21 56 (by decide)) (by decide)) i hi
  have hc := rn v.toNatClampNeg (by omega)
  rcases ra_sp (Z := Z) (gi := gm) hQ (p := p) (v := v) ⟨hv.1, by omega⟩ hc ((4 - (0 : Int32).toInt).toNat + 1) 0 (by decide) (Nat.lt_add_one _) with ⟨d1, -⟩ | ⟨d1, -⟩
  · rw [d1] at e2
    exact wnb_fi hQ h e2
  · rw [d1] at e2
    by_cases c4 : gm (A 56) v.toNatClampNeg = 4
    · rw [if_pos c4] at e2
      exact wnb_fi hQ h e2
    · rw [if_neg c4] at e2
      have t56 := hQ.t 21 56 (by decide)
      have t57 := hQ.t 22 57 (by decide)
      have n57 : A 56 ≠ A 57 := ro_ne t56 t57 (by decide)
      have l2 := (pr2 e2).2
      have m12 : gm2 (A 12) = gm (A 12) := by rw [← l2, up_n (ro_ne hQ.1 t56 (by decide)), up_n (ro_ne hQ.1 t57 (by decide))]
      have m56 : gm2 (A 56) = upd (gm (A 56)) v.toNatClampNeg (gm (A 56) v.toNatClampNeg + 1) := by rw [← l2, up_s, up_n n57]
      have m57 : gm2 (A 57) = upd (gm (A 57)) (4 * v.toNatClampNeg + (gm (A 56) v.toNatClampNeg).toNatClampNeg) p := by rw [← l2, up_n (Ne.symm n57), up_s]
      have hc1 := hc.1
      have hc2 := hc.2
      have cn := i_cl hc1
      have n4 : (gm (A 56) v.toNatClampNeg).toInt ≠ 4 := fun q => c4 (i_inj (q.trans (by decide)))
      have e1' := y_1 (m := 4) (by decide) hc1 hc2
      intro i j hi hj
      rw [m12, m57]
      rw [m56] at hj
      by_cases e : i = v.toNatClampNeg
      · rw [e, ud_s, e1'] at hj
        rw [e]
        by_cases ej : j = (gm (A 56) v.toNatClampNeg).toNatClampNeg
        · rw [ej, ud_s]
          exact hp.2
        · rw [ud_n (by omega)]
          exact h _ j (by omega) (by omega)
      · rw [ud_n e] at hj
        have hci := (rn i hi).2
        rw [ud_n (by omega)]
        exact h i j hi hj
theorem c_wnb.fin (hQ : ro_M τ1 rm A) (f : x_fin τ gi gr gm A τ1 gi1 gr1 gm2) (h : c_wnb gm A) : c_wnb gm2 A := h.fr hQ (fm_m hQ f.2.2.2) (by decide)
theorem c_wnb.buoy (hJ : th_J τ gi gr) (hC : ro_C τ gr A) (hQ : ro_M τ rm A) (nb : c_eq 1 5 0 gi gm A) (hw : c_wnb gm A) {v1 v2 v3 v4 : Int32} (h : bu_ok τ gi gr gm A τ1 gi1 gr1 gm2 v1 v2 v3 v4) : c_wnb gm2 A := by
  obtain ⟨g5, -, -, -, -, -, m12, m40, m41, m42, m43, m46, mo⟩ := h
  obtain ⟨l1, l2, l3⟩ := nI12 (n_p hJ hC) g5
  have nb' : gm (A 12) 0 = gi (A 1) 5 := nb.symm
  have t56 := hQ.t 21 56 (by decide)
  have t57 := hQ.t 22 57 (by decide)
  have t40 := hQ.t 1 40 (by decide)
  have t41 := hQ.t 2 41 (by decide)
  have t42 := hQ.t 3 42 (by decide)
  have t43 := hQ.t 4 43 (by decide)
  have t46 := hQ.t 7 46 (by decide)
  have m56 := mo _ (ro_ne t56 hQ.1 (by decide)) (ro_ne t56 t40 (by decide)) (ro_ne t56 t41 (by decide)) (ro_ne t56 t42 (by decide)) (ro_ne t56 t43 (by decide)) (ro_ne t56 t46 (by decide))
  have m57 := mo _ (ro_ne t57 hQ.1 (by decide)) (ro_ne t57 t40 (by decide)) (ro_ne t57 t41 (by decide)) (ro_ne t57 t42 (by decide)) (ro_ne t57 t43 (by decide)) (ro_ne t57 t46 (by decide))
  intro i j hi hj
  rw [m56] at hj
  rw [m57, m12, ud_s, l3]
  have := hw i j hi hj
  rw [nb'] at this
  omega
end BL
