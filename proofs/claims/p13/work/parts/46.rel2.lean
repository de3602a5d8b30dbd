/-! ===== tides ===== -/
section TD
variable {τ : th_t} {Z : th_Zt} {gi gi1 gm gm2 : th_i} {gr gr1 rm rm2 : th_r} {A : Nat → Nat} {M1 M2 : List Nat}
def c_tid (gi gm : th_i) (A : Nat → Nat) : Prop := ∀ j, j < 24 → gi (A 22) j = gm (A 51) j
theorem c_tid.fr (hC : ro_C τ gr A) (hQ : ro_M τ rm A) (h1 : th_Mod M1 τ gi gr gi1 gr1) (h2 : th_Mod M2 τ gm rm gm2 rm2) (k1 : 22 * 100 ∉ M1) (k2 : 51 * 100 ∉ M2) (h : c_tid gi gm A) : c_tid gi1 gm2 A := by
  intro j hj
  rw [(ro_ka h1 (hC.t 22 22 (by decide) rfl) (by decide) k1).1, (ro_ka h2 (hQ.t 13 51 (by decide)) (by decide) k2).1]
  exact h j hj
theorem J_20 (hJ : th_J τ gi gr) (hC : ro_C τ gr A) {j : Nat} (hj : j < 12) {q : Nat} (h : gr (A 20) j = some q) : τ q = 3 := (hJ.at (hC.t 20 20 (by decide) rfl) (by decide)) j hj q h
theorem J_3 (hJ : th_J τ gi gr) {q : Nat} (h : τ q = 3) : ∃ w, gr q 5 = some w ∧ τ w = 26 := hJ.at h (by decide)
theorem w0_no {v a b : Int32} (h : ¬ W0 v a b = 0) : a ≤ v ∧ v ≤ b := Decidable.not_not.mp (fun q => h (w0_iff.mpr q))
theorem cl_lt {x : Int32} {n : Nat} (h1 : 0 ≤ x.toInt) (h2 : x.toInt < (n : Int)) : x.toNatClampNeg < n := by
  show x.toInt.toNat < n
  omega
theorem ba_some (hC : ro_C τ gr A) {g : th_i} {y : Int32} {q : Nat} (h : F_X0_buoyAt τ Z g gr (A 1) y = some q) : y.toNatClampNeg < 12 ∧ gr (A 20) y.toNatClampNeg = some q := by
  unfold F_X0_buoyAt at h
  dsimp only at h
  rw [w0_c, hC.g 1 0 20 (by decide)] at h
  by_cases h1 : W0 y 0 (g (A 1) 5 - 1) = 0
  · rw [if_pos h1] at h
    cases h
  · rw [if_neg h1] at h
    by_cases h2 : (12 : Int32) ≤ y
    · rw [if_pos h2] at h
      cases h
    · rw [if_neg h2] at h
      refine ⟨cl_lt ?_ ?_, h⟩
      · have h3 := Int32.le_iff_toInt_le.mp (w0_no h1).1
        exact h3
      · have h3 := Int32.lt_iff_toInt_lt.mp (Int32.not_le.mp h2)
        have h4 : (12 : Int32).toInt = 12 := by decide
        omega
theorem fd_o {g : th_i} {q w : Nat} {p1 p2 : Int32} (hw : gr q 5 = some w) : ∀ a, a ≠ w → F_X3_flood τ Z g gr q p1 p2 a = g a := by
  intro a ha
  unfold F_X3_flood F_X11_isHour
  dsimp only
  rw [w0_c, hw]
  by_cases h1 : W0 p1 0 23 = 0
  · rw [if_pos h1]
  · rw [if_neg h1]
    by_cases h2 : g q 3 + p2 < g q 4
    · rw [if_pos h2]
      exact va_up_ne _ _ ha
    · rw [if_neg h2]
      exact va_up_ne _ _ ha
theorem st_62 (hC : ro_C τ gr A) {p1 p2 : Int32} : ∀ (n : Nat) (g : th_i) (y : Int32), f_X0_setTide_62 τ Z gi gr (A 1) p1 p2 n g y (A 22) = g (A 22) := by
  intro n
  induction n with
  | zero => intro g y; rfl
  | succ n ih =>
    intro g y
    unfold f_X0_setTide_62
    dsimp only
    by_cases hc : (24 : Int32) ≤ y
    · rw [if_pos hc]
    · rw [if_neg hc, ih, hC.g 1 3 23 (by decide), up_n (ro_ne (hC.t 22 22 (by decide) rfl) (hC.t 23 23 (by decide) rfl) (by decide)), up_n (ro_ne (hC.t 22 22 (by decide) rfl) (hC.t 1 1 (by decide) rfl) (by decide))]
theorem st_17 (hJ : th_J τ gi gr) (hC : ro_C τ gr A) {p1 p2 : Int32} : ∀ (n : Nat) (g : th_i) (y : Int32), f_X0_setTide_17 τ Z gi gr (A 1) p1 p2 n g y (A 22) = g (A 22) := by
  intro n
  induction n with
  | zero => intro g y; rfl
  | succ n ih =>
    intro g y
    unfold f_X0_setTide_17
    dsimp only
    by_cases hc : g (A 1) 5 ≤ y
    · rw [if_pos hc, st_62 hC, up_n (ro_ne (hC.t 22 22 (by decide) rfl) (hC.t 1 1 (by decide) rfl) (by decide))]
    · rw [if_neg hc]
      cases hb : F_X0_buoyAt τ Z g gr (A 1) y with
      | none =>
        show f_X0_setTide_44 τ Z gi gr (A 1) p1 p2 g y _ g (A 22) = _
        unfold f_X0_setTide_44
        exact ih _ _
      | some q =>
        obtain ⟨k1, k2⟩ := ba_some hC hb
        obtain ⟨w, hw, tw⟩ := J_3 hJ (J_20 hJ hC k1 k2)
        show f_X0_setTide_44 τ Z gi gr (A 1) p1 p2 g y _ (F_X3_flood τ Z g gr q p1 p2) (A 22) = _
        unfold f_X0_setTide_44
        exact (ih _ _).trans (fd_o hw _ (ro_ne (hC.t 22 22 (by decide) rfl) tw (by decide)))
theorem st_22 (hJ : th_J τ gi gr) (hC : ro_C τ gr A) {p1 p2 : Int32} (h : ¬ W0 p1 0 23 = 0) : F_X0_setTide τ Z gi gr (A 1) p1 p2 (A 22) = upd (gi (A 22)) p1.toNatClampNeg p2 := by
  unfold F_X0_setTide F_X11_isHour
  dsimp only
  rw [w0_c, if_neg h, st_17 hJ hC, hC.g 1 2 22 (by decide), up_s]
theorem s_fip (hC : ro_C τ gr A) (hQ : ro_M τ rm A) {w1 w2 r1 r2 : Int32} (hw : ¬ W0 w1 1 5 = 0) (hww : (-1000000) - w1 = w2) (e1 : ((F_X11_finding τ Z gi gr (A 11) w1).1, (F_X11_finding τ Z gi gr (A 11) w1).2) = (r1, gi1)) (e2 : ((F_X12_finding τ Z gm rm (A 12) w2).1, (F_X12_finding τ Z gm rm (A 12) w2).2) = (r2, gm2)) : r1 = r2 ∧ (∀ a, a ≠ A 36 → gi1 a = gi a) ∧ (∀ a, a ≠ A 59 → gm2 a = gm a) := by
  rw [fi_c hC hw] at e1
  rw [fi_m hQ] at e2
  dsimp only at e1 e2
  obtain ⟨a1, a2⟩ := pr2 e1
  obtain ⟨b1, b2⟩ := pr2 e2
  subst a1 a2 b1 b2
  exact ⟨hww, fun a ha => va_up_ne _ _ ha, fun a ha => va_up_ne _ _ ha⟩
theorem s_tide (hJ : th_J τ gi gr) (hC : ro_C τ gr A) (hQ : ro_M τ rm A) (h : c_tid gi gm A) {v w r1 r2 : Int32} (e1 : F_X11_tide τ Z gi gr (A 11) v w = (r1, gi1)) (e2 : F_X12_tide τ Z gm rm (A 12) v w = (r2, gm2)) : r1 = r2 ∧ c_tid gi1 gm2 A := by
  unfold F_X11_tide F_X11_isHour f_X11_tide_18 at e1
  unfold F_X12_tide f_X12_tide_21 at e2
  dsimp only at e1 e2
  rw [w0_c, w0_c, hC.g 11 0 1 (by decide), hC.g 1 2 22 (by decide)] at e1
  rw [w0_m, w0_m, hQ.g 13 51 (by decide)] at e2
  have fin : ((F_X11_finding τ Z gi gr (A 11) 1).1, (F_X11_finding τ Z gi gr (A 11) 1).2) = (r1, gi1) → ((F_X12_finding τ Z gm rm (A 12) (-1000001)).1, (F_X12_finding τ Z gm rm (A 12) (-1000001)).2) = (r2, gm2) → r1 = r2 ∧ c_tid gi1 gm2 A := fun q1 q2 => by
    obtain ⟨k1, k2, k3⟩ := s_fip hC hQ (by decide) (by decide) q1 q2
    refine ⟨k1, fun j hj => ?_⟩
    rw [k2 _ (ro_ne (hC.t 22 22 (by decide) rfl) (hC.t 36 36 (by decide) rfl) (by decide)), k3 _ (ro_ne (hQ.t 13 51 (by decide)) (hQ.t 26 59 (by decide)) (by decide))]
    exact h j hj
  by_cases g1 : W0 v 0 23 = 0
  · rw [if_pos g1] at e1 e2
    exact fin e1 e2
  rw [if_neg g1] at e1 e2
  by_cases g2 : W0 w 0 200 = 0
  · rw [if_pos g2] at e1 e2
    exact fin e1 e2
  rw [if_neg g2] at e1 e2
  obtain ⟨a1, a2⟩ := pr2 e1
  obtain ⟨b1, b2⟩ := pr2 e2
  have hv : v.toNatClampNeg < 24 := by
    obtain ⟨q1, q2⟩ := w0_no g1
    have q3 := Int32.le_iff_toInt_le.mp q1
    have q4 := Int32.le_iff_toInt_le.mp q2
    have q5 : (23 : Int32).toInt = 23 := by decide
    have q6 : (0 : Int32).toInt = 0 := by decide
    exact cl_lt (by omega) (by omega)
  refine ⟨by rw [← a1, ← b1]; exact h _ hv, fun j hj => ?_⟩
  rw [← a2, ← b2, st_22 hJ hC g1, up_s]
  by_cases hj2 : j = v.toNatClampNeg
  · rw [hj2, ud_s, ud_s]
  · rw [ud_n hj2, ud_n hj2]
    exact h j hj
end TD
