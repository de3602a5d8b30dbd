/-! ===== THE MOST: the reference's tables ===== -/
section TB
variable {τ τ1 : th_t} {Z : th_Zt} {gi gi1 gm gm2 : th_i} {gr gr1 rm rm2 : th_r} {A : Nat → Nat} {M1 M2 : List Nat}
def sM : List Nat := [702, 707, 3000, 3100, 3200, 3300, 3400]
def rM : List Nat := [1227, 1233, 6000, 6100, 6200, 6300, 6400]
theorem q_sea (Q : q_all τ Z gi gr gm rm A) {g : th_i} {r : th_r} (h : th_Mod sM τ gi gr g r) (J : th_J τ g r) : q_all τ Z g r gm rm A := by
  obtain ⟨hJ, hJm, hC, hQ, no, nb, wi, cb, cu, ct, cs, cl, cr, cw⟩ := Q
  have h2 : th_Mod [] τ gm rm gm rm := th_Mod.rf
  exact ⟨J, hJm, hC.mod h (rc_okE (by decide)), hQ, c_eq.fr (by decide) rfl hC hQ h h2 (by decide) (by decide) (by decide) no, c_eq.fr (by decide) rfl hC hQ h h2 (by decide) (by decide) (by decide) nb, c_eq.fr (by decide) rfl hC hQ h h2 (by decide) (by decide) (by decide) wi, cb.fr hC hQ h h2 (by decide) (by decide), cu.fr hC hQ h h2 (by decide) (by decide), ct.fr hC hQ h h2 (by decide) (by decide), cs.fr hC h (by decide), cl.fr hC h (by decide), cr.fr hC h (by decide), cw⟩
theorem q_ref (Q : q_all τ Z gi gr gm rm A) {m : th_i} (h : th_Mod rM τ gm rm m rm) (J : th_J τ m rm) : q_all τ Z gi gr m rm A := by
  obtain ⟨hJ, hJm, hC, hQ, no, nb, wi, cb, cu, ct, cs, cl, cr, cw⟩ := Q
  have h1 : th_Mod [] τ gi gr gi gr := th_Mod.rf
  exact ⟨hJ, J, hC, hQ, c_eq.fr (by decide) rfl hC hQ h1 h (by decide) (by decide) (by decide) no, c_eq.fr (by decide) rfl hC hQ h1 h (by decide) (by decide) (by decide) nb, c_eq.fr (by decide) rfl hC hQ h1 h (by decide) (by decide) (by decide) wi, cb.fr hC hQ h1 h (by decide) (by decide), cu.fr hC hQ h1 h (by decide) (by decide), ct.fr hC hQ h1 h (by decide) (by decide), cs, cl, cr, cw.fr hQ h (by decide)⟩
/-- the cells of BOATS and BUOYS; may lie; may touch -/
def Bc (gr : th_r) (A : Nat → Nat) (k : Nat) : Nat := (gr (A 21) k).getD 0
def Uc (gr : th_r) (A : Nat → Nat) (p : Nat) : Nat := (gr (A 20) p).getD 0
noncomputable def mlb (τ : th_t) (Z : th_Zt) (gi : th_i) (gr : th_r) (A : Nat → Nat) (k p : Nat) : Bool := decide (¬ F_X0_mayLie τ Z gi gr (A 1) (Bc gr A k) (Uc gr A p) (A 2) = 0)
noncomputable def tcb (τ : th_t) (Z : th_Zt) (gi : th_i) (gr : th_r) (A : Nat → Nat) (k p l q : Nat) : Bool := decide (¬ F_X0_firstTouch τ Z gi gr (A 1) (Bc gr A k) (Uc gr A p) (Bc gr A l) (Uc gr A q) = -1)
theorem b_Bc (cb : c_boat τ gi gr gm A) {k : Nat} (hk : (k : Int) < (gm (A 12) 8).toInt) : gr (A 21) k = some (Bc gr A k) ∧ b_at τ gi gr gm A k (Bc gr A k) := by
  obtain ⟨q, h⟩ := cb k hk
  have e : Bc gr A k = q := by unfold Bc; rw [h.1]; rfl
  rw [e]
  exact ⟨h.1, h⟩
theorem u_Uc (cu : c_buoy τ gi gr gm A) {p : Nat} (hp : (p : Int) < (gm (A 12) 0).toInt) : gr (A 20) p = some (Uc gr A p) ∧ u_at τ gi gr gm A p (Uc gr A p) := by
  obtain ⟨q, h⟩ := cu p hp
  have e : Uc gr A p = q := by unfold Uc; rw [h.1]; rfl
  rw [e]
  exact ⟨h.1, h⟩
theorem ml_ref (Q : q_all τ Z gi gr gm rm A) (K : c_core τ gi gr gm A) {k p : Nat} (hk : (k : Int) < (gm (A 12) 8).toInt) (hp : (p : Int) < (gm (A 12) 0).toInt) (fr : gi (A 24) k = -1) : F_X0_mayLie τ Z gi gr (A 1) (Bc gr A k) (Uc gr A p) (A 2) = F_X12_mayLie τ Z gm rm (A 12) (nI k) (nI p) (A 50) := by
  have Q' := Q
  obtain ⟨hJ, hJm, hC, hQ, no, nb, wi, cb, cu, -⟩ := Q'
  obtain ⟨a1, a2, -⟩ := K
  have n162 : (gm (A 12) 8).toInt ≤ 16 := by
    rw [← no]
    exact (n_b hJ hC).2
  have n122 : (gm (A 12) 0).toInt ≤ 12 := by
    rw [← nb]
    exact (n_p hJ hC).2
  have tk := nI_t (k := k) (by omega)
  have tp := nI_t (k := p) (by omega)
  have ck := nI_c (k := k) (by omega)
  have cp := nI_c (k := p) (by omega)
  refine ml_eq Q (v := nI k) (p := nI p) (by rw [ck]; exact (b_Bc cb hk).2) (by rw [cp]; exact (u_Uc cu hp).2) (by omega) (by omega) (by omega) (hC.e 2 0 24 (by decide)) (hC.e 2 1 25 (by decide)) a1 (fun i hi _ => a2 i hi) ?_
  rw [ck, fr]
  intro q
  have := congrArg Int32.toInt q
  rw [k_m1, tp] at this
  omega
theorem ft_ref (Q : q_all τ Z gi gr gm rm A) {k p l q : Nat} (hk : (k : Int) < (gm (A 12) 8).toInt) (hp : (p : Int) < (gm (A 12) 0).toInt) (hl : (l : Int) < (gm (A 12) 8).toInt) (hq : (q : Int) < (gm (A 12) 0).toInt) : F_X0_firstTouch τ Z gi gr (A 1) (Bc gr A k) (Uc gr A p) (Bc gr A l) (Uc gr A q) = F_X12_firstTouch τ Z gm rm (A 12) (nI k) (nI p) (nI l) (nI q) ∧ (F_X0_firstTouch τ Z gi gr (A 1) (Bc gr A k) (Uc gr A p) (Bc gr A l) (Uc gr A q) = -1 ∨ rg 0 23 (F_X0_firstTouch τ Z gi gr (A 1) (Bc gr A k) (Uc gr A p) (Bc gr A l) (Uc gr A q))) ∧ F_X0_firstTouch τ Z gi gr (A 1) (Bc gr A k) (Uc gr A p) (Bc gr A l) (Uc gr A q) = F_X0_firstTouch τ Z gi gr (A 1) (Bc gr A l) (Uc gr A q) (Bc gr A k) (Uc gr A p) := by
  obtain ⟨hJ, hJm, hC, hQ, no, nb, wi, cb, cu, ct, cs, cl, cr, cw⟩ := Q
  have n162 : (gm (A 12) 8).toInt ≤ 16 := by
    rw [← no]
    exact (n_b hJ hC).2
  have n122 : (gm (A 12) 0).toInt ≤ 12 := by
    rw [← nb]
    exact (n_p hJ hC).2
  have nb' : gm (A 12) 0 = gi (A 1) 5 := nb.symm
  have ck := nI_c (k := k) (by omega)
  have cp := nI_c (k := p) (by omega)
  have cl' := nI_c (k := l) (by omega)
  have cq := nI_c (k := q) (by omega)
  obtain ⟨b1, b2⟩ := b_Bc cb hk
  obtain ⟨b3, b4⟩ := b_Bc cb hl
  obtain ⟨u1, u2⟩ := u_Uc cu hp
  obtain ⟨u3, u4⟩ := u_Uc cu hq
  have s1 := cs.1 p _ (by rw [← nb']; exact hp) u1
  have s2 := cs.1 q _ (by rw [← nb']; exact hq) u3
  rw [← ck] at b2
  rw [← cl'] at b4
  rw [← cp] at u2
  rw [← cq] at u4
  obtain ⟨k1, k2⟩ := ft_eq (Z := Z) hC hQ hJm cw wi ct cr b2 b4 u2 u4 (by rw [ck, cp] at *; exact s1) (by rw [cl', cq] at *; exact s2)
  have k3 := ft_sy (Z := Z) hQ hJm cw ct b2 b4 u2 u4 (by rw [ck, cp] at *; exact s1) (by rw [cl', cq] at *; exact s2)
  rw [ck, cp, cl', cq] at *
  exact ⟨k1, k2, k3⟩
end TB
