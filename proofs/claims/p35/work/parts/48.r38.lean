/-! ===== about: both find the same ===== -/
section FA
variable {τ τ1 : th_t} {Z : th_Zt} {gi gi1 gm gm2 : th_i} {gr gr1 rm rm2 : th_r} {A : Nat → Nat} {M1 M2 : List Nat}
theorem fi_about (Q : q_all τ Z gi gr gm rm A) (ra : c_eq 11 8 23 gi gm A) (K : c_core τ gi gr gm A) (hf : c_find gi gm A) {v w r1 r2 : Int32} (e1 : F_X11_about τ Z gi gr (A 11) v w = (r1, gi1)) (e2 : F_X12_about τ Z gm rm (A 12) v w = (r2, gm2)) : c_find gi1 gm2 A := by
  obtain ⟨hJ, hJm, hC, hQ, no, nb, wi, cb, -⟩ := Q
  have no' : gm (A 12) 8 = gi (A 1) 6 := no.symm
  unfold F_X11_about at e1
  unfold F_X12_about F_X12_isBoat at e2
  dsimp only at e1 e2
  rw [hC.g 11 0 1 (by decide)] at e1
  rw [w0_m, no'] at e2
  by_cases g1 : W0 v 0 (gi (A 1) 6 - 1) = 0
  · rw [bo_no hJ hC g1] at e1
    rw [if_pos g1] at e2
    exact hf.fip hC hQ (w1 := 1) (by decide) (by decide) e1 e2
  obtain ⟨f1, f2, f3, f4⟩ := bo_yes (Z := Z) hJ hC g1
  obtain ⟨qb, hqb⟩ := cb v.toNatClampNeg (by rw [f3, no']; exact f4)
  rw [f1, hqb.1] at e1
  rw [if_neg g1] at e2
  simp only [Option.elim_some] at e1
  by_cases c0 : w.toInt < 0
  · rw [if_pos c0] at e1 e2
    exact hf.fip hC hQ (w1 := 1) (by decide) (by decide) e1 e2
  rw [if_neg c0] at e1 e2
  by_cases c1 : 5 < w.toInt
  · rw [if_pos c1] at e1 e2
    exact hf.fip hC hQ (w1 := 1) (by decide) (by decide) e1 e2
  rw [if_neg c1] at e1 e2
  have k1 : gi = gi1 := by
    repeat' split at e1
    all_goals exact (pr2 e1).2
  have k2 : gm = gm2 := by
    repeat' split at e2
    all_goals exact (pr2 e2).2
  exact hf.same k1 k2
end FA
