/-! ===== a BOAT as one of a KIND: its DUES ===== -/
section AS
variable {τ τ1 : th_t} {Z : th_Zt} {gi gi1 gm gm2 : th_i} {gr gr1 rm rm2 : th_r} {A : Nat → Nat} {M1 M2 : List Nat}
theorem kn_at {q : Nat} {k : Int32} (h : b_kind τ q k) : FV_kindNumber τ Z gi gr q = k := by
  rcases h with ⟨t, e⟩ | ⟨t, e⟩ | ⟨t, e⟩
  · rw [FV_kindNumber_8 t, e]; rfl
  · rw [FV_kindNumber_9 t, e]; rfl
  · rw [FV_kindNumber_4 t, e]; rfl
/-- DUES at a rate -/
def f_due (k l r : Int32) : Int32 := if k = 1 then (l * r + 9) / 10 + (l * r + 9) / 10 / 2 else (l * r + 9) / 10
theorem fee_at {q : Nat} {k r : Int32} (h : b_kind τ q k) : FV_fee τ Z gi gr q r = f_due k (gi q 1) r := by
  unfold f_due
  rcases h with ⟨t, e⟩ | ⟨t, e⟩ | ⟨t, e⟩
  · rw [FV_fee_8 t, e, if_neg (by decide)]; rfl
  · rw [FV_fee_9 t, e, if_pos rfl]; rfl
  · rw [FV_fee_4 t, e, if_neg (by decide)]; rfl
theorem due_at (hQ : ro_M τ rm A) {v : Int32} : F_X12_duesOf τ Z gm rm (A 12) v = f_due (gm (A 47) v.toNatClampNeg) (gm (A 48) v.toNatClampNeg) (gm (A 12) 23) := by
  unfold F_X12_duesOf f_due
  dsimp only
  rw [hQ.g 10 48 (by decide), hQ.g 9 47 (by decide)]
theorem s_as (hJ : th_J τ gi gr) (hC : ro_C τ gr A) (hQ : ro_M τ rm A) (no : c_eq 1 6 8 gi gm A) (ra : c_eq 11 8 23 gi gm A) (hb : c_boat τ gi gr gm A) {v k r1 r2 : Int32} (e1 : F_X11_as τ Z gi gr (A 11) v k = (r1, gi1)) (e2 : F_X12_as τ Z gm rm (A 12) v k = (r2, gm2)) : r1 = r2 := by
  have no' : gm (A 12) 8 = gi (A 1) 6 := no.symm
  have ra' : gm (A 12) 23 = gi (A 11) 8 := ra.symm
  unfold F_X11_as f_X11_as_20 F_X11_isKind at e1
  unfold F_X12_as F_X12_isBoat f_X12_as_17 f_X12_as_38 at e2
  dsimp only at e1 e2
  rw [hC.g 11 0 1 (by decide)] at e1
  rw [w0_m, w0_m, no', due_at hQ, hQ.g 9 47 (by decide), ra'] at e2
  by_cases g1 : W0 v 0 (gi (A 1) 6 - 1) = 0
  · rw [bo_no hJ hC g1] at e1
    rw [if_pos g1] at e2
    exact (s_fip hC hQ (w1 := 1) (by decide) (by decide) e1 e2).1
  obtain ⟨f1, f2, f3, f4⟩ := bo_yes (Z := Z) hJ hC g1
  obtain ⟨q, a1, a2, a3, a4, a5, a6, a7⟩ := hb v.toNatClampNeg (by rw [f3, no']; exact f4)
  rw [f1, a1] at e1
  rw [if_neg g1] at e2
  simp only [Option.elim_some] at e1
  rw [w0_c] at e1
  by_cases g2 : W0 k 0 2 = 0
  · rw [if_pos g2] at e1 e2
    exact (s_fip hC hQ (w1 := 1) (by decide) (by decide) e1 e2).1
  rw [if_neg g2] at e1 e2
  unfold F_X2_isOf at e1
  dsimp only at e1
  rw [kn_at a5, fee_at a5, a3] at e1
  have h10 : ¬ (1 : Int32) = 0 := by decide
  by_cases g3 : k = 0
  · rw [if_pos g3, if_neg h10] at e1
    rw [if_pos g3] at e2
    exact (pr2 e1).1.symm.trans (pr2 e2).1
  · rw [if_neg g3] at e1 e2
    by_cases g4 : k = gm (A 47) v.toNatClampNeg
    · rw [if_pos g4, if_neg h10] at e1
      rw [if_pos g4.symm] at e2
      exact (pr2 e1).1.symm.trans (pr2 e2).1
    · rw [if_neg g4, if_pos rfl] at e1
      rw [if_neg (fun q => g4 q.symm)] at e2
      exact (s_fip hC hQ (w1 := 5) (by decide) (by decide) e1 e2).1
end AS
