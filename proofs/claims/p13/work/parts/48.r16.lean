/-! ===== who lies where; who may lie ===== -/
def be_ok (n b : Int) (x y : Nat → Int32) : Prop := (∀ i : Nat, i < 16 → rg (-1) 11 (x i) ∧ (0 ≤ (x i).toInt → (i : Int) < n ∧ (x i).toInt < b ∧ (y (x i).toNatClampNeg).toInt = (i : Int))) ∧ ∀ p : Nat, p < 12 → rg (-1) 15 (y p) ∧ (0 ≤ (y p).toInt → (p : Int) < b ∧ (y p).toInt < n ∧ (x (y p).toNatClampNeg).toInt = (p : Int))
theorem be_mono {n b n' b' : Int} {x y : Nat → Int32} (h : be_ok n b x y) (hn : n ≤ n') (hb : b ≤ b') : be_ok n' b' x y := by
  refine ⟨fun i hi => ?_, fun p hp => ?_⟩
  · obtain ⟨k1, k2⟩ := h.1 i hi
    exact ⟨k1, fun q => by have := k2 q; exact ⟨by omega, by omega, this.2.2⟩⟩
  · obtain ⟨k1, k2⟩ := h.2 p hp
    exact ⟨k1, fun q => by have := k2 q; exact ⟨by omega, by omega, this.2.2⟩⟩
theorem m1_of {x : Int32} {hi : Int} (h : rg (-1) hi x) (q : x.toInt < 0) : x = -1 := i_inj (by rw [k_m1]; have := h.1; omega)
theorem be_x {n b : Int} {x y : Nat → Int32} (h : be_ok n b x y) {i : Nat} (hi : i < 16) : x i = -1 ∨ (0 ≤ (x i).toInt ∧ (x i).toInt < b ∧ (x i).toInt ≤ 11 ∧ (i : Int) < n ∧ (y (x i).toNatClampNeg).toInt = (i : Int)) := by
  obtain ⟨k1, k2⟩ := h.1 i hi
  by_cases q : 0 ≤ (x i).toInt
  · obtain ⟨a, c, d⟩ := k2 q
    exact Or.inr ⟨q, c, k1.2, a, d⟩
  · exact Or.inl (m1_of k1 (by omega))
theorem be_y {n b : Int} {x y : Nat → Int32} (h : be_ok n b x y) {p : Nat} (hp : p < 12) : y p = -1 ∨ (0 ≤ (y p).toInt ∧ (y p).toInt < n ∧ (y p).toInt ≤ 15 ∧ (p : Int) < b ∧ (x (y p).toNatClampNeg).toInt = (p : Int)) := by
  obtain ⟨k1, k2⟩ := h.2 p hp
  by_cases q : 0 ≤ (y p).toInt
  · obtain ⟨a, c, d⟩ := k2 q
    exact Or.inr ⟨q, c, k1.2, a, d⟩
  · exact Or.inl (m1_of k1 (by omega))
theorem be_put {n b : Int} {x y : Nat → Int32} {v p : Int32} (h : be_ok n b x y) (hv : 0 ≤ v.toInt) (hv2 : v.toInt < n) (hn : n ≤ 16) (hp : 0 ≤ p.toInt) (hp2 : p.toInt < b) (hb : b ≤ 12) (fx : x v.toNatClampNeg = -1) (fy : y p.toNatClampNeg = -1) : be_ok n b (upd x v.toNatClampNeg p) (upd y p.toNatClampNeg v) := by
  have cv := i_cl hv
  have cp := i_cl hp
  refine ⟨fun i hi => ?_, fun j hj => ?_⟩
  · by_cases e : i = v.toNatClampNeg
    · subst e
      rw [ud_s]
      exact ⟨⟨by omega, by omega⟩, fun _ => ⟨by omega, hp2, by rw [ud_s]; exact cv.symm⟩⟩
    · rw [ud_n e]
      obtain ⟨k1, k2⟩ := h.1 i hi
      refine ⟨k1, fun q => ?_⟩
      obtain ⟨a, c, d⟩ := k2 q
      refine ⟨a, c, ?_⟩
      have ne : (x i).toNatClampNeg ≠ p.toNatClampNeg := fun e' => by
        rw [e', fy, k_m1] at d
        omega
      rw [ud_n ne]
      exact d
  · by_cases e : j = p.toNatClampNeg
    · subst e
      rw [ud_s]
      exact ⟨⟨by omega, by omega⟩, fun _ => ⟨by omega, hv2, by rw [ud_s]; exact cp.symm⟩⟩
    · rw [ud_n e]
      obtain ⟨k1, k2⟩ := h.2 j hj
      refine ⟨k1, fun q => ?_⟩
      obtain ⟨a, c, d⟩ := k2 q
      refine ⟨a, c, ?_⟩
      have ne : (y j).toNatClampNeg ≠ v.toNatClampNeg := fun e' => by
        rw [e', fx, k_m1] at d
        omega
      rw [ud_n ne]
      exact d
theorem be_lift {n b : Int} {x y : Nat → Int32} {v : Int32} (h : be_ok n b x y) (hv : 0 ≤ v.toInt) (hv2 : v.toInt < 16) (hx : 0 ≤ (x v.toNatClampNeg).toInt) : be_ok n b (upd x v.toNatClampNeg (-1)) (upd y (x v.toNatClampNeg).toNatClampNeg (-1)) := by
  have cv := i_cl hv
  obtain ⟨r, kx⟩ := h.1 v.toNatClampNeg (by omega)
  obtain ⟨a0, b0, d0⟩ := kx hx
  have cx := i_cl hx
  have m1r : ∀ hi : Int, 0 ≤ hi → rg (-1) hi (-1 : Int32) := fun hi q => ⟨by rw [k_m1]; omega, by rw [k_m1]; omega⟩
  refine ⟨fun i hi => ?_, fun j hj => ?_⟩
  · by_cases e : i = v.toNatClampNeg
    · subst e
      rw [ud_s]
      exact ⟨m1r _ (by decide), fun q => by rw [k_m1] at q; omega⟩
    · rw [ud_n e]
      obtain ⟨k1, k2⟩ := h.1 i hi
      refine ⟨k1, fun q => ?_⟩
      obtain ⟨a, c, d⟩ := k2 q
      refine ⟨a, c, ?_⟩
      have ne : (x i).toNatClampNeg ≠ (x v.toNatClampNeg).toNatClampNeg := fun e' => by
        rw [e', d0] at d
        omega
      rw [ud_n ne]
      exact d
  · by_cases e : j = (x v.toNatClampNeg).toNatClampNeg
    · rw [e, ud_s]
      exact ⟨m1r _ (by decide), fun q => by rw [k_m1] at q; omega⟩
    · rw [ud_n e]
      obtain ⟨k1, k2⟩ := h.2 j hj
      refine ⟨k1, fun q => ?_⟩
      obtain ⟨a, c, d⟩ := k2 q
      refine ⟨a, c, ?_⟩
      have cy := i_cl q
      have ne : (y j).toNatClampNeg ≠ v.toNatClampNeg := fun e' => by
        rw [e'] at d
        omega
      rw [ud_n ne]
      exact d
section ML
variable {τ τ1 : th_t} {Z : th_Zt} {gi gi1 gm gm2 : th_i} {gr gr1 rm rm2 : th_r} {A : Nat → Nat} {M1 M2 : List Nat}
theorem k_15 : (15 : Int32).toInt = 15 := by decide
theorem k_11 : (11 : Int32).toInt = 11 := by decide
theorem bo_of {B X : Nat} {v : Int32} (hX : gr B 0 = some X) (h0 : 0 ≤ v.toInt) (h1 : v.toInt < 16) : F_X1_buoyOf τ Z gi gr B v = gi X v.toNatClampNeg := by
  unfold F_X1_buoyOf
  dsimp only
  rw [w0_c, if_neg (w0_in (by rw [k_0]; exact h0) (by rw [k_15]; omega)), hX]
  rfl
theorem bu_of {B Y : Nat} {p : Int32} (hY : gr B 1 = some Y) (h0 : 0 ≤ p.toInt) (h1 : p.toInt < 12) : F_X1_boatOf τ Z gi gr B p = gi Y p.toNatClampNeg := by
  unfold F_X1_boatOf
  dsimp only
  rw [w0_c, if_neg (w0_in (by rw [k_0]; exact h0) (by rw [k_11]; omega)), hY]
  rfl
/-- all that may-lie rests on -/
def q_all (τ : th_t) (Z : th_Zt) (gi : th_i) (gr : th_r) (gm : th_i) (rm : th_r) (A : Nat → Nat) : Prop := th_J τ gi gr ∧ th_J τ gm rm ∧ ro_C τ gr A ∧ ro_M τ rm A ∧ c_eq 1 6 8 gi gm A ∧ c_eq 1 5 0 gi gm A ∧ c_eq 1 7 14 gi gm A ∧ c_boat τ gi gr gm A ∧ c_buoy τ gi gr gm A ∧ c_tid gi gm A ∧ c_sl τ gi gr A ∧ c_least gi A ∧ c_rep gi A ∧ c_way Z gm A
theorem ml_go (Q : q_all τ Z gi gr gm rm A) {v p : Int32} {qb qp B X m : Nat} {b : Int} {y0 : Nat → Int32} (hb : b_at τ gi gr gm A v.toNatClampNeg qb) (hp : u_at τ gi gr gm A p.toNatClampNeg qp) (hv : 0 ≤ v.toInt) (hpp : 0 ≤ p.toInt) (hp2 : p.toInt < (gm (A 12) 0).toInt) (hX : gr B 0 = some X) (hbe : be_ok b (gm (A 12) 0).toInt (gi X) y0) (hm : ∀ i : Nat, (i : Int) < (gm (A 12) 8).toInt → i ≠ v.toNatClampNeg → gi X i = gm m i) (free : ∀ i : Nat, (i : Int) < (gm (A 12) 8).toInt → i ≠ v.toNatClampNeg → ¬ gi X i = p) : ∀ (n k : Nat) (y : Int32), 0 ≤ y.toInt → (16 - y.toInt).toNat < n → (16 - y.toInt).toNat < k → f_X0_mayLie_26 τ Z gi gr (A 1) qb qp B n y = f_X12_mayLie_14 τ Z gm rm (A 12) v p m k y := by
  obtain ⟨hJ, hJm, hC, hQ, no, nb, wi, cb, cu, ct, cs, cl, cr, cw⟩ := Q
  have no' : gm (A 12) 8 = gi (A 1) 6 := no.symm
  have nb' : gm (A 12) 0 = gi (A 1) 5 := nb.symm
  have n16 := n_b hJ hC
  have n12 := n_p hJ hC
  have n162 := n16.2
  have n122 := n12.2
  have hqb : gi qb 0 = v := i_inj (by rw [hb.2.1]; exact i_cl hv)
  intro n
  induction n with
  | zero => intro k y _ h; exact absurd h (Nat.not_lt_zero _)
  | succ n ih =>
    intro k y h0 h hk
    cases k with
    | zero => exact absurd hk (Nat.not_lt_zero _)
    | succ k =>
      unfold f_X0_mayLie_26 f_X0_mayLie_54 f_X0_mayLie_94 f_X12_mayLie_14 f_X12_mayLie_61
      dsimp only
      rw [no']
      by_cases hc : gi (A 1) 6 ≤ y
      · rw [if_pos hc, if_pos hc]
      · rw [if_neg hc, if_neg hc]
        have hc' := i_ltI.mp (Int32.not_le.mp hc)
        have cy := i_cl h0
        have e := y_1 (m := 16) (by decide) h0 (by omega)
        have I := ih k (y + 1) (by omega) (by omega) (by omega)
        rw [hqb]
        by_cases hy : y = v
        · rw [if_pos hy, if_pos hy]
          exact I
        · rw [if_neg hy, if_neg hy, bo_g hC n16 h0 hc', bo_of hX h0 (by omega)]
          obtain ⟨qy, hqy⟩ := cb y.toNatClampNeg (by rw [no']; omega)
          have ny : y.toNatClampNeg ≠ v.toNatClampNeg := fun e' => hy (i_inj (by have := i_cl hv; omega))
          have ex := hm y.toNatClampNeg (by rw [no']; omega) ny
          have fr := free y.toNatClampNeg (by rw [no']; omega) ny
          rw [hqy.1, ← ex]
          simp only [Option.elim_some]
          rcases be_x hbe (i := y.toNatClampNeg) (by omega) with em | ⟨t0, t1, t2, -, -⟩
          · rw [em, bu_gn n12 (by rw [k_m1]; omega), if_pos (by decide)]
            exact I
          · rw [bu_g hC n12 t0 (by rw [← nb']; exact t1), if_neg (fun q => by have := i_ltI.mp q; rw [k_0] at this; omega), if_neg fr]
            have ct' := i_cl t0
            obtain ⟨qt, hqt⟩ := cu (gi X y.toNatClampNeg).toNatClampNeg (by omega)
            obtain ⟨k1, k2⟩ := ft_eq (Z := Z) hC hQ hJm cw wi ct cr hb hqy hp hqt (cs.1 _ qp (by rw [← nb']; have := i_cl hpp; omega) hp.1) (cs.1 _ qt (by rw [← nb']; omega) hqt.1)
            rw [hqt.1]
            simp only [Option.elim_some]
            rw [← k1]
            rcases k2 with z | z
            · rw [z, if_pos rfl, if_pos (by decide)]
              exact I
            · rw [if_neg (fun q => by rw [q, rg, k_m1] at z; omega), if_neg (fun q => by have := i_ltI.mp q; rw [k_0] at this; have := z.1; omega)]
theorem ml_z (Q : q_all τ Z gi gr gm rm A) {v p : Int32} {m i0 : Nat} (hi : (i0 : Int) < (gm (A 12) 8).toInt) (hv : 0 ≤ v.toInt) (ni : i0 ≠ v.toNatClampNeg) (hm : gm m i0 = p) (hp : 0 ≤ p.toInt) : ∀ (n : Nat) (y : Int32), 0 ≤ y.toInt → y.toInt ≤ (i0 : Int) → (16 - y.toInt).toNat < n → f_X12_mayLie_14 τ Z gm rm (A 12) v p m n y = 0 := by
  obtain ⟨hJ, hJm, hC, hQ, no, -⟩ := Q
  have no' : gm (A 12) 8 = gi (A 1) 6 := no.symm
  have n162 := (n_b hJ hC).2
  rw [no'] at hi
  intro n
  induction n with
  | zero => intro y _ _ h; exact absurd h (Nat.not_lt_zero _)
  | succ n ih =>
    intro y h0 hy h
    unfold f_X12_mayLie_14 f_X12_mayLie_61
    dsimp only
    rw [no']
    have cy := i_cl h0
    have e := y_1 (m := 16) (by decide) h0 (by omega)
    rw [if_neg (fun q => by have := i_le.mp q; omega)]
    by_cases e0 : y.toInt = (i0 : Int)
    · have ey : y.toNatClampNeg = i0 := by omega
      rw [if_neg (fun q => ni (by rw [← ey, q])), ey, hm, if_neg (fun q => by have := i_ltI.mp q; rw [k_0] at this; omega), if_pos rfl]
    · have I := ih (y + 1) (by omega) (by omega) (by omega)
      by_cases c1 : y = v
      · rw [if_pos c1]
        exact I
      · rw [if_neg c1]
        by_cases c2 : gm m y.toNatClampNeg < 0
        · rw [if_pos c2]
          exact I
        · rw [if_neg c2]
          by_cases c3 : gm m y.toNatClampNeg = p
          · rw [if_pos c3]
          · rw [if_neg c3]
            by_cases c4 : F_X12_firstTouch τ Z gm rm (A 12) v p y (gm m y.toNatClampNeg) < 0
            · rw [if_pos c4]
              exact I
            · rw [if_neg c4]
/-- may lie: the same -/
theorem ml_eq (Q : q_all τ Z gi gr gm rm A) {v p : Int32} {qb qp B X Y m : Nat} (hb : b_at τ gi gr gm A v.toNatClampNeg qb) (hp : u_at τ gi gr gm A p.toNatClampNeg qp) (hv : 0 ≤ v.toInt) (hpp : 0 ≤ p.toInt) (hp2 : p.toInt < (gm (A 12) 0).toInt) (hX : gr B 0 = some X) (hY : gr B 1 = some Y) (hbe : be_ok (gm (A 12) 8).toInt (gm (A 12) 0).toInt (gi X) (gi Y)) (hm : ∀ i : Nat, (i : Int) < (gm (A 12) 8).toInt → i ≠ v.toNatClampNeg → gi X i = gm m i) (hvp : ¬ gi X v.toNatClampNeg = p) : F_X0_mayLie τ Z gi gr (A 1) qb qp B = F_X12_mayLie τ Z gm rm (A 12) v p m := by
  have Q' := Q
  obtain ⟨hJ, hJm, hC, hQ, no, nb, wi, cb, cu, ct, cs, cl, cr, cw⟩ := Q'
  have nb' : gm (A 12) 0 = gi (A 1) 5 := nb.symm
  have no' : gm (A 12) 8 = gi (A 1) 6 := no.symm
  have n122 := (n_p hJ hC).2
  have n162 := (n_b hJ hC).2
  have cp := i_cl hpp
  rw [nb'] at hp2
  have hqp : gi qp 0 = p := i_inj (by rw [hp.2.2.1]; exact cp)
  unfold F_X0_mayLie F_X12_mayLie
  dsimp only
  rw [hqp, bu_of hY hpp (by omega), fits_eq hQ hJm ct cl hb hp]
  rcases be_y hbe (p := p.toNatClampNeg) (by omega) with em | ⟨t0, t1, t2, t3, t4⟩
  · rw [em, if_pos rfl]
    by_cases c : F_X12_canFit τ Z gm rm (A 12) v p = 0
    · rw [if_pos c, if_pos c]
    · rw [if_neg c, if_neg c]
      refine ml_go Q hb hp hv hpp (by rw [nb']; exact hp2) hX hbe hm (fun i hi ni q => ?_) _ _ 0 (by decide) (Nat.lt_add_one _) (Nat.lt_add_one _)
      rcases be_x hbe (i := i) (by rw [no'] at hi; omega) with z | ⟨-, -, -, -, z⟩
      · rw [z] at q
        rw [← q, k_m1] at hpp
        omega
      · rw [q, em, k_m1] at z
        omega
  · rw [if_neg (fun q => by rw [q, k_m1] at t0; omega)]
    by_cases c : F_X12_canFit τ Z gm rm (A 12) v p = 0
    · rw [if_pos c]
    · rw [if_neg c]
      have cy := i_cl t0
      have ep : gi X (gi Y p.toNatClampNeg).toNatClampNeg = p := i_inj (by rw [t4]; exact cp)
      have ni : (gi Y p.toNatClampNeg).toNatClampNeg ≠ v.toNatClampNeg := fun e => hvp (by rw [← e]; exact ep)
      exact (ml_z Q (i0 := (gi Y p.toNatClampNeg).toNatClampNeg) (by omega) hv ni (by rw [← hm _ (by omega) ni]; exact ep) hpp _ 0 (by decide) (by rw [k_0]; omega) (Nat.lt_add_one _)).symm
end ML
