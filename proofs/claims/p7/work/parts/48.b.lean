section
/-! ===== the first HOUR at which two may TOUCH ===== -/
section TU
variable {τ τ1 : th_t} {Z : th_Zt} {gi gi1 gm gm2 : th_i} {gr gr1 rm rm2 : th_r} {A : Nat → Nat} {M1 M2 : List Nat}
theorem ab_sym {p q : Int32} (hp : rg 0 999 p) (hq : rg 0 999 q) : th_ab (p - q) = th_ab (q - p) := by
  obtain ⟨p0, p1⟩ := hp
  obtain ⟨q0, q1⟩ := hq
  have e1 : (p - q).toInt = p.toInt - q.toInt := i_sub (by omega) (by omega)
  have e2 : (q - p).toInt = q.toInt - p.toInt := i_sub (by omega) (by omega)
  obtain ⟨a1, a2⟩ := ab_c (x := p - q) (by omega)
  obtain ⟨b1, b2⟩ := ab_c (x := q - p) (by omega)
  apply i_inj
  by_cases c : p.toInt < q.toInt
  · rw [a2 (by omega), b1 (by omega)]
    omega
  · by_cases d : p.toInt = q.toInt
    · rw [a1 (by omega), b1 (by omega)]
      omega
    · rw [a1 (by omega), b2 (by omega)]
      omega
theorem pair_iff (hQ : ro_M τ rm A) (hw : c_way Z gm A) (hwin : gi (A 1) 7 = gm (A 12) 14) {p q out oo v t : Int32} (a1 : rg 0 999 (gm (A 40) p.toNatClampNeg)) (a2 : rg 0 999 (gm (A 40) q.toNatClampNeg)) (a3 : rg 0 999 (gm (A 41) p.toNatClampNeg)) (a4 : rg 0 999 (gm (A 41) q.toNatClampNeg)) (ho : rg 0 850 out) (hoo : rg 0 850 oo) (v0 : 0 ≤ v.toInt) (v7 : v.toInt ≤ 7) (t0 : -1 ≤ t.toInt) (t1 : t.toInt ≤ 1) : pT τ Z gm rm (A 12) p out q oo v (v + (t + 8) - (v + (t + 8)) / 8 * 8) ↔ pM τ Z gi gr (A 1) (gm (A 40) q.toNatClampNeg - gm (A 40) p.toNatClampNeg) (gm (A 41) q.toNatClampNeg - gm (A 41) p.toNatClampNeg) out oo v (v + t &&& 7) := by
  obtain ⟨⟨w0, w7⟩, -, -, e⟩ := wadj v0 v7 t0 t1
  unfold pT pM
  rw [e, ← bl_eq (τ := τ) (Z := Z) (gr := gr) (rm := rm) hwin, ← bl_eq (τ := τ) (Z := Z) (gr := gr) (rm := rm) hwin, me_eq (gi := gi) (gr := gr) hQ hw a1 a2 a3 a4 ho hoo v0 v7 w0 w7]
theorem ta_eq (hQ : ro_M τ rm A) (hJm : th_J τ gm rm) (hw : c_way Z gm A) (hwin : gi (A 1) 7 = gm (A 12) 14) (ht : c_tid gi gm A) {a p b q h : Int32} {qa qp qb qq : Nat} (ba : b_at τ gi gr gm A a.toNatClampNeg qa) (bb : b_at τ gi gr gm A b.toNatClampNeg qb) (up : u_at τ gi gr gm A p.toNatClampNeg qp) (uq : u_at τ gi gr gm A q.toNatClampNeg qq) (sp : u_sl τ gi gr A qp) (sq : u_sl τ gi gr A qq) (h0 : 0 ≤ h.toInt) (h1 : h.toInt < 24) : F_X0_mayMeet τ Z gi gr (A 1) (gi qq 1 - gi qp 1) (gi qq 2 - gi qp 2) (F_X3_slackAt τ Z gi gr qp h + FV_reach τ Z gi gr qa) (F_X3_slackAt τ Z gi gr qq h + FV_reach τ Z gi gr qb) = 0 ↔ F_X12_touchAt τ Z gm rm (A 12) a p b q h = 0 := by
  obtain ⟨k1, l1⟩ := slack_eq (Z := Z) hQ hJm ht up sp h0 h1
  obtain ⟨k2, l2⟩ := slack_eq (Z := Z) hQ hJm ht uq sq h0 h1
  obtain ⟨-, -, a3, -, a5, a6, -⟩ := ba
  obtain ⟨-, -, b3, -, b5, b6, -⟩ := bb
  obtain ⟨-, -, -, x4, x5, -, -, x8, x9, -⟩ := up
  obtain ⟨-, -, -, y4, y5, -, -, y8, y9, -⟩ := uq
  rw [k1, k2, re_at a5, re_at b5, a3, b3, x4, x5, y4, y5]
  rw [a3] at a6
  rw [b3] at b6
  rw [x4] at x8
  rw [x5] at x9
  rw [y4] at y8
  rw [y5] at y9
  have ra := reach_rg (k := gm (A 47) a.toNatClampNeg) a6
  have rb := reach_rg (k := gm (A 47) b.toNatClampNeg) b6
  have ho : rg 0 850 (F_X12_slackOf τ Z gm rm (A 12) p h + f_reach (gm (A 47) a.toNatClampNeg) (gm (A 48) a.toNatClampNeg)) := rg_w (rg_add l1 ra (by decide) (by decide)) (by decide) (by decide)
  have hoo : rg 0 850 (F_X12_slackOf τ Z gm rm (A 12) q h + f_reach (gm (A 47) b.toNatClampNeg) (gm (A 48) b.toNatClampNeg)) := rg_w (rg_add l2 rb (by decide) (by decide)) (by decide) (by decide)
  unfold F_X12_touchAt f_X12_touchAt_86
  dsimp only
  rw [hQ.g 1 40 (by decide), hQ.g 2 41 (by decide), reach_at hQ, reach_at hQ, ab_sym x8 y8, ab_sym x9 y9]
  generalize F_X12_slackOf τ Z gm rm (A 12) p h + f_reach (gm (A 47) a.toNatClampNeg) (gm (A 48) a.toNatClampNeg) = out at ho ⊢
  generalize F_X12_slackOf τ Z gm rm (A 12) q h + f_reach (gm (A 47) b.toNatClampNeg) (gm (A 48) b.toNatClampNeg) = oo at hoo ⊢
  unfold F_X0_mayMeet
  dsimp only
  have dX : (gm (A 40) q.toNatClampNeg - gm (A 40) p.toNatClampNeg).toInt = (gm (A 40) q.toNatClampNeg).toInt - (gm (A 40) p.toNatClampNeg).toInt := i_sub (by have := x8.1; have := x8.2; have := y8.1; have := y8.2; omega) (by have := x8.1; have := x8.2; have := y8.1; have := y8.2; omega)
  have dY : (gm (A 41) q.toNatClampNeg - gm (A 41) p.toNatClampNeg).toInt = (gm (A 41) q.toNatClampNeg).toInt - (gm (A 41) p.toNatClampNeg).toInt := i_sub (by have := x9.1; have := x9.2; have := y9.1; have := y9.2; omega) (by have := x9.1; have := x9.2; have := y9.1; have := y9.2; omega)
  have rX : -999 ≤ (gm (A 40) q.toNatClampNeg - gm (A 40) p.toNatClampNeg).toInt ∧ (gm (A 40) q.toNatClampNeg - gm (A 40) p.toNatClampNeg).toInt ≤ 999 := by
    have := x8.1; have := x8.2; have := y8.1; have := y8.2
    omega
  have rY : -999 ≤ (gm (A 41) q.toNatClampNeg - gm (A 41) p.toNatClampNeg).toInt ∧ (gm (A 41) q.toNatClampNeg - gm (A 41) p.toNatClampNeg).toInt ≤ 999 := by
    have := x9.1; have := x9.2; have := y9.1; have := y9.2
    omega
  have P := fun (v t : Int32) (v0 : 0 ≤ v.toInt) (v7 : v.toInt ≤ 7) (t0 : -1 ≤ t.toInt) (t1 : t.toInt ≤ 1) => pair_iff (gr := gr) hQ hw hwin (p := p) (q := q) x8 y8 x9 y9 ho hoo v0 v7 t0 t1
  have L := ta_89 (τ := τ) (Z := Z) (gm := gm) (rm := rm) (a := A 12) (p1 := a) (p := p) (q := q) (p3 := b) (hh := h) (one := out) (two := oo) ((8 - (0 : Int32).toInt).toNat + 1) 0 (by decide) (Nat.lt_add_one _)
  have K := mm_45 (τ := τ) (Z := Z) (gi := gi) (gr := gr) (a := A 1) (dx := gm (A 40) q.toNatClampNeg - gm (A 40) p.toNatClampNeg) (dy := gm (A 41) q.toNatClampNeg - gm (A 41) p.toNatClampNeg) (out := out) (oo := oo) ((8 - (0 : Int32).toInt).toNat + 1) 0 (by decide) (Nat.lt_add_one _)
  have E := fun (v t x y : Int32) (m : Int) => far_em (τ := τ) (gi := gi) (gr := gr) (dx := x) (dy := y) (v := v) (t := t) (m := m) hw ho hoo
  generalize gm (A 40) q.toNatClampNeg - gm (A 40) p.toNatClampNeg = dx at dX rX P K ⊢
  generalize gm (A 41) q.toNatClampNeg - gm (A 41) p.toNatClampNeg = dy at dY rY P K ⊢
  obtain ⟨u1, u2, u3⟩ := mx_c (th_ab dx) (th_ab dy)
  obtain ⟨z1, z2, z3⟩ := mx_c out oo
  have k8 : (8 : Int32).toInt = 8 := by decide
  have e8 : ∀ t : Int32, 7 ≤ t.toInt → t.toInt ≤ 9 → (t - 8).toInt = t.toInt - 8 ∧ t - 8 + 8 = t := fun t q1 q2 => ⟨by rw [i_sub (by rw [k8]; omega) (by rw [k8]; omega), k8], Int32.sub_add_cancel t 8⟩
  have f8 : ∀ t : Int32, -1 ≤ t.toInt → t.toInt ≤ 1 → (t + 8).toInt = t.toInt + 8 := fun t q1 q2 => by rw [i_add (by rw [k8]; omega) (by rw [k8]; omega), k8]
  have href : th_mn out oo ≤ th_mx (th_ab dx) (th_ab dy) → (if th_mn out oo ≤ th_ab dx then f_X12_touchAt_89 τ Z gm rm (A 12) a p b q h ((8 - (0 : Int32).toInt).toNat + 1) out oo 0 else if th_mn out oo ≤ th_ab dy then f_X12_touchAt_89 τ Z gm rm (A 12) a p b q h ((8 - (0 : Int32).toInt).toNat + 1) out oo 0 else 1) = f_X12_touchAt_89 τ Z gm rm (A 12) a p b q h ((8 - (0 : Int32).toInt).toNat + 1) out oo 0 := fun c => by
    by_cases c1 : th_mn out oo ≤ th_ab dx
    · rw [if_pos c1]
    · rw [if_neg c1]
      rcases u3 with u | u
      · rw [u] at c
        exact absurd c c1
      · rw [u] at c
        rw [if_pos c]
  by_cases c : th_mn out oo ≤ th_mx (th_ab dx) (th_ab dy)
  · rw [if_pos c, href c]
    by_cases s : th_mx (th_ab dx) (th_ab dy) < th_mx out oo + 20
    · rw [if_pos s]
      rcases K with ⟨K1, v, t, K2, K3, K4, K5, K6⟩ | ⟨K1, K2⟩
      · rcases L with ⟨L1, -⟩ | ⟨-, L2⟩
        · rw [K1, L1]
        · rw [k_0] at K2
          have e := f8 t K4 K5
          exact absurd ((P v t K2 K3 K4 K5).mpr K6) (L2 v (t + 8) (by rw [k_0]; exact K2) K3 (by omega) (by omega))
      · rcases L with ⟨-, v, t, L2, L3, L4, L5, L6⟩ | ⟨L1, -⟩
        · rw [k_0] at L2
          obtain ⟨e1, e2⟩ := e8 t L4 L5
          rw [← e2] at L6
          exact absurd ((P v (t - 8) L2 L3 (by omega) (by omega)).mp L6) (K2 v (t - 8) (by rw [k_0]; exact L2) L3 (by omega) (by omega))
        · rw [K1, L1]
    · rw [if_neg s]
      have s' := i_le.mp (Int32.not_lt.mp s)
      have o1 := ho.1
      have o2 := ho.2
      have oo1 := hoo.1
      have oo2 := hoo.2
      have m850 : (th_mx out oo).toInt ≤ 850 := by
        rcases z3 with z | z <;> (rw [z]; omega)
      rw [i_add (by rw [k_20]; omega) (by rw [k_20]; omega), k_20] at s'
      have far : ((th_mx out oo).toInt + 20 ≤ dx.toInt ∨ dx.toInt ≤ -((th_mx out oo).toInt + 20)) ∨ ((th_mx out oo).toInt + 20 ≤ dy.toInt ∨ dy.toInt ≤ -((th_mx out oo).toInt + 20)) := by
        rcases u3 with u | u
        · rw [u] at s'
          obtain ⟨p1, p2⟩ := ab_c (x := dx) (by omega)
          by_cases d : 0 ≤ dx.toInt
          · rw [p1 d] at s'
            exact Or.inl (Or.inl s')
          · rw [p2 (by omega)] at s'
            exact Or.inl (Or.inr (by omega))
        · rw [u] at s'
          obtain ⟨p1, p2⟩ := ab_c (x := dy) (by omega)
          by_cases d : 0 ≤ dy.toInt
          · rw [p1 d] at s'
            exact Or.inr (Or.inl s')
          · rw [p2 (by omega)] at s'
            exact Or.inr (Or.inr (by omega))
      rcases L with ⟨-, v, t, L2, L3, L4, L5, L6⟩ | ⟨L1, -⟩
      · rw [k_0] at L2
        obtain ⟨e1, e2⟩ := e8 t L4 L5
        rw [← e2] at L6
        exact absurd (E v (t - 8) dx dy (th_mx out oo).toInt z1 z2 m850 rX rY far L2 L3 (by omega) (by omega)) ((P v (t - 8) L2 L3 (by omega) (by omega)).mp L6).2.2
      · rw [L1]
  · rw [if_neg c]
    have c' := i_ltI.mp (Int32.not_le.mp c)
    rw [if_neg (fun q => by have := i_le.mp q; omega), if_neg (fun q => by have := i_le.mp q; omega)]
/-- the loops over HOURS -/
theorem f16_0 {a : Nat} {p1 p2 p3 p4 y : Int32} {k : Int32 → Int32} (hy : y.toInt ≤ 23) : ∀ (n : Nat) (g : Int32), 0 ≤ g.toInt → (23 - g.toInt).toNat < n → f_X12_firstTouch_16 τ Z gm rm a p1 p2 p3 p4 y k n 0 g = k (y + 1) := by
  intro n
  induction n with
  | zero => intro g _ h; exact absurd h (Nat.not_lt_zero _)
  | succ n ih =>
    intro g h0 h
    unfold f_X12_firstTouch_16 f_X12_firstTouch_80 f_X12_firstTouch_49 f_X12_firstTouch_50
    dsimp only
    by_cases hc : y ≤ g
    · rw [if_pos hc, if_pos rfl]
    · rw [if_neg hc, if_pos rfl]
      have hc' := i_ltI.mp (Int32.not_le.mp hc)
      have e := y_1 (m := 24) (by decide) h0 (by omega)
      exact ih (g + 1) (by omega) (by omega)
theorem f16_1 (hQ : ro_M τ rm A) {p1 p2 p3 p4 y : Int32} {k : Int32 → Int32} (hy0 : 0 ≤ y.toInt) (hy : y.toInt ≤ 23) : ∀ (n : Nat) (g : Int32), 0 ≤ g.toInt → (23 - g.toInt).toNat < n → (f_X12_firstTouch_16 τ Z gm rm (A 12) p1 p2 p3 p4 y k n 1 g = k (y + 1) ∧ ∃ j : Nat, j < y.toNatClampNeg ∧ gm (A 51) j = gm (A 51) y.toNatClampNeg) ∨ (f_X12_firstTouch_16 τ Z gm rm (A 12) p1 p2 p3 p4 y k n 1 g = (if F_X12_touchAt τ Z gm rm (A 12) p1 p2 p3 p4 y = 0 then k (y + 1) else y) ∧ ∀ j : Nat, g.toInt ≤ (j : Int) → j < y.toNatClampNeg → ¬ gm (A 51) j = gm (A 51) y.toNatClampNeg) := by
  have cy := i_cl hy0
  intro n
  induction n with
  | zero => intro g _ h; exact absurd h (Nat.not_lt_zero _)
  | succ n ih =>
    intro g h0 h
    have cg := i_cl h0
    unfold f_X12_firstTouch_16 f_X12_firstTouch_80 f_X12_firstTouch_49 f_X12_firstTouch_50
    dsimp only
    rw [hQ.g 13 51 (by decide)]
    by_cases hc : y ≤ g
    · have hc' := i_le.mp hc
      rw [if_pos hc, if_neg (by decide)]
      exact Or.inr ⟨rfl, fun j h1 h2 => by omega⟩
    · have hc' := i_ltI.mp (Int32.not_le.mp hc)
      have e := y_1 (m := 24) (by decide) h0 (by omega)
      rw [if_neg hc, if_neg (by decide)]
      by_cases he : gm (A 51) g.toNatClampNeg = gm (A 51) y.toNatClampNeg
      · rw [if_pos he]
        exact Or.inl ⟨f16_0 hy n (g + 1) (by omega) (by omega), g.toNatClampNeg, by omega, he⟩
      · rw [if_neg he]
        rcases ih (g + 1) (by omega) (by omega) with l | ⟨l1, l2⟩
        · exact Or.inl l
        · refine Or.inr ⟨l1, fun j h1 h2 => ?_⟩
          by_cases hj : (j : Int) = g.toInt
          · rw [← cl_in hj]
            exact he
          · exact l2 j (by omega) h2
theorem ft_go (hC : ro_C τ gr A) (hQ : ro_M τ rm A) (ht : c_tid gi gm A) (hr : c_rep gi A) {a p b q dx dy ra rb : Int32} {qa qp qb qq : Nat} (key : ∀ h : Int32, 0 ≤ h.toInt → h.toInt < 24 → (F_X0_mayMeet τ Z gi gr (A 1) dx dy (F_X3_slackAt τ Z gi gr qp h + ra) (F_X3_slackAt τ Z gi gr qq h + rb) = 0 ↔ F_X12_touchAt τ Z gm rm (A 12) a p b q h = 0)) : ∀ (n m : Nat) (y : Int32), 0 ≤ y.toInt → (24 - y.toInt).toNat < n → (24 - y.toInt).toNat < m → f_X0_firstTouch_39 τ Z gi gr (A 1) qa qp qb qq n dx dy ra rb y = f_X12_firstTouch_3 τ Z gm rm (A 12) a p b q m y ∧ (f_X0_firstTouch_39 τ Z gi gr (A 1) qa qp qb qq n dx dy ra rb y = -1 ∨ rg 0 23 (f_X0_firstTouch_39 τ Z gi gr (A 1) qa qp qb qq n dx dy ra rb y)) := by
  intro n
  induction n with
  | zero => intro m y _ h; exact absurd h (Nat.not_lt_zero _)
  | succ n ih =>
    intro m y h0 h hm
    cases m with
    | zero => exact absurd hm (Nat.not_lt_zero _)
    | succ m =>
      unfold f_X0_firstTouch_39 f_X0_firstTouch_89 f_X12_firstTouch_3
      dsimp only
      rw [hC.g 1 3 23 (by decide)]
      by_cases hc : (24 : Int32) ≤ y
      · rw [if_pos hc, if_pos hc]
        exact ⟨rfl, Or.inl rfl⟩
      · rw [if_neg hc, if_neg hc]
        have hc' := i_ltI.mp (Int32.not_le.mp hc)
        rw [k_24] at hc'
        have cy := i_cl h0
        have e := y_1 (m := 24) (by decide) h0 (by omega)
        have I := ih m (y + 1) (by omega) (by omega) (by omega)
        have hy : y.toNatClampNeg < 24 := by omega
        have R := hr y.toNatClampNeg hy
        have same : ∀ j : Nat, j < y.toNatClampNeg → (gi (A 22) j = gi (A 22) y.toNatClampNeg ↔ gm (A 51) j = gm (A 51) y.toNatClampNeg) := fun j hj => by rw [ht j (by omega), ht _ hy]
        rcases f16_1 (τ := τ) (Z := Z) (gm := gm) hQ (p1 := a) (p2 := p) (p3 := b) (p4 := q) (y := y) (k := f_X12_firstTouch_3 τ Z gm rm (A 12) a p b q m) h0 (by omega) ((23 - (0 : Int32).toInt).toNat + 1) 0 (by decide) (Nat.lt_add_one _) with ⟨l1, j, l2, l3⟩ | ⟨l1, l2⟩
        · rw [l1, if_neg (fun z => (R.mp z) j l2 ((same j l2).mpr l3))]
          exact I
        · rw [l1, if_pos (R.mpr (fun j hj q' => l2 j (by rw [k_0]; omega) hj ((same j hj).mp q')))]
          have K := key y h0 hc'
          by_cases c : F_X12_touchAt τ Z gm rm (A 12) a p b q y = 0
          · rw [if_pos c, if_pos (K.mpr c)]
            exact I
          · rw [if_neg c, if_neg (fun z => c (K.mp z))]
            exact ⟨rfl, Or.inr ⟨h0, by omega⟩⟩
theorem ft_eq (hC : ro_C τ gr A) (hQ : ro_M τ rm A) (hJm : th_J τ gm rm) (hw : c_way Z gm A) (hwin : gi (A 1) 7 = gm (A 12) 14) (ht : c_tid gi gm A) (hr : c_rep gi A) {a p b q : Int32} {qa qp qb qq : Nat} (ba : b_at τ gi gr gm A a.toNatClampNeg qa) (bb : b_at τ gi gr gm A b.toNatClampNeg qb) (up : u_at τ gi gr gm A p.toNatClampNeg qp) (uq : u_at τ gi gr gm A q.toNatClampNeg qq) (sp : u_sl τ gi gr A qp) (sq : u_sl τ gi gr A qq) : F_X0_firstTouch τ Z gi gr (A 1) qa qp qb qq = F_X12_firstTouch τ Z gm rm (A 12) a p b q ∧ (F_X0_firstTouch τ Z gi gr (A 1) qa qp qb qq = -1 ∨ rg 0 23 (F_X0_firstTouch τ Z gi gr (A 1) qa qp qb qq)) := by
  unfold F_X0_firstTouch F_X12_firstTouch
  exact ft_go hC hQ ht hr (fun h h0 h1 => ta_eq hQ hJm hw hwin ht ba bb up uq sp sq h0 h1) _ _ 0 (by decide) (Nat.lt_add_one _) (Nat.lt_add_one _)
theorem s_touch (hJ : th_J τ gi gr) (hJm : th_J τ gm rm) (hC : ro_C τ gr A) (hQ : ro_M τ rm A) (no : c_eq 1 6 8 gi gm A) (nb : c_eq 1 5 0 gi gm A) (wi : c_eq 1 7 14 gi gm A) (hb : c_boat τ gi gr gm A) (hu : c_buoy τ gi gr gm A) (ht : c_tid gi gm A) (hs : c_sl τ gi gr A) (hr : c_rep gi A) (hw : c_way Z gm A) {v p o q r1 r2 : Int32} (e1 : F_X11_touch τ Z gi gr (A 11) v p o q = (r1, gi1)) (e2 : F_X12_touch τ Z gm rm (A 12) v p o q = (r2, gm2)) : r1 = r2 := by
  have no' : gm (A 12) 8 = gi (A 1) 6 := no.symm
  have nb' : gm (A 12) 0 = gi (A 1) 5 := nb.symm
  unfold F_X11_touch f_X11_touch_61 f_X11_touch_78 at e1
  unfold F_X12_touch F_X12_isBoat F_X12_isBuoy f_X12_touch_44 at e2
  dsimp only at e1 e2
  rw [hC.g 11 0 1 (by decide)] at e1
  rw [w0_m, w0_m, w0_m, w0_m, no', nb'] at e2
  by_cases g1 : W0 v 0 (gi (A 1) 6 - 1) = 0
  · rw [bo_no hJ hC g1] at e1
    rw [if_pos g1] at e2
    exact (s_fip hC hQ (w1 := 1) (by decide) (by decide) e1 e2).1
  obtain ⟨f1, f2, f3, f4⟩ := bo_yes (Z := Z) hJ hC g1
  obtain ⟨qa, hqa⟩ := hb v.toNatClampNeg (by rw [f3, no']; exact f4)
  rw [f1, hqa.1] at e1
  rw [if_neg g1] at e2
  by_cases g2 : W0 p 0 (gi (A 1) 5 - 1) = 0
  · simp only [Option.elim_some, bu_no (Z := Z) hJ hC g2, Option.elim_none] at e1
    rw [if_pos g2] at e2
    exact (s_fip hC hQ (w1 := 1) (by decide) (by decide) e1 e2).1
  obtain ⟨m1, m2, m3, m4⟩ := bu_yes (Z := Z) hJ hC g2
  obtain ⟨qp, hqp⟩ := hu p.toNatClampNeg (by rw [m3, nb']; exact m4)
  rw [if_neg g2] at e2
  by_cases g3 : W0 o 0 (gi (A 1) 6 - 1) = 0
  · simp only [Option.elim_some, m1, hqp.1, bo_no (Z := Z) hJ hC g3, Option.elim_none] at e1
    rw [if_pos g3] at e2
    exact (s_fip hC hQ (w1 := 1) (by decide) (by decide) e1 e2).1
  obtain ⟨l1, l2, l3, l4⟩ := bo_yes (Z := Z) hJ hC g3
  obtain ⟨qb, hqb⟩ := hb o.toNatClampNeg (by rw [l3, no']; exact l4)
  rw [if_neg g3] at e2
  by_cases g4 : W0 q 0 (gi (A 1) 5 - 1) = 0
  · simp only [Option.elim_some, m1, hqp.1, l1, hqb.1, bu_no (Z := Z) hJ hC g4, Option.elim_none] at e1
    rw [if_pos g4] at e2
    exact (s_fip hC hQ (w1 := 1) (by decide) (by decide) e1 e2).1
  obtain ⟨n1, n2, n3, n4⟩ := bu_yes (Z := Z) hJ hC g4
  obtain ⟨qq, hqq⟩ := hu q.toNatClampNeg (by rw [n3, nb']; exact n4)
  rw [if_neg g4] at e2
  simp only [Option.elim_some, m1, hqp.1, l1, hqb.1, n1, hqq.1] at e1
  by_cases g5 : v = o
  · rw [if_pos g5] at e1 e2
    exact (s_fip hC hQ (w1 := 1) (by decide) (by decide) e1 e2).1
  rw [if_neg g5] at e1 e2
  by_cases g6 : p = q
  · rw [if_pos g6] at e1 e2
    exact (s_fip hC hQ (w1 := 1) (by decide) (by decide) e1 e2).1
  rw [if_neg g6] at e1 e2
  have k := (ft_eq (Z := Z) hC hQ hJm hw wi ht hr hqa hqb hqp hqq (hs.1 _ qp (by rw [m3]; exact m4) hqp.1) (hs.1 _ qq (by rw [n3]; exact n4) hqq.1)).1
  rw [k] at e1
  exact (pr2 e1).1.symm.trans (pr2 e2).1
end TU
end
section
/-! ===== the start: what rows hold ===== -/
section SV
variable {τ tO : th_t} {Z : th_Zt} {gi gO : th_i} {gr qO : th_r} {h0 h1 : Nat}
theorem fl_24v {q : Nat} {v : Int32} : ∀ (n : Nat) (g : th_i) (y z : Int32), 0 ≤ y.toInt → z.toInt ≤ 100 → (z.toInt - y.toInt).toNat < n → (∀ j : Nat, (j : Int) < y.toInt → f_J7_fill_53178_24_5 τ Z gi gr q v n g y z q j = g q j) ∧ ∀ j : Nat, y.toInt ≤ (j : Int) → (j : Int) < z.toInt → f_J7_fill_53178_24_5 τ Z gi gr q v n g y z q j = v := by
  intro n
  induction n with
  | zero => intro g y z _ _ h; exact absurd h (Nat.not_lt_zero _)
  | succ n ih =>
    intro g y z h0 h1 h
    unfold f_J7_fill_53178_24_5
    dsimp only
    by_cases hc : z ≤ y
    · rw [if_pos hc]
      have hc' := i_le.mp hc
      exact ⟨fun _ _ => rfl, fun j h1 h2 => by omega⟩
    · rw [if_neg hc]
      have hc' := i_ltI.mp (Int32.not_le.mp hc)
      have e := y_1 (m := 100) (by decide) h0 (by omega)
      have cy := i_cl h0
      obtain ⟨k1, k2⟩ := ih (va_up g q (upd (g q) y.toNatClampNeg v)) (y + 1) z (by omega) h1 (by omega)
      refine ⟨fun j hj => ?_, fun j j1 j2 => ?_⟩
      · rw [k1 j (by omega), up_s, ud_n (by omega)]
      · by_cases hj : j = y.toNatClampNeg
        · rw [k1 j (by omega), up_s, hj, ud_s]
        · exact k2 j (by omega) j2
theorem fl_25v {q : Nat} {v : Int32} : ∀ (n : Nat) (g : th_i) (y z : Int32), 0 ≤ y.toInt → z.toInt ≤ 100 → (z.toInt - y.toInt).toNat < n → (∀ j : Nat, (j : Int) < y.toInt → f_J7_fill_53178_25_5 τ Z gi gr q v n g y z q j = g q j) ∧ ∀ j : Nat, y.toInt ≤ (j : Int) → (j : Int) < z.toInt → f_J7_fill_53178_25_5 τ Z gi gr q v n g y z q j = v := by
  intro n
  induction n with
  | zero => intro g y z _ _ h; exact absurd h (Nat.not_lt_zero _)
  | succ n ih =>
    intro g y z h0 h1 h
    unfold f_J7_fill_53178_25_5
    dsimp only
    by_cases hc : z ≤ y
    · rw [if_pos hc]
      have hc' := i_le.mp hc
      exact ⟨fun _ _ => rfl, fun j h1 h2 => by omega⟩
    · rw [if_neg hc]
      have hc' := i_ltI.mp (Int32.not_le.mp hc)
      have e := y_1 (m := 100) (by decide) h0 (by omega)
      have cy := i_cl h0
      obtain ⟨k1, k2⟩ := ih (va_up g q (upd (g q) y.toNatClampNeg v)) (y + 1) z (by omega) h1 (by omega)
      refine ⟨fun j hj => ?_, fun j j1 j2 => ?_⟩
      · rw [k1 j (by omega), up_s, ud_n (by omega)]
      · by_cases hj : j = y.toNatClampNeg
        · rw [k1 j (by omega), up_s, hj, ud_s]
        · exact k2 j (by omega) j2
theorem k_16 : (16 : Int32).toInt = 16 := by decide
theorem k_12 : (12 : Int32).toInt = 12 := by decide
theorem mk_X1v (h : M_X1_init τ Z gi gr h0 tO gO qO) : ∀ a b, qO h0 0 = some a → qO h0 1 = some b → (∀ j : Nat, j < 16 → gO a j = -1) ∧ ∀ j : Nat, j < 12 → gO b j = -1 := by
  unfold M_X1_init at h
  obtain ⟨q1, z1, n1, q4, z4, n4, e1, e2, e3⟩ := h
  obtain ⟨z4', n41⟩ := z_up z4 (by decide)
  intro a b ha hb
  have : q1 = a := Option.some.inj ((mk_at e3 0).symm.trans ha)
  subst this
  have : q4 = b := Option.some.inj ((mk_at e3 1).symm.trans hb)
  subst this
  unfold F_J7_fill_53178_25 F_J7_fill_53178_24 at e2
  refine ⟨fun j hj => ?_, fun j hj => ?_⟩
  · rw [e2, up_n (Ne.symm n1), fl_25 _ _ _ _ _ (Ne.symm n41)]
    exact (fl_24v _ _ 0 16 (by decide) (by decide) (by rw [k_16]; exact Nat.lt_add_one _)).2 j (by rw [k_0]; omega) (by rw [k_16]; omega)
  · rw [e2, up_n (Ne.symm n4)]
    exact (fl_25v _ _ 0 12 (by decide) (by decide) (by rw [k_12]; exact Nat.lt_add_one _)).2 j (by rw [k_0]; omega) (by rw [k_12]; omega)
theorem mk_73v {τ20 : th_t} {q1 q4 q8 q13 q19 : Nat} (hq : q13 ≠ h0) : ∀ (n : Nat) (g : th_i) (r : th_r) (y : Int32), 0 ≤ y.toInt → f_X0_init_73 τ Z gi gr h0 tO gO qO τ20 q1 q4 q8 q13 q19 n g r y → (∀ j : Nat, (j : Int) < y.toInt → gO q13 j = g q13 j) ∧ ∀ j : Nat, j < 24 → y.toInt ≤ (j : Int) → gO q13 j = 1 := by
  intro n
  induction n with
  | zero => intro g r y _ h; exact absurd h (by unfold f_X0_init_73; exact fun q => q)
  | succ n ih =>
    intro g r y y0 h
    unfold f_X0_init_73 at h
    dsimp only at h
    by_cases hc : (24 : Int32) ≤ y
    · rw [if_pos hc] at h
      have hc' := i_le.mp hc
      rw [k_24] at hc'
      exact ⟨fun j _ => by rw [h.2.1, up_n hq], fun j h1 h2 => by omega⟩
    · rw [if_neg hc] at h
      have hc' := i_ltI.mp (Int32.not_le.mp hc)
      rw [k_24] at hc'
      have e := y_1 (m := 100) (by decide) y0 (by omega)
      have cy := i_cl y0
      obtain ⟨g34, hg, h⟩ := h
      obtain ⟨k1, k2⟩ := ih _ _ _ (by omega) h
      refine ⟨fun j hj => ?_, fun j j1 j2 => ?_⟩
      · rw [k1 j (by omega), hg, up_s, ud_n (by omega)]
      · by_cases hj : j = y.toNatClampNeg
        · rw [k1 j (by omega), hg, up_s, hj, ud_s]
        · exact k2 j j1 (by omega)
theorem mk_X0v (h : M_X0_init τ Z gi gr h0 tO gO qO) (hz : τ h0 = 0) : (∀ a, qO h0 3 = some a → ∀ j : Nat, j < 24 → (gO a j = 0 ↔ j = 0)) ∧ ∀ b x y, qO h0 4 = some b → qO b 0 = some x → qO b 1 = some y → (∀ j : Nat, j < 16 → gO x j = -1) ∧ ∀ j : Nat, j < 12 → gO y j = -1 := by
  unfold M_X0_init at h
  obtain ⟨q1, z1, n1, q4, z4, n4, q8, z8, n8, q13, z13, n13, q19, z19, n19, τ20, gi20, gr20, hm, zh, hl⟩ := h
  obtain ⟨f, t1, x0, y0, r0, r1, tx, ty, zx, zy⟩ := mk_X1 hm z19
  obtain ⟨k1, ⟨g', k2, k3⟩, k4⟩ := mk_73 _ _ _ _ hl
  have t13 : va_up (va_up (va_up (va_up τ q1 20) q4 21) q8 22) q13 23 q13 = 23 := up_s
  obtain ⟨u1, u2, u3⟩ := f q13 (by rw [t13]; decide)
  have n13' : q13 ≠ h0 := Ne.symm n13
  refine ⟨fun a ha j hj => ?_, fun b x y hb hx hy => ?_⟩
  · have : q13 = a := Option.some.inj ((mk_at k4 3).symm.trans ha)
    subst this
    obtain ⟨l1, l2⟩ := mk_73v n13' _ _ _ _ (by decide) hl
    by_cases j0 : j = 0
    · subst j0
      rw [l1 0 (by rw [k_1]; decide), u2, up_s]
      exact ⟨fun _ => rfl, fun _ => rfl⟩
    · rw [l2 j hj (by rw [k_1]; omega)]
      exact ⟨fun q => absurd q (by decide), fun q => absurd q j0⟩
  · have bx : x0 ≠ h0 := ne_z (τ := τ20) (by rw [tx]; decide) zh
    have by_ : y0 ≠ h0 := ne_z (τ := τ20) (by rw [ty]; decide) zh
    have bb : q19 ≠ h0 := ne_z (τ := τ20) (by rw [t1]; decide) zh
    have : q19 = b := Option.some.inj ((mk_at k4 4).symm.trans hb)
    subst this
    rw [k4, up_n bb] at hx hy
    have : x0 = x := Option.some.inj (r0.symm.trans hx)
    subst this
    have : y0 = y := Option.some.inj (r1.symm.trans hy)
    subst this
    obtain ⟨v1, v2⟩ := mk_X1v hm x0 y0 r0 r1
    have nx : x0 ≠ q13 := fun e => by rw [e, u1, t13] at tx; exact absurd tx (by decide)
    have ny : y0 ≠ q13 := fun e => by rw [e, u1, t13] at ty; exact absurd ty (by decide)
    refine ⟨fun j hj => ?_, fun j hj => ?_⟩
    · rw [k2, up_n bx, k3 _ nx]
      exact v1 j hj
    · rw [k2, up_n by_, k3 _ ny]
      exact v2 j hj
theorem mk_X10v (h : M_X10_init τ Z gi gr h0 h1 tO gO qO) : gO h0 2 = 0 := by
  unfold M_X10_init at h
  obtain ⟨q1, z1, n1, e1, e2, e3⟩ := h
  rw [e2, up_s]
/-- the class's rows at the start -/
theorem mk_v {A : Nat → Nat} (h : M_X11_init τ Z gi gr h0 tO gO qO) (hz : τ h0 = 0) (hC : ro_C tO qO A) (ha : A 11 = h0) : (∀ j : Nat, j < 24 → (gO (A 23) j = 0 ↔ j = 0)) ∧ (∀ j : Nat, j < 16 → gO (A 24) j = -1) ∧ (∀ j : Nat, j < 12 → gO (A 25) j = -1) ∧ gO (A 10) 2 = 0 ∧ gO (A 36) = fun _ => 0 := by
  unfold M_X11_init at h
  obtain ⟨q1, z1, n1, τ2, gi2, gr2, m0, y2, q5, z5, n5, τ6, gi6, gr6, m10, y6, q10, z10, n10, τ11, gi11, gr11, m7, y11, q16, z16, n16, τ17, gi17, gr17, m6, y17, q23, z23, n23, τ24, gi24, gr24, m5, y24, q31, z31, n31, q39, z39, n39, e1, e2, e3⟩ := h
  obtain ⟨z39', n391⟩ := z_up z39 (by decide)
  obtain ⟨tB, gB, b, x, y, td, rb, rx, ry, tb, tx, ty, rtd, ttd, gtd⟩ := mk_X0 m0 z1
  obtain ⟨f10, t10, r10⟩ := mk_X10 m10 z5
  obtain ⟨f7, t7, r7⟩ := mk_X7 m7 z10
  obtain ⟨f6, t6, r6⟩ := mk_X6 m6 z16
  obtain ⟨f5, t5, r5, b', x', y', rb', rx', ry', zb', zx', zy'⟩ := mk_X5 m5 z23
  have F2 := (f10.tr f7).tr (f6.tr f5)
  have F6 := f7.tr (f6.tr f5)
  have G : ∀ a, τ24 a ≠ 0 → tO a = τ24 a ∧ gO a = gi24 a ∧ qO a = gr24 a := fun a ha => by
    have a0 := ne_z ha y24
    have a1 := ne_z ha z31
    have a2 := ne_z ha z39'
    refine ⟨?_, ?_, ?_⟩
    · rw [e1, va_up_ne _ _ a0, va_up_ne _ _ a2, va_up_ne _ _ a1]
    · rw [e2, va_up_ne _ _ a0, va_up_ne _ _ a2, va_up_ne _ _ a1]
    · rw [e3, va_up_ne _ _ a0]
  have P2 : ∀ a, τ2 a ≠ 0 → tO a = τ2 a ∧ gO a = gi2 a ∧ qO a = gr2 a := fun a ha => by
    obtain ⟨k1, k2, k3⟩ := F2 a ha
    obtain ⟨l0, l1, l2⟩ := G a (by rw [k1]; exact ha)
    exact ⟨l0.trans k1, l1.trans k2, l2.trans k3⟩
  have P6 : gO q5 = gi6 q5 := by
    obtain ⟨k1, k2, k3⟩ := F6 q5 (by rw [t10]; decide)
    obtain ⟨-, l1, l2⟩ := G q5 (by rw [k1, t10]; decide)
    exact l1.trans k2
  have cB : A 1 = q1 := (Option.some.inj ((hC.e 11 0 1 (by decide)).symm.trans (by rw [ha]; exact mk_at e3 0)))
  have cW : A 10 = q5 := (Option.some.inj ((hC.e 11 1 10 (by decide)).symm.trans (by rw [ha]; exact mk_at e3 1)))
  have cF : A 36 = q31 := (Option.some.inj ((hC.e 11 5 36 (by decide)).symm.trans (by rw [ha]; exact mk_at e3 5)))
  have rB := (P2 q1 (by rw [tB]; decide)).2.2
  obtain ⟨v1, v2⟩ := mk_X0v m0 z1
  have r3 : gr2 q1 3 = some (A 23) := by
    rw [← rB, ← cB]
    exact hC.e 1 3 23 (by decide)
  have r4 : gr2 q1 4 = some (A 2) := by
    rw [← rB, ← cB]
    exact hC.e 1 4 2 (by decide)
  have cb : b = A 2 := Option.some.inj (rb.symm.trans r4)
  rw [cb] at rx ry tb
  have rb2 := (P2 (A 2) (by rw [tb]; decide)).2.2
  have cx : x = A 24 := Option.some.inj (rx.symm.trans (by rw [← rb2]; exact hC.e 2 0 24 (by decide)))
  have cy : y = A 25 := Option.some.inj (ry.symm.trans (by rw [← rb2]; exact hC.e 2 1 25 (by decide)))
  rw [cx] at rx tx
  rw [cy] at ry ty
  obtain ⟨w1, w2⟩ := v2 (A 2) (A 24) (A 25) r4 rx ry
  have t23 : τ2 (A 23) ≠ 0 := fun e => by
    unfold M_X0_init at m0
    obtain ⟨p1, u1, s1, p4, u4, s4, p8, u8, s8, p13, u13, s13, p19, u19, s19, τ20, gi20, gr20, hm, zh, hl⟩ := m0
    obtain ⟨f, -⟩ := mk_X1 hm u19
    obtain ⟨k1, -, k4⟩ := mk_73 _ _ _ _ hl
    have e13 : p13 = A 23 := Option.some.inj ((mk_at k4 3).symm.trans r3)
    have t13 : va_up (va_up (va_up (va_up τ p1 20) p4 21) p8 22) p13 23 p13 = 23 := up_s
    have := (f p13 (by rw [t13]; decide)).1
    rw [← e13, k1, up_n (Ne.symm s13), this, t13] at e
    exact absurd e (by decide)
  refine ⟨?_, ?_, ?_, ?_, ?_⟩
  · rw [(P2 _ t23).2.1]
    exact v1 _ r3
  · rw [(P2 _ (by rw [tx]; decide)).2.1]
    exact w1
  · rw [(P2 _ (by rw [ty]; decide)).2.1]
    exact w2
  · rw [cW, P6]
    exact mk_X10v m10
  · rw [cF, e2, up_n (Ne.symm n31), up_n (Ne.symm n391), up_s]
end SV
section SW2
variable {τ0 τ1 τ2 : th_t} {Z : th_Zt} {gi0 gi1 gi2 : th_i} {gr0 gr1 gr2 : th_r} {A : Nat → Nat} {M : List Nat} {sz q2 : Nat}
theorem st_v (m1 : M_X11_init τ0 Z gi0 gr0 (A 11) τ1 gi1 gr1) (z1 : τ0 (A 11) = 0) (hC1 : ro_C τ1 gr1 A) (hx : th_Ext M τ1 gi1 gr1 sz q2 τ2 gi2 gr2) (hM : M = [5200, 5300]) : (∀ j : Nat, j < 24 → (gi2 (A 23) j = 0 ↔ j = 0)) ∧ (∀ j : Nat, j < 16 → gi2 (A 24) j = -1) ∧ (∀ j : Nat, j < 12 → gi2 (A 25) j = -1) ∧ gi2 (A 10) 2 = 0 ∧ gi2 (A 36) = fun _ => 0 := by
  subst hM
  have h := mk_v m1 z1 hC1 rfl
  rw [(ro_ka hx.2.2 (hC1.t 23 23 (by decide) rfl) (by decide) (by decide)).1, (ro_ka hx.2.2 (hC1.t 24 24 (by decide) rfl) (by decide) (by decide)).1, (ro_ka hx.2.2 (hC1.t 25 25 (by decide) rfl) (by decide) (by decide)).1, (ro_ka hx.2.2 (hC1.t 36 36 (by decide) rfl) (by decide) (by decide)).1, (ro_k hx.2.2 2 (hC1.t 10 10 (by decide) rfl) (by decide) (by decide)).1]
  exact h
theorem st_rep (h : ∀ j : Nat, j < 24 → (gi2 (A 23) j = 0 ↔ j = 0)) (ht : gi2 (A 22) = fun _ => 0) : c_rep gi2 A := by
  intro j hj
  rw [h j hj, ht]
  refine ⟨fun q k hk => ?_, fun q => ?_⟩
  · omega
  · by_cases j0 : j = 0
    · exact j0
    · exact absurd rfl (q 0 (by omega))
end SW2
end
section
/-! ===== who lies where; who may lie ===== -/
def be_ok (n b : Int) (x y : Nat → Int32) : Prop := (∀ i : Nat, i < 16 → rg (-1) 11 (x i) ∧ (0 ≤ (x i).toInt → (i : Int) < n ∧ (x i).toInt < b ∧ (y (x i).toNatClampNeg).toInt = (i : Int))) ∧ ∀ p : Nat, p < 12 → rg (-1) 15 (y p) ∧ (0 ≤ (y p).toInt → (p : Int) < b ∧ (y p).toInt < n ∧ (x (y p).toNatClampNeg).toInt = (p : Int))
theorem be_mono {n b n' b' : Int} {x y : Nat → Int32} (h : be_ok n b x y) (hn : n ≤ n') (hb : b ≤ b') : be_ok n' b' x y := by
  refine ⟨fun i hi => ?_, fun p hp => ?_⟩
  · obtain ⟨k1, k2⟩ := h.1 i hi
    exact ⟨k1, fun q => by have := k2 q; exact ⟨by omega, by omega, this.2.2⟩⟩
  · obtain ⟨k1, k2⟩ := h.2 p hp
    exact ⟨k1, fun q => by have := k2 q; exact ⟨by omega, by omega, this.2.2⟩⟩
theorem m1_of {x : Int32} {hi : Int} (h : rg (-1) hi x) (q : x.toInt < 0) : x = -1 := i_inj (by rw [k_m1]; have := h.1; omega)
theorem be_x {n b : Int} {x y : Nat → Int32} (h : be_ok n b x y) {i : Nat} (hi : i < 16) : x i = -1 ∨ (0 ≤ (x i).toInt ∧ (x i).toInt < b ∧ (x i).toInt ≤ 11 ∧ (i : Int) < n ∧ (y (x i).toNatClampNeg).toInt = (i : Int)) := by
  obtain ⟨k1, k2⟩ := h.1 i hi
  by_cases q : 0 ≤ (x i).toInt
  · obtain ⟨a, c, d⟩ := k2 q
    exact Or.inr ⟨q, c, k1.2, a, d⟩
  · exact Or.inl (m1_of k1 (by omega))
theorem be_y {n b : Int} {x y : Nat → Int32} (h : be_ok n b x y) {p : Nat} (hp : p < 12) : y p = -1 ∨ (0 ≤ (y p).toInt ∧ (y p).toInt < n ∧ (y p).toInt ≤ 15 ∧ (p : Int) < b ∧ (x (y p).toNatClampNeg).toInt = (p : Int)) := by
  obtain ⟨k1, k2⟩ := h.2 p hp
  by_cases q : 0 ≤ (y p).toInt
  · obtain ⟨a, c, d⟩ := k2 q
    exact Or.inr ⟨q, c, k1.2, a, d⟩
  · exact Or.inl (m1_of k1 (by omega))
theorem be_put {n b : Int} {x y : Nat → Int32} {v p : Int32} (h : be_ok n b x y) (hv : 0 ≤ v.toInt) (hv2 : v.toInt < n) (hn : n ≤ 16) (hp : 0 ≤ p.toInt) (hp2 : p.toInt < b) (hb : b ≤ 12) (fx : x v.toNatClampNeg = -1) (fy : y p.toNatClampNeg = -1) : be_ok n b (upd x v.toNatClampNeg p) (upd y p.toNatClampNeg v) := by
  have cv := i_cl hv
  have cp := i_cl hp
  refine ⟨fun i hi => ?_, fun j hj => ?_⟩
  · by_cases e : i = v.toNatClampNeg
    · subst e
      rw [ud_s]
      exact ⟨⟨by omega, by omega⟩, fun _ => ⟨by omega, hp2, by rw [ud_s]; exact cv.symm⟩⟩
    · rw [ud_n e]
      obtain ⟨k1, k2⟩ := h.1 i hi
      refine ⟨k1, fun q => ?_⟩
      obtain ⟨a, c, d⟩ := k2 q
      refine ⟨a, c, ?_⟩
      have ne : (x i).toNatClampNeg ≠ p.toNatClampNeg := fun e' => by
        rw [e', fy, k_m1] at d
        omega
      rw [ud_n ne]
      exact d
  · by_cases e : j = p.toNatClampNeg
    · subst e
      rw [ud_s]
      exact ⟨⟨by omega, by omega⟩, fun _ => ⟨by omega, hv2, by rw [ud_s]; exact cp.symm⟩⟩
    · rw [ud_n e]
      obtain ⟨k1, k2⟩ := h.2 j hj
      refine ⟨k1, fun q => ?_⟩
      obtain ⟨a, c, d⟩ := k2 q
      refine ⟨a, c, ?_⟩
      have ne : (y j).toNatClampNeg ≠ v.toNatClampNeg := fun e' => by
        rw [e', fx, k_m1] at d
        omega
      rw [ud_n ne]
      exact d
theorem be_lift {n b : Int} {x y : Nat → Int32} {v : Int32} (h : be_ok n b x y) (hv : 0 ≤ v.toInt) (hv2 : v.toInt < 16) (hx : 0 ≤ (x v.toNatClampNeg).toInt) : be_ok n b (upd x v.toNatClampNeg (-1)) (upd y (x v.toNatClampNeg).toNatClampNeg (-1)) := by
  have cv := i_cl hv
  obtain ⟨r, kx⟩ := h.1 v.toNatClampNeg (by omega)
  obtain ⟨a0, b0, d0⟩ := kx hx
  have cx := i_cl hx
  have m1r : ∀ hi : Int, 0 ≤ hi → rg (-1) hi (-1 : Int32) := fun hi q => ⟨by rw [k_m1]; omega, by rw [k_m1]; omega⟩
  refine ⟨fun i hi => ?_, fun j hj => ?_⟩
  · by_cases e : i = v.toNatClampNeg
    · subst e
      rw [ud_s]
      exact ⟨m1r _ (by decide), fun q => by rw [k_m1] at q; omega⟩
    · rw [ud_n e]
      obtain ⟨k1, k2⟩ := h.1 i hi
      refine ⟨k1, fun q => ?_⟩
      obtain ⟨a, c, d⟩ := k2 q
      refine ⟨a, c, ?_⟩
      have ne : (x i).toNatClampNeg ≠ (x v.toNatClampNeg).toNatClampNeg := fun e' => by
        rw [e', d0] at d
        omega
      rw [ud_n ne]
      exact d
  · by_cases e : j = (x v.toNatClampNeg).toNatClampNeg
    · rw [e, ud_s]
      exact ⟨m1r _ (by decide), fun q => by rw [k_m1] at q; omega⟩
    · rw [ud_n e]
      obtain ⟨k1, k2⟩ := h.2 j hj
      refine ⟨k1, fun q => ?_⟩
      obtain ⟨a, c, d⟩ := k2 q
      refine ⟨a, c, ?_⟩
      have cy := i_cl q
      have ne : (y j).toNatClampNeg ≠ v.toNatClampNeg := fun e' => by
        rw [e'] at d
        omega
      rw [ud_n ne]
      exact d
section ML
variable {τ τ1 : th_t} {Z : th_Zt} {gi gi1 gm gm2 : th_i} {gr gr1 rm rm2 : th_r} {A : Nat → Nat} {M1 M2 : List Nat}
theorem k_15 : (15 : Int32).toInt = 15 := by decide
theorem k_11 : (11 : Int32).toInt = 11 := by decide
theorem bo_of {B X : Nat} {v : Int32} (hX : gr B 0 = some X) (h0 : 0 ≤ v.toInt) (h1 : v.toInt < 16) : F_X1_buoyOf τ Z gi gr B v = gi X v.toNatClampNeg := by
  unfold F_X1_buoyOf
  dsimp only
  rw [w0_c, if_neg (w0_in (by rw [k_0]; exact h0) (by rw [k_15]; omega)), hX]
  rfl
theorem bu_of {B Y : Nat} {p : Int32} (hY : gr B 1 = some Y) (h0 : 0 ≤ p.toInt) (h1 : p.toInt < 12) : F_X1_boatOf τ Z gi gr B p = gi Y p.toNatClampNeg := by
  unfold F_X1_boatOf
  dsimp only
  rw [w0_c, if_neg (w0_in (by rw [k_0]; exact h0) (by rw [k_11]; omega)), hY]
  rfl
/-- all that may-lie rests on -/
def q_all (τ : th_t) (Z : th_Zt) (gi : th_i) (gr : th_r) (gm : th_i) (rm : th_r) (A : Nat → Nat) : Prop := th_J τ gi gr ∧ th_J τ gm rm ∧ ro_C τ gr A ∧ ro_M τ rm A ∧ c_eq 1 6 8 gi gm A ∧ c_eq 1 5 0 gi gm A ∧ c_eq 1 7 14 gi gm A ∧ c_boat τ gi gr gm A ∧ c_buoy τ gi gr gm A ∧ c_tid gi gm A ∧ c_sl τ gi gr A ∧ c_least gi A ∧ c_rep gi A ∧ c_way Z gm A
theorem ml_go (Q : q_all τ Z gi gr gm rm A) {v p : Int32} {qb qp B X m : Nat} {b : Int} {y0 : Nat → Int32} (hb : b_at τ gi gr gm A v.toNatClampNeg qb) (hp : u_at τ gi gr gm A p.toNatClampNeg qp) (hv : 0 ≤ v.toInt) (hpp : 0 ≤ p.toInt) (hp2 : p.toInt < (gm (A 12) 0).toInt) (hX : gr B 0 = some X) (hbe : be_ok b (gm (A 12) 0).toInt (gi X) y0) (hm : ∀ i : Nat, (i : Int) < (gm (A 12) 8).toInt → i ≠ v.toNatClampNeg → gi X i = gm m i) (free : ∀ i : Nat, (i : Int) < (gm (A 12) 8).toInt → i ≠ v.toNatClampNeg → ¬ gi X i = p) : ∀ (n k : Nat) (y : Int32), 0 ≤ y.toInt → (16 - y.toInt).toNat < n → (16 - y.toInt).toNat < k → f_X0_mayLie_26 τ Z gi gr (A 1) qb qp B n y = f_X12_mayLie_14 τ Z gm rm (A 12) v p m k y := by
  obtain ⟨hJ, hJm, hC, hQ, no, nb, wi, cb, cu, ct, cs, cl, cr, cw⟩ := Q
  have no' : gm (A 12) 8 = gi (A 1) 6 := no.symm
  have nb' : gm (A 12) 0 = gi (A 1) 5 := nb.symm
  have n16 := n_b hJ hC
  have n12 := n_p hJ hC
  have n162 := n16.2
  have n122 := n12.2
  have hqb : gi qb 0 = v := i_inj (by rw [hb.2.1]; exact i_cl hv)
  intro n
  induction n with
  | zero => intro k y _ h; exact absurd h (Nat.not_lt_zero _)
  | succ n ih =>
    intro k y h0 h hk
    cases k with
    | zero => exact absurd hk (Nat.not_lt_zero _)
    | succ k =>
      unfold f_X0_mayLie_26 f_X0_mayLie_54 f_X0_mayLie_94 f_X12_mayLie_14 f_X12_mayLie_61
      dsimp only
      rw [no']
      by_cases hc : gi (A 1) 6 ≤ y
      · rw [if_pos hc, if_pos hc]
      · rw [if_neg hc, if_neg hc]
        have hc' := i_ltI.mp (Int32.not_le.mp hc)
        have cy := i_cl h0
        have e := y_1 (m := 16) (by decide) h0 (by omega)
        have I := ih k (y + 1) (by omega) (by omega) (by omega)
        rw [hqb]
        by_cases hy : y = v
        · rw [if_pos hy, if_pos hy]
          exact I
        · rw [if_neg hy, if_neg hy, bo_g hC n16 h0 hc', bo_of hX h0 (by omega)]
          obtain ⟨qy, hqy⟩ := cb y.toNatClampNeg (by rw [no']; omega)
          have ny : y.toNatClampNeg ≠ v.toNatClampNeg := fun e' => hy (i_inj (by have := i_cl hv; omega))
          have ex := hm y.toNatClampNeg (by rw [no']; omega) ny
          have fr := free y.toNatClampNeg (by rw [no']; omega) ny
          rw [hqy.1, ← ex]
          simp only [Option.elim_some]
          rcases be_x hbe (i := y.toNatClampNeg) (by omega) with em | ⟨t0, t1, t2, -, -⟩
          · rw [em, bu_gn n12 (by rw [k_m1]; omega), if_pos (by decide)]
            exact I
          · rw [bu_g hC n12 t0 (by rw [← nb']; exact t1), if_neg (fun q => by have := i_ltI.mp q; rw [k_0] at this; omega), if_neg fr]
            have ct' := i_cl t0
            obtain ⟨qt, hqt⟩ := cu (gi X y.toNatClampNeg).toNatClampNeg (by omega)
            obtain ⟨k1, k2⟩ := ft_eq (Z := Z) hC hQ hJm cw wi ct cr hb hqy hp hqt (cs.1 _ qp (by rw [← nb']; have := i_cl hpp; omega) hp.1) (cs.1 _ qt (by rw [← nb']; omega) hqt.1)
            rw [hqt.1]
            simp only [Option.elim_some]
            rw [← k1]
            rcases k2 with z | z
            · rw [z, if_pos rfl, if_pos (by decide)]
              exact I
            · rw [if_neg (fun q => by rw [q, rg, k_m1] at z; omega), if_neg (fun q => by have := i_ltI.mp q; rw [k_0] at this; have := z.1; omega)]
theorem ml_z (Q : q_all τ Z gi gr gm rm A) {v p : Int32} {m i0 : Nat} (hi : (i0 : Int) < (gm (A 12) 8).toInt) (hv : 0 ≤ v.toInt) (ni : i0 ≠ v.toNatClampNeg) (hm : gm m i0 = p) (hp : 0 ≤ p.toInt) : ∀ (n : Nat) (y : Int32), 0 ≤ y.toInt → y.toInt ≤ (i0 : Int) → (16 - y.toInt).toNat < n → f_X12_mayLie_14 τ Z gm rm (A 12) v p m n y = 0 := by
  obtain ⟨hJ, hJm, hC, hQ, no, -⟩ := Q
  have no' : gm (A 12) 8 = gi (A 1) 6 := no.symm
  have n162 := (n_b hJ hC).2
  rw [no'] at hi
  intro n
  induction n with
  | zero => intro y _ _ h; exact absurd h (Nat.not_lt_zero _)
  | succ n ih =>
    intro y h0 hy h
    unfold f_X12_mayLie_14 f_X12_mayLie_61
    dsimp only
    rw [no']
    have cy := i_cl h0
    have e := y_1 (m := 16) (by decide) h0 (by omega)
    rw [if_neg (fun q => by have := i_le.mp q; omega)]
    by_cases e0 : y.toInt = (i0 : Int)
    · have ey : y.toNatClampNeg = i0 := by omega
      rw [if_neg (fun q => ni (by rw [← ey, q])), ey, hm, if_neg (fun q => by have := i_ltI.mp q; rw [k_0] at this; omega), if_pos rfl]
    · have I := ih (y + 1) (by omega) (by omega) (by omega)
      by_cases c1 : y = v
      · rw [if_pos c1]
        exact I
      · rw [if_neg c1]
        by_cases c2 : gm m y.toNatClampNeg < 0
        · rw [if_pos c2]
          exact I
        · rw [if_neg c2]
          by_cases c3 : gm m y.toNatClampNeg = p
          · rw [if_pos c3]
          · rw [if_neg c3]
            by_cases c4 : F_X12_firstTouch τ Z gm rm (A 12) v p y (gm m y.toNatClampNeg) < 0
            · rw [if_pos c4]
              exact I
            · rw [if_neg c4]
/-- may lie: the same -/
theorem ml_eq (Q : q_all τ Z gi gr gm rm A) {v p : Int32} {qb qp B X Y m : Nat} (hb : b_at τ gi gr gm A v.toNatClampNeg qb) (hp : u_at τ gi gr gm A p.toNatClampNeg qp) (hv : 0 ≤ v.toInt) (hpp : 0 ≤ p.toInt) (hp2 : p.toInt < (gm (A 12) 0).toInt) (hX : gr B 0 = some X) (hY : gr B 1 = some Y) (hbe : be_ok (gm (A 12) 8).toInt (gm (A 12) 0).toInt (gi X) (gi Y)) (hm : ∀ i : Nat, (i : Int) < (gm (A 12) 8).toInt → i ≠ v.toNatClampNeg → gi X i = gm m i) (hvp : ¬ gi X v.toNatClampNeg = p) : F_X0_mayLie τ Z gi gr (A 1) qb qp B = F_X12_mayLie τ Z gm rm (A 12) v p m := by
  have Q' := Q
  obtain ⟨hJ, hJm, hC, hQ, no, nb, wi, cb, cu, ct, cs, cl, cr, cw⟩ := Q'
  have nb' : gm (A 12) 0 = gi (A 1) 5 := nb.symm
  have no' : gm (A 12) 8 = gi (A 1) 6 := no.symm
  have n122 := (n_p hJ hC).2
  have n162 := (n_b hJ hC).2
  have cp := i_cl hpp
  rw [nb'] at hp2
  have hqp : gi qp 0 = p := i_inj (by rw [hp.2.2.1]; exact cp)
  unfold F_X0_mayLie F_X12_mayLie
  dsimp only
  rw [hqp, bu_of hY hpp (by omega), fits_eq hQ hJm ct cl hb hp]
  rcases be_y hbe (p := p.toNatClampNeg) (by omega) with em | ⟨t0, t1, t2, t3, t4⟩
  · rw [em, if_pos rfl]
    by_cases c : F_X12_canFit τ Z gm rm (A 12) v p = 0
    · rw [if_pos c, if_pos c]
    · rw [if_neg c, if_neg c]
      refine ml_go Q hb hp hv hpp (by rw [nb']; exact hp2) hX hbe hm (fun i hi ni q => ?_) _ _ 0 (by decide) (Nat.lt_add_one _) (Nat.lt_add_one _)
      rcases be_x hbe (i := i) (by rw [no'] at hi; omega) with z | ⟨-, -, -, -, z⟩
      · rw [z] at q
        rw [← q, k_m1] at hpp
        omega
      · rw [q, em, k_m1] at z
        omega
  · rw [if_neg (fun q => by rw [q, k_m1] at t0; omega)]
    by_cases c : F_X12_canFit τ Z gm rm (A 12) v p = 0
    · rw [if_pos c]
    · rw [if_neg c]
      have cy := i_cl t0
      have ep : gi X (gi Y p.toNatClampNeg).toNatClampNeg = p := i_inj (by rw [t4]; exact cp)
      have ni : (gi Y p.toNatClampNeg).toNatClampNeg ≠ v.toNatClampNeg := fun e => hvp (by rw [← e]; exact ep)
      exact (ml_z Q (i0 := (gi Y p.toNatClampNeg).toNatClampNeg) (by omega) hv ni (by rw [← hm _ (by omega) ni]; exact ep) hpp _ 0 (by decide) (by rw [k_0]; omega) (Nat.lt_add_one _)).symm
end ML
end
section
/-! ===== THE LIST ===== -/
def li_dr (q : Nat → Int32) (p : Nat) : Nat → Int32 := fun k => if k < p then q k else q (k + 1)
/-- who waits: numbers of BOATS that lie nowhere, each once -/
def li_ok (n : Int) (s : Int32) (q x : Nat → Int32) : Prop := rg 0 10 s ∧ (∀ k : Nat, (k : Int) < s.toInt → 0 ≤ (q k).toInt ∧ (q k).toInt < n ∧ x (q k).toNatClampNeg = -1) ∧ ∀ k k' : Nat, (k : Int) < s.toInt → (k' : Int) < s.toInt → q k = q k' → k = k'
theorem k_10' : (10 : Int32).toInt = 10 := by decide
theorem s_m1 {s : Int32} (h : rg 0 10 s) : (s - 1).toInt = s.toInt - 1 := by
  obtain ⟨h1, h2⟩ := h
  rw [i_sub (by rw [k_1]; omega) (by rw [k_1]; omega), k_1]
theorem li_drop {n : Int} {s : Int32} {q x q' : Nat → Int32} {p : Nat} (h : li_ok n s q x) (hp : (p : Int) < s.toInt) (hq : ∀ k : Nat, (k : Int) < s.toInt - 1 → q' k = li_dr q p k) : li_ok n (s - 1) q' x := by
  obtain ⟨h1, h2, h3⟩ := h
  have e := s_m1 h1
  have h12 := h1.2
  have sh : ∀ k : Nat, (k : Int) < s.toInt - 1 → ∃ j : Nat, (j : Int) < s.toInt ∧ q' k = q j ∧ (j = k ∧ k < p ∨ j = k + 1 ∧ ¬ k < p) := fun k hk => by
    rw [hq k hk]
    unfold li_dr
    by_cases c : k < p
    · rw [if_pos c]
      exact ⟨k, by omega, rfl, Or.inl ⟨rfl, c⟩⟩
    · rw [if_neg c]
      exact ⟨k + 1, by omega, rfl, Or.inr ⟨rfl, c⟩⟩
  refine ⟨⟨by omega, by omega⟩, fun k hk => ?_, fun k k' hk hk' he => ?_⟩
  · rw [e] at hk
    obtain ⟨j, j1, j2, -⟩ := sh k hk
    rw [j2]
    exact h2 j j1
  · rw [e] at hk hk'
    obtain ⟨j, j1, j2, j3⟩ := sh k hk
    obtain ⟨i, i1, i2, i3⟩ := sh k' hk'
    have := h3 j i j1 i1 (by rw [← j2, ← i2]; exact he)
    omega
theorem li_app {n : Int} {s v : Int32} {q x : Nat → Int32} (h : li_ok n s q x) (hs : s.toInt < 10) (v0 : 0 ≤ v.toInt) (v1 : v.toInt < n) (hx : x v.toNatClampNeg = -1) (hn : ∀ k : Nat, (k : Int) < s.toInt → ¬ q k = v) : li_ok n (s + 1) (upd q s.toNatClampNeg v) x := by
  obtain ⟨h1, h2, h3⟩ := h
  have e := y_1 (m := 10) (by decide) h1.1 h1.2
  have cs := i_cl h1.1
  have h10 := h1.1
  refine ⟨⟨by omega, by omega⟩, fun k hk => ?_, fun k k' hk hk' he => ?_⟩
  · rw [e] at hk
    by_cases c : k = s.toNatClampNeg
    · rw [c, ud_s]
      exact ⟨v0, v1, hx⟩
    · rw [ud_n c]
      exact h2 k (by omega)
  · rw [e] at hk hk'
    by_cases c : k = s.toNatClampNeg
    · by_cases c' : k' = s.toNatClampNeg
      · omega
      · rw [c, ud_s, ud_n c'] at he
        exact absurd he.symm (hn k' (by omega))
    · by_cases c' : k' = s.toNatClampNeg
      · rw [c', ud_s, ud_n c] at he
        exact absurd he (hn k (by omega))
      · rw [ud_n c, ud_n c'] at he
        exact h3 k k' (by omega) (by omega) he
/-- a BOAT that is not on it comes to lie -/
theorem li_lie {n : Int} {s v w : Int32} {q x : Nat → Int32} (h : li_ok n s q x) (v0 : 0 ≤ v.toInt) (hn : ∀ k : Nat, (k : Int) < s.toInt → ¬ q k = v) : li_ok n s q (upd x v.toNatClampNeg w) := by
  obtain ⟨h1, h2, h3⟩ := h
  refine ⟨h1, fun k hk => ?_, h3⟩
  obtain ⟨a, b, c⟩ := h2 k hk
  refine ⟨a, b, ?_⟩
  rw [ud_n (fun e => hn k hk (i_inj (by have := i_cl a; have := i_cl v0; omega)))]
  exact c
theorem li_mono {n n' : Int} {s : Int32} {q x x' : Nat → Int32} (h : li_ok n s q x) (hn : n ≤ n') (hx : ∀ k : Nat, x k = -1 → x' k = -1) : li_ok n' s q x' := ⟨h.1, fun k hk => by
  obtain ⟨a, b, c⟩ := h.2.1 k hk
  exact ⟨a, by omega, hx _ c⟩, h.2.2⟩
section LI
variable {τ τ1 : th_t} {Z : th_Zt} {gi gi1 gm gm2 : th_i} {gr gr1 rm rm2 : th_r} {A : Nat → Nat} {M1 M2 : List Nat}
theorem pl_sp (hC : ro_C τ gr A) {g : th_i} {v : Int32} (hs : rg 0 10 (g (A 10) 2)) : ∀ (n : Nat) (y : Int32), 0 ≤ y.toInt → (10 - y.toInt).toNat < n → (f_X10_placeOf_2 τ Z g gr (A 10) v n y = -1 ∧ ∀ k : Nat, y.toInt ≤ (k : Int) → (k : Int) < (g (A 10) 2).toInt → ¬ g (A 35) k = v) ∨ ∃ k : Nat, y.toInt ≤ (k : Int) ∧ (k : Int) < (g (A 10) 2).toInt ∧ g (A 35) k = v ∧ (f_X10_placeOf_2 τ Z g gr (A 10) v n y).toInt = (k : Int) ∧ ∀ j : Nat, y.toInt ≤ (j : Int) → j < k → ¬ g (A 35) j = v := by
  have hs2 := hs.2
  intro n
  induction n with
  | zero => intro y _ h; exact absurd h (Nat.not_lt_zero _)
  | succ n ih =>
    intro y h0 h
    unfold f_X10_placeOf_2
    dsimp only
    rw [hC.g 10 1 35 (by decide)]
    by_cases hc : g (A 10) 2 ≤ y
    · rw [if_pos hc]
      have hc' := i_le.mp hc
      exact Or.inl ⟨rfl, fun k h1 h2 => by omega⟩
    · rw [if_neg hc]
      have hc' := i_ltI.mp (Int32.not_le.mp hc)
      have cy := i_cl h0
      by_cases he : g (A 35) y.toNatClampNeg = v
      · rw [if_pos he]
        exact Or.inr ⟨y.toNatClampNeg, by omega, by omega, he, by omega, fun j h1 h2 => by omega⟩
      · rw [if_neg he]
        have e := y_1 (m := 10) (by decide) h0 (by omega)
        rcases ih (y + 1) (by omega) (by omega) with ⟨k1, k2⟩ | ⟨k, k1, k2, k3, k4, k5⟩
        · refine Or.inl ⟨k1, fun k h1 h2 => ?_⟩
          by_cases hk : (k : Int) = y.toInt
          · rw [← cl_in hk]
            exact he
          · exact k2 k (by omega) h2
        · refine Or.inr ⟨k, by omega, k2, k3, k4, fun j h1 h2 => ?_⟩
          by_cases hk : (j : Int) = y.toInt
          · rw [← cl_in hk]
            exact he
          · exact k5 j (by omega) h2
theorem pl_at (hC : ro_C τ gr A) {g : th_i} {v : Int32} (hs : rg 0 10 (g (A 10) 2)) : (F_X10_placeOf τ Z g gr (A 10) v = -1 ∧ ∀ k : Nat, (k : Int) < (g (A 10) 2).toInt → ¬ g (A 35) k = v) ∨ ∃ k : Nat, (k : Int) < (g (A 10) 2).toInt ∧ g (A 35) k = v ∧ (F_X10_placeOf τ Z g gr (A 10) v).toInt = (k : Int) := by
  unfold F_X10_placeOf
  rcases pl_sp (Z := Z) hC (v := v) hs ((10 - (0 : Int32).toInt).toNat + 1) 0 (by decide) (Nat.lt_add_one _) with ⟨k1, k2⟩ | ⟨k, k1, k2, k3, k4, k5⟩
  · exact Or.inl ⟨k1, fun k hk => k2 k (by rw [k_0]; omega) hk⟩
  · exact Or.inr ⟨k, k2, k3, k4⟩
theorem pl_eq (hC : ro_C τ gr A) (hQ : ro_M τ rm A) {v : Int32} (hs : rg 0 10 (gi (A 10) 2)) (es : gi (A 10) 2 = gm (A 12) 17) (er : ∀ k : Nat, (k : Int) < (gi (A 10) 2).toInt → gi (A 35) k = gm (A 54) k) : F_X10_placeOf τ Z gi gr (A 10) v = F_X12_placeOnList τ Z gm rm (A 12) v := by
  have hs2 := hs.2
  unfold F_X10_placeOf F_X12_placeOnList
  have go : ∀ (n : Nat) (y : Int32), 0 ≤ y.toInt → (10 - y.toInt).toNat < n → f_X10_placeOf_2 τ Z gi gr (A 10) v n y = f_X12_placeOnList_2 τ Z gm rm (A 12) v n y := by
    intro n
    induction n with
    | zero => intro y _ h; exact absurd h (Nat.not_lt_zero _)
    | succ n ih =>
      intro y h0 h
      unfold f_X10_placeOf_2 f_X12_placeOnList_2
      dsimp only
      rw [hC.g 10 1 35 (by decide), hQ.g 18 54 (by decide), ← es]
      by_cases hc : gi (A 10) 2 ≤ y
      · rw [if_pos hc, if_pos hc]
      · have hc' := i_ltI.mp (Int32.not_le.mp hc)
        have cy := i_cl h0
        have e := y_1 (m := 10) (by decide) h0 (by omega)
        rw [if_neg hc, if_neg hc, er y.toNatClampNeg (by omega), ih (y + 1) (by omega) (by omega)]
  exact go _ 0 (by decide) (Nat.lt_add_one _)
theorem dr_19 (hC : ro_C τ gr A) {v : Int32} : ∀ (n : Nat) (g : th_i) (y : Int32), rg 0 10 (g (A 10) 2) → 1 ≤ y.toInt → (10 - y.toInt).toNat < n → f_X10_drop_19 τ Z gi gr (A 10) v n g y (A 10) = upd (g (A 10)) 2 (g (A 10) 2 - 1) ∧ (∀ a, a ≠ A 10 → a ≠ A 35 → f_X10_drop_19 τ Z gi gr (A 10) v n g y a = g a) ∧ ∀ k : Nat, (k : Int) < (g (A 10) 2).toInt - 1 → f_X10_drop_19 τ Z gi gr (A 10) v n g y (A 35) k = if (k : Int) < y.toInt - 1 then g (A 35) k else g (A 35) (k + 1) := by
  have t10 := hC.t 10 10 (by decide) rfl
  have t35 := hC.t 35 35 (by decide) rfl
  have n1 := ro_ne t10 t35 (by decide)
  intro n
  induction n with
  | zero => intro g y _ _ h; exact absurd h (Nat.not_lt_zero _)
  | succ n ih =>
    intro g y hs h0 h
    have hs2 := hs.2
    have hu : f_X10_drop_19 τ Z gi gr (A 10) v (n + 1) g y = if g (A 10) 2 ≤ y then va_up g (A 10) (upd (g (A 10)) 2 (g (A 10) 2 - 1)) else f_X10_drop_19 τ Z gi gr (A 10) v n (va_up g (A 35) (upd (g (A 35)) (y - 1).toNatClampNeg (g (A 35) y.toNatClampNeg))) (y + 1) := by
      rw [← hC.g 10 1 35 (by decide)]
      rfl
    rw [hu]
    by_cases hc : g (A 10) 2 ≤ y
    · rw [if_pos hc]
      have hc' := i_le.mp hc
      refine ⟨up_s, fun a h1 _ => up_n h1, fun k hk => ?_⟩
      rw [up_n (Ne.symm n1), if_pos (by omega)]
    · rw [if_neg hc]
      have hc' := i_ltI.mp (Int32.not_le.mp hc)
      have cy := i_cl (v := y) (by omega)
      have e := y_1 (m := 10) (by decide) (y := y) (by omega) (by omega)
      have e1 : (y - 1).toInt = y.toInt - 1 := by rw [i_sub (by rw [k_1]; omega) (by rw [k_1]; omega), k_1]
      have cy1 := i_cl (v := y - 1) (by omega)
      have g10 : va_up g (A 35) (upd (g (A 35)) (y - 1).toNatClampNeg (g (A 35) y.toNatClampNeg)) (A 10) = g (A 10) := up_n n1
      obtain ⟨k1, k2, k3⟩ := ih (va_up g (A 35) (upd (g (A 35)) (y - 1).toNatClampNeg (g (A 35) y.toNatClampNeg))) (y + 1) (by rw [g10]; exact hs) (by omega) (by omega)
      rw [g10] at k1 k3
      rw [up_s] at k3
      refine ⟨k1, fun a h1 h2 => by rw [k2 a h1 h2, up_n h2], fun k hk => ?_⟩
      rw [k3 k hk]
      by_cases c : (k : Int) < y.toInt - 1
      · rw [if_pos (by omega), if_pos c, ud_n (by omega)]
      · rw [if_neg c]
        by_cases c2 : (k : Int) < (y + 1).toInt - 1
        · rw [if_pos c2]
          have ek : k = (y - 1).toNatClampNeg := by omega
          have ey : y.toNatClampNeg = k + 1 := by omega
          rw [ek, ud_s, ← ek, ey]
        · rw [if_neg c2, ud_n (by omega)]
theorem dr_sp (hC : ro_C τ gr A) {p : Int32} (hs : rg 0 10 (gi (A 10) 2)) (h0 : 0 ≤ p.toInt) (h1 : p.toInt < (gi (A 10) 2).toInt) : F_X10_drop τ Z gi gr (A 10) p (A 10) = upd (gi (A 10)) 2 (gi (A 10) 2 - 1) ∧ (∀ a, a ≠ A 10 → a ≠ A 35 → F_X10_drop τ Z gi gr (A 10) p a = gi a) ∧ ∀ k : Nat, (k : Int) < (gi (A 10) 2).toInt - 1 → F_X10_drop τ Z gi gr (A 10) p (A 35) k = li_dr (gi (A 35)) p.toNatClampNeg k := by
  have hs2 := hs.2
  have cp := i_cl h0
  have e := y_1 (m := 10) (by decide) h0 (by omega)
  unfold F_X10_drop
  dsimp only
  rw [w0_c, if_neg (fun q => (w0_n (by decide) hs).mp q ⟨h0, h1⟩)]
  obtain ⟨k1, k2, k3⟩ := dr_19 (Z := Z) (gi := gi) hC (v := p) ((10 - (p + 1).toInt).toNat + 1) gi (p + 1) hs (by omega) (Nat.lt_add_one _)
  refine ⟨k1, k2, fun k hk => ?_⟩
  rw [k3 k hk]
  unfold li_dr
  by_cases c : k < p.toNatClampNeg
  · rw [if_pos c, if_pos (by omega)]
  · rw [if_neg c, if_neg (by omega)]
theorem dr_no (hC : ro_C τ gr A) {p : Int32} (hs : rg 0 10 (gi (A 10) 2)) (h : p.toInt < 0) : F_X10_drop τ Z gi gr (A 10) p = gi := by
  unfold F_X10_drop
  dsimp only
  rw [w0_c, if_pos ((w0_n (by decide) hs).mpr (fun q => by omega))]
theorem go_12 (hQ : ro_M τ rm A) {v : Int32} : ∀ (n : Nat) (g : th_i) (y : Int32), rg 0 9 (g (A 12) 17) → 0 ≤ y.toInt → (9 - y.toInt).toNat < n → (∀ a, a ≠ A 54 → f_X12_goesOff_12 τ Z gi rm (A 12) v n g y a = g a) ∧ ∀ k : Nat, (k : Int) < (g (A 12) 17).toInt → f_X12_goesOff_12 τ Z gi rm (A 12) v n g y (A 54) k = if (k : Int) < y.toInt then g (A 54) k else g (A 54) (k + 1) := by
  have t54 := hQ.t 18 54 (by decide)
  have n1 := ro_ne hQ.1 t54 (by decide)
  intro n
  induction n with
  | zero => intro g y _ _ h; exact absurd h (Nat.not_lt_zero _)
  | succ n ih =>
    intro g y hs h0 h
    have hs2 := hs.2
    have hu : f_X12_goesOff_12 τ Z gi rm (A 12) v (n + 1) g y = if g (A 12) 17 ≤ y then g else f_X12_goesOff_12 τ Z gi rm (A 12) v n (va_up g (A 54) (upd (g (A 54)) y.toNatClampNeg (g (A 54) (y + 1).toNatClampNeg))) (y + 1) := by
      rw [← hQ.g 18 54 (by decide)]
      rfl
    rw [hu]
    by_cases hc : g (A 12) 17 ≤ y
    · rw [if_pos hc]
      have hc' := i_le.mp hc
      refine ⟨fun a _ => rfl, fun k hk => ?_⟩
      rw [if_pos (by omega)]
    · rw [if_neg hc]
      have hc' := i_ltI.mp (Int32.not_le.mp hc)
      have cy := i_cl h0
      have e := y_1 (m := 10) (by decide) h0 (by omega)
      have cy1 := i_cl (v := y + 1) (by omega)
      have g12 : va_up g (A 54) (upd (g (A 54)) y.toNatClampNeg (g (A 54) (y + 1).toNatClampNeg)) (A 12) = g (A 12) := up_n n1
      obtain ⟨k2, k3⟩ := ih (va_up g (A 54) (upd (g (A 54)) y.toNatClampNeg (g (A 54) (y + 1).toNatClampNeg))) (y + 1) (by rw [g12]; exact hs) (by omega) (by omega)
      rw [g12, up_s] at k3
      refine ⟨fun a h1 => by rw [k2 a h1, up_n h1], fun k hk => ?_⟩
      rw [k3 k hk]
      by_cases c : (k : Int) < y.toInt
      · rw [if_pos (by omega), if_pos c, ud_n (by omega)]
      · rw [if_neg c]
        by_cases c2 : (k : Int) < (y + 1).toInt
        · rw [if_pos c2]
          have ek : k = y.toNatClampNeg := by omega
          have ey : (y + 1).toNatClampNeg = k + 1 := by omega
          rw [ek, ud_s, ← ek, ey]
        · rw [if_neg c2, ud_n (by omega)]
theorem go_sp (hQ : ro_M τ rm A) {p : Int32} (hs : rg 0 10 (gm (A 12) 17)) (h0 : 0 ≤ p.toInt) (h1 : p.toInt < (gm (A 12) 17).toInt) : F_X12_goesOff τ Z gm rm (A 12) p (A 12) = upd (gm (A 12)) 17 (gm (A 12) 17 - 1) ∧ (∀ a, a ≠ A 12 → a ≠ A 54 → F_X12_goesOff τ Z gm rm (A 12) p a = gm a) ∧ ∀ k : Nat, (k : Int) < (gm (A 12) 17).toInt - 1 → F_X12_goesOff τ Z gm rm (A 12) p (A 54) k = li_dr (gm (A 54)) p.toNatClampNeg k := by
  have t54 := hQ.t 18 54 (by decide)
  have n1 := ro_ne hQ.1 t54 (by decide)
  have hs2 := hs.2
  have hs1 := hs.1
  have cp := i_cl h0
  have e := s_m1 hs
  unfold F_X12_goesOff
  have e17 : va_up gm (A 12) (upd (gm (A 12)) 17 (gm (A 12) 17 - 1)) (A 12) 17 = gm (A 12) 17 - 1 := by rw [up_s, ud_s]
  obtain ⟨k2, k3⟩ := go_12 (Z := Z) (gi := gm) hQ (v := p) ((9 - p.toInt).toNat + 1) (va_up gm (A 12) (upd (gm (A 12)) 17 (gm (A 12) 17 - 1))) p (by rw [e17]; exact ⟨by omega, by omega⟩) h0 (Nat.lt_add_one _)
  rw [e17, e, up_n (Ne.symm n1)] at k3
  refine ⟨by rw [k2 _ n1, up_s], fun a h1 h2 => by rw [k2 a h2, up_n h1], fun k hk => ?_⟩
  rw [k3 k hk]
  unfold li_dr
  by_cases c : k < p.toNatClampNeg
  · rw [if_pos c, if_pos (by omega)]
  · rw [if_neg c, if_neg (by omega)]
theorem ap_sp (hC : ro_C τ gr A) {v : Int32} (hs : gi (A 10) 2 < 10) : F_X10_append τ Z gi gr (A 10) v (A 10) = upd (gi (A 10)) 2 (gi (A 10) 2 + 1) ∧ (∀ a, a ≠ A 10 → a ≠ A 35 → F_X10_append τ Z gi gr (A 10) v a = gi a) ∧ F_X10_append τ Z gi gr (A 10) v (A 35) = upd (gi (A 35)) (gi (A 10) 2).toNatClampNeg v := by
  have n1 := ro_ne (hC.t 10 10 (by decide) rfl) (hC.t 35 35 (by decide) rfl) (by decide)
  unfold F_X10_append
  dsimp only
  rw [if_neg (Int32.not_le.mpr hs), hC.g 10 1 35 (by decide)]
  exact ⟨by rw [up_s, up_n n1], fun a h1 h2 => by rw [up_n h1, up_n h2], by rw [up_n (Ne.symm n1), up_s]⟩
end LI
end
section
/-! ===== berths, THE LIST, what was refused: together ===== -/
section CO
variable {τ τ1 : th_t} {Z : th_Zt} {gi gi1 gm gm2 : th_i} {gr gr1 rm rm2 : th_r} {A : Nat → Nat} {M1 M2 : List Nat}
def c_core (τ : th_t) (gi : th_i) (gr : th_r) (gm : th_i) (A : Nat → Nat) : Prop := be_ok (gm (A 12) 8).toInt (gm (A 12) 0).toInt (gi (A 24)) (gi (A 25)) ∧ (∀ i : Nat, (i : Int) < (gm (A 12) 8).toInt → gi (A 24) i = gm (A 50) i) ∧ (∀ p : Nat, (p : Int) < (gm (A 12) 0).toInt → gi (A 25) p = gm (A 46) p) ∧ li_ok (gm (A 12) 8).toInt (gi (A 10) 2) (gi (A 35)) (gi (A 24)) ∧ gi (A 10) 2 = gm (A 12) 17 ∧ (∀ k : Nat, (k : Int) < (gi (A 10) 2).toInt → gi (A 35) k = gm (A 54) k) ∧ (∀ i q : Nat, (i : Int) < (gm (A 12) 8).toInt → gr (A 21) i = some q → (τ q = 8 ∨ τ q = 9 ∨ τ q = 4) ∧ gi q 5 = gm (A 55) i) ∧ ∀ i : Nat, i < 16 → (gm (A 12) 8).toInt ≤ (i : Int) → gm (A 55) i = 0
theorem c_core.of (h : c_core τ gi gr gm A) (e24 : gi1 (A 24) = gi (A 24)) (e25 : gi1 (A 25) = gi (A 25)) (e10 : gi1 (A 10) 2 = gi (A 10) 2) (e35 : gi1 (A 35) = gi (A 35)) (e21 : gr1 (A 21) = gr (A 21)) (e5 : ∀ q, (τ q = 8 ∨ τ q = 9 ∨ τ q = 4) → gi1 q 5 = gi q 5) (m8 : gm2 (A 12) 8 = gm (A 12) 8) (m0 : gm2 (A 12) 0 = gm (A 12) 0) (m17 : gm2 (A 12) 17 = gm (A 12) 17) (m50 : gm2 (A 50) = gm (A 50)) (m46 : gm2 (A 46) = gm (A 46)) (m54 : gm2 (A 54) = gm (A 54)) (m55 : gm2 (A 55) = gm (A 55)) : c_core τ gi1 gr1 gm2 A := by
  obtain ⟨a1, a2, a3, a4, a5, a6, a7, a8⟩ := h
  unfold c_core
  rw [e24, e25, e10, e35, e21, m8, m0, m17, m50, m46, m54, m55]
  refine ⟨a1, a2, a3, a4, a5, a6, fun i q hi hq => ?_, a8⟩
  obtain ⟨k1, k2⟩ := a7 i q hi hq
  exact ⟨k1, by rw [e5 q k1]; exact k2⟩
theorem c_core.fr (hC : ro_C τ gr A) (hQ : ro_M τ rm A) (h1 : th_Mod M1 τ gi gr gi1 gr1) (h2 : th_Mod M2 τ gm rm gm2 rm2) (k1 : ∀ k ∈ [2400, 2500, 1002, 3500, 2100, 805, 905, 405], k ∉ M1) (k2 : ∀ k ∈ [1208, 1200, 1217, 5000, 4600, 5400, 5500], k ∉ M2) (h : c_core τ gi gr gm A) : c_core τ gi1 gr1 gm2 A :=
  h.of (ro_ka h1 (hC.t 24 24 (by decide) rfl) (by decide) (k1 2400 (by decide))).1 (ro_ka h1 (hC.t 25 25 (by decide) rfl) (by decide) (k1 2500 (by decide))).1 (ro_k h1 2 (hC.t 10 10 (by decide) rfl) (by decide) (k1 1002 (by decide))).1 (ro_ka h1 (hC.t 35 35 (by decide) rfl) (by decide) (k1 3500 (by decide))).1 (ro_ka h1 (hC.t 21 21 (by decide) rfl) (by decide) (k1 2100 (by decide))).2 (fun q t => (b_cell (k := 5) h1 t (k1 805 (by decide)) (k1 905 (by decide)) (k1 405 (by decide))).1) (ro_k h2 8 hQ.1 (by decide) (k2 1208 (by decide))).1 (ro_k h2 0 hQ.1 (by decide) (k2 1200 (by decide))).1 (ro_k h2 17 hQ.1 (by decide) (k2 1217 (by decide))).1 (ro_ka h2 (hQ.t 12 50 (by decide)) (by decide) (k2 5000 (by decide))).1 (ro_ka h2 (hQ.t 7 46 (by decide)) (by decide) (k2 4600 (by decide))).1 (ro_ka h2 (hQ.t 18 54 (by decide)) (by decide) (k2 5400 (by decide))).1 (ro_ka h2 (hQ.t 19 55 (by decide)) (by decide) (k2 5500 (by decide))).1
theorem c_core.ext (hx : ∀ b, τ b ≠ 0 → τ1 b = τ b) (h : c_core τ gi gr gm A) : c_core τ1 gi gr gm A := by
  obtain ⟨a1, a2, a3, a4, a5, a6, a7, a8⟩ := h
  refine ⟨a1, a2, a3, a4, a5, a6, fun i q hi hq => ?_, a8⟩
  obtain ⟨k1, k2⟩ := a7 i q hi hq
  refine ⟨?_, k2⟩
  rcases k1 with t | t | t
  · exact Or.inl ((hx q (by rw [t]; decide)).trans t)
  · exact Or.inr (Or.inl ((hx q (by rw [t]; decide)).trans t))
  · exact Or.inr (Or.inr ((hx q (by rw [t]; decide)).trans t))
/-- an act that only finds -/
theorem c_core.fip (hC : ro_C τ gr A) (hQ : ro_M τ rm A) (h : c_core τ gi gr gm A) {w1 w2 r1 r2 : Int32} (hw : ¬ W0 w1 1 5 = 0) (hww : (-1000000) - w1 = w2) (e1 : ((F_X11_finding τ Z gi gr (A 11) w1).1, (F_X11_finding τ Z gi gr (A 11) w1).2) = (r1, gi1)) (e2 : ((F_X12_finding τ Z gm rm (A 12) w2).1, (F_X12_finding τ Z gm rm (A 12) w2).2) = (r2, gm2)) : r1 = r2 ∧ c_core τ gi1 gr gm2 A := by
  obtain ⟨k1, k2, k3⟩ := s_fip hC hQ hw hww e1 e2
  exact ⟨k1, h.fr hC hQ (fm_c hC k2) (fm_m hQ k3) (by decide) (by decide)⟩
theorem pu_eq {B X Y : Nat} {v p : Int32} (hX : gr B 0 = some X) (hY : gr B 1 = some Y) (nXY : X ≠ Y) (hv : 0 ≤ v.toInt) (hv2 : v.toInt < 16) (hp : 0 ≤ p.toInt) (hp2 : p.toInt < 12) : F_X1_put τ Z gi gr B v p X = upd (gi X) v.toNatClampNeg p ∧ F_X1_put τ Z gi gr B v p Y = upd (gi Y) p.toNatClampNeg v ∧ ∀ a, a ≠ X → a ≠ Y → F_X1_put τ Z gi gr B v p a = gi a := by
  unfold F_X1_put
  dsimp only
  rw [w0_c, w0_c, if_neg (w0_in (by rw [k_0]; exact hv) (by rw [k_15]; omega)), if_neg (w0_in (by rw [k_0]; exact hp) (by rw [k_11]; omega)), hX, hY]
  simp only [Option.getD_some]
  exact ⟨by rw [up_n nXY, up_s], by rw [up_s, up_n (Ne.symm nXY)], fun a h1 h2 => by rw [up_n h2, up_n h1]⟩
theorem lf_eq {B X Y : Nat} {v : Int32} (hX : gr B 0 = some X) (hY : gr B 1 = some Y) (nXY : X ≠ Y) (hv : 0 ≤ v.toInt) (hv2 : v.toInt < 16) (hp : 0 ≤ (gi X v.toNatClampNeg).toInt) (hp2 : (gi X v.toNatClampNeg).toInt < 12) : F_X1_lift τ Z gi gr B v X = upd (gi X) v.toNatClampNeg (-1) ∧ F_X1_lift τ Z gi gr B v Y = upd (gi Y) (gi X v.toNatClampNeg).toNatClampNeg (-1) ∧ ∀ a, a ≠ X → a ≠ Y → F_X1_lift τ Z gi gr B v a = gi a := by
  unfold F_X1_lift
  dsimp only
  rw [bo_of hX hv hv2, w0_c, w0_c, if_neg (w0_in (by rw [k_0]; exact hv) (by rw [k_15]; omega)), if_neg (w0_in (by rw [k_0]; exact hp) (by rw [k_11]; omega)), hX, hY]
  simp only [Option.getD_some]
  exact ⟨by rw [up_s, up_n nXY], by rw [up_n (Ne.symm nXY), up_s], fun a h1 h2 => by rw [up_n h1, up_n h2]⟩
theorem li_eq (hQ : ro_M τ rm A) {v p : Int32} : F_X12_lies τ Z gm rm (A 12) v p (A 50) = upd (gm (A 50)) v.toNatClampNeg p ∧ F_X12_lies τ Z gm rm (A 12) v p (A 46) = upd (gm (A 46)) p.toNatClampNeg v ∧ ∀ a, a ≠ A 50 → a ≠ A 46 → F_X12_lies τ Z gm rm (A 12) v p a = gm a := by
  have n1 := ro_ne (hQ.t 12 50 (by decide)) (hQ.t 7 46 (by decide)) (by decide)
  unfold F_X12_lies
  rw [hQ.g 12 50 (by decide), hQ.g 7 46 (by decide)]
  exact ⟨by rw [up_n n1, up_s], by rw [up_s, up_n (Ne.symm n1)], fun a h1 h2 => by rw [up_n h2, up_n h1]⟩
theorem li_drn {n : Int} {s v : Int32} {q x : Nat → Int32} {k : Nat} (h : li_ok n s q x) (hk : (k : Int) < s.toInt) (hv : q k = v) : ∀ j : Nat, (j : Int) < s.toInt - 1 → ¬ li_dr q k j = v := fun j hj e => by
  unfold li_dr at e
  by_cases c : j < k
  · rw [if_pos c] at e
    have := h.2.2 j k (by omega) hk (e.trans hv.symm)
    omega
  · rw [if_neg c] at e
    have := h.2.2 (j + 1) k (by omega) hk (e.trans hv.symm)
    omega
theorem ud_row {x m : Nat → Int32} {n : Int} {v : Nat} {p : Int32} (h : ∀ i : Nat, (i : Int) < n → x i = m i) : ∀ i : Nat, (i : Int) < n → upd x v p i = upd m v p i := fun i hi => by
  by_cases e : i = v
  · rw [e, ud_s, ud_s]
  · rw [ud_n e, ud_n e]
    exact h i hi
theorem s_moor (Q : q_all τ Z gi gr gm rm A) (K : c_core τ gi gr gm A) {v p r1 r2 : Int32} (e1 : F_X11_moor τ Z gi gr (A 11) v p = (r1, gi1)) (e2 : F_X12_moor τ Z gm rm (A 12) v p = (r2, gm2)) : r1 = r2 ∧ c_core τ gi1 gr gm2 A := by
  have Q' := Q
  obtain ⟨hJ, hJm, hC, hQ, no, nb, wi, cb, cu, ct, cs, cl, cr, cw⟩ := Q'
  have K' := K
  obtain ⟨a1, a2, a3, a4, a5, a6, a7, a8⟩ := K'
  have no' : gm (A 12) 8 = gi (A 1) 6 := no.symm
  have nb' : gm (A 12) 0 = gi (A 1) 5 := nb.symm
  have n162 := (n_b hJ hC).2
  have n122 := (n_p hJ hC).2
  unfold F_X11_moor f_X11_moor_28 f_X11_moor_64 at e1
  unfold F_X12_moor F_X12_isBoat F_X12_isBuoy f_X12_moor_16 f_X12_moor_41 at e2
  dsimp only at e1 e2
  rw [hC.g 11 0 1 (by decide), hC.g 1 4 2 (by decide), hC.g 11 1 10 (by decide)] at e1
  rw [w0_m, w0_m, no', nb', hQ.g 12 50 (by decide), hQ.g 7 46 (by decide)] at e2
  by_cases g1 : W0 v 0 (gi (A 1) 6 - 1) = 0
  · rw [bo_no hJ hC g1] at e1
    rw [if_pos g1] at e2
    exact K.fip hC hQ (w1 := 1) (by decide) (by decide) e1 e2
  obtain ⟨f1, f2, f3, f4⟩ := bo_yes (Z := Z) hJ hC g1
  obtain ⟨qb, hqb⟩ := cb v.toNatClampNeg (by rw [f3, no']; exact f4)
  rw [f1, hqb.1] at e1
  rw [if_neg g1] at e2
  by_cases g2 : W0 p 0 (gi (A 1) 5 - 1) = 0
  · simp only [Option.elim_some, bu_no (Z := Z) hJ hC g2, Option.elim_none] at e1
    rw [if_pos g2] at e2
    exact K.fip hC hQ (w1 := 1) (by decide) (by decide) e1 e2
  obtain ⟨m1, m2, m3, m4⟩ := bu_yes (Z := Z) hJ hC g2
  obtain ⟨qp, hqp⟩ := cu p.toNatClampNeg (by rw [m3, nb']; exact m4)
  rw [if_neg g2] at e2
  simp only [Option.elim_some, m1, hqp.1] at e1
  have hv0 : 0 ≤ v.toInt := by omega
  have hp0 : 0 ≤ p.toInt := by omega
  have rX := hC.e 2 0 24 (by decide)
  have rY := hC.e 2 1 25 (by decide)
  have t24 := hC.t 24 24 (by decide) rfl
  have t25 := hC.t 25 25 (by decide) rfl
  have t10 := hC.t 10 10 (by decide) rfl
  have t35 := hC.t 35 35 (by decide) rfl
  have t50 := hQ.t 12 50 (by decide)
  have t46 := hQ.t 7 46 (by decide)
  have t54 := hQ.t 18 54 (by decide)
  have t55 := hQ.t 19 55 (by decide)
  have nXY := ro_ne t24 t25 (by decide)
  rw [bo_of rX hv0 (by omega), bu_of rY hp0 (by omega)] at e1
  rw [← a2 v.toNatClampNeg (by rw [no']; omega), ← a3 p.toNatClampNeg (by rw [nb']; omega)] at e2
  rcases be_x a1 (i := v.toNatClampNeg) (by omega) with z1 | ⟨z1, -⟩
  rotate_left
  · rw [if_neg (fun q => by rw [q, k_m1] at z1; omega)] at e1
    rw [if_pos (i_le.mpr (by rw [k_0]; exact z1))] at e2
    exact K.fip hC hQ (w1 := 3) (by decide) (by decide) e1 e2
  rw [z1, if_pos rfl] at e1
  rw [z1, if_neg (by decide)] at e2
  rcases be_y a1 (p := p.toNatClampNeg) (by omega) with z2 | ⟨z2, -⟩
  rotate_left
  · rw [if_neg (fun q => by rw [q, k_m1] at z2; omega)] at e1
    rw [if_neg (fun q => by have := i_ltI.mp q; rw [k_0] at this; omega)] at e2
    exact K.fip hC hQ (w1 := 3) (by decide) (by decide) e1 e2
  rw [z2, if_pos rfl] at e1
  rw [z2, if_pos (by decide)] at e2
  rw [ml_eq Q hqb hqp hv0 hp0 (by rw [nb']; exact m4) rX rY a1 (fun i hi _ => a2 i hi) (fun q => by rw [← q, z1, k_m1] at hp0; omega)] at e1
  by_cases g3 : F_X12_mayLie τ Z gm rm (A 12) v p (A 50) = 0
  · rw [if_pos g3] at e1 e2
    exact K.fip hC hQ (w1 := 2) (by decide) (by decide) e1 e2
  rw [if_neg g3] at e1 e2
  obtain ⟨p1, p2, p3⟩ := pu_eq (τ := τ) (Z := Z) (gi := gi) (v := v) (p := p) rX rY nXY hv0 (by omega) hp0 (by omega)
  obtain ⟨l1, l2, l3⟩ := li_eq (τ := τ) (Z := Z) (gm := gm) hQ (v := v) (p := p)
  generalize F_X1_put τ Z gi gr (A 2) v p = g35 at e1 p1 p2 p3
  generalize F_X12_lies τ Z gm rm (A 12) v p = g31 at e2 l1 l2 l3
  have c10 : g35 (A 10) = gi (A 10) := p3 _ (ro_ne t10 t24 (by decide)) (ro_ne t10 t25 (by decide))
  have c35 : g35 (A 35) = gi (A 35) := p3 _ (ro_ne t35 t24 (by decide)) (ro_ne t35 t25 (by decide))
  have c5 : ∀ q, (τ q = 8 ∨ τ q = 9 ∨ τ q = 4) → g35 q = gi q := fun q t => by
    rcases t with t | t | t <;> exact p3 q (ro_ne t t24 (by decide)) (ro_ne t t25 (by decide))
  have d12 : g31 (A 12) = gm (A 12) := l3 _ (ro_ne hQ.1 t50 (by decide)) (ro_ne hQ.1 t46 (by decide))
  have d54 : g31 (A 54) = gm (A 54) := l3 _ (ro_ne t54 t50 (by decide)) (ro_ne t54 t46 (by decide))
  have d55 : g31 (A 55) = gm (A 55) := l3 _ (ro_ne t55 t50 (by decide)) (ro_ne t55 t46 (by decide))
  have hs : rg 0 10 (g35 (A 10) 2) := by rw [c10]; exact a4.1
  have es : g35 (A 10) 2 = g31 (A 12) 17 := by rw [c10, d12]; exact a5
  rw [← pl_eq (Z := Z) (gi := g35) (gm := g31) hC hQ (v := v) hs es (by rw [c10, c35, d54]; exact a6)] at e2
  have bnew := be_put a1 hv0 (by rw [no']; exact f4) (by rw [no']; exact n162) hp0 (by rw [nb']; exact m4) (by rw [nb']; exact n122) z1 z2
  have r1' := ud_row (v := v.toNatClampNeg) (p := p) a2
  have r2' := ud_row (v := p.toNatClampNeg) (p := v) a3
  rcases pl_at (Z := Z) hC (g := g35) (v := v) hs with ⟨k1, k2⟩ | ⟨k, k1, k2, k3⟩
  · rw [k1, dr_no hC hs (by decide)] at e1
    rw [k1, if_pos (by decide)] at e2
    obtain ⟨b1, b2⟩ := pr2 e1
    obtain ⟨b3, b4⟩ := pr2 e2
    rw [c10, c35] at k2
    refine ⟨b1.symm.trans b3, ?_⟩
    rw [← b2, ← b4]
    unfold c_core
    rw [p1, p2, l1, l2, c10, c35, d12, d54, d55]
    exact ⟨bnew, r1', r2', li_lie a4 hv0 k2, a5, a6, fun i q hi hq => ⟨(a7 i q hi hq).1, by rw [c5 q (a7 i q hi hq).1]; exact (a7 i q hi hq).2⟩, a8⟩
  · rw [if_neg (fun q => by have := i_ltI.mp q; rw [k_0] at this; omega)] at e2
    obtain ⟨b1, b2⟩ := pr2 e1
    obtain ⟨b3, b4⟩ := pr2 e2
    have kc : (F_X10_placeOf τ Z g35 gr (A 10) v).toNatClampNeg = k := cl_in k3.symm
    obtain ⟨u1, u2, u3⟩ := dr_sp (Z := Z) (gi := g35) hC (p := F_X10_placeOf τ Z g35 gr (A 10) v) hs (by omega) (by omega)
    obtain ⟨w1, w2, w3⟩ := go_sp (Z := Z) (gm := g31) hQ (p := F_X10_placeOf τ Z g35 gr (A 10) v) (by rw [← es]; exact hs) (by omega) (by rw [← es]; omega)
    rw [kc, c10, c35] at u3
    rw [kc, d12, d54, ← a5] at w3
    rw [c10] at u1 k1
    rw [c35] at k2
    rw [d12] at w1
    rw [b2] at u1 u2 u3
    rw [b4] at w1 w2 w3
    have v24 : gi1 (A 24) = upd (gi (A 24)) v.toNatClampNeg p := by rw [u2 _ (ro_ne t24 t10 (by decide)) (ro_ne t24 t35 (by decide)), p1]
    have v25 : gi1 (A 25) = upd (gi (A 25)) p.toNatClampNeg v := by rw [u2 _ (ro_ne t25 t10 (by decide)) (ro_ne t25 t35 (by decide)), p2]
    have x50 : gm2 (A 50) = upd (gm (A 50)) v.toNatClampNeg p := by rw [w2 _ (ro_ne t50 hQ.1 (by decide)) (ro_ne t50 t54 (by decide)), l1]
    have x46 : gm2 (A 46) = upd (gm (A 46)) p.toNatClampNeg v := by rw [w2 _ (ro_ne t46 hQ.1 (by decide)) (ro_ne t46 t54 (by decide)), l2]
    have x55 : gm2 (A 55) = gm (A 55) := by rw [w2 _ (ro_ne t55 hQ.1 (by decide)) (ro_ne t55 t54 (by decide)), d55]
    have x8 : gm2 (A 12) 8 = gm (A 12) 8 := by rw [w1, ud_n (by decide)]
    have x0 : gm2 (A 12) 0 = gm (A 12) 0 := by rw [w1, ud_n (by decide)]
    have x17 : gm2 (A 12) 17 = gm (A 12) 17 - 1 := by rw [w1, ud_s]
    have v2 : gi1 (A 10) 2 = gi (A 10) 2 - 1 := by rw [u1, ud_s]
    have e' := s_m1 a4.1
    refine ⟨b1.symm.trans b3, ?_⟩
    unfold c_core
    rw [v24, v25, x50, x46, x55, x8, x0, x17, v2]
    refine ⟨bnew, r1', r2', li_lie (li_drop a4 k1 u3) hv0 (fun j hj => ?_), by rw [a5], fun j hj => ?_, fun i q hi hq => ?_, a8⟩
    · rw [e'] at hj
      rw [u3 j hj]
      exact li_drn a4 k1 k2 j hj
    · rw [e'] at hj
      rw [u3 j hj, w3 j hj]
      unfold li_dr
      by_cases c : j < k
      · rw [if_pos c, if_pos c]
        exact a6 j (by omega)
      · rw [if_neg c, if_neg c]
        exact a6 (j + 1) (by omega)
    · obtain ⟨t, k⟩ := a7 i q hi hq
      refine ⟨t, ?_⟩
      have : gi1 q = gi q := by
        rw [← c5 q t]
        rcases t with t | t | t <;> exact u2 q (ro_ne t t10 (by decide)) (ro_ne t t35 (by decide))
      rw [this]
      exact k
theorem s_leave (Q : q_all τ Z gi gr gm rm A) (K : c_core τ gi gr gm A) {v r1 r2 : Int32} (e1 : F_X11_leave τ Z gi gr (A 11) v = (r1, gi1)) (e2 : F_X12_leave τ Z gm rm (A 12) v = (r2, gm2)) : r1 = r2 ∧ c_core τ gi1 gr gm2 A := by
  obtain ⟨hJ, hJm, hC, hQ, no, nb, wi, cb, cu, ct, cs, cl, cr, cw⟩ := Q
  have K' := K
  obtain ⟨a1, a2, a3, a4, a5, a6, a7, a8⟩ := K'
  have no' : gm (A 12) 8 = gi (A 1) 6 := no.symm
  have n162 := (n_b hJ hC).2
  unfold F_X11_leave at e1
  unfold F_X12_leave F_X12_isBoat at e2
  dsimp only at e1 e2
  rw [hC.g 11 0 1 (by decide), hC.g 1 4 2 (by decide)] at e1
  rw [w0_m, no', hQ.g 12 50 (by decide), hQ.g 7 46 (by decide)] at e2
  by_cases g1 : W0 v 0 (gi (A 1) 6 - 1) = 0
  · rw [bo_no hJ hC g1] at e1
    rw [if_pos g1] at e2
    exact K.fip hC hQ (w1 := 1) (by decide) (by decide) e1 e2
  obtain ⟨f1, f2, f3, f4⟩ := bo_yes (Z := Z) hJ hC g1
  obtain ⟨qb, hqb⟩ := cb v.toNatClampNeg (by rw [f3, no']; exact f4)
  rw [f1, hqb.1] at e1
  rw [if_neg g1] at e2
  simp only [Option.elim_some] at e1
  have hv0 : 0 ≤ v.toInt := by omega
  have rX := hC.e 2 0 24 (by decide)
  have rY := hC.e 2 1 25 (by decide)
  have t24 := hC.t 24 24 (by decide) rfl
  have t25 := hC.t 25 25 (by decide) rfl
  have t10 := hC.t 10 10 (by decide) rfl
  have t35 := hC.t 35 35 (by decide) rfl
  have t50 := hQ.t 12 50 (by decide)
  have t46 := hQ.t 7 46 (by decide)
  have t54 := hQ.t 18 54 (by decide)
  have t55 := hQ.t 19 55 (by decide)
  have nXY := ro_ne t24 t25 (by decide)
  have n56 := ro_ne t50 t46 (by decide)
  rw [bo_of rX hv0 (by omega)] at e1
  rw [← a2 v.toNatClampNeg (by rw [no']; omega)] at e2
  rcases be_x a1 (i := v.toNatClampNeg) (by omega) with z1 | ⟨z1, z2, z3, -⟩
  · rw [z1, if_pos rfl] at e1
    rw [z1, if_neg (by decide)] at e2
    exact K.fip hC hQ (w1 := 3) (by decide) (by decide) e1 e2
  · rw [if_neg (fun q => by rw [q, k_m1] at z1; omega)] at e1
    rw [if_pos (i_le.mpr (by rw [k_0]; exact z1))] at e2
    obtain ⟨p1, p2, p3⟩ := lf_eq (τ := τ) (Z := Z) (gi := gi) (v := v) rX rY nXY hv0 (by omega) z1 (by omega)
    obtain ⟨b1, b2⟩ := pr2 e1
    obtain ⟨b3, b4⟩ := pr2 e2
    rw [b2] at p1 p2 p3
    have bnew := be_lift a1 hv0 (by omega) z1
    have q50 : gm2 (A 50) = upd (gm (A 50)) v.toNatClampNeg (-1) := by rw [← b4, up_n n56, up_s]
    have q46 : gm2 (A 46) = upd (gm (A 46)) (gi (A 24) v.toNatClampNeg).toNatClampNeg (-1) := by rw [← b4, up_s, up_n (Ne.symm n56)]
    have qo : ∀ a, a ≠ A 50 → a ≠ A 46 → gm2 a = gm a := fun a h1 h2 => by rw [← b4, up_n h2, up_n h1]
    refine ⟨b1.symm.trans b3, ?_⟩
    unfold c_core
    rw [p1, p2, p3 _ (ro_ne t10 t24 (by decide)) (ro_ne t10 t25 (by decide)), p3 _ (ro_ne t35 t24 (by decide)) (ro_ne t35 t25 (by decide)), q50, q46, qo _ (ro_ne hQ.1 t50 (by decide)) (ro_ne hQ.1 t46 (by decide)), qo _ (ro_ne t54 t50 (by decide)) (ro_ne t54 t46 (by decide)), qo _ (ro_ne t55 t50 (by decide)) (ro_ne t55 t46 (by decide))]
    refine ⟨bnew, ud_row a2, ud_row a3, li_mono a4 (Int.le_refl _) (fun k hk => ?_), a5, a6, fun i q hi hq => ?_, a8⟩
    · by_cases e : k = v.toNatClampNeg
      · rw [e, ud_s]
      · rw [ud_n e]
        exact hk
    · obtain ⟨t, k⟩ := a7 i q hi hq
      refine ⟨t, ?_⟩
      have : gi1 q = gi q := by
        rcases t with t | t | t <;> exact p3 q (ro_ne t t24 (by decide)) (ro_ne t t25 (by decide))
      rw [this]
      exact k
end CO
end
section
/-! ===== acts of THE LIST ===== -/
section AL
variable {τ τ1 : th_t} {Z : th_Zt} {gi gi1 gm gm2 : th_i} {gr gr1 rm rm2 : th_r} {A : Nat → Nat} {M1 M2 : List Nat}
theorem b_ne {n : Int} (hb : ∀ i : Nat, (i : Int) < n → ∃ q, gr (A 21) i = some q ∧ (gi q 0).toInt = (i : Int)) {i j q q' : Nat} (hi : (i : Int) < n) (hj : (j : Int) < n) (hq : gr (A 21) i = some q) (hq' : gr (A 21) j = some q') (h : q = q') : i = j := by
  obtain ⟨a, a1, a2⟩ := hb i hi
  obtain ⟨b, b1, b2⟩ := hb j hj
  have e1 : a = q := Option.some.inj (a1.symm.trans hq)
  have e2 : b = q' := Option.some.inj (b1.symm.trans hq')
  rw [e1, h, ← e2, b2] at a2
  omega
theorem c_boat.num (h : c_boat τ gi gr gm A) : ∀ i : Nat, (i : Int) < (gm (A 12) 8).toInt → ∃ q, gr (A 21) i = some q ∧ (gi q 0).toInt = (i : Int) := fun i hi => by
  obtain ⟨q, a1, a2, -⟩ := h i hi
  exact ⟨q, a1, a2⟩
theorem s_wait (Q : q_all τ Z gi gr gm rm A) (K : c_core τ gi gr gm A) {v r1 r2 : Int32} (e1 : F_X11_wait τ Z gi gr (A 11) v = (r1, gi1)) (e2 : F_X12_wait τ Z gm rm (A 12) v = (r2, gm2)) : r1 = r2 ∧ c_core τ gi1 gr gm2 A := by
  obtain ⟨hJ, hJm, hC, hQ, no, nb, wi, cb, cu, ct, cs, cl, cr, cw⟩ := Q
  have K' := K
  obtain ⟨a1, a2, a3, a4, a5, a6, a7, a8⟩ := K'
  have no' : gm (A 12) 8 = gi (A 1) 6 := no.symm
  have n162 := (n_b hJ hC).2
  unfold F_X11_wait f_X11_wait_45 at e1
  unfold F_X12_wait F_X12_isBoat f_X12_wait_32 at e2
  dsimp only at e1 e2
  rw [hC.g 11 0 1 (by decide), hC.g 1 4 2 (by decide), hC.g 11 1 10 (by decide)] at e1
  rw [w0_m, no', hQ.g 12 50 (by decide), hQ.g 18 54 (by decide), hQ.g 19 55 (by decide), ← pl_eq (Z := Z) hC hQ (v := v) a4.1 a5 a6, ← a5] at e2
  by_cases g1 : W0 v 0 (gi (A 1) 6 - 1) = 0
  · rw [bo_no hJ hC g1] at e1
    rw [if_pos g1] at e2
    exact K.fip hC hQ (w1 := 1) (by decide) (by decide) e1 e2
  obtain ⟨f1, f2, f3, f4⟩ := bo_yes (Z := Z) hJ hC g1
  have hvi : ((v.toNatClampNeg : Nat) : Int) < (gm (A 12) 8).toInt := by rw [f3, no']; exact f4
  obtain ⟨qb, hqb⟩ := cb v.toNatClampNeg hvi
  rw [f1, hqb.1] at e1
  rw [if_neg g1] at e2
  simp only [Option.elim_some] at e1
  have hv0 : 0 ≤ v.toInt := by omega
  have rX := hC.e 2 0 24 (by decide)
  have t24 := hC.t 24 24 (by decide) rfl
  have t25 := hC.t 25 25 (by decide) rfl
  have t10 := hC.t 10 10 (by decide) rfl
  have t35 := hC.t 35 35 (by decide) rfl
  have t50 := hQ.t 12 50 (by decide)
  have t46 := hQ.t 7 46 (by decide)
  have t54 := hQ.t 18 54 (by decide)
  have t55 := hQ.t 19 55 (by decide)
  rw [bo_of rX hv0 (by omega)] at e1
  rw [← a2 v.toNatClampNeg hvi] at e2
  rcases be_x a1 (i := v.toNatClampNeg) (by omega) with z1 | ⟨z1, -⟩
  rotate_left
  · rw [if_neg (fun q => by rw [q, k_m1] at z1; omega)] at e1
    rw [if_pos (i_le.mpr (by rw [k_0]; exact z1))] at e2
    exact K.fip hC hQ (w1 := 3) (by decide) (by decide) e1 e2
  rw [z1, if_pos rfl] at e1
  rw [z1, if_neg (by decide)] at e2
  rcases pl_at (Z := Z) hC (g := gi) (v := v) a4.1 with ⟨k1, k2⟩ | ⟨k, k1, k2, k3⟩
  rotate_left
  · rw [if_neg (fun q => by have := i_ltI.mp q; rw [k_0] at this; omega)] at e1 e2
    exact K.fip hC hQ (w1 := 3) (by decide) (by decide) e1 e2
  rw [k1, if_pos (by decide)] at e1 e2
  by_cases g3 : gi (A 10) 2 < 10
  rotate_left
  · rw [if_neg g3] at e1
    rw [if_pos (i_lt 10 (by decide) a4.1 g3)] at e2
    exact K.fip hC hQ (w1 := 4) (by decide) (by decide) e1 e2
  have g3' := i_ltI.mp g3
  rw [k_10'] at g3'
  rw [if_pos g3] at e1
  rw [if_neg (fun q => by rw [q] at g3'; exact absurd g3' (by decide))] at e2
  have tb := (a7 v.toNatClampNeg qb hvi hqb.1).1
  have nb10 : A 10 ≠ qb := by rcases tb with t | t | t <;> exact ro_ne t10 t (by decide)
  have nb35 : A 35 ≠ qb := by rcases tb with t | t | t <;> exact ro_ne t35 t (by decide)
  have h10 : va_up gi qb (upd (gi qb) 5 0) (A 10) = gi (A 10) := up_n nb10
  obtain ⟨u1, u2, u3⟩ := ap_sp (τ := τ) (Z := Z) (gi := va_up gi qb (upd (gi qb) 5 0)) hC (v := v) (by rw [h10]; exact g3)
  rw [h10] at u1 u3
  rw [up_n nb35] at u3
  obtain ⟨b1, b2⟩ := pr2 e1
  obtain ⟨b3, b4⟩ := pr2 e2
  rw [b2] at u1 u2 u3 b1
  have n54_12 := ro_ne t54 hQ.1 (by decide)
  have n55_12 := ro_ne t55 hQ.1 (by decide)
  have n54_55 := ro_ne t54 t55 (by decide)
  have m12 : gm2 (A 12) = upd (gm (A 12)) 17 (gi (A 10) 2 + 1) := by rw [← b4, up_s, up_n (Ne.symm n55_12), up_n (Ne.symm n54_12)]
  have m54 : gm2 (A 54) = upd (gm (A 54)) (gi (A 10) 2).toNatClampNeg v := by rw [← b4, up_n n54_12, up_n n54_55, up_s]
  have m55 : gm2 (A 55) = upd (gm (A 55)) v.toNatClampNeg 0 := by rw [← b4, up_n n55_12, up_s, up_n (Ne.symm n54_55)]
  have mo : ∀ a, a ≠ A 12 → a ≠ A 54 → a ≠ A 55 → gm2 a = gm a := fun a h1 h2 h3 => by rw [← b4, up_n h1, up_n h3, up_n h2]
  have m50 := mo (A 50) (ro_ne t50 hQ.1 (by decide)) (ro_ne t50 t54 (by decide)) (ro_ne t50 t55 (by decide))
  have m46 := mo (A 46) (ro_ne t46 hQ.1 (by decide)) (ro_ne t46 t54 (by decide)) (ro_ne t46 t55 (by decide))
  have s24 : gi1 (A 24) = gi (A 24) := by
    rw [u2 _ (ro_ne t24 t10 (by decide)) (ro_ne t24 t35 (by decide))]
    rcases tb with t | t | t <;> exact up_n (ro_ne t24 t (by decide))
  have s25 : gi1 (A 25) = gi (A 25) := by
    rw [u2 _ (ro_ne t25 t10 (by decide)) (ro_ne t25 t35 (by decide))]
    rcases tb with t | t | t <;> exact up_n (ro_ne t25 t (by decide))
  have s2 : gi1 (A 10) 2 = gi (A 10) 2 + 1 := by rw [u1, ud_s]
  have sq : ∀ q, (τ q = 8 ∨ τ q = 9 ∨ τ q = 4) → gi1 q = va_up gi qb (upd (gi qb) 5 0) q := fun q t => by
    rcases t with t | t | t <;> exact u2 q (ro_ne t t10 (by decide)) (ro_ne t t35 (by decide))
  have e' := y_1 (m := 10) (by decide) a4.1.1 a4.1.2
  have cs' := i_cl a4.1.1
  refine ⟨by rw [← b1, ← b3, s2], ?_⟩
  unfold c_core
  rw [s24, s25, s2, u3, m12, m54, m55, m50, m46, ud_n (show (8 : Nat) ≠ 17 by decide), ud_n (show (0 : Nat) ≠ 17 by decide), ud_s]
  refine ⟨a1, a2, a3, li_app a4 g3' hv0 (by omega) z1 k2, rfl, fun k hk => ?_, fun i q hi hq => ?_, fun i hi hn => ?_⟩
  · rw [e'] at hk
    by_cases e : k = (gi (A 10) 2).toNatClampNeg
    · rw [e, ud_s, ud_s]
    · rw [ud_n e, ud_n e]
      exact a6 k (by omega)
  · obtain ⟨t, k⟩ := a7 i q hi hq
    refine ⟨t, ?_⟩
    rw [sq q t]
    by_cases e : i = v.toNatClampNeg
    · subst e
      have : q = qb := Option.some.inj (hq.symm.trans hqb.1)
      subst this
      rw [up_s, ud_s, ud_s]
    · rw [up_n (fun e' => e (b_ne cb.num hi hvi hq hqb.1 e')), ud_n e]
      exact k
  · rw [ud_n (by omega)]
    exact a8 i hi hn
theorem s_away (Q : q_all τ Z gi gr gm rm A) (K : c_core τ gi gr gm A) {v r1 r2 : Int32} (e1 : F_X11_away τ Z gi gr (A 11) v = (r1, gi1)) (e2 : F_X12_away τ Z gm rm (A 12) v = (r2, gm2)) : r1 = r2 ∧ c_core τ gi1 gr gm2 A := by
  obtain ⟨hJ, hJm, hC, hQ, no, nb, wi, cb, cu, ct, cs, cl, cr, cw⟩ := Q
  have K' := K
  obtain ⟨a1, a2, a3, a4, a5, a6, a7, a8⟩ := K'
  have no' : gm (A 12) 8 = gi (A 1) 6 := no.symm
  unfold F_X11_away at e1
  unfold F_X12_away F_X12_isBoat at e2
  dsimp only at e1 e2
  rw [hC.g 11 0 1 (by decide), hC.g 11 1 10 (by decide)] at e1
  rw [w0_m, no', ← pl_eq (Z := Z) hC hQ (v := v) a4.1 a5 a6] at e2
  by_cases g1 : W0 v 0 (gi (A 1) 6 - 1) = 0
  · rw [bo_no hJ hC g1] at e1
    rw [if_pos g1] at e2
    exact K.fip hC hQ (w1 := 1) (by decide) (by decide) e1 e2
  obtain ⟨f1, f2, f3, f4⟩ := bo_yes (Z := Z) hJ hC g1
  have hvi : ((v.toNatClampNeg : Nat) : Int) < (gm (A 12) 8).toInt := by rw [f3, no']; exact f4
  obtain ⟨qb, hqb⟩ := cb v.toNatClampNeg hvi
  rw [f1, hqb.1] at e1
  rw [if_neg g1] at e2
  simp only [Option.elim_some] at e1
  have t24 := hC.t 24 24 (by decide) rfl
  have t25 := hC.t 25 25 (by decide) rfl
  have t10 := hC.t 10 10 (by decide) rfl
  have t35 := hC.t 35 35 (by decide) rfl
  have t50 := hQ.t 12 50 (by decide)
  have t46 := hQ.t 7 46 (by decide)
  have t54 := hQ.t 18 54 (by decide)
  have t55 := hQ.t 19 55 (by decide)
  rcases pl_at (Z := Z) hC (g := gi) (v := v) a4.1 with ⟨k1, k2⟩ | ⟨k, k1, k2, k3⟩
  · rw [k1, if_neg (by decide)] at e1 e2
    exact K.fip hC hQ (w1 := 3) (by decide) (by decide) e1 e2
  · have hp0 : (0 : Int32) ≤ F_X10_placeOf τ Z gi gr (A 10) v := i_le.mpr (by rw [k_0]; omega)
    rw [if_pos hp0] at e1 e2
    have kc : (F_X10_placeOf τ Z gi gr (A 10) v).toNatClampNeg = k := cl_in k3.symm
    obtain ⟨u1, u2, u3⟩ := dr_sp (Z := Z) (gi := gi) hC (p := F_X10_placeOf τ Z gi gr (A 10) v) a4.1 (by omega) (by omega)
    obtain ⟨w1, w2, w3⟩ := go_sp (Z := Z) (gm := gm) hQ (p := F_X10_placeOf τ Z gi gr (A 10) v) (by rw [← a5]; exact a4.1) (by omega) (by rw [← a5]; omega)
    obtain ⟨b1, b2⟩ := pr2 e1
    obtain ⟨b3, b4⟩ := pr2 e2
    rw [kc] at u3
    rw [kc, ← a5] at w3
    rw [b2] at u1 u2 u3
    rw [b4] at w1 w2 w3
    have x8 : gm2 (A 12) 8 = gm (A 12) 8 := by rw [w1, ud_n (by decide)]
    have x0 : gm2 (A 12) 0 = gm (A 12) 0 := by rw [w1, ud_n (by decide)]
    have x17 : gm2 (A 12) 17 = gm (A 12) 17 - 1 := by rw [w1, ud_s]
    have v2 : gi1 (A 10) 2 = gi (A 10) 2 - 1 := by rw [u1, ud_s]
    have e' := s_m1 a4.1
    refine ⟨b1.symm.trans b3, ?_⟩
    unfold c_core
    rw [u2 _ (ro_ne t24 t10 (by decide)) (ro_ne t24 t35 (by decide)), u2 _ (ro_ne t25 t10 (by decide)) (ro_ne t25 t35 (by decide)), w2 _ (ro_ne t50 hQ.1 (by decide)) (ro_ne t50 t54 (by decide)), w2 _ (ro_ne t46 hQ.1 (by decide)) (ro_ne t46 t54 (by decide)), w2 _ (ro_ne t55 hQ.1 (by decide)) (ro_ne t55 t54 (by decide)), x8, x0, x17, v2]
    refine ⟨a1, a2, a3, li_drop a4 k1 u3, by rw [a5], fun j hj => ?_, fun i q hi hq => ?_, a8⟩
    · rw [e'] at hj
      rw [u3 j hj, w3 j hj]
      unfold li_dr
      by_cases c : j < k
      · rw [if_pos c, if_pos c]
        exact a6 j (by omega)
      · rw [if_neg c, if_neg c]
        exact a6 (j + 1) (by omega)
    · obtain ⟨t, k⟩ := a7 i q hi hq
      refine ⟨t, ?_⟩
      have : gi1 q = gi q := by
        rcases t with t | t | t <;> exact u2 q (ro_ne t t10 (by decide)) (ro_ne t t35 (by decide))
      rw [this]
      exact k
/-- to whom a free BUOY is offered -/
theorem fo_go (Q : q_all τ Z gi gr gm rm A) (K : c_core τ gi gr gm A) {p : Int32} {qp : Nat} (hp : u_at τ gi gr gm A p.toNatClampNeg qp) (hpp : 0 ≤ p.toInt) (hp2 : p.toInt < (gm (A 12) 0).toInt) : ∀ (n m : Nat) (y : Int32), 0 ≤ y.toInt → (10 - y.toInt).toNat < n → (10 - y.toInt).toNat < m → (f_X10_firstFor_2 τ Z gi gr (A 10) qp n y = -1 ∧ f_X12_offeredTo_2 τ Z gm rm (A 12) p m y = -1) ∨ ∃ k : Nat, (k : Int) < (gi (A 10) 2).toInt ∧ (f_X12_offeredTo_2 τ Z gm rm (A 12) p m y).toInt = (k : Int) ∧ f_X10_firstFor_2 τ Z gi gr (A 10) qp n y = gi (A 35) k := by
  have Q' := Q
  obtain ⟨hJ, hJm, hC, hQ, no, nb, wi, cb, cu, ct, cs, cl, cr, cw⟩ := Q'
  have K' := K
  obtain ⟨a1, a2, a3, a4, a5, a6, a7, a8⟩ := K'
  have no' : gm (A 12) 8 = gi (A 1) 6 := no.symm
  have n16 := n_b hJ hC
  have n162 := n16.2
  have hs2 := a4.1.2
  have hqp : gi qp 0 = p := i_inj (by rw [hp.2.2.1]; exact i_cl hpp)
  intro n
  induction n with
  | zero => intro m y _ h; exact absurd h (Nat.not_lt_zero _)
  | succ n ih =>
    intro m y h0 h hm
    cases m with
    | zero => exact absurd hm (Nat.not_lt_zero _)
    | succ m =>
      unfold f_X10_firstFor_2 f_X10_firstFor_65 f_X12_offeredTo_2 f_X12_offeredTo_48 F_X2_hasRefused
      dsimp only
      rw [hC.g 10 0 1 (by decide), hC.g 10 1 35 (by decide), hC.g 1 4 2 (by decide), hQ.g 18 54 (by decide), hQ.g 19 55 (by decide), hQ.g 12 50 (by decide), ← a5, hqp]
      by_cases hc : gi (A 10) 2 ≤ y
      · rw [if_pos hc, if_pos hc]
        exact Or.inl ⟨rfl, rfl⟩
      · rw [if_neg hc, if_neg hc]
        have hc' := i_ltI.mp (Int32.not_le.mp hc)
        have cy := i_cl h0
        have e := y_1 (m := 10) (by decide) h0 (by omega)
        have I := ih m (y + 1) (by omega) (by omega) (by omega)
        obtain ⟨o1, o2, o3⟩ := a4.2.1 y.toNatClampNeg (by omega)
        rw [← a6 y.toNatClampNeg (by omega)]
        have co := i_cl o1
        rw [bo_g hC n16 o1 (by rw [← no']; exact o2)]
        obtain ⟨qb, hqb⟩ := cb (gi (A 35) y.toNatClampNeg).toNatClampNeg (by omega)
        obtain ⟨-, er⟩ := a7 _ qb (by omega) hqb.1
        rw [hqb.1]
        simp only [Option.elim_some]
        rw [er]
        by_cases c1 : gm (A 55) (gi (A 35) y.toNatClampNeg).toNatClampNeg >>> (p &&& 31) &&& 1 = 0
        · rw [if_pos c1, if_pos c1, if_pos rfl, ml_eq Q hqb hp o1 hpp hp2 (hC.e 2 0 24 (by decide)) (hC.e 2 1 25 (by decide)) a1 (fun i hi _ => a2 i hi) (fun q => by rw [o3] at q; rw [← q, k_m1] at hpp; omega)]
          by_cases c2 : F_X12_mayLie τ Z gm rm (A 12) (gi (A 35) y.toNatClampNeg) p (A 50) = 0
          · rw [if_pos c2, if_pos c2]
            exact I
          · rw [if_neg c2, if_neg c2]
            exact Or.inr ⟨y.toNatClampNeg, by omega, cy.symm, rfl⟩
        · rw [if_neg c1, if_neg c1, if_neg (by decide)]
          exact I
theorem fo_at (Q : q_all τ Z gi gr gm rm A) (K : c_core τ gi gr gm A) {p : Int32} {qp : Nat} (hp : u_at τ gi gr gm A p.toNatClampNeg qp) (hpp : 0 ≤ p.toInt) (hp2 : p.toInt < (gm (A 12) 0).toInt) : (F_X10_firstFor τ Z gi gr (A 10) qp = -1 ∧ F_X12_offeredTo τ Z gm rm (A 12) p = -1) ∨ ∃ k : Nat, (k : Int) < (gi (A 10) 2).toInt ∧ (F_X12_offeredTo τ Z gm rm (A 12) p).toInt = (k : Int) ∧ F_X10_firstFor τ Z gi gr (A 10) qp = gi (A 35) k := by
  unfold F_X10_firstFor F_X12_offeredTo
  exact fo_go Q K hp hpp hp2 _ _ 0 (by decide) (Nat.lt_add_one _) (Nat.lt_add_one _)
theorem ob_at (Q : q_all τ Z gi gr gm rm A) (K : c_core τ gi gr gm A) {p : Int32} : (W0 p 0 (gi (A 1) 5 - 1) = 0 ∧ F_X11_offeredBoat τ Z gi gr (A 11) p = ((F_X11_finding τ Z gi gr (A 11) 1).1, (F_X11_finding τ Z gi gr (A 11) 1).2)) ∨ (¬ W0 p 0 (gi (A 1) 5 - 1) = 0 ∧ ¬ gm (A 46) p.toNatClampNeg < 0 ∧ F_X11_offeredBoat τ Z gi gr (A 11) p = ((F_X11_finding τ Z gi gr (A 11) 3).1, (F_X11_finding τ Z gi gr (A 11) 3).2)) ∨ (¬ W0 p 0 (gi (A 1) 5 - 1) = 0 ∧ gm (A 46) p.toNatClampNeg < 0 ∧ F_X12_offeredTo τ Z gm rm (A 12) p = -1 ∧ F_X11_offeredBoat τ Z gi gr (A 11) p = ((F_X11_finding τ Z gi gr (A 11) 2).1, (F_X11_finding τ Z gi gr (A 11) 2).2)) ∨ (¬ W0 p 0 (gi (A 1) 5 - 1) = 0 ∧ gm (A 46) p.toNatClampNeg < 0 ∧ gi (A 25) p.toNatClampNeg = -1 ∧ 0 ≤ p.toInt ∧ p.toInt < (gm (A 12) 0).toInt ∧ ∃ k : Nat, (k : Int) < (gi (A 10) 2).toInt ∧ (F_X12_offeredTo τ Z gm rm (A 12) p).toInt = (k : Int) ∧ F_X11_offeredBoat τ Z gi gr (A 11) p = (gi (A 35) k, gi)) := by
  have Q' := Q
  obtain ⟨hJ, hJm, hC, hQ, no, nb, wi, cb, cu, ct, cs, cl, cr, cw⟩ := Q'
  have K' := K
  obtain ⟨a1, a2, a3, a4, a5, a6, a7, a8⟩ := K'
  have nb' : gm (A 12) 0 = gi (A 1) 5 := nb.symm
  have n122 := (n_p hJ hC).2
  unfold F_X11_offeredBoat
  dsimp only
  rw [hC.g 11 0 1 (by decide), hC.g 1 4 2 (by decide), hC.g 11 1 10 (by decide)]
  by_cases g2 : W0 p 0 (gi (A 1) 5 - 1) = 0
  · rw [bu_no hJ hC g2]
    exact Or.inl ⟨g2, rfl⟩
  obtain ⟨m1, m2, m3, m4⟩ := bu_yes (Z := Z) hJ hC g2
  obtain ⟨qp, hqp⟩ := cu p.toNatClampNeg (by rw [m3, nb']; exact m4)
  rw [m1, hqp.1]
  simp only [Option.elim_some]
  have hp0 : 0 ≤ p.toInt := by omega
  rw [bu_of (hC.e 2 1 25 (by decide)) hp0 (by omega), ← a3 p.toNatClampNeg (by rw [nb']; omega)]
  rcases be_y a1 (p := p.toNatClampNeg) (by omega) with z2 | ⟨z2, -⟩
  rotate_left
  · rw [if_neg (fun q => by rw [q, k_m1] at z2; omega)]
    exact Or.inr (Or.inl ⟨g2, fun q => by have := i_ltI.mp q; rw [k_0] at this; omega, rfl⟩)
  · rw [if_pos z2]
    have lt : gi (A 25) p.toNatClampNeg < 0 := by rw [z2]; decide
    rcases fo_at Q K hqp hp0 (by rw [nb']; exact m4) with ⟨k1, k2⟩ | ⟨k, k1, k2, k3⟩
    · rw [k1, if_pos rfl]
      exact Or.inr (Or.inr (Or.inl ⟨g2, lt, k2, rfl⟩))
    · rw [k3, if_neg (fun q => by have := (a4.2.1 k k1).1; rw [q, k_m1] at this; omega)]
      exact Or.inr (Or.inr (Or.inr ⟨g2, lt, z2, hp0, by rw [nb']; exact m4, k, k1, k2, rfl⟩))
theorem s_offer (Q : q_all τ Z gi gr gm rm A) (K : c_core τ gi gr gm A) {p r1 r2 : Int32} (e1 : F_X11_offer τ Z gi gr (A 11) p = (r1, gi1)) (e2 : F_X12_offer τ Z gm rm (A 12) p = (r2, gm2)) : r1 = r2 ∧ c_core τ gi1 gr gm2 A := by
  have Q' := Q
  obtain ⟨hJ, hJm, hC, hQ, no, nb, wi, cb, cu, ct, cs, cl, cr, cw⟩ := Q'
  have nb' : gm (A 12) 0 = gi (A 1) 5 := nb.symm
  unfold F_X11_offer at e1
  unfold F_X12_offer F_X12_isBuoy at e2
  dsimp only at e1 e2
  rw [w0_m, nb', hQ.g 7 46 (by decide), hQ.g 18 54 (by decide)] at e2
  rcases ob_at Q K (p := p) with ⟨g, k⟩ | ⟨g, l, k⟩ | ⟨g, l, o, k⟩ | ⟨g, l, z, h0, h1, j, j1, j2, k⟩
  · rw [if_pos g] at e2
    rw [k] at e1
    exact K.fip hC hQ (w1 := 1) (by decide) (by decide) e1 e2
  · rw [if_neg g, if_neg l] at e2
    rw [k] at e1
    exact K.fip hC hQ (w1 := 3) (by decide) (by decide) e1 e2
  · rw [if_neg g, if_pos l, o, if_neg (by decide)] at e2
    rw [k] at e1
    exact K.fip hC hQ (w1 := 2) (by decide) (by decide) e1 e2
  · rw [if_neg g, if_pos l, if_pos (i_le.mpr (by rw [k_0]; omega)), cl_in j2.symm] at e2
    rw [k] at e1
    obtain ⟨b1, b2⟩ := pr2 e1
    obtain ⟨b3, b4⟩ := pr2 e2
    rw [← b2, ← b4]
    refine ⟨?_, K⟩
    rw [← b1, ← b3]
    exact K.2.2.2.2.2.1 j j1
end AL
end
section
/-! ===== an OFFER is answered; a BOAT, a BUOY comes ===== -/
section AN
variable {τ τ1 : th_t} {Z : th_Zt} {gi gi1 gm gm2 : th_i} {gr gr1 rm rm2 : th_r} {A : Nat → Nat} {M1 M2 : List Nat}
theorem fn_bo (hJ : th_J τ gi gr) (hC : ro_C τ gr A) {w : Int32} (hw : ¬ W0 w 1 5 = 0) (hn : ((-1000000) - w).toInt < 0) : F_X0_boatAt τ Z (F_X11_finding τ Z gi gr (A 11) w).2 gr (A 1) (F_X11_finding τ Z gi gr (A 11) w).1 = none := by
  rw [fi_c hC hw]
  dsimp only
  have n1 := ro_ne (hC.t 1 1 (by decide) rfl) (hC.t 36 36 (by decide) rfl) (by decide)
  refine bo_gn ?_ ?_
  · rw [up_n n1]
    exact n_b hJ hC
  · omega
/-- the class and the reference take the same place off THE LIST -/
theorem off_eq (hC : ro_C τ gr A) (hQ : ro_M τ rm A) {n : Int} {g m : th_i} {x : Nat → Int32} {v p1 p2 : Int32} {j : Nat} (l : li_ok n (g (A 10) 2) (g (A 35)) x) (es : g (A 10) 2 = m (A 12) 17) (er : ∀ k : Nat, (k : Int) < (g (A 10) 2).toInt → g (A 35) k = m (A 54) k) (hj : (j : Int) < (g (A 10) 2).toInt) (hv : g (A 35) j = v) (h1 : p1 = F_X10_placeOf τ Z g gr (A 10) v) (h2 : p2.toInt = (j : Int)) : (F_X10_drop τ Z g gr (A 10) p1 (A 10) = upd (g (A 10)) 2 (g (A 10) 2 - 1) ∧ (∀ a, a ≠ A 10 → a ≠ A 35 → F_X10_drop τ Z g gr (A 10) p1 a = g a)) ∧ (F_X12_goesOff τ Z m rm (A 12) p2 (A 12) = upd (m (A 12)) 17 (g (A 10) 2 - 1) ∧ (∀ a, a ≠ A 12 → a ≠ A 54 → F_X12_goesOff τ Z m rm (A 12) p2 a = m a)) ∧ li_ok n (g (A 10) 2 - 1) (F_X10_drop τ Z g gr (A 10) p1 (A 35)) x ∧ (∀ k : Nat, (k : Int) < (g (A 10) 2).toInt - 1 → F_X10_drop τ Z g gr (A 10) p1 (A 35) k = F_X12_goesOff τ Z m rm (A 12) p2 (A 54) k) ∧ ∀ k : Nat, (k : Int) < (g (A 10) 2).toInt - 1 → ¬ F_X10_drop τ Z g gr (A 10) p1 (A 35) k = v := by
  have hp : p1.toInt = (j : Int) := by
    rcases pl_at (Z := Z) hC (g := g) (v := v) l.1 with ⟨-, k2⟩ | ⟨k, k1, k2, k3⟩
    · exact absurd hv (k2 j hj)
    · rw [h1, k3]
      exact Int.ofNat_inj.mpr (l.2.2 k j k1 hj (k2.trans hv.symm))
  obtain ⟨u1, u2, u3⟩ := dr_sp (Z := Z) (gi := g) hC (p := p1) l.1 (by omega) (by omega)
  obtain ⟨w1, w2, w3⟩ := go_sp (Z := Z) (gm := m) hQ (p := p2) (by rw [← es]; exact l.1) (by omega) (by rw [← es]; omega)
  rw [cl_in hp.symm] at u3
  rw [cl_in h2.symm] at w3
  rw [← es] at w1 w3
  refine ⟨⟨u1, u2⟩, ⟨w1, w2⟩, li_drop l hj u3, fun k hk => ?_, fun k hk => ?_⟩
  · rw [u3 k hk, w3 k hk]
    unfold li_dr
    by_cases c : k < j
    · rw [if_pos c, if_pos c]
      exact er k (by omega)
    · rw [if_neg c, if_neg c]
      exact er (k + 1) (by omega)
  · rw [u3 k hk]
    exact li_drn l hj hv k hk
theorem s_answer (Q : q_all τ Z gi gr gm rm A) (st : c_eq 11 9 20 gi gm A) (K : c_core τ gi gr gm A) {p s r1 r2 : Int32} (e1 : F_X11_answer τ Z gi gr (A 11) p s = (r1, gi1)) (e2 : F_X12_answer τ Z gm rm (A 12) p s = (r2, gm2)) : r1 = r2 ∧ c_core τ gi1 gr gm2 A := by
  have Q' := Q
  obtain ⟨hJ, hJm, hC, hQ, no, nb, wi, cb, cu, ct, cs, cl, cr, cw⟩ := Q'
  have K' := K
  obtain ⟨a1, a2, a3, a4, a5, a6, a7, a8⟩ := K'
  have no' : gm (A 12) 8 = gi (A 1) 6 := no.symm
  have nb' : gm (A 12) 0 = gi (A 1) 5 := nb.symm
  have n16 := n_b hJ hC
  have n162 := n16.2
  have n122 := (n_p hJ hC).2
  have n162' : (gm (A 12) 8).toInt ≤ 16 := by rw [no']; exact n162
  have n122' : (gm (A 12) 0).toInt ≤ 12 := by rw [nb']; exact n122
  unfold F_X11_answer F_X11_isFlag at e1
  unfold F_X12_answer F_X12_isBuoy f_X12_answer_17 at e2
  dsimp only at e1 e2
  rw [w0_c, hC.g 11 0 1 (by decide), hC.g 1 4 2 (by decide), hC.g 11 1 10 (by decide)] at e1
  rw [w0_m, w0_m, nb', hQ.g 7 46 (by decide), hQ.g 18 54 (by decide), hQ.g 19 55 (by decide)] at e2
  by_cases g0 : W0 s 0 1 = 0
  · rw [if_pos g0] at e1 e2
    have e2' : ((F_X12_finding τ Z gm rm (A 12) (-1000001)).1, (F_X12_finding τ Z gm rm (A 12) (-1000001)).2) = (r2, gm2) := by
      by_cases c : W0 p 0 (gi (A 1) 5 - 1) = 0
      · rw [if_pos c] at e2
        exact e2
      · rw [if_neg c] at e2
        exact e2
    exact K.fip hC hQ (w1 := 1) (by decide) (by decide) e1 e2'
  rw [if_neg g0] at e1 e2
  have t24 := hC.t 24 24 (by decide) rfl
  have t25 := hC.t 25 25 (by decide) rfl
  have t10 := hC.t 10 10 (by decide) rfl
  have t35 := hC.t 35 35 (by decide) rfl
  have t11 := hC.t 11 11 (by decide) rfl
  have t50 := hQ.t 12 50 (by decide)
  have t46 := hQ.t 7 46 (by decide)
  have t54 := hQ.t 18 54 (by decide)
  have t55 := hQ.t 19 55 (by decide)
  have nXY := ro_ne t24 t25 (by decide)
  rcases ob_at Q K (p := p) with ⟨g, k⟩ | ⟨g, l, k⟩ | ⟨g, l, o, k⟩ | ⟨g, l, z, h0, h1, j, j1, j2, k⟩
  · rw [if_pos g] at e2
    rw [k] at e1
    dsimp only at e1
    rw [fn_bo hJ hC (by decide) (by decide)] at e1
    exact K.fip hC hQ (w1 := 1) (by decide) (by decide) e1 e2
  · rw [if_neg g, if_neg l] at e2
    rw [k] at e1
    dsimp only at e1
    rw [fn_bo hJ hC (by decide) (by decide)] at e1
    exact K.fip hC hQ (w1 := 3) (by decide) (by decide) e1 e2
  · rw [if_neg g, if_pos l, o, if_neg (by decide)] at e2
    rw [k] at e1
    dsimp only at e1
    rw [fn_bo hJ hC (by decide) (by decide)] at e1
    exact K.fip hC hQ (w1 := 2) (by decide) (by decide) e1 e2
  · rw [if_neg g, if_pos l, if_pos (i_le.mpr (by rw [k_0]; omega)), cl_in j2.symm, ← a6 j j1] at e2
    rw [k] at e1
    dsimp only at e1
    obtain ⟨o1, o2, o3⟩ := a4.2.1 j j1
    have co := i_cl o1
    rw [bo_g hC n16 o1 (by rw [← no']; exact o2)] at e1
    have hvi : (((gi (A 35) j).toNatClampNeg : Nat) : Int) < (gm (A 12) 8).toInt := by omega
    obtain ⟨qb, hqb⟩ := cb (gi (A 35) j).toNatClampNeg hvi
    rw [hqb.1] at e1
    simp only [Option.elim_some] at e1
    obtain ⟨tb, er⟩ := a7 _ qb hvi hqb.1
    have e' := s_m1 a4.1
    by_cases c1 : s = 1
    · rw [if_pos c1] at e1 e2
      obtain ⟨⟨u1, u2⟩, ⟨w1, w2⟩, l1, l2, l3⟩ := off_eq (Z := Z) hC hQ (g := gi) (m := gm) (v := gi (A 35) j) a4 a5 a6 j1 rfl rfl j2
      generalize F_X10_drop τ Z gi gr (A 10) (F_X10_placeOf τ Z gi gr (A 10) (gi (A 35) j)) = g40 at e1 u1 u2 l1 l2 l3
      generalize F_X12_goesOff τ Z gm rm (A 12) (F_X12_offeredTo τ Z gm rm (A 12) p) = g66 at e2 w1 w2 l2
      have c24 : g40 (A 24) = gi (A 24) := u2 _ (ro_ne t24 t10 (by decide)) (ro_ne t24 t35 (by decide))
      have c25 : g40 (A 25) = gi (A 25) := u2 _ (ro_ne t25 t10 (by decide)) (ro_ne t25 t35 (by decide))
      have d50 : g66 (A 50) = gm (A 50) := w2 _ (ro_ne t50 hQ.1 (by decide)) (ro_ne t50 t54 (by decide))
      have d46 : g66 (A 46) = gm (A 46) := w2 _ (ro_ne t46 hQ.1 (by decide)) (ro_ne t46 t54 (by decide))
      have d55 : g66 (A 55) = gm (A 55) := w2 _ (ro_ne t55 hQ.1 (by decide)) (ro_ne t55 t54 (by decide))
      obtain ⟨p1, p2, p3⟩ := pu_eq (τ := τ) (Z := Z) (gi := g40) (v := gi (A 35) j) (p := p) (hC.e 2 0 24 (by decide)) (hC.e 2 1 25 (by decide)) nXY o1 (by omega) h0 (by omega)
      obtain ⟨q1, q2, q3⟩ := li_eq (τ := τ) (Z := Z) (gm := g66) hQ (v := gi (A 35) j) (p := p)
      obtain ⟨b1, b2⟩ := pr2 e1
      obtain ⟨b3, b4⟩ := pr2 e2
      rw [b2] at p1 p2 p3
      rw [b4] at q1 q2 q3
      rw [c24] at p1
      rw [c25] at p2
      rw [d50] at q1
      rw [d46] at q2
      have f10 : gi1 (A 10) 2 = gi (A 10) 2 - 1 := by rw [p3 _ (ro_ne t10 t24 (by decide)) (ro_ne t10 t25 (by decide)), u1, ud_s]
      have f35 : gi1 (A 35) = g40 (A 35) := p3 _ (ro_ne t35 t24 (by decide)) (ro_ne t35 t25 (by decide))
      have f12 : gm2 (A 12) = upd (gm (A 12)) 17 (gi (A 10) 2 - 1) := by rw [q3 _ (ro_ne hQ.1 t50 (by decide)) (ro_ne hQ.1 t46 (by decide)), w1]
      have f54 : gm2 (A 54) = g66 (A 54) := q3 _ (ro_ne t54 t50 (by decide)) (ro_ne t54 t46 (by decide))
      have f55 : gm2 (A 55) = gm (A 55) := by rw [q3 _ (ro_ne t55 t50 (by decide)) (ro_ne t55 t46 (by decide)), d55]
      refine ⟨b1.symm.trans b3, ?_⟩
      unfold c_core
      rw [p1, p2, q1, q2, f10, f35, f12, f54, f55, ud_n (show (8 : Nat) ≠ 17 by decide), ud_n (show (0 : Nat) ≠ 17 by decide), ud_s]
      refine ⟨be_put a1 o1 o2 (by omega) h0 h1 (by omega) o3 z, ud_row a2, ud_row a3, li_lie l1 o1 (fun k hk => l3 k (by omega)), rfl, fun k hk => l2 k (by omega), fun i q hi hq => ?_, a8⟩
      obtain ⟨t, k⟩ := a7 i q hi hq
      refine ⟨t, ?_⟩
      have : gi1 q = gi q := by
        rcases t with t | t | t <;> exact (p3 q (ro_ne t t24 (by decide)) (ro_ne t t25 (by decide))).trans (u2 q (ro_ne t t10 (by decide)) (ro_ne t t35 (by decide)))
      rw [this]
      exact k
    · rw [if_neg c1] at e1 e2
      have s11 : va_up gi qb (upd (gi qb) 5 (gi qb 5 ||| 1 <<< (p &&& 31))) (A 11) = gi (A 11) := by
        rcases tb with t | t | t <;> exact up_n (ro_ne t11 t (by decide))
      have s12 : va_up gm (A 55) (upd (gm (A 55)) (gi (A 35) j).toNatClampNeg (gm (A 55) (gi (A 35) j).toNatClampNeg ||| 1 <<< (p &&& 31))) (A 12) = gm (A 12) := up_n (ro_ne hQ.1 t55 (by decide))
      have st' : gm (A 12) 20 = gi (A 11) 9 := st.symm
      rw [s11] at e1
      rw [s12, st'] at e2
      have x10 : va_up gi qb (upd (gi qb) 5 (gi qb 5 ||| 1 <<< (p &&& 31))) (A 10) = gi (A 10) := by
        rcases tb with t | t | t <;> exact up_n (ro_ne t10 t (by decide))
      have x35 : va_up gi qb (upd (gi qb) 5 (gi qb 5 ||| 1 <<< (p &&& 31))) (A 35) = gi (A 35) := by
        rcases tb with t | t | t <;> exact up_n (ro_ne t35 t (by decide))
      have x24 : va_up gi qb (upd (gi qb) 5 (gi qb 5 ||| 1 <<< (p &&& 31))) (A 24) = gi (A 24) := by
        rcases tb with t | t | t <;> exact up_n (ro_ne t24 t (by decide))
      have x25 : va_up gi qb (upd (gi qb) 5 (gi qb 5 ||| 1 <<< (p &&& 31))) (A 25) = gi (A 25) := by
        rcases tb with t | t | t <;> exact up_n (ro_ne t25 t (by decide))
      have y54 : va_up gm (A 55) (upd (gm (A 55)) (gi (A 35) j).toNatClampNeg (gm (A 55) (gi (A 35) j).toNatClampNeg ||| 1 <<< (p &&& 31))) (A 54) = gm (A 54) := up_n (ro_ne t54 t55 (by decide))
      have y50 : va_up gm (A 55) (upd (gm (A 55)) (gi (A 35) j).toNatClampNeg (gm (A 55) (gi (A 35) j).toNatClampNeg ||| 1 <<< (p &&& 31))) (A 50) = gm (A 50) := up_n (ro_ne t50 t55 (by decide))
      have y46 : va_up gm (A 55) (upd (gm (A 55)) (gi (A 35) j).toNatClampNeg (gm (A 55) (gi (A 35) j).toNatClampNeg ||| 1 <<< (p &&& 31))) (A 46) = gm (A 46) := up_n (ro_ne t46 t55 (by decide))
      have ref : ∀ i q : Nat, (i : Int) < (gm (A 12) 8).toInt → gr (A 21) i = some q → (τ q = 8 ∨ τ q = 9 ∨ τ q = 4) ∧ va_up gi qb (upd (gi qb) 5 (gi qb 5 ||| 1 <<< (p &&& 31))) q 5 = va_up gm (A 55) (upd (gm (A 55)) (gi (A 35) j).toNatClampNeg (gm (A 55) (gi (A 35) j).toNatClampNeg ||| 1 <<< (p &&& 31))) (A 55) i := fun i q hi hq => by
        obtain ⟨t, k⟩ := a7 i q hi hq
        refine ⟨t, ?_⟩
        rw [up_s]
        by_cases e : i = (gi (A 35) j).toNatClampNeg
        · subst e
          have : q = qb := Option.some.inj (hq.symm.trans hqb.1)
          subst this
          rw [up_s, ud_s, ud_s, er]
        · rw [up_n (fun e' => e (b_ne cb.num hi hvi hq hqb.1 e')), ud_n e]
          exact k
      have ref0 : ∀ i : Nat, i < 16 → (gm (A 12) 8).toInt ≤ (i : Int) → va_up gm (A 55) (upd (gm (A 55)) (gi (A 35) j).toNatClampNeg (gm (A 55) (gi (A 35) j).toNatClampNeg ||| 1 <<< (p &&& 31))) (A 55) i = 0 := fun i hi hn => by
        rw [up_s, ud_n (by omega)]
        exact a8 i hi hn
      generalize va_up gi qb (upd (gi qb) 5 (gi qb 5 ||| 1 <<< (p &&& 31))) = g17 at e1 x10 x35 x24 x25 ref
      generalize va_up gm (A 55) (upd (gm (A 55)) (gi (A 35) j).toNatClampNeg (gm (A 55) (gi (A 35) j).toNatClampNeg ||| 1 <<< (p &&& 31))) = g33 at e2 s12 y54 y50 y46 ref ref0
      by_cases c2 : gi (A 11) 9 = 0
      · rw [if_pos c2] at e1 e2
        obtain ⟨⟨u1, u2⟩, ⟨w1, w2⟩, l1, l2, l3⟩ := off_eq (Z := Z) hC hQ (g := g17) (m := g33) (x := gi (A 24)) (v := gi (A 35) j) (by rw [x10, x35]; exact a4) (by rw [x10, s12]; exact a5) (by rw [x10, x35, y54]; exact a6) (by rw [x10]; exact j1) (by rw [x35]) rfl j2
        rw [x10] at u1 l1 l2 l3 w1
        rw [s12] at w1
        generalize F_X10_drop τ Z g17 gr (A 10) (F_X10_placeOf τ Z g17 gr (A 10) (gi (A 35) j)) = g28 at e1 u1 u2 l1 l2 l3
        generalize F_X12_goesOff τ Z g33 rm (A 12) (F_X12_offeredTo τ Z gm rm (A 12) p) = g43 at e2 w1 w2 l2
        have s2 : g28 (A 10) 2 = gi (A 10) 2 - 1 := by rw [u1, ud_s]
        have s17 : g43 (A 12) 17 = gi (A 10) 2 - 1 := by rw [w1, ud_s]
        have lt : g28 (A 10) 2 < 10 := by
          rw [s2, i_ltI, e', k_10']
          have := a4.1.2
          omega
        obtain ⟨v1, v2, v3⟩ := ap_sp (τ := τ) (Z := Z) (gi := g28) hC (v := gi (A 35) j) lt
        rw [s2] at v1 v3
        obtain ⟨b1, b2⟩ := pr2 e1
        obtain ⟨b3, b4⟩ := pr2 e2
        rw [b2] at v1 v2 v3
        have n54 := ro_ne t54 hQ.1 (by decide)
        have m12 : gm2 (A 12) = upd (g43 (A 12)) 17 (g43 (A 12) 17 + 1) := by rw [← b4, up_s, up_n (Ne.symm n54)]
        have m54 : gm2 (A 54) = upd (g43 (A 54)) (g43 (A 12) 17).toNatClampNeg (gi (A 35) j) := by rw [← b4, up_n n54, up_s]
        have mo : ∀ a, a ≠ A 12 → a ≠ A 54 → gm2 a = g33 a := fun a h1 h2 => by rw [← b4, up_n h1, up_n h2, w2 a h1 h2]
        have f24 : gi1 (A 24) = gi (A 24) := by rw [v2 _ (ro_ne t24 t10 (by decide)) (ro_ne t24 t35 (by decide)), u2 _ (ro_ne t24 t10 (by decide)) (ro_ne t24 t35 (by decide)), x24]
        have f25 : gi1 (A 25) = gi (A 25) := by rw [v2 _ (ro_ne t25 t10 (by decide)) (ro_ne t25 t35 (by decide)), u2 _ (ro_ne t25 t10 (by decide)) (ro_ne t25 t35 (by decide)), x25]
        have f2 : gi1 (A 10) 2 = gi (A 10) 2 := by
          rw [v1, ud_s]
          exact Int32.sub_add_cancel _ _
        have m17 : gm2 (A 12) 17 = gi (A 10) 2 := by
          rw [m12, ud_s, s17]
          exact Int32.sub_add_cancel _ _
        have m8 : gm2 (A 12) 8 = gm (A 12) 8 := by rw [m12, ud_n (by decide), w1, ud_n (by decide)]
        have m0 : gm2 (A 12) 0 = gm (A 12) 0 := by rw [m12, ud_n (by decide), w1, ud_n (by decide)]
        have m50 : gm2 (A 50) = gm (A 50) := by rw [mo _ (ro_ne t50 hQ.1 (by decide)) (ro_ne t50 t54 (by decide)), y50]
        have m46 : gm2 (A 46) = gm (A 46) := by rw [mo _ (ro_ne t46 hQ.1 (by decide)) (ro_ne t46 t54 (by decide)), y46]
        have m55 : gm2 (A 55) = g33 (A 55) := mo _ (ro_ne t55 hQ.1 (by decide)) (ro_ne t55 t54 (by decide))
        rw [s17] at m54
        have s10 := a4.1.1
        have hsz : 0 ≤ (gi (A 10) 2 - 1).toInt := by omega
        have csz := i_cl hsz
        have L := li_app l1 (by rw [e']; have := a4.1.2; omega) o1 o2 o3 (fun k hk => l3 k (by omega))
        rw [show gi (A 10) 2 - 1 + 1 = gi (A 10) 2 from Int32.sub_add_cancel _ _] at L
        refine ⟨b1.symm.trans b3, ?_⟩
        unfold c_core
        rw [f24, f25, f2, v3, m8, m0, m17, m50, m46, m54, m55]
        refine ⟨a1, a2, a3, L, rfl, fun k hk => ?_, fun i q hi hq => ?_, ref0⟩
        · by_cases e : k = (gi (A 10) 2 - 1).toNatClampNeg
          · rw [e, ud_s, ud_s]
          · rw [ud_n e, ud_n e]
            exact l2 k (by omega)
        · obtain ⟨t, k⟩ := ref i q hi hq
          refine ⟨t, ?_⟩
          have : gi1 q = g17 q := by
            rcases t with t | t | t <;> exact (v2 q (ro_ne t t10 (by decide)) (ro_ne t t35 (by decide))).trans (u2 q (ro_ne t t10 (by decide)) (ro_ne t t35 (by decide)))
          rw [this]
          exact k
      · rw [if_neg c2] at e1 e2
        obtain ⟨b1, b2⟩ := pr2 e1
        obtain ⟨b3, b4⟩ := pr2 e2
        refine ⟨b1.symm.trans b3, ?_⟩
        rw [← b2, ← b4]
        unfold c_core
        rw [x10, x35, x24, x25, s12, y54, y50, y46]
        exact ⟨a1, a2, a3, a4, a5, a6, ref, ref0⟩
theorem c_core.fin (hC : ro_C τ gr A) (hQ : ro_M τ1 rm A) (f : x_fin τ gi gr gm A τ1 gi1 gr1 gm2) (h : c_core τ gi gr gm A) : c_core τ1 gi1 gr1 gm2 A := by
  obtain ⟨rfl, rfl, k2, k3⟩ := f
  exact c_core.fr hC hQ (fm_c hC k2) (fm_m hQ k3) (by decide) (by decide) h
theorem c_core.boat (hJ : th_J τ gi gr) (hC : ro_C τ gr A) (hQ : ro_M τ rm A) (no : c_eq 1 6 8 gi gm A) (hb : c_boat τ gi gr gm A) (K : c_core τ gi gr gm A) {v1 v2 v3 : Int32} (h : bt_ok τ gi gr gm A τ1 gi1 gr1 gm2 v1 v2 v3) : c_core τ1 gi1 gr1 gm2 A := by
  obtain ⟨g5, r1, r2, r3, ⟨q, g, r, ⟨f, n0, n1, n2, n4, n5, w, hw, tw, zw⟩, kd, zq, e1, e2⟩, m12, m47, m48, m49, m50, mo⟩ := h
  obtain ⟨l1, l2, l3⟩ := nB16 (n_b hJ hC) g5
  obtain ⟨a1, a2, a3, a4, a5, a6, a7, a8⟩ := K
  have no' : gm (A 12) 8 = gi (A 1) 6 := no.symm
  have t1 := hC.t 1 1 (by decide) rfl
  have t21 := hC.t 21 21 (by decide) rfl
  have nq1 : q ≠ A 1 := ne_z' zq (by rw [t1]; decide)
  have old : ∀ b, τ b ≠ 0 → τ b ≠ 1 → τ1 b = τ b ∧ gi1 b = gi b := fun b hb0 hb1 => by
    obtain ⟨f1, f2, f3⟩ := f b hb0
    have n1' : b ≠ A 1 := fun e => hb1 (by rw [e]; exact t1)
    exact ⟨f1, by rw [e1, up_n n1', f2]⟩
  have o : ∀ i, i ∈ rc_L → ro_c i ≠ 1 → gi1 (A i) = gi (A i) := fun i hi h1 => (old (A i) (by rw [hC.1 i hi]; exact rc_ok i hi) (by rw [hC.1 i hi]; exact h1)).2
  have t46 := hQ.t 7 46 (by decide)
  have t54 := hQ.t 18 54 (by decide)
  have t55 := hQ.t 19 55 (by decide)
  have t47 := hQ.t 9 47 (by decide)
  have t48 := hQ.t 10 48 (by decide)
  have t49 := hQ.t 11 49 (by decide)
  have t50 := hQ.t 12 50 (by decide)
  have m46 := mo _ (ro_ne t46 hQ.1 (by decide)) (ro_ne t46 t47 (by decide)) (ro_ne t46 t48 (by decide)) (ro_ne t46 t49 (by decide)) (ro_ne t46 t50 (by decide))
  have m54 := mo _ (ro_ne t54 hQ.1 (by decide)) (ro_ne t54 t47 (by decide)) (ro_ne t54 t48 (by decide)) (ro_ne t54 t49 (by decide)) (ro_ne t54 t50 (by decide))
  have m55 := mo _ (ro_ne t55 hQ.1 (by decide)) (ro_ne t55 t47 (by decide)) (ro_ne t55 t48 (by decide)) (ro_ne t55 t49 (by decide)) (ro_ne t55 t50 (by decide))
  have er : r (A 21) = gr (A 21) := (f (A 21) (by rw [t21]; decide)).2.2
  unfold c_core
  rw [o 24 (by decide) (by decide), o 25 (by decide) (by decide), o 10 (by decide) (by decide), o 35 (by decide) (by decide), m12, m50, m46, m54, m55, ud_s, ud_n (show (0 : Nat) ≠ 8 by decide), ud_n (show (17 : Nat) ≠ 8 by decide), l3]
  rw [no'] at a1 a2 a4 a7 a8
  refine ⟨be_mono a1 (by omega) (Int.le_refl _), fun i hi => ?_, a3, li_mono a4 (by omega) (fun _ h => h), a5, a6, fun i b hi hq => ?_, fun i hi hn => a8 i hi (by omega)⟩
  · by_cases e : i = (gi (A 1) 6).toNatClampNeg
    · rw [e, ud_s]
      rcases be_x a1 (i := (gi (A 1) 6).toNatClampNeg) l1 with z | ⟨-, -, -, z, -⟩
      · exact z
      · omega
    · rw [ud_n e]
      exact a2 i (by omega)
  · by_cases e : i = (gi (A 1) 6).toNatClampNeg
    · rw [e, e2, up_s, up_s] at hq
      have : q = b := Option.some.inj hq
      subst this
      refine ⟨kd.nz, ?_⟩
      rw [e1, up_n nq1, n5, e, a8 _ l1 (by omega)]
    · rw [e2, up_s, up_n e, er] at hq
      obtain ⟨t, k⟩ := a7 i b (by omega) hq
      have ob : τ1 b = τ b ∧ gi1 b = gi b := by
        rcases t with t | t | t <;> exact old b (by rw [t]; decide) (by rw [t]; decide)
      rw [ob.1, ob.2]
      exact ⟨t, k⟩
theorem c_core.buoy (hJ : th_J τ gi gr) (hC : ro_C τ gr A) (hQ : ro_M τ rm A) (nb : c_eq 1 5 0 gi gm A) (K : c_core τ gi gr gm A) {v1 v2 v3 v4 : Int32} (h : bu_ok τ gi gr gm A τ1 gi1 gr1 gm2 v1 v2 v3 v4) : c_core τ1 gi1 gr1 gm2 A := by
  obtain ⟨g5, s1, s2, s3, s4, ⟨q, w, g, zq, zw, nqw, et, ei, er, go, gq, gw⟩, m12, m40, m41, m42, m43, m46, mo⟩ := h
  obtain ⟨l1, l2, l3⟩ := nI12 (n_p hJ hC) g5
  obtain ⟨a1, a2, a3, a4, a5, a6, a7, a8⟩ := K
  have nb' : gm (A 12) 0 = gi (A 1) 5 := nb.symm
  have t1 := hC.t 1 1 (by decide) rfl
  have t20 := hC.t 20 20 (by decide) rfl
  have t21 := hC.t 21 21 (by decide) rfl
  have old : ∀ b, τ b ≠ 0 → τ b ≠ 1 → τ1 b = τ b ∧ gi1 b = gi b := fun b b0 b1 => by
    have bq : b ≠ q := fun e => b0 (by rw [e]; exact zq)
    have bw : b ≠ w := fun e => b0 (by rw [e]; exact zw)
    have n1 : b ≠ A 1 := fun e => b1 (by rw [e]; exact t1)
    exact ⟨by rw [et, up_n bq, up_n bw], by rw [ei, up_n n1, go b bq bw]⟩
  have o : ∀ i, i ∈ rc_L → ro_c i ≠ 1 → gi1 (A i) = gi (A i) := fun i hi h1 => (old (A i) (by rw [hC.1 i hi]; exact rc_ok i hi) (by rw [hC.1 i hi]; exact h1)).2
  have n21q : A 21 ≠ q := fun e => by rw [← e, t21] at zq; exact absurd zq (by decide)
  have r21 : gr1 (A 21) = gr (A 21) := by rw [er, up_n (ro_ne t21 t20 (by decide)), up_n n21q]
  have t46 := hQ.t 7 46 (by decide)
  have t54 := hQ.t 18 54 (by decide)
  have t55 := hQ.t 19 55 (by decide)
  have t50 := hQ.t 12 50 (by decide)
  have t40 := hQ.t 1 40 (by decide)
  have t41 := hQ.t 2 41 (by decide)
  have t42 := hQ.t 3 42 (by decide)
  have t43 := hQ.t 4 43 (by decide)
  have m50 := mo _ (ro_ne t50 hQ.1 (by decide)) (ro_ne t50 t40 (by decide)) (ro_ne t50 t41 (by decide)) (ro_ne t50 t42 (by decide)) (ro_ne t50 t43 (by decide)) (ro_ne t50 t46 (by decide))
  have m54 := mo _ (ro_ne t54 hQ.1 (by decide)) (ro_ne t54 t40 (by decide)) (ro_ne t54 t41 (by decide)) (ro_ne t54 t42 (by decide)) (ro_ne t54 t43 (by decide)) (ro_ne t54 t46 (by decide))
  have m55 := mo _ (ro_ne t55 hQ.1 (by decide)) (ro_ne t55 t40 (by decide)) (ro_ne t55 t41 (by decide)) (ro_ne t55 t42 (by decide)) (ro_ne t55 t43 (by decide)) (ro_ne t55 t46 (by decide))
  unfold c_core
  rw [o 24 (by decide) (by decide), o 25 (by decide) (by decide), o 10 (by decide) (by decide), o 35 (by decide) (by decide), r21, m12, m50, m46, m54, m55, ud_s, ud_n (show (8 : Nat) ≠ 0 by decide), ud_n (show (17 : Nat) ≠ 0 by decide), l3]
  rw [nb'] at a1 a3
  refine ⟨be_mono a1 (Int.le_refl _) (by omega), a2, fun i hi => ?_, a4, a5, a6, fun i b hi hq => ?_, a8⟩
  · by_cases e : i = (gi (A 1) 5).toNatClampNeg
    · rw [e, ud_s]
      rcases be_y a1 (p := (gi (A 1) 5).toNatClampNeg) l1 with z | ⟨-, -, -, z, -⟩
      · exact z
      · omega
    · rw [ud_n e]
      exact a3 i (by omega)
  · obtain ⟨t, k⟩ := a7 i b hi hq
    have ob : τ1 b = τ b ∧ gi1 b = gi b := by
      rcases t with t | t | t <;> exact old b (by rw [t]; decide) (by rw [t]; decide)
    rw [ob.1, ob.2]
    exact ⟨t, k⟩
end AN
end
section
/-! ===== bits (the first rows are the kit's, to paste) ===== -/
def bt (x : Int32) (i : Nat) : Bool := x.toBitVec.getLsbD i
theorem b_ext {x y : Int32} (h : ∀ i, i < 32 → bt x i = bt y i) : x = y := Int32.toBitVec_inj.mp (BitVec.eq_of_getLsbD_eq (fun i hi => h i hi))
theorem b_or (x y : Int32) (i : Nat) : bt (x ||| y) i = (bt x i || bt y i) := by unfold bt; rw [Int32.toBitVec_or, BitVec.getLsbD_or]
theorem b_and (x y : Int32) (i : Nat) : bt (x &&& y) i = (bt x i && bt y i) := by unfold bt; rw [Int32.toBitVec_and, BitVec.getLsbD_and]
theorem b_xor (x y : Int32) (i : Nat) : bt (x ^^^ y) i = (bt x i ^^ bt y i) := by unfold bt; rw [Int32.toBitVec_xor, BitVec.getLsbD_xor]
theorem b_m1 : ∀ i, i < 32 → bt (-1) i = true := by decide +kernel
theorem b_0 (i : Nat) : bt 0 i = false := BitVec.getLsbD_zero
theorem s_l : ∀ n, n < 32 → ((nI n &&& 31).toBitVec.smod 32).toNat = n := by decide +kernel
theorem b_shl (n : Nat) (hn : n < 32) (x : Int32) {i : Nat} (hi : i < 32) : bt (x <<< (nI n &&& 31)) i = (decide (n ≤ i) && bt x (i - n)) := by
  unfold bt
  rw [Int32.toBitVec_shiftLeft]
  show (x.toBitVec <<< ((nI n &&& 31).toBitVec.smod 32).toNat).getLsbD i = _
  rw [s_l n hn, BitVec.getLsbD_shiftLeft]
  rcases Nat.lt_or_ge i n with h | h
  · simp [h, Nat.not_le.mpr h]
  · simp [hi, h, Nat.not_lt.mpr h]
theorem b_sshr (n : Nat) (hn : n < 32) (x : Int32) {i : Nat} (hi : i < 32) : bt (x >>> (nI n &&& 31)) i = if n + i < 32 then bt x (n + i) else bt x 31 := by
  unfold bt
  rw [Int32.toBitVec_shiftRight]
  show (x.toBitVec.sshiftRight ((nI n &&& 31).toBitVec.smod 32).toNat).getLsbD i = _
  rw [s_l n hn, BitVec.getLsbD_sshiftRight, BitVec.msb_eq_getLsbD_last]
  simp [hi]
theorem b_1 : ∀ i, i < 32 → bt 1 i = decide (i = 0) := by decide +kernel
theorem nI_t {k : Nat} (h : k < 2147483648) : (nI k).toInt = (k : Int) := Int32.toInt_ofNat_of_lt h
theorem nI_c {k : Nat} (h : k < 2147483648) : (nI k).toNatClampNeg = k := cl_in (nI_t h).symm
theorem nI_cl {v : Int32} (h : 0 ≤ v.toInt) : nI v.toNatClampNeg = v := i_inj (by
  have := i_cl h
  have := v.toInt_lt
  rw [nI_t (by omega)]
  omega)
/-- a bit looked at, laid, taken away -/
theorem bt_at {x y : Int32} (h0 : 0 ≤ y.toInt) (h1 : y.toInt < 32) : (x >>> (y &&& 31) &&& 1 = 0) ↔ bt x y.toNatClampNeg = false := by
  have cy := i_cl h0
  rw [← nI_cl h0, nI_c (by omega)]
  have k := b_sshr y.toNatClampNeg (by omega) x (i := 0) (by decide)
  rw [if_pos (by omega)] at k
  constructor
  · intro h
    have e := congrArg (fun z => bt z 0) h
    rw [b_and, b_0, b_1 0 (by decide), k] at e
    simpa using e
  · intro h
    refine b_ext (fun i hi => ?_)
    rw [b_and, b_0, b_1 i hi]
    by_cases e : i = 0
    · subst e
      rw [k]
      simp only [Nat.add_zero]
      rw [h]
      rfl
    · rw [decide_eq_false e, Bool.and_false]
theorem bt_set {x y : Int32} {b : Nat} (h0 : 0 ≤ y.toInt) (h1 : y.toInt < 32) (hb : b < 32) : bt (x ||| 1 <<< (y &&& 31)) b = (bt x b || decide (b = y.toNatClampNeg)) := by
  have cy := i_cl h0
  rw [b_or]
  congr 1
  rw [← nI_cl h0, nI_c (by omega), b_shl _ (by omega) 1 hb]
  by_cases c : y.toNatClampNeg ≤ b
  · rw [decide_eq_true c, Bool.true_and, b_1 _ (by omega)]
    by_cases e : b = y.toNatClampNeg
    · rw [decide_eq_true e, decide_eq_true (by omega)]
    · rw [decide_eq_false e, decide_eq_false (by omega)]
  · rw [decide_eq_false c, Bool.false_and, decide_eq_false (by omega)]
theorem bt_clr {x y : Int32} {b : Nat} (h0 : 0 ≤ y.toInt) (h1 : y.toInt < 32) (hb : b < 32) : bt (x &&& (1 <<< (y &&& 31) ^^^ (-1))) b = (bt x b && !decide (b = y.toNatClampNeg)) := by
  have cy := i_cl h0
  rw [b_and, b_xor, b_m1 b hb, Bool.xor_true]
  congr 2
  rw [← nI_cl h0, nI_c (by omega), b_shl _ (by omega) 1 hb]
  by_cases c : y.toNatClampNeg ≤ b
  · rw [decide_eq_true c, Bool.true_and, b_1 _ (by omega)]
    by_cases e : b = y.toNatClampNeg
    · rw [decide_eq_true e, decide_eq_true (by omega)]
    · rw [decide_eq_false e, decide_eq_false (by omega)]
  · rw [decide_eq_false c, Bool.false_and, decide_eq_false (by omega)]
section PT
variable {τ τ1 : th_t} {Z : th_Zt} {gi gi1 gm gm2 : th_i} {gr gr1 rm rm2 : th_r} {A : Nat → Nat} {M1 M2 : List Nat}
theorem il_at {g : th_i} {y : Int32} (h0 : 0 ≤ y.toInt) (h1 : y.toInt < 16) : F_X6_isLeft τ Z g gr (A 6) y = if bt (g (A 6) 3) y.toNatClampNeg = true then 1 else 0 := by
  unfold F_X6_isLeft
  dsimp only
  rw [w0_c, if_neg (w0_in (by rw [k_0]; exact h0) (by rw [k_15]; omega))]
  have k := bt_at (x := g (A 6) 3) h0 (by omega)
  by_cases c : bt (g (A 6) 3) y.toNatClampNeg = true
  · rw [if_neg (fun q => by rw [k.mp q] at c; cases c), if_pos c]
  · rw [if_pos (k.mpr (by simpa using c)), if_neg c]
theorem il_no {g : th_i} {y : Int32} (h : y.toInt < 0) : F_X6_isLeft τ Z g gr (A 6) y = 0 := by
  unfold F_X6_isLeft
  dsimp only
  rw [w0_c, if_pos (w0_iff.mpr (fun q => by have := i_le.mp q.1; rw [k_0] at this; omega))]
/-- wishes are numbers of BUOYS -/
def c_wnb (gm : th_i) (A : Nat → Nat) : Prop := ∀ i j : Nat, i < 16 → (j : Int) < (gm (A 56) i).toInt → (gm (A 57) (4 * i + j)).toInt < (gm (A 12) 0).toInt
theorem c_wnb.fr (hQ : ro_M τ rm A) (h2 : th_Mod M2 τ gm rm gm2 rm2) (k2 : ∀ k ∈ [1200, 5600, 5700], k ∉ M2) (h : c_wnb gm A) : c_wnb gm2 A := by
  unfold c_wnb
  rw [(ro_k h2 0 hQ.1 (by decide) (k2 1200 (by decide))).1, (ro_ka h2 (hQ.t 21 56 (by decide)) (by decide) (k2 5600 (by decide))).1, (ro_ka h2 (hQ.t 22 57 (by decide)) (by decide) (k2 5700 (by decide))).1]
  exact h
/-- pictures that differ in what RINGS write alone -/
def d_c (A : Nat → Nat) (g g' : th_i) : Prop := ∀ a, a ≠ A 6 → a ≠ A 28 → a ≠ A 29 → g a = g' a
def d_m (A : Nat → Nat) (m m' : th_i) : Prop := ∀ a, a ≠ A 65 → a ≠ A 66 → a ≠ A 67 → m a = m' a
theorem d_c.at {g g' : th_i} (hC : ro_C τ gr A) (h : d_c A g g') {a c : Nat} (t : τ a = c) (h6 : c ≠ 6) (h28 : c ≠ 28) (h29 : c ≠ 29) : g a = g' a := h a (ro_ne t (hC.t 6 6 (by decide) rfl) h6) (ro_ne t (hC.t 28 28 (by decide) rfl) h28) (ro_ne t (hC.t 29 29 (by decide) rfl) h29)
theorem d_m.at {m m' : th_i} (hQ : ro_M τ rm A) (h : d_m A m m') {a c : Nat} (t : τ a = c) (h6 : c ≠ 65) (h28 : c ≠ 66) (h29 : c ≠ 67) : m a = m' a := h a (ro_ne t (hQ.t 34 65 (by decide)) h6) (ro_ne t (hQ.t 35 66 (by decide)) h28) (ro_ne t (hQ.t 36 67 (by decide)) h29)
theorem cf_cong (hQ : ro_M τ rm A) {m : th_i} (h : d_m A m gm) {v p : Int32} : F_X12_canFit τ Z m rm (A 12) v p = F_X12_canFit τ Z gm rm (A 12) v p := by
  have e42 := h.at hQ (hQ.t 3 42 (by decide)) (by decide) (by decide) (by decide)
  have e51 := h.at hQ (hQ.t 13 51 (by decide)) (by decide) (by decide) (by decide)
  have e47 := h.at hQ (hQ.t 9 47 (by decide)) (by decide) (by decide) (by decide)
  have e48 := h.at hQ (hQ.t 10 48 (by decide)) (by decide) (by decide) (by decide)
  have e49 := h.at hQ (hQ.t 11 49 (by decide)) (by decide) (by decide) (by decide)
  have e43 := h.at hQ (hQ.t 4 43 (by decide)) (by decide) (by decide) (by decide)
  have go : ∀ (n : Nat) (a b c : Int32), f_X12_canFit_53 τ Z m rm (A 12) v p n a b c = f_X12_canFit_53 τ Z gm rm (A 12) v p n a b c := by
    intro n
    induction n with
    | zero => intro a b c; rfl
    | succ n ih =>
      intro a b c
      unfold f_X12_canFit_53 f_X12_canFit_87 f_X12_canFit_88
      dsimp only
      rw [hQ.g 3 42 (by decide), hQ.g 13 51 (by decide), e42, e51]
      simp only [ih]
  unfold F_X12_canFit f_X12_canFit_27 f_X12_canFit_48
  dsimp only
  rw [hQ.g 9 47 (by decide), hQ.g 11 49 (by decide), hQ.g 10 48 (by decide), hQ.g 4 43 (by decide), e47, e48, e49, e43]
  simp only [go]
theorem pt_cong (hQ : ro_M τ rm A) {m m' : th_i} (h : d_m A m m') (h66 : m (A 66) = m' (A 66)) {b : Int32} : F_X12_pointed τ Z m rm (A 12) b = F_X12_pointed τ Z m' rm (A 12) b := by
  have e56 := h.at hQ (hQ.t 21 56 (by decide)) (by decide) (by decide) (by decide)
  have e57 := h.at hQ (hQ.t 22 57 (by decide)) (by decide) (by decide) (by decide)
  have e46 := h.at hQ (hQ.t 7 46 (by decide)) (by decide) (by decide) (by decide)
  have go : ∀ (n : Nat) (y : Int32), f_X12_pointed_2 τ Z m rm (A 12) b n y = f_X12_pointed_2 τ Z m' rm (A 12) b n y := by
    intro n
    induction n with
    | zero => intro y; rfl
    | succ n ih =>
      intro y
      unfold f_X12_pointed_2 f_X12_pointed_62
      dsimp only
      rw [hQ.g 21 56 (by decide), hQ.g 22 57 (by decide), hQ.g 7 46 (by decide), hQ.g 35 66 (by decide), e56, e57, e46, h66]
      simp only [ih, cf_cong hQ h]
  unfold F_X12_pointed
  exact go _ _
/-- at whom a BOAT points: the same; it is left, or the BOAT itself -/
theorem hw_eq (Q : q_all τ Z gi gr gm rm A) (K : c_core τ gi gr gm A) (W : c_wish τ gi gr gm A) (V : c_wnb gm A) {g m : th_i} (hg : d_c A g gi) (hm : d_m A m gm) (hl : ∀ b : Nat, (b : Int) < (gm (A 12) 8).toInt → (bt (g (A 6) 3) b = true ↔ m (A 66) b = 0)) {v : Int32} {qb : Nat} (h0 : 0 ≤ v.toInt) (h1 : v.toInt < (gm (A 12) 8).toInt) (hq : gr (A 21) v.toNatClampNeg = some qb) : F_X6_holderOfWish τ Z g gr (A 6) qb = F_X12_pointed τ Z m rm (A 12) v ∧ (F_X12_pointed τ Z m rm (A 12) v = v ∨ (0 ≤ (F_X12_pointed τ Z m rm (A 12) v).toInt ∧ (F_X12_pointed τ Z m rm (A 12) v).toInt < (gm (A 12) 8).toInt ∧ m (A 66) (F_X12_pointed τ Z m rm (A 12) v).toNatClampNeg = 0)) := by
  have Q' := Q
  obtain ⟨hJ, hJm, hC, hQ, no, nb, wi, cb, cu, ct, cs, cl, cr, cw⟩ := Q'
  obtain ⟨a1, a2, a3, a4, a5, a6, a7, a8⟩ := K
  have no' : gm (A 12) 8 = gi (A 1) 6 := no.symm
  have nb' : gm (A 12) 0 = gi (A 1) 5 := nb.symm
  have n162 := (n_b hJ hC).2
  have n12 := n_p hJ hC
  have n122 := n12.2
  have n162' : (gm (A 12) 8).toInt ≤ 16 := by rw [no']; exact n162
  have cv := i_cl h0
  obtain ⟨q2, hqb⟩ := cb v.toNatClampNeg (by omega)
  have : q2 = qb := Option.some.inj (hqb.1.symm.trans hq)
  subst this
  obtain ⟨x0, x1, w, x2, tw, x3⟩ := W.1 v.toNatClampNeg q2 (by omega) hq
  have gq : g q2 = gi q2 := by
    rcases x0 with t | t | t <;> exact hg.at hC t (by decide) (by decide) (by decide)
  have gw : g w = gi w := hg.at hC tw (by decide) (by decide) (by decide)
  have g1 : g (A 1) = gi (A 1) := hg.at hC (hC.t 1 1 (by decide) rfl) (by decide) (by decide) (by decide)
  have g25 : g (A 25) = gi (A 25) := hg.at hC (hC.t 25 25 (by decide) rfl) (by decide) (by decide) (by decide)
  have m56 := hm.at hQ (hQ.t 21 56 (by decide)) (by decide) (by decide) (by decide)
  have m57 := hm.at hQ (hQ.t 22 57 (by decide)) (by decide) (by decide) (by decide)
  have m46 := hm.at hQ (hQ.t 7 46 (by decide)) (by decide) (by decide) (by decide)
  have rn : rg 0 4 (gm (A 56) v.toNatClampNeg) := (hJm.at (hQ.t 21 56 (by decide)) (by decide)) v.toNatClampNeg (by omega)
  have rn2 := rn.2
  have hc : rg 0 4 (g q2 4) := by rw [gq, x1]; exact rn
  have hnum : g q2 0 = v := by
    rw [gq]
    exact i_inj (by rw [hqb.2.1]; exact cv)
  have ix : ∀ y : Int32, 0 ≤ y.toInt → y.toInt ≤ 4 → (4 * v + y).toNatClampNeg = 4 * v.toNatClampNeg + y.toNatClampNeg := fun y y0 y4 => by
    have e4 : (4 : Int32).toInt = 4 := by decide
    have em : (4 * v).toInt = 4 * v.toInt := by rw [i_mul (by rw [e4]; omega) (by rw [e4]; omega), e4]
    have es : (4 * v + y).toInt = 4 * v.toInt + y.toInt := by rw [i_add (by omega) (by omega), em]
    have cy := i_cl y0
    exact cl_in (by omega)
  unfold F_X6_holderOfWish F_X12_pointed
  have go : ∀ (n : Nat) (y : Int32), 0 ≤ y.toInt → (4 - y.toInt).toNat < n → f_X6_holderOfWish_2 τ Z g gr (A 6) q2 n y = f_X12_pointed_2 τ Z m rm (A 12) v n y ∧ (f_X12_pointed_2 τ Z m rm (A 12) v n y = v ∨ (0 ≤ (f_X12_pointed_2 τ Z m rm (A 12) v n y).toInt ∧ (f_X12_pointed_2 τ Z m rm (A 12) v n y).toInt < (gm (A 12) 8).toInt ∧ m (A 66) (f_X12_pointed_2 τ Z m rm (A 12) v n y).toNatClampNeg = 0)) := by
    intro n
    induction n with
    | zero => intro y _ h; exact absurd h (Nat.not_lt_zero _)
    | succ n ih =>
      intro y y0 h
      unfold f_X6_holderOfWish_2 f_X6_holderOfWish_75 f_X12_pointed_2 f_X12_pointed_62
      dsimp only
      rw [hC.g 6 0 1 (by decide), hC.g 1 4 2 (by decide), hQ.g 21 56 (by decide), hQ.g 22 57 (by decide), hQ.g 7 46 (by decide), hQ.g 35 66 (by decide), m56, m57, m46, hnum]
      have ecnt : g q2 4 = gm (A 56) v.toNatClampNeg := by rw [gq, x1]
      rw [ecnt]
      by_cases c : gm (A 56) v.toNatClampNeg ≤ y
      · rw [if_pos c, if_pos c]
        exact ⟨rfl, Or.inl rfl⟩
      · rw [if_neg c, if_neg c]
        have c' := i_ltI.mp (Int32.not_le.mp c)
        have cy := i_cl y0
        have e := y_1 (m := 4) (by decide) y0 (by omega)
        have I := ih (y + 1) (by omega) (by omega)
        rw [wa_at (τ := τ) (Z := Z) (gi := g) x2 hc y0 (by rw [ecnt]; exact c'), gw, x3 y.toNatClampNeg (by omega), ix y y0 (by omega)]
        have wr : rg 0 11 (gm (A 57) (4 * v.toNatClampNeg + y.toNatClampNeg)) := (hJm.at (hQ.t 22 57 (by decide)) (by decide)) _ (by omega)
        have wn := V v.toNatClampNeg y.toNatClampNeg (by omega) (by omega)
        generalize gm (A 57) (4 * v.toNatClampNeg + y.toNatClampNeg) = p at wr wn
        have cp := i_cl wr.1
        rw [bu_g hC (by rw [g1]; exact n12) wr.1 (by rw [g1, ← nb']; exact wn)]
        obtain ⟨qp, hqp⟩ := cu p.toNatClampNeg (by omega)
        have gqp : g qp = gi qp := hg.at hC hqp.2.1 (by decide) (by decide) (by decide)
        have hpn : g qp 0 = p := by
          rw [gqp]
          exact i_inj (by rw [hqp.2.2.1]; exact cp)
        rw [hqp.1]
        simp only [Option.elim_some]
        have wr2 := wr.2
        rw [hpn, bu_of (hC.e 2 1 25 (by decide)) wr.1 (by omega), g25, ← a3 p.toNatClampNeg (by omega)]
        have esu : F_X0_suits τ Z g gr (A 1) q2 qp = F_X12_canFit τ Z m rm (A 12) v p := by
          rw [cf_cong hQ hm, ← fits_eq (gi := gi) (gr := gr) hQ hJm ct cl hqb hqp]
          unfold F_X0_suits
          dsimp only
          rw [ne_at (gi := g) hqb.2.2.2.2.1, ne_at (gi := gi) hqb.2.2.2.2.1, gq, gqp, g1]
        rw [esu]
        rcases be_y a1 (p := p.toNatClampNeg) (by omega) with z | ⟨z0, z1, z2, z3, z4⟩
        · rw [z, il_no (by decide), if_pos rfl, if_pos (by decide)]
          exact I
        · have nn : ¬ gi (A 25) p.toNatClampNeg < 0 := fun q => by have := i_ltI.mp q; rw [k_0] at this; omega
          rw [il_at z0 (by omega), if_neg nn]
          have cz := i_cl z0
          have L := hl (gi (A 25) p.toNatClampNeg).toNatClampNeg (by omega)
          by_cases c2 : m (A 66) (gi (A 25) p.toNatClampNeg).toNatClampNeg = 0
          · rw [if_pos (L.mpr c2), if_neg (show ¬ (1 : Int32) = 0 by decide), if_pos c2]
            by_cases c3 : F_X12_canFit τ Z m rm (A 12) v p = 0
            · rw [if_pos c3, if_pos c3]
              exact I
            · rw [if_neg c3, if_neg c3]
              exact ⟨rfl, Or.inr ⟨z0, z1, c2⟩⟩
          · rw [if_neg (fun q => c2 (L.mp q)), if_pos rfl, if_neg c2]
            exact I
  exact go _ 0 (by decide) (Nat.lt_add_one _)
end PT
end
