/-! ===== the first HOUR at which two may TOUCH ===== -/
section TU
variable {τ τ1 : th_t} {Z : th_Zt} {gi gi1 gm gm2 : th_i} {gr gr1 rm rm2 : th_r} {A : Nat → Nat} {M1 M2 : List Nat}
theorem ab_sym {p q : Int32} (hp : rg 0 999 p) (hq : rg 0 999 q) : th_ab (p - q) = th_ab (q - p) := by
  obtain ⟨p0, p1⟩ := hp
  obtain ⟨q0, q1⟩ := hq
  have e1 : (p - q).toInt = p.toInt - q.toInt := i_sub (by omega) (by omega)
  have e2 : (q - p).toInt = q.toInt - p.toInt := i_sub (by omega) (by omega)
  obtain ⟨a1, a2⟩ := ab_c (x := p - q) (by omega)
  obtain ⟨b1, b2⟩ := ab_c (x := q - p) (by omega)
  apply i_inj
  by_cases c : p.toInt < q.toInt
  · rw [a2 (by omega), b1 (by omega)]
    omega
  · by_cases d : p.toInt = q.toInt
    · rw [a1 (by omega), b1 (by omega)]
      omega
    · rw [a1 (by omega), b2 (by omega)]
      omega
theorem pair_iff (hQ : ro_M τ rm A) (hw : c_way Z gm A) (hwin : gi (A 1) 7 = gm (A 12) 14) {p q out oo v t : Int32} (a1 : rg 0 999 (gm (A 40) p.toNatClampNeg)) (a2 : rg 0 999 (gm (A 40) q.toNatClampNeg)) (a3 : rg 0 999 (gm (A 41) p.toNatClampNeg)) (a4 : rg 0 999 (gm (A 41) q.toNatClampNeg)) (ho : rg 0 850 out) (hoo : rg 0 850 oo) (v0 : 0 ≤ v.toInt) (v7 : v.toInt ≤ 7) (t0 : -1 ≤ t.toInt) (t1 : t.toInt ≤ 1) : pT τ Z gm rm (A 12) p out q oo v (v + (t + 8) - (v + (t + 8)) / 8 * 8) ↔ pM τ Z gi gr (A 1) (gm (A 40) q.toNatClampNeg - gm (A 40) p.toNatClampNeg) (gm (A 41) q.toNatClampNeg - gm (A 41) p.toNatClampNeg) out oo v (v + t &&& 7) := by
  obtain ⟨⟨w0, w7⟩, -, -, e⟩ := wadj v0 v7 t0 t1
  unfold pT pM
  rw [e, ← bl_eq (τ := τ) (Z := Z) (gr := gr) (rm := rm) hwin, ← bl_eq (τ := τ) (Z := Z) (gr := gr) (rm := rm) hwin, me_eq (gi := gi) (gr := gr) hQ hw a1 a2 a3 a4 ho hoo v0 v7 w0 w7]
theorem ta_eq (hQ : ro_M τ rm A) (hJm : th_J τ gm rm) (hw : c_way Z gm A) (hwin : gi (A 1) 7 = gm (A 12) 14) (ht : c_tid gi gm A) {a p b q h : Int32} {qa qp qb qq : Nat} (ba : b_at τ gi gr gm A a.toNatClampNeg qa) (bb : b_at τ gi gr gm A b.toNatClampNeg qb) (up : u_at τ gi gr gm A p.toNatClampNeg qp) (uq : u_at τ gi gr gm A q.toNatClampNeg qq) (sp : u_sl τ gi gr A qp) (sq : u_sl τ gi gr A qq) (h0 : 0 ≤ h.toInt) (h1 : h.toInt < 24) : F_X0_mayMeet τ Z gi gr (A 1) (gi qq 1 - gi qp 1) (gi qq 2 - gi qp 2) (F_X3_slackAt τ Z gi gr qp h + FV_reach τ Z gi gr qa) (F_X3_slackAt τ Z gi gr qq h + FV_reach τ Z gi gr qb) = 0 ↔ F_X12_touchAt τ Z gm rm (A 12) a p b q h = 0 := by
  obtain ⟨k1, l1⟩ := slack_eq (Z := Z) hQ hJm ht up sp h0 h1
  obtain ⟨k2, l2⟩ := slack_eq (Z := Z) hQ hJm ht uq sq h0 h1
  obtain ⟨-, -, a3, -, a5, a6, -⟩ := ba
  obtain ⟨-, -, b3, -, b5, b6, -⟩ := bb
  obtain ⟨-, -, -, x4, x5, -, -, x8, x9, -⟩ := up
  obtain ⟨-, -, -, y4, y5, -, -, y8, y9, -⟩ := uq
  rw [k1, k2, re_at a5, re_at b5, a3, b3, x4, x5, y4, y5]
  rw [a3] at a6
  rw [b3] at b6
  rw [x4] at x8
  rw [x5] at x9
  rw [y4] at y8
  rw [y5] at y9
  have ra := reach_rg (k := gm (A 47) a.toNatClampNeg) a6
  have rb := reach_rg (k := gm (A 47) b.toNatClampNeg) b6
  have ho : rg 0 850 (F_X12_slackOf τ Z gm rm (A 12) p h + f_reach (gm (A 47) a.toNatClampNeg) (gm (A 48) a.toNatClampNeg)) := rg_w (rg_add l1 ra (by decide) (by decide)) (by decide) (by decide)
  have hoo : rg 0 850 (F_X12_slackOf τ Z gm rm (A 12) q h + f_reach (gm (A 47) b.toNatClampNeg) (gm (A 48) b.toNatClampNeg)) := rg_w (rg_add l2 rb (by decide) (by decide)) (by decide) (by decide)
  unfold F_X12_touchAt f_X12_touchAt_86
  dsimp only
  rw [hQ.g 1 40 (by decide), hQ.g 2 41 (by decide), reach_at hQ, reach_at hQ, ab_sym x8 y8, ab_sym x9 y9]
  generalize F_X12_slackOf τ Z gm rm (A 12) p h + f_reach (gm (A 47) a.toNatClampNeg) (gm (A 48) a.toNatClampNeg) = out at ho ⊢
  generalize F_X12_slackOf τ Z gm rm (A 12) q h + f_reach (gm (A 47) b.toNatClampNeg) (gm (A 48) b.toNatClampNeg) = oo at hoo ⊢
  unfold F_X0_mayMeet
  dsimp only
  have dX : (gm (A 40) q.toNatClampNeg - gm (A 40) p.toNatClampNeg).toInt = (gm (A 40) q.toNatClampNeg).toInt - (gm (A 40) p.toNatClampNeg).toInt := i_sub (by have := x8.1; have := x8.2; have := y8.1; have := y8.2; omega) (by have := x8.1; have := x8.2; have := y8.1; have := y8.2; omega)
  have dY : (gm (A 41) q.toNatClampNeg - gm (A 41) p.toNatClampNeg).toInt = (gm (A 41) q.toNatClampNeg).toInt - (gm (A 41) p.toNatClampNeg).toInt := i_sub (by have := x9.1; have := x9.2; have := y9.1; have := y9.2; omega) (by have := x9.1; have := x9.2; have := y9.1; have := y9.2; omega)
  have rX : -999 ≤ (gm (A 40) q.toNatClampNeg - gm (A 40) p.toNatClampNeg).toInt ∧ (gm (A 40) q.toNatClampNeg - gm (A 40) p.toNatClampNeg).toInt ≤ 999 := by
    have := x8.1; have := x8.2; have := y8.1; have := y8.2
    omega
  have rY : -999 ≤ (gm (A 41) q.toNatClampNeg - gm (A 41) p.toNatClampNeg).toInt ∧ (gm (A 41) q.toNatClampNeg - gm (A 41) p.toNatClampNeg).toInt ≤ 999 := by
    have := x9.1; have := x9.2; have := y9.1; have := y9.2
    omega
  have P := fun (v t : Int32) (v0 : 0 ≤ v.toInt) (v7 : v.toInt ≤ 7) (t0 : -1 ≤ t.toInt) (t1 : t.toInt ≤ 1) => pair_iff (gr := gr) hQ hw hwin (p := p) (q := q) x8 y8 x9 y9 ho hoo v0 v7 t0 t1
  have L := ta_89 (τ := τ) (Z := Z) (gm := gm) (rm := rm) (a := A 12) (p1 := a) (p := p) (q := q) (p3 := b) (hh := h) (one := out) (two := oo) ((8 - (0 : Int32).toInt).toNat + 1) 0 (by decide) (Nat.lt_add_one _)
  have K := mm_45 (τ := τ) (Z := Z) (gi := gi) (gr := gr) (a := A 1) (dx := gm (A 40) q.toNatClampNeg - gm (A 40) p.toNatClampNeg) (dy := gm (A 41) q.toNatClampNeg - gm (A 41) p.toNatClampNeg) (out := out) (oo := oo) ((8 - (0 : Int32).toInt).toNat + 1) 0 (by decide) (Nat.lt_add_one _)
  have E := fun (v t x y : Int32) (m : Int) => far_em (τ := τ) (gi := gi) (gr := gr) (dx := x) (dy := y) (v := v) (t := t) (m := m) hw ho hoo
  generalize gm (A 40) q.toNatClampNeg - gm (A 40) p.toNatClampNeg = dx at dX rX P K ⊢
  generalize gm (A 41) q.toNatClampNeg - gm (A 41) p.toNatClampNeg = dy at dY rY P K ⊢
  obtain ⟨u1, u2, u3⟩ := mx_c (th_ab dx) (th_ab dy)
  obtain ⟨z1, z2, z3⟩ := mx_c out oo
  have k8 : (8 : Int32).toInt = 8 := by decide
  have e8 : ∀ t : Int32, 7 ≤ t.toInt → t.toInt ≤ 9 → (t - 8).toInt = t.toInt - 8 ∧ t - 8 + 8 = t := fun t q1 q2 => ⟨by rw [i_sub (by rw [k8]; omega) (by rw [k8]; omega), k8], Int32.sub_add_cancel t 8⟩
  have f8 : ∀ t : Int32, -1 ≤ t.toInt → t.toInt ≤ 1 → (t + 8).toInt = t.toInt + 8 := fun t q1 q2 => by rw [i_add (by rw [k8]; omega) (by rw [k8]; omega), k8]
  have href : th_mn out oo ≤ th_mx (th_ab dx) (th_ab dy) → (if th_mn out oo ≤ th_ab dx then f_X12_touchAt_89 τ Z gm rm (A 12) a p b q h ((8 - (0 : Int32).toInt).toNat + 1) out oo 0 else if th_mn out oo ≤ th_ab dy then f_X12_touchAt_89 τ Z gm rm (A 12) a p b q h ((8 - (0 : Int32).toInt).toNat + 1) out oo 0 else 1) = f_X12_touchAt_89 τ Z gm rm (A 12) a p b q h ((8 - (0 : Int32).toInt).toNat + 1) out oo 0 := fun c => by
    by_cases c1 : th_mn out oo ≤ th_ab dx
    · rw [if_pos c1]
    · rw [if_neg c1]
      rcases u3 with u | u
      · rw [u] at c
        exact absurd c c1
      · rw [u] at c
        rw [if_pos c]
  by_cases c : th_mn out oo ≤ th_mx (th_ab dx) (th_ab dy)
  · rw [if_pos c, href c]
    by_cases s : th_mx (th_ab dx) (th_ab dy) < th_mx out oo + 20
    · rw [if_pos s]
      rcases K with ⟨K1, v, t, K2, K3, K4, K5, K6⟩ | ⟨K1, K2⟩
      · rcases L with ⟨L1, -⟩ | ⟨-, L2⟩
        · rw [K1, L1]
        · rw [k_0] at K2
          have e := f8 t K4 K5
          exact absurd ((P v t K2 K3 K4 K5).mpr K6) (L2 v (t + 8) (by rw [k_0]; exact K2) K3 (by omega) (by omega))
      · rcases L with ⟨-, v, t, L2, L3, L4, L5, L6⟩ | ⟨L1, -⟩
        · rw [k_0] at L2
          obtain ⟨e1, e2⟩ := e8 t L4 L5
          rw [← e2] at L6
          exact absurd ((P v (t - 8) L2 L3 (by omega) (by omega)).mp L6) (K2 v (t - 8) (by rw [k_0]; exact L2) L3 (by omega) (by omega))
        · rw [K1, L1]
    · rw [if_neg s]
      have s' := i_le.mp (Int32.not_lt.mp s)
      have o1 := ho.1
      have o2 := ho.2
      have oo1 := hoo.1
      have oo2 := hoo.2
      have m850 : (th_mx out oo).toInt ≤ 850 := by
        rcases z3 with z | z <;> (rw [z]; omega)
      rw [i_add (by rw [k_20]; omega) (by rw [k_20]; omega), k_20] at s'
      have far : ((th_mx out oo).toInt + 20 ≤ dx.toInt ∨ dx.toInt ≤ -((th_mx out oo).toInt + 20)) ∨ ((th_mx out oo).toInt + 20 ≤ dy.toInt ∨ dy.toInt ≤ -((th_mx out oo).toInt + 20)) := by
        rcases u3 with u | u
        · rw [u] at s'
          obtain ⟨p1, p2⟩ := ab_c (x := dx) (by omega)
          by_cases d : 0 ≤ dx.toInt
          · rw [p1 d] at s'
            exact Or.inl (Or.inl s')
          · rw [p2 (by omega)] at s'
            exact Or.inl (Or.inr (by omega))
        · rw [u] at s'
          obtain ⟨p1, p2⟩ := ab_c (x := dy) (by omega)
          by_cases d : 0 ≤ dy.toInt
          · rw [p1 d] at s'
            exact Or.inr (Or.inl s')
          · rw [p2 (by omega)] at s'
            exact Or.inr (Or.inr (by omega))
      rcases L with ⟨-, v, t, L2, L3, L4, L5, L6⟩ | ⟨L1, -⟩
      · rw [k_0] at L2
        obtain ⟨e1, e2⟩ := e8 t L4 L5
        rw [← e2] at L6
        exact absurd (E v (t - 8) dx dy (th_mx out oo).toInt z1 z2 m850 rX rY far L2 L3 (by omega) (by omega)) ((P v (t - 8) L2 L3 (by omega) (by omega)).mp L6).2.2
      · rw [L1]
  · rw [if_neg c]
    have c' := i_ltI.mp (Int32.not_le.mp c)
    rw [if_neg (fun q => by have := i_le.mp q; omega), if_neg (fun q => by have := i_le.mp q; omega)]
/-- the loops over HOURS -/
theorem f16_0 {a : Nat} {p1 p2 p3 p4 y : Int32} {k : Int32 → Int32} (hy : y.toInt ≤ 23) : ∀ (n : Nat) (g : Int32), 0 ≤ g.toInt → (23 - g.toInt).toNat < n → f_X12_firstTouch_16 τ Z gm rm a p1 p2 p3 p4 y k n 0 g = k (y + 1) := by
  intro n
  induction n with
  | zero => intro g _ h; exact absurd h (Nat.not_lt_zero _)
  | succ n ih =>
    intro g h0 h
    unfold f_X12_firstTouch_16 f_X12_firstTouch_80 f_X12_firstTouch_49 f_X12_firstTouch_50
    dsimp only
    by_cases hc : y ≤ g
    · rw [if_pos hc, if_pos rfl]
    · rw [if_neg hc, if_pos rfl]
      have hc' := i_ltI.mp (Int32.not_le.mp hc)
      have e := y_1 (m := 24) (by decide) h0 (by omega)
      exact ih (g + 1) (by omega) (by omega)
theorem f16_1 (hQ : ro_M τ rm A) {p1 p2 p3 p4 y : Int32} {k : Int32 → Int32} (hy0 : 0 ≤ y.toInt) (hy : y.toInt ≤ 23) : ∀ (n : Nat) (g : Int32), 0 ≤ g.toInt → (23 - g.toInt).toNat < n → (f_X12_firstTouch_16 τ Z gm rm (A 12) p1 p2 p3 p4 y k n 1 g = k (y + 1) ∧ ∃ j : Nat, j < y.toNatClampNeg ∧ gm (A 51) j = gm (A 51) y.toNatClampNeg) ∨ (f_X12_firstTouch_16 τ Z gm rm (A 12) p1 p2 p3 p4 y k n 1 g = (if F_X12_touchAt τ Z gm rm (A 12) p1 p2 p3 p4 y = 0 then k (y + 1) else y) ∧ ∀ j : Nat, g.toInt ≤ (j : Int) → j < y.toNatClampNeg → ¬ gm (A 51) j = gm (A 51) y.toNatClampNeg) := by
  have cy := i_cl hy0
  intro n
  induction n with
  | zero => intro g _ h; exact absurd h (Nat.not_lt_zero _)
  | succ n ih =>
    intro g h0 h
    have cg := i_cl h0
    unfold f_X12_firstTouch_16 f_X12_firstTouch_80 f_X12_firstTouch_49 f_X12_firstTouch_50
    dsimp only
    rw [hQ.g 13 51 (by decide)]
    by_cases hc : y ≤ g
    · have hc' := i_le.mp hc
      rw [if_pos hc, if_neg (by decide)]
      exact Or.inr ⟨rfl, fun j h1 h2 => by omega⟩
    · have hc' := i_ltI.mp (Int32.not_le.mp hc)
      have e := y_1 (m := 24) (by decide) h0 (by omega)
      rw [if_neg hc, if_neg (by decide)]
      by_cases he : gm (A 51) g.toNatClampNeg = gm (A 51) y.toNatClampNeg
      · rw [if_pos he]
        exact Or.inl ⟨f16_0 hy n (g + 1) (by omega) (by omega), g.toNatClampNeg, by omega, he⟩
      · rw [if_neg he]
        rcases ih (g + 1) (by omega) (by omega) with l | ⟨l1, l2⟩
        · exact Or.inl l
        · refine Or.inr ⟨l1, fun j h1 h2 => ?_⟩
          by_cases hj : (j : Int) = g.toInt
          · rw [← cl_in hj]
            exact he
          · exact l2 j (by omega) h2
theorem ft_go (hC : ro_C τ gr A) (hQ : ro_M τ rm A) (ht : c_tid gi gm A) (hr : c_rep gi A) {a p b q dx dy ra rb : Int32} {qa qp qb qq : Nat} (key : ∀ h : Int32, 0 ≤ h.toInt → h.toInt < 24 → (F_X0_mayMeet τ Z gi gr (A 1) dx dy (F_X3_slackAt τ Z gi gr qp h + ra) (F_X3_slackAt τ Z gi gr qq h + rb) = 0 ↔ F_X12_touchAt τ Z gm rm (A 12) a p b q h = 0)) : ∀ (n m : Nat) (y : Int32), 0 ≤ y.toInt → (24 - y.toInt).toNat < n → (24 - y.toInt).toNat < m → f_X0_firstTouch_39 τ Z gi gr (A 1) qa qp qb qq n dx dy ra rb y = f_X12_firstTouch_3 τ Z gm rm (A 12) a p b q m y ∧ (f_X0_firstTouch_39 τ Z gi gr (A 1) qa qp qb qq n dx dy ra rb y = -1 ∨ rg 0 23 (f_X0_firstTouch_39 τ Z gi gr (A 1) qa qp qb qq n dx dy ra rb y)) := by
  intro n
  induction n with
  | zero => intro m y _ h; exact absurd h (Nat.not_lt_zero _)
  | succ n ih =>
    intro m y h0 h hm
    cases m with
    | zero => exact absurd hm (Nat.not_lt_zero _)
    | succ m =>
      unfold f_X0_firstTouch_39 f_X0_firstTouch_89 f_X12_firstTouch_3
      dsimp only
      rw [hC.g 1 3 23 (by decide)]
      by_cases hc : (24 : Int32) ≤ y
      · rw [if_pos hc, if_pos hc]
        exact ⟨rfl, Or.inl rfl⟩
      · rw [if_neg hc, if_neg hc]
        have hc' := i_ltI.mp (Int32.not_le.mp hc)
        rw [k_24] at hc'
        have cy := i_cl h0
        have e := y_1 (m := 24) (by decide) h0 (by omega)
        have I := ih m (y + 1) (by omega) (by omega) (by omega)
        have hy : y.toNatClampNeg < 24 := by omega
        have R := hr y.toNatClampNeg hy
        have same : ∀ j : Nat, j < y.toNatClampNeg → (gi (A 22) j = gi (A 22) y.toNatClampNeg ↔ gm (A 51) j = gm (A 51) y.toNatClampNeg) := fun j hj => by rw [ht j (by omega), ht _ hy]
        rcases f16_1 (τ := τ) (Z := Z) (gm := gm) hQ (p1 := a) (p2 := p) (p3 := b) (p4 := q) (y := y) (k := f_X12_firstTouch_3 τ Z gm rm (A 12) a p b q m) h0 (by omega) ((23 - (0 : Int32).toInt).toNat + 1) 0 (by decide) (Nat.lt_add_one _) with ⟨l1, j, l2, l3⟩ | ⟨l1, l2⟩
        · rw [l1, if_neg (fun z => (R.mp z) j l2 ((same j l2).mpr l3))]
          exact I
        · rw [l1, if_pos (R.mpr (fun j hj q' => l2 j (by rw [k_0]; omega) hj ((same j hj).mp q')))]
          have K := key y h0 hc'
          by_cases c : F_X12_touchAt τ Z gm rm (A 12) a p b q y = 0
          · rw [if_pos c, if_pos (K.mpr c)]
            exact I
          · rw [if_neg c, if_neg (fun z => c (K.mp z))]
            exact ⟨rfl, Or.inr ⟨h0, by omega⟩⟩
theorem ft_eq (hC : ro_C τ gr A) (hQ : ro_M τ rm A) (hJm : th_J τ gm rm) (hw : c_way Z gm A) (hwin : gi (A 1) 7 = gm (A 12) 14) (ht : c_tid gi gm A) (hr : c_rep gi A) {a p b q : Int32} {qa qp qb qq : Nat} (ba : b_at τ gi gr gm A a.toNatClampNeg qa) (bb : b_at τ gi gr gm A b.toNatClampNeg qb) (up : u_at τ gi gr gm A p.toNatClampNeg qp) (uq : u_at τ gi gr gm A q.toNatClampNeg qq) (sp : u_sl τ gi gr A qp) (sq : u_sl τ gi gr A qq) : F_X0_firstTouch τ Z gi gr (A 1) qa qp qb qq = F_X12_firstTouch τ Z gm rm (A 12) a p b q ∧ (F_X0_firstTouch τ Z gi gr (A 1) qa qp qb qq = -1 ∨ rg 0 23 (F_X0_firstTouch τ Z gi gr (A 1) qa qp qb qq)) := by
  unfold F_X0_firstTouch F_X12_firstTouch
  exact ft_go hC hQ ht hr (fun h h0 h1 => ta_eq hQ hJm hw hwin ht ba bb up uq sp sq h0 h1) _ _ 0 (by decide) (Nat.lt_add_one _) (Nat.lt_add_one _)
theorem s_touch (hJ : th_J τ gi gr) (hJm : th_J τ gm rm) (hC : ro_C τ gr A) (hQ : ro_M τ rm A) (no : c_eq 1 6 8 gi gm A) (nb : c_eq 1 5 0 gi gm A) (wi : c_eq 1 7 14 gi gm A) (hb : c_boat τ gi gr gm A) (hu : c_buoy τ gi gr gm A) (ht : c_tid gi gm A) (hs : c_sl τ gi gr A) (hr : c_rep gi A) (hw : c_way Z gm A) {v p o q r1 r2 : Int32} (e1 : F_X11_touch τ Z gi gr (A 11) v p o q = (r1, gi1)) (e2 : F_X12_touch τ Z gm rm (A 12) v p o q = (r2, gm2)) : r1 = r2 := by
  have no' : gm (A 12) 8 = gi (A 1) 6 := no.symm
  have nb' : gm (A 12) 0 = gi (A 1) 5 := nb.symm
  unfold F_X11_touch f_X11_touch_61 f_X11_touch_78 at e1
  unfold F_X12_touch F_X12_isBoat F_X12_isBuoy f_X12_touch_44 at e2
  dsimp only at e1 e2
  rw [hC.g 11 0 1 (by decide)] at e1
  rw [w0_m, w0_m, w0_m, w0_m, no', nb'] at e2
  by_cases g1 : W0 v 0 (gi (A 1) 6 - 1) = 0
  · rw [bo_no hJ hC g1] at e1
    rw [if_pos g1] at e2
    exact (s_fip hC hQ (w1 := 1) (by decide) (by decide) e1 e2).1
  obtain ⟨f1, f2, f3, f4⟩ := bo_yes (Z := Z) hJ hC g1
  obtain ⟨qa, hqa⟩ := hb v.toNatClampNeg (by rw [f3, no']; exact f4)
  rw [f1, hqa.1] at e1
  rw [if_neg g1] at e2
  by_cases g2 : W0 p 0 (gi (A 1) 5 - 1) = 0
  · simp only [Option.elim_some, bu_no (Z := Z) hJ hC g2, Option.elim_none] at e1
    rw [if_pos g2] at e2
    exact (s_fip hC hQ (w1 := 1) (by decide) (by decide) e1 e2).1
  obtain ⟨m1, m2, m3, m4⟩ := bu_yes (Z := Z) hJ hC g2
  obtain ⟨qp, hqp⟩ := hu p.toNatClampNeg (by rw [m3, nb']; exact m4)
  rw [if_neg g2] at e2
  by_cases g3 : W0 o 0 (gi (A 1) 6 - 1) = 0
  · simp only [Option.elim_some, m1, hqp.1, bo_no (Z := Z) hJ hC g3, Option.elim_none] at e1
    rw [if_pos g3] at e2
    exact (s_fip hC hQ (w1 := 1) (by decide) (by decide) e1 e2).1
  obtain ⟨l1, l2, l3, l4⟩ := bo_yes (Z := Z) hJ hC g3
  obtain ⟨qb, hqb⟩ := hb o.toNatClampNeg (by rw [l3, no']; exact l4)
  rw [if_neg g3] at e2
  by_cases g4 : W0 q 0 (gi (A 1) 5 - 1) = 0
  · simp only [Option.elim_some, m1, hqp.1, l1, hqb.1, bu_no (Z := Z) hJ hC g4, Option.elim_none] at e1
    rw [if_pos g4] at e2
    exact (s_fip hC hQ (w1 := 1) (by decide) (by decide) e1 e2).1
  obtain ⟨n1, n2, n3, n4⟩ := bu_yes (Z := Z) hJ hC g4
  obtain ⟨qq, hqq⟩ := hu q.toNatClampNeg (by rw [n3, nb']; exact n4)
  rw [if_neg g4] at e2
  simp only [Option.elim_some, m1, hqp.1, l1, hqb.1, n1, hqq.1] at e1
  by_cases g5 : v = o
  · rw [if_pos g5] at e1 e2
    exact (s_fip hC hQ (w1 := 1) (by decide) (by decide) e1 e2).1
  rw [if_neg g5] at e1 e2
  by_cases g6 : p = q
  · rw [if_pos g6] at e1 e2
    exact (s_fip hC hQ (w1 := 1) (by decide) (by decide) e1 e2).1
  rw [if_neg g6] at e1 e2
  have k := (ft_eq (Z := Z) hC hQ hJm hw wi ht hr hqa hqb hqp hqq (hs.1 _ qp (by rw [m3]; exact m4) hqp.1) (hs.1 _ qq (by rw [n3]; exact n4) hqq.1)).1
  rw [k] at e1
  exact (pr2 e1).1.symm.trans (pr2 e2).1
end TU
