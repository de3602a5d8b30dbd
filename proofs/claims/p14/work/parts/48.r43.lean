/-! ===== two that TOUCH, either way round ===== -/
section SY
variable {τ τ1 : th_t} {Z : th_Zt} {gi gi1 gm gm2 : th_i} {gr gr1 rm rm2 : th_r} {A : Nat → Nat} {M1 M2 : List Nat}
theorem em_neg {x y x' y' : Int32} (hx : x'.toInt = -x.toInt) (hy : y'.toInt = -y.toInt) : f_em x y = f_em x' y' := by
  unfold f_em
  simp only [i_le, k_20, k_m20, hx, hy]
  repeat' split
  all_goals first | rfl | omega
theorem em_sy (hw : c_way Z gm A) {dx dy dx' dy' out oo v w : Int32} (hx : dx'.toInt = -dx.toInt) (hy : dy'.toInt = -dy.toInt) (bx : -999 ≤ dx.toInt ∧ dx.toInt ≤ 999) (bY : -999 ≤ dy.toInt ∧ dy.toInt ≤ 999) (ho : rg 0 850 out) (hoo : rg 0 850 oo) (v0 : 0 ≤ v.toInt) (v7 : v.toInt ≤ 7) (w0 : 0 ≤ w.toInt) (w7 : w.toInt ≤ 7) : F_X0_endsMeet τ Z gi gr dx dy out v oo w = F_X0_endsMeet τ Z gi gr dx' dy' oo w out v := by
  rw [em_eq hw v0 v7 w0 w7, em_eq hw w0 w7 v0 v7]
  obtain ⟨-, -, p1, p2, -⟩ := wt v0 v7
  obtain ⟨-, -, q1, q2, -⟩ := wt w0 w7
  have fv := far_rg (v := v) ho
  have fw := far_rg (v := w) hoo
  have ho2 := ho.2
  have hoo2 := hoo.2
  have a1 := pw_rg (f := f_far v out) ⟨fv.1, by omega⟩ p1
  have a2 := pw_rg (f := f_far v out) ⟨fv.1, by omega⟩ p2
  have b1 := pw_rg (f := f_far w oo) ⟨fw.1, by omega⟩ q1
  have b2 := pw_rg (f := f_far w oo) ⟨fw.1, by omega⟩ q2
  have go : ∀ {d d' s u : Int32}, d'.toInt = -d.toInt → (-999 ≤ d.toInt ∧ d.toInt ≤ 999) → (-850 ≤ s.toInt ∧ s.toInt ≤ 850) → (-850 ≤ u.toInt ∧ u.toInt ≤ 850) → (d' + s - u).toInt = -(d + u - s).toInt := fun {d d' s u} e c1 c2 c3 => by
    have e1 : (d + u).toInt = d.toInt + u.toInt := i_add (by omega) (by omega)
    have e2 : (d + u - s).toInt = d.toInt + u.toInt - s.toInt := by rw [i_sub (by omega) (by omega), e1]
    have e3 : (d' + s).toInt = d'.toInt + s.toInt := i_add (by omega) (by omega)
    have e4 : (d' + s - u).toInt = d'.toInt + s.toInt - u.toInt := by rw [i_sub (by omega) (by omega), e3]
    omega
  exact em_neg (go hx bx a1 b1) (go hy bY a2 b2)
theorem wadj2 {v t : Int32} (h0 : 0 ≤ v.toInt) (h7 : v.toInt ≤ 7) (t0 : -1 ≤ t.toInt) (t1 : t.toInt ≤ 1) : ∃ t' : Int32, -1 ≤ t'.toInt ∧ t'.toInt ≤ 1 ∧ (v + t &&& 7) + t' &&& 7 = v := by
  rcases w3 t0 t1 with rfl | rfl | rfl
  · refine ⟨1, by decide, by decide, ?_⟩
    rcases w8 h0 h7 with rfl | rfl | rfl | rfl | rfl | rfl | rfl | rfl <;> decide
  · refine ⟨0, by decide, by decide, ?_⟩
    rcases w8 h0 h7 with rfl | rfl | rfl | rfl | rfl | rfl | rfl | rfl <;> decide
  · refine ⟨-1, by decide, by decide, ?_⟩
    rcases w8 h0 h7 with rfl | rfl | rfl | rfl | rfl | rfl | rfl | rfl <;> decide
theorem pm_sy (hw : c_way Z gm A) {a : Nat} {dx dy dx' dy' out oo v t : Int32} (hx : dx'.toInt = -dx.toInt) (hy : dy'.toInt = -dy.toInt) (bx : -999 ≤ dx.toInt ∧ dx.toInt ≤ 999) (bY : -999 ≤ dy.toInt ∧ dy.toInt ≤ 999) (ho : rg 0 850 out) (hoo : rg 0 850 oo) (v0 : 0 ≤ v.toInt) (v7 : v.toInt ≤ 7) (t0 : -1 ≤ t.toInt) (t1 : t.toInt ≤ 1) (h : pM τ Z gi gr a dx dy out oo v (v + t &&& 7)) : ∃ v' t' : Int32, 0 ≤ v'.toInt ∧ v'.toInt ≤ 7 ∧ -1 ≤ t'.toInt ∧ t'.toInt ≤ 1 ∧ pM τ Z gi gr a dx' dy' oo out v' (v' + t' &&& 7) := by
  obtain ⟨⟨w0, w7⟩, -⟩ := wadj v0 v7 t0 t1
  obtain ⟨t', u0, u1, e⟩ := wadj2 v0 v7 t0 t1
  obtain ⟨k1, k2, k3⟩ := h
  refine ⟨v + t &&& 7, t', w0, w7, u0, u1, ?_⟩
  rw [e]
  exact ⟨k2, k1, by rw [← em_sy hw hx hy bx bY ho hoo v0 v7 w0 w7]; exact k3⟩
theorem mn_cm (a b : Int32) : th_mn a b = th_mn b a := by
  obtain ⟨p1, p2, p3⟩ := mn_c a b
  obtain ⟨q1, q2, q3⟩ := mn_c b a
  refine i_inj ?_
  rcases p3 with p | p <;> rcases q3 with q | q <;> have e1 := congrArg Int32.toInt p <;> have e2 := congrArg Int32.toInt q <;> omega
theorem mx_cm (a b : Int32) : th_mx a b = th_mx b a := by
  obtain ⟨p1, p2, p3⟩ := mx_c a b
  obtain ⟨q1, q2, q3⟩ := mx_c b a
  refine i_inj ?_
  rcases p3 with p | p <;> rcases q3 with q | q <;> have e1 := congrArg Int32.toInt p <;> have e2 := congrArg Int32.toInt q <;> omega
theorem ab_ng {x x' : Int32} (h : x'.toInt = -x.toInt) (b : -999 ≤ x.toInt ∧ x.toInt ≤ 999) : th_ab x' = th_ab x := by
  obtain ⟨a1, a2⟩ := ab_c (x := x) (by omega)
  obtain ⟨b1, b2⟩ := ab_c (x := x') (by omega)
  refine i_inj ?_
  by_cases c : 0 ≤ x.toInt
  · rw [a1 c]
    by_cases d : 0 ≤ x'.toInt
    · rw [b1 d]
      omega
    · rw [b2 (by omega)]
      omega
  · rw [a2 (by omega), b1 (by omega)]
    omega
theorem mm_sy (hw : c_way Z gm A) {a : Nat} {dx dy dx' dy' out oo : Int32} (hx : dx'.toInt = -dx.toInt) (hy : dy'.toInt = -dy.toInt) (bx : -999 ≤ dx.toInt ∧ dx.toInt ≤ 999) (bY : -999 ≤ dy.toInt ∧ dy.toInt ≤ 999) (ho : rg 0 850 out) (hoo : rg 0 850 oo) : F_X0_mayMeet τ Z gi gr a dx dy out oo = F_X0_mayMeet τ Z gi gr a dx' dy' oo out := by
  have bx' : -999 ≤ dx'.toInt ∧ dx'.toInt ≤ 999 := by omega
  have bY' : -999 ≤ dy'.toInt ∧ dy'.toInt ≤ 999 := by omega
  have L : f_X0_mayMeet_45 τ Z gi gr a dx dy out oo ((8 - (0 : Int32).toInt).toNat + 1) 0 = f_X0_mayMeet_45 τ Z gi gr a dx' dy' oo out ((8 - (0 : Int32).toInt).toNat + 1) 0 := by
    rcases mm_45 (τ := τ) (Z := Z) (gi := gi) (gr := gr) (a := a) (dx := dx) (dy := dy) (out := out) (oo := oo) ((8 - (0 : Int32).toInt).toNat + 1) 0 (by decide) (Nat.lt_add_one _) with ⟨k1, v, t, k2, k3, k4, k5, k6⟩ | ⟨k1, k2⟩
    · obtain ⟨v', t', u0, u1, u2, u3, u4⟩ := pm_sy hw hx hy bx bY ho hoo (by rw [k_0] at k2; exact k2) k3 k4 k5 k6
      rcases mm_45 (τ := τ) (Z := Z) (gi := gi) (gr := gr) (a := a) (dx := dx') (dy := dy') (out := oo) (oo := out) ((8 - (0 : Int32).toInt).toNat + 1) 0 (by decide) (Nat.lt_add_one _) with ⟨l1, -⟩ | ⟨l1, l2⟩
      · rw [k1, l1]
      · exact absurd u4 (l2 v' t' (by rw [k_0]; exact u0) u1 u2 u3)
    · rcases mm_45 (τ := τ) (Z := Z) (gi := gi) (gr := gr) (a := a) (dx := dx') (dy := dy') (out := oo) (oo := out) ((8 - (0 : Int32).toInt).toNat + 1) 0 (by decide) (Nat.lt_add_one _) with ⟨l1, v, t, l2, l3, l4, l5, l6⟩ | ⟨l1, l2⟩
      · obtain ⟨v', t', u0, u1, u2, u3, u4⟩ := pm_sy hw (dx := dx') (dy := dy') (dx' := dx) (dy' := dy) (by omega) (by omega) bx' bY' hoo ho (by rw [k_0] at l2; exact l2) l3 l4 l5 l6
        exact absurd u4 (k2 v' t' (by rw [k_0]; exact u0) u1 u2 u3)
      · rw [k1, l1]
  unfold F_X0_mayMeet
  dsimp only
  rw [ab_ng hx bx, ab_ng hy bY, mn_cm oo out, mx_cm oo out, L]
theorem fs_go (hw : c_way Z gm A) {qa qp qb qq : Nat} {dx dy dx' dy' fa fb : Int32} (hx : dx'.toInt = -dx.toInt) (hy : dy'.toInt = -dy.toInt) (bx : -999 ≤ dx.toInt ∧ dx.toInt ≤ 999) (bY : -999 ≤ dy.toInt ∧ dy.toInt ≤ 999) (S : ∀ h : Int32, 0 ≤ h.toInt → h.toInt < 24 → rg 0 850 (F_X3_slackAt τ Z gi gr qp h + fa) ∧ rg 0 850 (F_X3_slackAt τ Z gi gr qq h + fb)) : ∀ (n : Nat) (y : Int32), 0 ≤ y.toInt → f_X0_firstTouch_39 τ Z gi gr (A 1) qa qp qb qq n dx dy fa fb y = f_X0_firstTouch_39 τ Z gi gr (A 1) qb qq qa qp n dx' dy' fb fa y := by
  intro n
  induction n with
  | zero => intro y _; rfl
  | succ n ih =>
    intro y h0
    unfold f_X0_firstTouch_39 f_X0_firstTouch_89
    dsimp only
    by_cases hc : (24 : Int32) ≤ y
    · rw [if_pos hc, if_pos hc]
    · rw [if_neg hc, if_neg hc]
      have hc' := i_ltI.mp (Int32.not_le.mp hc)
      rw [k_24] at hc'
      have e := y_1 (m := 24) (by decide) h0 (by omega)
      have I := ih (y + 1) (by omega)
      obtain ⟨o1, o2⟩ := S y h0 hc'
      rw [mm_sy (τ := τ) (gi := gi) (gr := gr) (a := A 1) hw hx hy bx bY o1 o2, I]
theorem ft_sy (hQ : ro_M τ rm A) (hJm : th_J τ gm rm) (hw : c_way Z gm A) (ht : c_tid gi gm A) {a p b q : Int32} {qa qp qb qq : Nat} (ba : b_at τ gi gr gm A a.toNatClampNeg qa) (bb : b_at τ gi gr gm A b.toNatClampNeg qb) (up : u_at τ gi gr gm A p.toNatClampNeg qp) (uq : u_at τ gi gr gm A q.toNatClampNeg qq) (sp : u_sl τ gi gr A qp) (sq : u_sl τ gi gr A qq) : F_X0_firstTouch τ Z gi gr (A 1) qa qp qb qq = F_X0_firstTouch τ Z gi gr (A 1) qb qq qa qp := by
  have S := fun (h : Int32) (h0 : 0 ≤ h.toInt) (h1 : h.toInt < 24) => slack_eq (Z := Z) hQ hJm ht up sp h0 h1
  have S' := fun (h : Int32) (h0 : 0 ≤ h.toInt) (h1 : h.toInt < 24) => slack_eq (Z := Z) hQ hJm ht uq sq h0 h1
  obtain ⟨-, -, a3, -, a5, a6, -⟩ := ba
  obtain ⟨-, -, b3, -, b5, b6, -⟩ := bb
  obtain ⟨-, -, -, -, -, -, -, ⟨c1, c2⟩, ⟨c3, c4⟩, -⟩ := up
  obtain ⟨-, -, -, -, -, -, -, ⟨c5, c6⟩, ⟨c7, c8⟩, -⟩ := uq
  have ra := reach_rg (k := gm (A 47) a.toNatClampNeg) a6
  have rb := reach_rg (k := gm (A 47) b.toNatClampNeg) b6
  have dX : (gi qq 1 - gi qp 1).toInt = (gi qq 1).toInt - (gi qp 1).toInt := i_sub (by omega) (by omega)
  have dY : (gi qq 2 - gi qp 2).toInt = (gi qq 2).toInt - (gi qp 2).toInt := i_sub (by omega) (by omega)
  have eX : (gi qp 1 - gi qq 1).toInt = (gi qp 1).toInt - (gi qq 1).toInt := i_sub (by omega) (by omega)
  have eY : (gi qp 2 - gi qq 2).toInt = (gi qp 2).toInt - (gi qq 2).toInt := i_sub (by omega) (by omega)
  have G := fs_go (τ := τ) (gi := gi) (gr := gr) hw (qa := qa) (qp := qp) (qb := qb) (qq := qq) (dx := gi qq 1 - gi qp 1) (dy := gi qq 2 - gi qp 2) (dx' := gi qp 1 - gi qq 1) (dy' := gi qp 2 - gi qq 2) (fa := f_reach (gm (A 47) a.toNatClampNeg) (gi qa 1)) (fb := f_reach (gm (A 47) b.toNatClampNeg) (gi qb 1)) (by omega) (by omega) ⟨by omega, by omega⟩ ⟨by omega, by omega⟩ (fun h h0 h1 => by
    obtain ⟨s1, s2⟩ := S h h0 h1
    obtain ⟨s3, s4⟩ := S' h h0 h1
    rw [s1, s3]
    exact ⟨rg_w (rg_add s2 ra (by decide) (by decide)) (by decide) (by decide), rg_w (rg_add s4 rb (by decide) (by decide)) (by decide) (by decide)⟩) ((24 - (0 : Int32).toInt).toNat + 1) 0 (by decide)
  unfold F_X0_firstTouch
  rw [re_at a5, re_at b5]
  exact G
end SY
