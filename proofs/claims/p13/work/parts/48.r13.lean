/-! ===== TOUCH ===== -/
section TO
variable {τ τ1 : th_t} {Z : th_Zt} {gi gi1 gm gm2 : th_i} {gr gr1 rm rm2 : th_r} {A : Nat → Nat} {M1 M2 : List Nat}
def c_way (Z : th_Zt) (gm : th_i) (A : Nat → Nat) : Prop := ∀ j : Nat, j < 8 → Z.2.1 j = th_wX j ∧ Z.2.2 j = th_wY j ∧ gm (A 52) j = th_wX j ∧ gm (A 53) j = th_wY j
theorem c_way.fr (hQ : ro_M τ rm A) (h2 : th_Mod M2 τ gm rm gm2 rm2) (k2 : ∀ k ∈ [5200, 5300], k ∉ M2) (h : c_way Z gm A) : c_way Z gm2 A := by
  unfold c_way
  rw [(ro_ka h2 (hQ.t 15 52 (by decide)) (by decide) (k2 5200 (by decide))).1, (ro_ka h2 (hQ.t 16 53 (by decide)) (by decide) (k2 5300 (by decide))).1]
  exact h
theorem w8 {v : Int32} (h0 : 0 ≤ v.toInt) (h7 : v.toInt ≤ 7) : v = 0 ∨ v = 1 ∨ v = 2 ∨ v = 3 ∨ v = 4 ∨ v = 5 ∨ v = 6 ∨ v = 7 := by
  have k : ∀ (a : Int32) (b : Int), a.toInt = b → v.toInt = b → v = a := fun a b h1 h2 => i_inj (h2.trans h1.symm)
  rcases (by omega : v.toInt = 0 ∨ v.toInt = 1 ∨ v.toInt = 2 ∨ v.toInt = 3 ∨ v.toInt = 4 ∨ v.toInt = 5 ∨ v.toInt = 6 ∨ v.toInt = 7) with h | h | h | h | h | h | h | h
  · exact Or.inl (k 0 0 (by decide) h)
  · exact Or.inr (Or.inl (k 1 1 (by decide) h))
  · exact Or.inr (Or.inr (Or.inl (k 2 2 (by decide) h)))
  · exact Or.inr (Or.inr (Or.inr (Or.inl (k 3 3 (by decide) h))))
  · exact Or.inr (Or.inr (Or.inr (Or.inr (Or.inl (k 4 4 (by decide) h)))))
  · exact Or.inr (Or.inr (Or.inr (Or.inr (Or.inr (Or.inl (k 5 5 (by decide) h))))))
  · exact Or.inr (Or.inr (Or.inr (Or.inr (Or.inr (Or.inr (Or.inl (k 6 6 (by decide) h)))))))
  · exact Or.inr (Or.inr (Or.inr (Or.inr (Or.inr (Or.inr (Or.inr (k 7 7 (by decide) h)))))))
theorem w3 {t : Int32} (h0 : -1 ≤ t.toInt) (h1 : t.toInt ≤ 1) : t = -1 ∨ t = 0 ∨ t = 1 := by
  have k : ∀ (a : Int32) (b : Int), a.toInt = b → t.toInt = b → t = a := fun a b h1 h2 => i_inj (h2.trans h1.symm)
  rcases (by omega : t.toInt = -1 ∨ t.toInt = 0 ∨ t.toInt = 1) with h | h | h
  · exact Or.inl (k (-1) (-1) (by decide) h)
  · exact Or.inr (Or.inl (k 0 0 (by decide) h))
  · exact Or.inr (Or.inr (k 1 1 (by decide) h))
def w_one (x : Int32) : Prop := x = 0 ∨ x = 1 ∨ x = -1
theorem wt {v : Int32} (h0 : 0 ≤ v.toInt) (h7 : v.toInt ≤ 7) : v &&& 7 = v ∧ v.toNatClampNeg < 8 ∧ w_one (th_wX v.toNatClampNeg) ∧ w_one (th_wY v.toNatClampNeg) ∧ ((v &&& 1 = 0 ∧ th_wX v.toNatClampNeg = 0 ∧ ¬ th_wY v.toNatClampNeg = 0) ∨ (v &&& 1 = 0 ∧ ¬ th_wX v.toNatClampNeg = 0 ∧ th_wY v.toNatClampNeg = 0) ∨ (¬ v &&& 1 = 0 ∧ ¬ th_wX v.toNatClampNeg = 0 ∧ ¬ th_wY v.toNatClampNeg = 0)) := by
  unfold w_one
  rcases w8 h0 h7 with rfl | rfl | rfl | rfl | rfl | rfl | rfl | rfl <;> decide
theorem wadj {v t : Int32} (h0 : 0 ≤ v.toInt) (h7 : v.toInt ≤ 7) (t0 : -1 ≤ t.toInt) (t1 : t.toInt ≤ 1) : (0 ≤ (v + t &&& 7).toInt ∧ (v + t &&& 7).toInt ≤ 7) ∧ (¬ (th_wX v.toNatClampNeg = 1 ∧ th_wX (v + t &&& 7).toNatClampNeg = -1) ∧ ¬ (th_wX v.toNatClampNeg = -1 ∧ th_wX (v + t &&& 7).toNatClampNeg = 1)) ∧ (¬ (th_wY v.toNatClampNeg = 1 ∧ th_wY (v + t &&& 7).toNatClampNeg = -1) ∧ ¬ (th_wY v.toNatClampNeg = -1 ∧ th_wY (v + t &&& 7).toNatClampNeg = 1)) ∧ v + (t + 8) - (v + (t + 8)) / 8 * 8 = v + t &&& 7 := by
  rcases w3 t0 t1 with rfl | rfl | rfl <;> rcases w8 h0 h7 with rfl | rfl | rfl | rfl | rfl | rfl | rfl | rfl <;> decide
def f_far (v out : Int32) : Int32 := if v &&& 1 = 0 then out else out * 7 / 10
theorem far_rg {v out : Int32} (h : rg 0 850 out) : 0 ≤ (f_far v out).toInt ∧ (f_far v out).toInt ≤ out.toInt := by
  obtain ⟨h1, h2⟩ := h
  unfold f_far
  by_cases c : v &&& 1 = 0
  · rw [if_pos c]
    exact ⟨h1, Int.le_refl _⟩
  · rw [if_neg c]
    have e : (out * 7).toInt = out.toInt * 7 := by
      rw [i_mul (by rw [k_7]; omega) (by rw [k_7]; omega), k_7]
    rw [i_div (by rw [k_10]; decide) (by omega), k_10, e]
    exact ⟨by omega, by omega⟩
theorem pw {f a : Int32} (hf : 0 ≤ f.toInt ∧ f.toInt ≤ 850) : (a = 0 → (f * a).toInt = 0) ∧ (a = 1 → (f * a).toInt = f.toInt) ∧ (a = -1 → (f * a).toInt = -f.toInt) := by
  refine ⟨fun h => ?_, fun h => ?_, fun h => ?_⟩
  · rw [h, i_mul (by rw [k_0]; omega) (by rw [k_0]; omega), k_0]
    omega
  · rw [h, i_mul (by rw [k_1]; omega) (by rw [k_1]; omega), k_1]
    omega
  · rw [h, i_mul (by rw [k_m1]; omega) (by rw [k_m1]; omega), k_m1]
    omega
theorem pw_rg {f a : Int32} (hf : 0 ≤ f.toInt ∧ f.toInt ≤ 850) (ha : w_one a) : -850 ≤ (f * a).toInt ∧ (f * a).toInt ≤ 850 := by
  obtain ⟨p1, p2, p3⟩ := pw (a := a) hf
  rcases ha with h | h | h
  · have := p1 h; omega
  · have := p2 h; omega
  · have := p3 h; omega
theorem sx {v out : Int32} (h0 : 0 ≤ v.toInt) (h7 : v.toInt ≤ 7) : F_X12_steps τ Z gi gr out (th_wX v.toNatClampNeg) (th_wY v.toNatClampNeg) = f_far v out * th_wX v.toNatClampNeg := by
  unfold F_X12_steps f_far
  dsimp only
  rcases (wt h0 h7).2.2.2.2 with ⟨a, b, c⟩ | ⟨a, b, c⟩ | ⟨a, b, c⟩
  · rw [if_pos b, b, Int32.mul_zero]
  · rw [if_neg b, if_pos c, if_pos a]
  · rw [if_neg b, if_neg c, if_neg a, Int32.mul_comm]
theorem sy {v out : Int32} (h0 : 0 ≤ v.toInt) (h7 : v.toInt ≤ 7) : F_X12_steps τ Z gi gr out (th_wY v.toNatClampNeg) (th_wX v.toNatClampNeg) = f_far v out * th_wY v.toNatClampNeg := by
  unfold F_X12_steps f_far
  dsimp only
  rcases (wt h0 h7).2.2.2.2 with ⟨a, b, c⟩ | ⟨a, b, c⟩ | ⟨a, b, c⟩
  · rw [if_neg c, if_pos b, if_pos a]
  · rw [if_pos c, c, Int32.mul_zero]
  · rw [if_neg c, if_neg b, if_neg a, Int32.mul_comm]
def f_em (x y : Int32) : Int32 := if (20 : Int32) ≤ x then 0 else if x ≤ (-20) then 0 else if (20 : Int32) ≤ y then 0 else if y ≤ (-20) then 0 else 1
theorem em_eq (hw : c_way Z gm A) {dx dy out oo v w : Int32} (v0 : 0 ≤ v.toInt) (v7 : v.toInt ≤ 7) (w0 : 0 ≤ w.toInt) (w7 : w.toInt ≤ 7) : F_X0_endsMeet τ Z gi gr dx dy out v oo w = f_em (dx + f_far w oo * th_wX w.toNatClampNeg - f_far v out * th_wX v.toNatClampNeg) (dy + f_far w oo * th_wY w.toNatClampNeg - f_far v out * th_wY v.toNatClampNeg) := by
  obtain ⟨a1, a2, -⟩ := wt v0 v7
  obtain ⟨b1, b2, -⟩ := wt w0 w7
  unfold F_X0_endsMeet f_X0_endsMeet_17 f_X0_endsMeet_39 f_em f_far
  dsimp only
  rw [a1, b1, (hw _ a2).1, (hw _ a2).2.1, (hw _ b2).1, (hw _ b2).2.1]
  by_cases c1 : v &&& 1 = 0
  · by_cases c2 : w &&& 1 = 0
    · rw [if_pos c1, if_pos c2, if_pos c1, if_pos c2]
    · rw [if_pos c1, if_neg c2, if_pos c1, if_neg c2]
  · by_cases c2 : w &&& 1 = 0
    · rw [if_neg c1, if_pos c2, if_neg c1, if_pos c2]
    · rw [if_neg c1, if_neg c2, if_neg c1, if_neg c2]
theorem k_m20 : (-20 : Int32).toInt = -20 := by decide
theorem ab_c {x : Int32} (h : -100000 ≤ x.toInt) : (0 ≤ x.toInt → (th_ab x).toInt = x.toInt) ∧ (x.toInt < 0 → (th_ab x).toInt = -x.toInt) := by
  unfold th_ab
  by_cases c : (0 : Int32) ≤ x
  · rw [if_pos c]
    have c' := i_le.mp c
    rw [k_0] at c'
    exact ⟨fun _ => rfl, fun q => by omega⟩
  · rw [if_neg c]
    have c' := i_ltI.mp (Int32.not_le.mp c)
    rw [k_0] at c'
    refine ⟨fun q => by omega, fun _ => ?_⟩
    rw [i_sub (by rw [k_0]; omega) (by rw [k_0]; omega), k_0]
    omega
theorem ab_20 {x r : Int32} (h : r.toInt = -x.toInt) (b1 : -100000 ≤ x.toInt) (b2 : x.toInt ≤ 100000) : (20 : Int32) ≤ th_ab r ↔ ((20 : Int32) ≤ x ∨ x ≤ (-20)) := by
  obtain ⟨p1, p2⟩ := ab_c (x := r) (by omega)
  rw [i_le, i_le, i_le, k_20, k_m20]
  by_cases c : 0 ≤ r.toInt
  · rw [p1 c]
    omega
  · rw [p2 (by omega)]
    omega
theorem mt {xp xq yp yq s1 s2 u1 u2 : Int32} (a1 : rg 0 999 xp) (a2 : rg 0 999 xq) (a3 : rg 0 999 yp) (a4 : rg 0 999 yq) (b1 : -850 ≤ s1.toInt ∧ s1.toInt ≤ 850) (b2 : -850 ≤ s2.toInt ∧ s2.toInt ≤ 850) (b3 : -850 ≤ u1.toInt ∧ u1.toInt ≤ 850) (b4 : -850 ≤ u2.toInt ∧ u2.toInt ≤ 850) : (if (20 : Int32) ≤ th_ab (xp + s1 - xq - s2) then (0 : Int32) else if (20 : Int32) ≤ th_ab (yp + u1 - yq - u2) then 0 else 1) = f_em (xq - xp + s2 - s1) (yq - yp + u2 - u1) := by
  have go : ∀ {p q s t : Int32}, rg 0 999 p → rg 0 999 q → (-850 ≤ s.toInt ∧ s.toInt ≤ 850) → (-850 ≤ t.toInt ∧ t.toInt ≤ 850) → ((20 : Int32) ≤ th_ab (p + s - q - t) ↔ ((20 : Int32) ≤ q - p + t - s ∨ q - p + t - s ≤ (-20))) := fun {p q s t} c1 c2 c3 c4 => by
    obtain ⟨c1, d1⟩ := c1
    obtain ⟨c2, d2⟩ := c2
    obtain ⟨c3, d3⟩ := c3
    obtain ⟨c4, d4⟩ := c4
    have e1 : (q - p).toInt = q.toInt - p.toInt := i_sub (by omega) (by omega)
    have e2 : (q - p + t).toInt = q.toInt - p.toInt + t.toInt := by rw [i_add (by omega) (by omega), e1]
    have e3 : (q - p + t - s).toInt = q.toInt - p.toInt + t.toInt - s.toInt := by rw [i_sub (by omega) (by omega), e2]
    have f1 : (p + s).toInt = p.toInt + s.toInt := i_add (by omega) (by omega)
    have f2 : (p + s - q).toInt = p.toInt + s.toInt - q.toInt := by rw [i_sub (by omega) (by omega), f1]
    have f3 : (p + s - q - t).toInt = p.toInt + s.toInt - q.toInt - t.toInt := by rw [i_sub (by omega) (by omega), f2]
    exact ab_20 (by omega) (by omega) (by omega)
  have gx := go a1 a2 b1 b2
  have gy := go a3 a4 b3 b4
  unfold f_em
  by_cases c1 : (20 : Int32) ≤ xq - xp + s2 - s1
  · rw [if_pos c1, if_pos (gx.mpr (Or.inl c1))]
  · by_cases c2 : xq - xp + s2 - s1 ≤ (-20)
    · rw [if_neg c1, if_pos c2, if_pos (gx.mpr (Or.inr c2))]
    · rw [if_neg c1, if_neg c2, if_neg (fun q => (gx.mp q).elim c1 c2)]
      by_cases c3 : (20 : Int32) ≤ yq - yp + u2 - u1
      · rw [if_pos c3, if_pos (gy.mpr (Or.inl c3))]
      · by_cases c4 : yq - yp + u2 - u1 ≤ (-20)
        · rw [if_neg c3, if_pos c4, if_pos (gy.mpr (Or.inr c4))]
        · rw [if_neg c3, if_neg c4, if_neg (fun q => (gy.mp q).elim c3 c4)]
/-- far ends meet alike -/
theorem me_eq (hQ : ro_M τ rm A) (hw : c_way Z gm A) {p q out oo v w : Int32} (a1 : rg 0 999 (gm (A 40) p.toNatClampNeg)) (a2 : rg 0 999 (gm (A 40) q.toNatClampNeg)) (a3 : rg 0 999 (gm (A 41) p.toNatClampNeg)) (a4 : rg 0 999 (gm (A 41) q.toNatClampNeg)) (ho : rg 0 850 out) (hoo : rg 0 850 oo) (v0 : 0 ≤ v.toInt) (v7 : v.toInt ≤ 7) (w0 : 0 ≤ w.toInt) (w7 : w.toInt ≤ 7) : F_X12_meet τ Z gm rm (A 12) p out v q oo w = F_X0_endsMeet τ Z gi gr (gm (A 40) q.toNatClampNeg - gm (A 40) p.toNatClampNeg) (gm (A 41) q.toNatClampNeg - gm (A 41) p.toNatClampNeg) out v oo w := by
  obtain ⟨-, v8, vx, vy, -⟩ := wt v0 v7
  obtain ⟨-, w8', wx, wy, -⟩ := wt w0 w7
  have fv := far_rg (v := v) ho
  have fw := far_rg (v := w) hoo
  have o2 := ho.2
  have oo2 := hoo.2
  have fv' : 0 ≤ (f_far v out).toInt ∧ (f_far v out).toInt ≤ 850 := ⟨fv.1, by omega⟩
  have fw' : 0 ≤ (f_far w oo).toInt ∧ (f_far w oo).toInt ≤ 850 := ⟨fw.1, by omega⟩
  rw [em_eq hw v0 v7 w0 w7, ← mt a1 a2 a3 a4 (pw_rg fv' vx) (pw_rg fw' wx) (pw_rg fv' vy) (pw_rg fw' wy)]
  unfold F_X12_meet
  dsimp only
  rw [hQ.g 1 40 (by decide), hQ.g 15 52 (by decide), hQ.g 16 53 (by decide), hQ.g 2 41 (by decide), (hw _ v8).2.2.1, (hw _ v8).2.2.2, (hw _ w8').2.2.1, (hw _ w8').2.2.2, sx v0 v7, sx w0 w7, sy v0 v7, sy w0 w7]
/-- far apart: they don't meet -/
theorem far_no {d f1 f2 m : Int} {s1 s2 : Int} (h : m + 20 ≤ d ∨ d ≤ -(m + 20)) (b1 : 0 ≤ f1 ∧ f1 ≤ m) (b2 : 0 ≤ f2 ∧ f2 ≤ m) (hs : (s1 = 0 ∧ (s2 = 0 ∨ s2 = f2 ∨ s2 = -f2)) ∨ (s1 = f1 ∧ (s2 = 0 ∨ s2 = f2)) ∨ (s1 = -f1 ∧ (s2 = 0 ∨ s2 = -f2))) : 20 ≤ d + s2 - s1 ∨ d + s2 - s1 ≤ -20 := by
  rcases hs with ⟨a, b | b | b⟩ | ⟨a, b | b⟩ | ⟨a, b | b⟩ <;> omega
theorem adj_s {f1 f2 a b : Int32} (hf1 : 0 ≤ f1.toInt ∧ f1.toInt ≤ 850) (hf2 : 0 ≤ f2.toInt ∧ f2.toInt ≤ 850) (ha : w_one a) (hb : w_one b) (h : ¬ (a = 1 ∧ b = -1) ∧ ¬ (a = -1 ∧ b = 1)) : ((f1 * a).toInt = 0 ∧ ((f2 * b).toInt = 0 ∨ (f2 * b).toInt = f2.toInt ∨ (f2 * b).toInt = -f2.toInt)) ∨ ((f1 * a).toInt = f1.toInt ∧ ((f2 * b).toInt = 0 ∨ (f2 * b).toInt = f2.toInt)) ∨ ((f1 * a).toInt = -f1.toInt ∧ ((f2 * b).toInt = 0 ∨ (f2 * b).toInt = -f2.toInt)) := by
  obtain ⟨p1, p2, p3⟩ := pw (a := a) hf1
  obtain ⟨q1, q2, q3⟩ := pw (a := b) hf2
  rcases ha with e | e | e
  · refine Or.inl ⟨p1 e, ?_⟩
    rcases hb with k | k | k
    · exact Or.inl (q1 k)
    · exact Or.inr (Or.inl (q2 k))
    · exact Or.inr (Or.inr (q3 k))
  · refine Or.inr (Or.inl ⟨p2 e, ?_⟩)
    rcases hb with k | k | k
    · exact Or.inl (q1 k)
    · exact Or.inr (q2 k)
    · exact absurd ⟨e, k⟩ h.1
  · refine Or.inr (Or.inr ⟨p3 e, ?_⟩)
    rcases hb with k | k | k
    · exact Or.inl (q1 k)
    · exact absurd ⟨e, k⟩ h.2
    · exact Or.inr (q3 k)
theorem em_0 {x y : Int32} (h : (20 ≤ x.toInt ∨ x.toInt ≤ -20) ∨ (20 ≤ y.toInt ∨ y.toInt ≤ -20)) : f_em x y = 0 := by
  unfold f_em
  by_cases c1 : (20 : Int32) ≤ x
  · rw [if_pos c1]
  · rw [if_neg c1]
    by_cases c2 : x ≤ (-20)
    · rw [if_pos c2]
    · rw [if_neg c2]
      by_cases c3 : (20 : Int32) ≤ y
      · rw [if_pos c3]
      · rw [if_neg c3]
        by_cases c4 : y ≤ (-20)
        · rw [if_pos c4]
        · rw [i_le, k_20] at c1 c3
          rw [i_le, k_m20] at c2 c4
          omega
theorem far_em (hw : c_way Z gm A) {dx dy out oo v t : Int32} {m : Int} (ho : rg 0 850 out) (hoo : rg 0 850 oo) (m1 : out.toInt ≤ m) (m2 : oo.toInt ≤ m) (m3 : m ≤ 850) (dx0 : -999 ≤ dx.toInt ∧ dx.toInt ≤ 999) (dy0 : -999 ≤ dy.toInt ∧ dy.toInt ≤ 999) (h : (m + 20 ≤ dx.toInt ∨ dx.toInt ≤ -(m + 20)) ∨ (m + 20 ≤ dy.toInt ∨ dy.toInt ≤ -(m + 20))) (v0 : 0 ≤ v.toInt) (v7 : v.toInt ≤ 7) (t0 : -1 ≤ t.toInt) (t1 : t.toInt ≤ 1) : F_X0_endsMeet τ Z gi gr dx dy out v oo (v + t &&& 7) = 0 := by
  obtain ⟨⟨w0, w7⟩, ax, ay, -⟩ := wadj v0 v7 t0 t1
  obtain ⟨-, v8, vx, vy, -⟩ := wt v0 v7
  obtain ⟨-, w8', wx, wy, -⟩ := wt w0 w7
  have fv := far_rg (v := v) ho
  have fw := far_rg (v := v + t &&& 7) hoo
  have fv' : 0 ≤ (f_far v out).toInt ∧ (f_far v out).toInt ≤ 850 := ⟨fv.1, by omega⟩
  have fw' : 0 ≤ (f_far (v + t &&& 7) oo).toInt ∧ (f_far (v + t &&& 7) oo).toInt ≤ 850 := ⟨fw.1, by omega⟩
  rw [em_eq hw v0 v7 w0 w7]
  have sum : ∀ {d s u : Int32}, (-999 ≤ d.toInt ∧ d.toInt ≤ 999) → (-850 ≤ s.toInt ∧ s.toInt ≤ 850) → (-850 ≤ u.toInt ∧ u.toInt ≤ 850) → (d + s - u).toInt = d.toInt + s.toInt - u.toInt := fun {d s u} c1 c2 c3 => by
    have e1 : (d + s).toInt = d.toInt + s.toInt := i_add (by omega) (by omega)
    rw [i_sub (by omega) (by omega), e1]
  have ex := sum dx0 (pw_rg fw' wx) (pw_rg fv' vx)
  have ey := sum dy0 (pw_rg fw' wy) (pw_rg fv' vy)
  refine em_0 ?_
  rw [ex, ey]
  rcases h with h | h
  · exact Or.inl (far_no h ⟨fv.1, by omega⟩ ⟨fw.1, by omega⟩ (adj_s fv' fw' vx wx ax))
  · exact Or.inr (far_no h ⟨fv.1, by omega⟩ ⟨fw.1, by omega⟩ (adj_s fv' fw' vy wy ay))
theorem bl_eq (h : gi (A 1) 7 = gm (A 12) 14) {w : Int32} : F_X0_blows τ Z gi gr (A 1) w = F_X12_isThere τ Z gm rm (A 12) w := by
  unfold F_X0_blows F_X12_isThere
  dsimp only
  rw [h]
  rcases rg_b (rg_and (x := gm (A 12) 14 >>> (w &&& 31)) (m := 1) 1 (by decide) (by decide) (hi := 1) (by decide)) with k | k
  · rw [k, if_pos rfl, if_neg (by decide)]
  · rw [k, if_neg (by decide), if_pos rfl]
/-- the loops over WINDS -/
def pM (τ : th_t) (Z : th_Zt) (gi : th_i) (gr : th_r) (a : Nat) (dx dy out oo v w : Int32) : Prop := ¬ F_X0_blows τ Z gi gr a v = 0 ∧ ¬ F_X0_blows τ Z gi gr a w = 0 ∧ ¬ F_X0_endsMeet τ Z gi gr dx dy out v oo w = 0
def pT (τ : th_t) (Z : th_Zt) (gm : th_i) (rm : th_r) (a : Nat) (p one q two v w : Int32) : Prop := ¬ F_X12_isThere τ Z gm rm a v = 0 ∧ ¬ F_X12_isThere τ Z gm rm a w = 0 ∧ ¬ F_X12_meet τ Z gm rm a p one v q two w = 0
theorem mm_55 {a : Nat} {dx dy out oo y : Int32} {k : Int32 → Int32} : ∀ (n : Nat) (t : Int32), -1 ≤ t.toInt → (2 - t.toInt).toNat < n → (f_X0_mayMeet_55 τ Z gi gr a dx dy out oo y k n t = 1 ∧ ∃ t' : Int32, t.toInt ≤ t'.toInt ∧ t'.toInt ≤ 1 ∧ pM τ Z gi gr a dx dy out oo y (y + t' &&& 7)) ∨ (f_X0_mayMeet_55 τ Z gi gr a dx dy out oo y k n t = k (y + 1) ∧ ∀ t' : Int32, t.toInt ≤ t'.toInt → t'.toInt ≤ 1 → ¬ pM τ Z gi gr a dx dy out oo y (y + t' &&& 7)) := by
  intro n
  induction n with
  | zero => intro t _ h; exact absurd h (Nat.not_lt_zero _)
  | succ n ih =>
    intro t h0 h
    unfold f_X0_mayMeet_55 f_X0_mayMeet_106
    dsimp only
    by_cases hc : (1 : Int32) < t
    · rw [if_pos hc]
      have hc' := i_ltI.mp hc
      rw [k_1] at hc'
      exact Or.inr ⟨rfl, fun t' h1 h2 => by omega⟩
    · rw [if_neg hc]
      have hc' := i_le.mp (Int32.not_lt.mp hc)
      rw [k_1] at hc'
      have e : (t + 1).toInt = t.toInt + 1 := by rw [i_add (by rw [k_1]; omega) (by rw [k_1]; omega), k_1]
      have next : ¬ pM τ Z gi gr a dx dy out oo y (y + t &&& 7) → (f_X0_mayMeet_55 τ Z gi gr a dx dy out oo y k n (t + 1) = 1 ∧ ∃ t' : Int32, t.toInt ≤ t'.toInt ∧ t'.toInt ≤ 1 ∧ pM τ Z gi gr a dx dy out oo y (y + t' &&& 7)) ∨ (f_X0_mayMeet_55 τ Z gi gr a dx dy out oo y k n (t + 1) = k (y + 1) ∧ ∀ t' : Int32, t.toInt ≤ t'.toInt → t'.toInt ≤ 1 → ¬ pM τ Z gi gr a dx dy out oo y (y + t' &&& 7)) := fun hp => by
        rcases ih (t + 1) (by omega) (by omega) with ⟨k1, t', k2, k3, k4⟩ | ⟨k1, k2⟩
        · exact Or.inl ⟨k1, t', by omega, k3, k4⟩
        · refine Or.inr ⟨k1, fun t' h1 h2 => ?_⟩
          by_cases ht : t'.toInt = t.toInt
          · rw [i_inj ht]
            exact hp
          · exact k2 t' (by omega) h2
      by_cases b1 : F_X0_blows τ Z gi gr a y = 0
      · rw [if_pos b1]
        exact next (fun q => q.1 b1)
      · rw [if_neg b1]
        by_cases b2 : F_X0_blows τ Z gi gr a (y + t &&& 7) = 0
        · rw [if_pos b2]
          exact next (fun q => q.2.1 b2)
        · rw [if_neg b2]
          by_cases b3 : F_X0_endsMeet τ Z gi gr dx dy out y oo (y + t &&& 7) = 0
          · rw [if_pos b3]
            exact next (fun q => q.2.2 b3)
          · rw [if_neg b3]
            exact Or.inl ⟨rfl, t, Int.le_refl _, hc', b1, b2, b3⟩
theorem mm_45 {a : Nat} {dx dy out oo : Int32} : ∀ (n : Nat) (y : Int32), 0 ≤ y.toInt → (8 - y.toInt).toNat < n → (f_X0_mayMeet_45 τ Z gi gr a dx dy out oo n y = 1 ∧ ∃ v t : Int32, y.toInt ≤ v.toInt ∧ v.toInt ≤ 7 ∧ -1 ≤ t.toInt ∧ t.toInt ≤ 1 ∧ pM τ Z gi gr a dx dy out oo v (v + t &&& 7)) ∨ (f_X0_mayMeet_45 τ Z gi gr a dx dy out oo n y = 0 ∧ ∀ v t : Int32, y.toInt ≤ v.toInt → v.toInt ≤ 7 → -1 ≤ t.toInt → t.toInt ≤ 1 → ¬ pM τ Z gi gr a dx dy out oo v (v + t &&& 7)) := by
  intro n
  induction n with
  | zero => intro y _ h; exact absurd h (Nat.not_lt_zero _)
  | succ n ih =>
    intro y h0 h
    unfold f_X0_mayMeet_45
    by_cases hc : (7 : Int32) < y
    · rw [if_pos hc]
      have hc' := i_ltI.mp hc
      rw [k_7] at hc'
      exact Or.inr ⟨rfl, fun v t h1 h2 => by omega⟩
    · rw [if_neg hc]
      have hc' := i_le.mp (Int32.not_lt.mp hc)
      rw [k_7] at hc'
      have e := y_1 (m := 8) (by decide) h0 (by omega)
      rcases mm_55 (τ := τ) (Z := Z) (gi := gi) (gr := gr) (a := a) (dx := dx) (dy := dy) (out := out) (oo := oo) (y := y) (k := f_X0_mayMeet_45 τ Z gi gr a dx dy out oo n) ((2 - ((-1) : Int32).toInt).toNat + 1) (-1) (by decide) (Nat.lt_add_one _) with ⟨k1, t, k2, k3, k4⟩ | ⟨k1, k2⟩
      · rw [k1]
        exact Or.inl ⟨rfl, y, t, Int.le_refl _, hc', by rw [k_m1] at k2; exact k2, k3, k4⟩
      · rw [k1]
        rcases ih (y + 1) (by omega) (by omega) with ⟨l1, v, t, l2, l3, l4, l5, l6⟩ | ⟨l1, l2⟩
        · exact Or.inl ⟨l1, v, t, by omega, l3, l4, l5, l6⟩
        · refine Or.inr ⟨l1, fun v t h1 h2 h3 h4 => ?_⟩
          by_cases hv : v.toInt = y.toInt
          · rw [i_inj hv]
            exact k2 t (by rw [k_m1]; exact h3) h4
          · exact l2 v t (by omega) h2 h3 h4
theorem ta_100 {a : Nat} {p1 p q p3 hh one two y : Int32} {k : Int32 → Int32 → Int32 → Int32} : ∀ (n : Nat) (t : Int32), 7 ≤ t.toInt → (10 - t.toInt).toNat < n → (f_X12_touchAt_100 τ Z gm rm a p1 p p3 q hh one two y k n t = 1 ∧ ∃ t' : Int32, t.toInt ≤ t'.toInt ∧ t'.toInt ≤ 9 ∧ pT τ Z gm rm a p one q two y (y + t' - (y + t') / 8 * 8)) ∨ (f_X12_touchAt_100 τ Z gm rm a p1 p p3 q hh one two y k n t = k one two (y + 1) ∧ ∀ t' : Int32, t.toInt ≤ t'.toInt → t'.toInt ≤ 9 → ¬ pT τ Z gm rm a p one q two y (y + t' - (y + t') / 8 * 8)) := by
  intro n
  induction n with
  | zero => intro t _ h; exact absurd h (Nat.not_lt_zero _)
  | succ n ih =>
    intro t h0 h
    have k9 : (9 : Int32).toInt = 9 := by decide
    unfold f_X12_touchAt_100 f_X12_touchAt_155
    dsimp only
    by_cases hc : (9 : Int32) < t
    · rw [if_pos hc]
      have hc' := i_ltI.mp hc
      rw [k9] at hc'
      exact Or.inr ⟨rfl, fun t' h1 h2 => by omega⟩
    · rw [if_neg hc]
      have hc' := i_le.mp (Int32.not_lt.mp hc)
      rw [k9] at hc'
      have e : (t + 1).toInt = t.toInt + 1 := by rw [i_add (by rw [k_1]; omega) (by rw [k_1]; omega), k_1]
      have next : ¬ pT τ Z gm rm a p one q two y (y + t - (y + t) / 8 * 8) → (f_X12_touchAt_100 τ Z gm rm a p1 p p3 q hh one two y k n (t + 1) = 1 ∧ ∃ t' : Int32, t.toInt ≤ t'.toInt ∧ t'.toInt ≤ 9 ∧ pT τ Z gm rm a p one q two y (y + t' - (y + t') / 8 * 8)) ∨ (f_X12_touchAt_100 τ Z gm rm a p1 p p3 q hh one two y k n (t + 1) = k one two (y + 1) ∧ ∀ t' : Int32, t.toInt ≤ t'.toInt → t'.toInt ≤ 9 → ¬ pT τ Z gm rm a p one q two y (y + t' - (y + t') / 8 * 8)) := fun hp => by
        rcases ih (t + 1) (by omega) (by omega) with ⟨k1, t', k2, k3, k4⟩ | ⟨k1, k2⟩
        · exact Or.inl ⟨k1, t', by omega, k3, k4⟩
        · refine Or.inr ⟨k1, fun t' h1 h2 => ?_⟩
          by_cases ht : t'.toInt = t.toInt
          · rw [i_inj ht]
            exact hp
          · exact k2 t' (by omega) h2
      by_cases b1 : F_X12_isThere τ Z gm rm a y = 0
      · rw [if_pos b1]
        exact next (fun q => q.1 b1)
      · rw [if_neg b1]
        by_cases b2 : F_X12_isThere τ Z gm rm a (y + t - (y + t) / 8 * 8) = 0
        · rw [if_pos b2]
          exact next (fun q => q.2.1 b2)
        · rw [if_neg b2]
          by_cases b3 : F_X12_meet τ Z gm rm a p one y q two (y + t - (y + t) / 8 * 8) = 0
          · rw [if_pos b3]
            exact next (fun q => q.2.2 b3)
          · rw [if_neg b3]
            exact Or.inl ⟨rfl, t, Int.le_refl _, hc', b1, b2, b3⟩
theorem ta_89 {a : Nat} {p1 p q p3 hh one two : Int32} : ∀ (n : Nat) (y : Int32), 0 ≤ y.toInt → (8 - y.toInt).toNat < n → (f_X12_touchAt_89 τ Z gm rm a p1 p p3 q hh n one two y = 1 ∧ ∃ v t : Int32, y.toInt ≤ v.toInt ∧ v.toInt ≤ 7 ∧ 7 ≤ t.toInt ∧ t.toInt ≤ 9 ∧ pT τ Z gm rm a p one q two v (v + t - (v + t) / 8 * 8)) ∨ (f_X12_touchAt_89 τ Z gm rm a p1 p p3 q hh n one two y = 0 ∧ ∀ v t : Int32, y.toInt ≤ v.toInt → v.toInt ≤ 7 → 7 ≤ t.toInt → t.toInt ≤ 9 → ¬ pT τ Z gm rm a p one q two v (v + t - (v + t) / 8 * 8)) := by
  intro n
  induction n with
  | zero => intro y _ h; exact absurd h (Nat.not_lt_zero _)
  | succ n ih =>
    intro y h0 h
    have k8 : (8 : Int32).toInt = 8 := by decide
    unfold f_X12_touchAt_89
    by_cases hc : (8 : Int32) ≤ y
    · rw [if_pos hc]
      have hc' := i_le.mp hc
      rw [k8] at hc'
      exact Or.inr ⟨rfl, fun v t h1 h2 => by omega⟩
    · rw [if_neg hc]
      have hc' := i_ltI.mp (Int32.not_le.mp hc)
      rw [k8] at hc'
      have e := y_1 (m := 8) (by decide) h0 (by omega)
      rcases ta_100 (τ := τ) (Z := Z) (gm := gm) (rm := rm) (a := a) (p1 := p1) (p := p) (q := q) (p3 := p3) (hh := hh) (one := one) (two := two) (y := y) (k := f_X12_touchAt_89 τ Z gm rm a p1 p p3 q hh n) ((10 - (7 : Int32).toInt).toNat + 1) 7 (by decide) (Nat.lt_add_one _) with ⟨k1, t, k2, k3, k4⟩ | ⟨k1, k2⟩
      · rw [k1]
        exact Or.inl ⟨rfl, y, t, Int.le_refl _, by omega, by rw [k_7] at k2; exact k2, k3, k4⟩
      · rw [k1]
        rcases ih (y + 1) (by omega) (by omega) with ⟨l1, v, t, l2, l3, l4, l5, l6⟩ | ⟨l1, l2⟩
        · exact Or.inl ⟨l1, v, t, by omega, l3, l4, l5, l6⟩
        · refine Or.inr ⟨l1, fun v t h1 h2 h3 h4 => ?_⟩
          by_cases hv : v.toInt = y.toInt
          · rw [i_inj hv]
            exact k2 t (by rw [k_7]; exact h3) h4
          · exact l2 v t (by omega) h2 h3 h4
end TO
