/-! ===== whole numbers, roots ===== -/
theorem i_add {x y : Int32} (h1 : -2147483648 ≤ x.toInt + y.toInt) (h2 : x.toInt + y.toInt ≤ 2147483647) : (x + y).toInt = x.toInt + y.toInt := by
  rw [Int32.toInt_add]
  exact rg_bm h1 h2
theorem i_sub {x y : Int32} (h1 : -2147483648 ≤ x.toInt - y.toInt) (h2 : x.toInt - y.toInt ≤ 2147483647) : (x - y).toInt = x.toInt - y.toInt := by
  rw [Int32.toInt_sub]
  exact rg_bm h1 h2
theorem i_mul {x y : Int32} (h1 : -2147483648 ≤ x.toInt * y.toInt) (h2 : x.toInt * y.toInt ≤ 2147483647) : (x * y).toInt = x.toInt * y.toInt := by
  rw [Int32.toInt_mul]
  exact rg_bm h1 h2
theorem i_le {x y : Int32} : x ≤ y ↔ x.toInt ≤ y.toInt := Int32.le_iff_toInt_le
theorem i_ltI {x y : Int32} : x < y ↔ x.toInt < y.toInt := Int32.lt_iff_toInt_lt
theorem i_inj {x y : Int32} (h : x.toInt = y.toInt) : x = y := Int32.toInt_inj.mp h
theorem i_div {x y : Int32} (hy : 0 < y.toInt) (hx : 0 ≤ x.toInt) : (x / y).toInt = x.toInt / y.toInt := by
  have e : (x / y).toInt = x.toInt.tdiv y.toInt := by
    rw [Int32.toInt_div_of_ne_right]
    intro q
    rw [q] at hy
    exact absurd hy (by decide)
  rw [e, Int.tdiv_eq_ediv_of_nonneg hx]
theorem k_0 : (0 : Int32).toInt = 0 := by decide
theorem k_1 : (1 : Int32).toInt = 1 := by decide
theorem k_2 : (2 : Int32).toInt = 2 := by decide
theorem k_7 : (7 : Int32).toInt = 7 := by decide
theorem k_10 : (10 : Int32).toInt = 10 := by decide
theorem k_20 : (20 : Int32).toInt = 20 := by decide
theorem k_24 : (24 : Int32).toInt = 24 := by decide
theorem k_m1 : (-1 : Int32).toInt = -1 := by decide
theorem sq_le {a b : Int} (h0 : 0 ≤ a) (h : a ≤ b) : a * a ≤ b * b := Int.mul_le_mul h h h0 (Int.le_trans h0 h)
theorem sq_lt {a b : Int} (h0 : 0 ≤ b) (h : a * a < b * b) : a < b := Decidable.byContradiction fun q => absurd (sq_le h0 (Int.not_lt.mp q)) (Int.not_le.mpr h)
def rt_ok (v r : Int) : Prop := 0 ≤ r ∧ r * r ≤ v ∧ v < (r + 1) * (r + 1)
theorem rt_u {v r s : Int} (h : rt_ok v r) (k : rt_ok v s) : r = s := by
  obtain ⟨h1, h2, h3⟩ := h
  obtain ⟨k1, k2, k3⟩ := k
  have a : r < s + 1 := sq_lt (by omega) (by omega)
  have b : s < r + 1 := sq_lt (by omega) (by omega)
  omega
section RT
variable {τ τ1 : th_t} {Z : th_Zt} {gi gi1 gm gm2 : th_i} {gr gr1 rm rm2 : th_r} {A : Nat → Nat} {M1 M2 : List Nat}
theorem ro_2 {v : Int32} (hv : v.toInt ≤ 160000) : ∀ (n : Nat) (y : Int32), 0 ≤ y.toInt → y.toInt ≤ 400 → y.toInt * y.toInt ≤ v.toInt → (400 - y.toInt).toNat < n → rt_ok v.toInt (f_X12_root_2 τ Z gi gr v n y).toInt := by
  intro n
  induction n with
  | zero => intro y _ _ _ h; exact absurd h (Nat.not_lt_zero _)
  | succ n ih =>
    intro y h0 h4 hs h
    unfold f_X12_root_2
    dsimp only
    have e1 : (y + 1).toInt = y.toInt + 1 := y_1 (m := 400) (by decide) h0 h4
    have b := sq_le (a := y.toInt + 1) (b := 401) (by omega) (by omega)
    have c := Int.mul_nonneg (a := y.toInt + 1) (b := y.toInt + 1) (by omega) (by omega)
    have e2 : ((y + 1) * (y + 1)).toInt = (y.toInt + 1) * (y.toInt + 1) := by
      rw [i_mul (by rw [e1]; omega) (by rw [e1]; omega), e1]
    by_cases hc : v < (y + 1) * (y + 1)
    · rw [if_pos hc]
      refine ⟨h0, hs, ?_⟩
      rw [← e2]
      exact i_ltI.mp hc
    · rw [if_neg hc]
      have hc' := i_le.mp (Int32.not_lt.mp hc)
      rw [e2] at hc'
      have l4 : y.toInt + 1 < 401 := sq_lt (by decide) (by omega)
      exact ih (y + 1) (by omega) (by omega) (by rw [e1]; exact hc') (by omega)
theorem root_ok {v : Int32} (h0 : 0 ≤ v.toInt) (hv : v.toInt ≤ 160000) : rt_ok v.toInt (F_X12_root τ Z gi gr v).toInt := by
  unfold F_X12_root
  exact ro_2 hv _ 0 (by decide) (by decide) (by rw [k_0]; omega) (Nat.lt_add_one _)
theorem wr_st {v b b' : Int32} {B C : Int} (hB : b.toInt = B) (hC : C = 2 * B) (hb0 : 0 < B) (hb1 : B ≤ 256) (hs : b >>> (1 &&& 31) = b') {n : Nat} {y : Int32} (h0 : 0 ≤ y.toInt) (h1 : y.toInt + C ≤ 512) (h2 : y.toInt * y.toInt ≤ v.toInt) (h3 : v.toInt < (y.toInt + C) * (y.toInt + C)) : ∃ z : Int32, f_X3_wholeRoot_6 τ Z gi gr v (n + 1) y b = f_X3_wholeRoot_6 τ Z gi gr v n z b' ∧ 0 ≤ z.toInt ∧ z.toInt + B ≤ 512 ∧ z.toInt * z.toInt ≤ v.toInt ∧ v.toInt < (z.toInt + B) * (z.toInt + B) := by
  have e1 : (y + b).toInt = y.toInt + B := by
    rw [i_add (by omega) (by omega), hB]
  have s := sq_le (a := y.toInt + B) (b := 512) (by omega) (by omega)
  have c := Int.mul_nonneg (a := y.toInt + B) (b := y.toInt + B) (by omega) (by omega)
  have e2 : ((y + b) * (y + b)).toInt = (y.toInt + B) * (y.toInt + B) := by
    rw [i_mul (by rw [e1]; omega) (by rw [e1]; omega), e1]
  have hu : f_X3_wholeRoot_6 τ Z gi gr v (n + 1) y b = if b ≤ 0 then y else if v < (y + b) * (y + b) then f_X3_wholeRoot_6 τ Z gi gr v n y (b >>> (1 &&& 31)) else f_X3_wholeRoot_6 τ Z gi gr v n (y + b) (b >>> (1 &&& 31)) := rfl
  rw [hu, if_neg (fun q => by have := i_le.mp q; rw [hB, k_0] at this; omega), hs]
  by_cases hc : v < (y + b) * (y + b)
  · rw [if_pos hc]
    refine ⟨y, rfl, h0, by omega, h2, ?_⟩
    rw [← e2]
    exact i_ltI.mp hc
  · rw [if_neg hc]
    refine ⟨y + b, rfl, by omega, by omega, ?_, ?_⟩
    · rw [e1, ← e2]
      exact i_le.mp (Int32.not_lt.mp hc)
    · have : y.toInt + B + B = y.toInt + C := by omega
      rw [e1, this]
      exact h3
theorem wr_ok {v : Int32} (h0 : 0 ≤ v.toInt) (hv : v.toInt ≤ 160000) : rt_ok v.toInt (F_X3_wholeRoot τ Z gi gr v).toInt := by
  unfold F_X3_wholeRoot
  have hN : (256 : Int32).toInt.toNat + 1 = 257 := by decide
  rw [hN]
  obtain ⟨y1, e1, a1, b1, c1, d1⟩ := wr_st (τ := τ) (Z := Z) (gi := gi) (gr := gr) (v := v) (b := 256) (b' := 128) (B := 256) (C := 512) (by decide) (by decide) (by decide) (by decide) (by decide) (n := 256) (y := 0) (by decide) (by decide) (by rw [k_0]; omega) (by rw [k_0]; omega)
  obtain ⟨y2, e2, a2, b2, c2, d2⟩ := wr_st (τ := τ) (Z := Z) (gi := gi) (gr := gr) (v := v) (b := 128) (b' := 64) (B := 128) (by decide) (by decide) (by decide) (by decide) (by decide) (n := 255) a1 b1 c1 d1
  obtain ⟨y3, e3, a3, b3, c3, d3⟩ := wr_st (τ := τ) (Z := Z) (gi := gi) (gr := gr) (v := v) (b := 64) (b' := 32) (B := 64) (by decide) (by decide) (by decide) (by decide) (by decide) (n := 254) a2 b2 c2 d2
  obtain ⟨y4, e4, a4, b4, c4, d4⟩ := wr_st (τ := τ) (Z := Z) (gi := gi) (gr := gr) (v := v) (b := 32) (b' := 16) (B := 32) (by decide) (by decide) (by decide) (by decide) (by decide) (n := 253) a3 b3 c3 d3
  obtain ⟨y5, e5, a5, b5, c5, d5⟩ := wr_st (τ := τ) (Z := Z) (gi := gi) (gr := gr) (v := v) (b := 16) (b' := 8) (B := 16) (by decide) (by decide) (by decide) (by decide) (by decide) (n := 252) a4 b4 c4 d4
  obtain ⟨y6, e6, a6, b6, c6, d6⟩ := wr_st (τ := τ) (Z := Z) (gi := gi) (gr := gr) (v := v) (b := 8) (b' := 4) (B := 8) (by decide) (by decide) (by decide) (by decide) (by decide) (n := 251) a5 b5 c5 d5
  obtain ⟨y7, e7, a7, b7, c7, d7⟩ := wr_st (τ := τ) (Z := Z) (gi := gi) (gr := gr) (v := v) (b := 4) (b' := 2) (B := 4) (by decide) (by decide) (by decide) (by decide) (by decide) (n := 250) a6 b6 c6 d6
  obtain ⟨y8, e8, a8, b8, c8, d8⟩ := wr_st (τ := τ) (Z := Z) (gi := gi) (gr := gr) (v := v) (b := 2) (b' := 1) (B := 2) (by decide) (by decide) (by decide) (by decide) (by decide) (n := 249) a7 b7 c7 d7
  obtain ⟨y9, e9, a9, b9, c9, d9⟩ := wr_st (τ := τ) (Z := Z) (gi := gi) (gr := gr) (v := v) (b := 1) (b' := 0) (B := 1) (by decide) (by decide) (by decide) (by decide) (by decide) (n := 248) a8 b8 c8 d8
  have l : f_X3_wholeRoot_6 τ Z gi gr v 248 y9 0 = y9 := by
    show (if (0 : Int32) ≤ 0 then y9 else _) = y9
    exact if_pos (by decide)
  have all : f_X3_wholeRoot_6 τ Z gi gr v 257 0 256 = y9 := e1.trans (e2.trans (e3.trans (e4.trans (e5.trans (e6.trans (e7.trans (e8.trans (e9.trans l))))))))
  rw [all]
  exact ⟨a9, c9, d9⟩
/-- the chain's part of OUT: of DEPTH, CHAIN, TIDE -/
def sl_ok (d c t s : Int32) : Prop := (c.toInt ≤ d.toInt + t.toInt → s.toInt = 0) ∧ (d.toInt + t.toInt < c.toInt → rt_ok (c.toInt * c.toInt - (d.toInt + t.toInt) * (d.toInt + t.toInt)) s.toInt)
theorem sl_u {d c t s s' : Int32} (h : sl_ok d c t s) (k : sl_ok d c t s') : s = s' := by
  by_cases q : c.toInt ≤ d.toInt + t.toInt
  · exact i_inj ((h.1 q).trans (k.1 q).symm)
  · exact i_inj (rt_u (h.2 (by omega)) (k.2 (by omega)))
theorem sl_rg {d c t s : Int32} (hc : rg 10 400 c) (h : sl_ok d c t s) : rg 0 400 s := by
  by_cases q : c.toInt ≤ d.toInt + t.toInt
  · rw [rg, h.1 q]
    exact ⟨by decide, by decide⟩
  · obtain ⟨h1, h2, h3⟩ := h.2 (by omega)
    have c1 := sq_le (a := c.toInt) (b := 400) (by have := hc.1; omega) hc.2
    have c2 : 0 ≤ (d.toInt + t.toInt) * (d.toInt + t.toInt) := by
      rcases Int.le_total 0 (d.toInt + t.toInt) with p | p
      · exact Int.mul_nonneg p p
      · exact Int.mul_nonneg_of_nonpos_of_nonpos p p
    have : s.toInt < 401 := sq_lt (by decide) (by omega)
    exact ⟨h1, by omega⟩
theorem sq_v {c w : Int32} (hc : rg 10 400 c) (hw : 0 ≤ w.toInt) (h : w.toInt < c.toInt) : (c * c - w * w).toInt = c.toInt * c.toInt - w.toInt * w.toInt ∧ 0 ≤ c.toInt * c.toInt - w.toInt * w.toInt ∧ c.toInt * c.toInt - w.toInt * w.toInt ≤ 160000 := by
  obtain ⟨c0, c4⟩ := hc
  have a1 := sq_le (a := c.toInt) (b := 400) (by omega) c4
  have a2 := sq_le (a := w.toInt) (b := c.toInt) hw (by omega)
  have a3 := Int.mul_nonneg hw hw
  have e1 : (c * c).toInt = c.toInt * c.toInt := i_mul (by omega) (by omega)
  have e2 : (w * w).toInt = w.toInt * w.toInt := i_mul (by omega) (by omega)
  refine ⟨?_, by omega, by omega⟩
  rw [i_sub (by omega) (by omega), e1, e2]
theorem so_ok (hQ : ro_M τ rm A) {p h : Int32} (hd : rg 0 300 (gm (A 42) p.toNatClampNeg)) (hc : rg 10 400 (gm (A 43) p.toNatClampNeg)) (ht : rg 0 200 (gm (A 51) h.toNatClampNeg)) : sl_ok (gm (A 42) p.toNatClampNeg) (gm (A 43) p.toNatClampNeg) (gm (A 51) h.toNatClampNeg) (F_X12_slackOf τ Z gm rm (A 12) p h) := by
  unfold F_X12_slackOf
  dsimp only
  rw [hQ.g 3 42 (by decide), hQ.g 4 43 (by decide), hQ.g 13 51 (by decide)]
  generalize gm (A 42) p.toNatClampNeg = d at hd ⊢
  generalize gm (A 43) p.toNatClampNeg = c at hc ⊢
  generalize gm (A 51) h.toNatClampNeg = t at ht ⊢
  obtain ⟨d0, d1⟩ := hd
  obtain ⟨t0, t1⟩ := ht
  have e : (d + t).toInt = d.toInt + t.toInt := i_add (by omega) (by omega)
  by_cases g : d + t < c
  · have g' := i_ltI.mp g
    rw [e] at g'
    rw [if_pos g]
    obtain ⟨v1, v2, v3⟩ := sq_v (w := d + t) hc (by omega) (by omega)
    rw [e] at v1 v2 v3
    have k := root_ok (τ := τ) (Z := Z) (gi := gm) (gr := rm) (v := c * c - (d + t) * (d + t)) (by rw [v1]; exact v2) (by rw [v1]; exact v3)
    rw [v1] at k
    exact ⟨fun q => by omega, fun _ => k⟩
  · have g' := i_le.mp (Int32.not_lt.mp g)
    rw [e] at g'
    rw [if_neg g]
    exact ⟨fun _ => k_0, fun q => by omega⟩
theorem fd_at {g : th_i} {q w : Nat} {p t : Int32} (hw : gr q 5 = some w) (hp : ¬ W0 p 0 23 = 0) (hd : rg 0 300 (g q 3)) (hc : rg 10 400 (g q 4)) (ht : rg 0 200 t) : ∃ s, F_X3_flood τ Z g gr q p t = va_up g w (upd (g w) p.toNatClampNeg s) ∧ sl_ok (g q 3) (g q 4) t s := by
  unfold F_X3_flood F_X11_isHour
  dsimp only
  rw [w0_c, hw, if_neg hp]
  generalize g q 3 = d at hd ⊢
  generalize g q 4 = c at hc ⊢
  obtain ⟨d0, d1⟩ := hd
  obtain ⟨t0, t1⟩ := ht
  have e : (d + t).toInt = d.toInt + t.toInt := i_add (by omega) (by omega)
  by_cases g' : d + t < c
  · have l := i_ltI.mp g'
    rw [e] at l
    rw [if_pos g']
    obtain ⟨v1, v2, v3⟩ := sq_v (w := d + t) hc (by omega) (by omega)
    rw [e] at v1 v2 v3
    have k := wr_ok (τ := τ) (Z := Z) (gi := g) (gr := gr) (v := c * c - (d + t) * (d + t)) (by rw [v1]; exact v2) (by rw [v1]; exact v3)
    rw [v1] at k
    exact ⟨_, rfl, fun q => by omega, fun _ => k⟩
  · have l := i_le.mp (Int32.not_lt.mp g')
    rw [e] at l
    rw [if_neg g']
    exact ⟨0, rfl, fun _ => k_0, fun q => by omega⟩
end RT
