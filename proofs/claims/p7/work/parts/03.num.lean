/-! ===== numbers between bounds ===== -/
def rg (lo hi : Int) (x : Int32) : Prop := lo ≤ x.toInt ∧ x.toInt ≤ hi
theorem rg_any (x : Int32) : rg (-2147483648) 2147483647 x := by
  have h1 := Int32.le_toInt x
  have h2 := Int32.toInt_lt x
  constructor <;> omega
theorem rg_w {lo hi lo' hi' : Int} {x : Int32} (h : rg lo hi x) (h1 : lo' ≤ lo) (h2 : hi ≤ hi') : rg lo' hi' x := ⟨by have := h.1; omega, by have := h.2; omega⟩
theorem rg_bm {n : Int} (h1 : -2147483648 ≤ n) (h2 : n ≤ 2147483647) : n.bmod (2 ^ 32) = n := by
  apply Int.bmod_eq_of_le <;> omega
theorem rg_addI {a b c d : Int} {x y : Int32} (hx : rg a b x) (hy : rg c d y) (h1 : -2147483648 ≤ a + c) (h2 : b + d ≤ 2147483647) : (x + y).toInt = x.toInt + y.toInt := by
  obtain ⟨p1, p2⟩ := hx
  obtain ⟨q1, q2⟩ := hy
  rw [Int32.toInt_add]
  exact rg_bm (by omega) (by omega)
theorem rg_add {a b c d : Int} {x y : Int32} (hx : rg a b x) (hy : rg c d y) (h1 : -2147483648 ≤ a + c) (h2 : b + d ≤ 2147483647) : rg (a + c) (b + d) (x + y) := by
  have e := rg_addI hx hy h1 h2
  obtain ⟨p1, p2⟩ := hx
  obtain ⟨q1, q2⟩ := hy
  exact ⟨by omega, by omega⟩
theorem rg_sub {a b c d : Int} {x y : Int32} (hx : rg a b x) (hy : rg c d y) (h1 : -2147483648 ≤ a - d) (h2 : b - c ≤ 2147483647) : rg (a - d) (b - c) (x - y) := by
  obtain ⟨p1, p2⟩ := hx
  obtain ⟨q1, q2⟩ := hy
  have e : (x - y).toInt = x.toInt - y.toInt := by
    rw [Int32.toInt_sub]
    exact rg_bm (by omega) (by omega)
  exact ⟨by omega, by omega⟩
theorem rg_mul {a b c d : Int} {x y : Int32} (hx : rg a b x) (hy : rg c d y) (ha : 0 ≤ a) (hc : 0 ≤ c) (h2 : b * d ≤ 2147483647) : rg (a * c) (b * d) (x * y) := by
  obtain ⟨p1, p2⟩ := hx
  obtain ⟨q1, q2⟩ := hy
  have hx0 : 0 ≤ x.toInt := by omega
  have hy0 : 0 ≤ y.toInt := by omega
  have l1 : a * c ≤ x.toInt * y.toInt := Int.mul_le_mul p1 q1 hc hx0
  have l2 : x.toInt * y.toInt ≤ b * d := Int.mul_le_mul p2 q2 hy0 (by omega)
  have l0 : 0 ≤ a * c := Int.mul_nonneg ha hc
  have e : (x * y).toInt = x.toInt * y.toInt := by
    rw [Int32.toInt_mul]
    exact rg_bm (by omega) (by omega)
  rw [rg, e]
  exact ⟨l1, l2⟩
theorem rg_lt {a b c d : Int} {x y : Int32} (hx : rg a b x) (hy : rg c d y) (h : x < y) : rg a (min b (d - 1)) x ∧ rg (max c (a + 1)) d y := by
  rw [Int32.lt_iff_toInt_lt] at h
  obtain ⟨p1, p2⟩ := hx
  obtain ⟨q1, q2⟩ := hy
  refine ⟨⟨?_, ?_⟩, ⟨?_, ?_⟩⟩ <;> omega
theorem rg_le {a b c d : Int} {x y : Int32} (hx : rg a b x) (hy : rg c d y) (h : x ≤ y) : rg a (min b d) x ∧ rg (max c a) d y := by
  rw [Int32.le_iff_toInt_le] at h
  obtain ⟨p1, p2⟩ := hx
  obtain ⟨q1, q2⟩ := hy
  refine ⟨⟨?_, ?_⟩, ⟨?_, ?_⟩⟩ <;> omega
theorem rg_eq {a b c d : Int} {x y : Int32} (hx : rg a b x) (hy : rg c d y) (h : x = y) : rg (max a c) (min b d) x ∧ rg (max a c) (min b d) y := by
  subst h
  obtain ⟨p1, p2⟩ := hx
  obtain ⟨q1, q2⟩ := hy
  refine ⟨⟨?_, ?_⟩, ⟨?_, ?_⟩⟩ <;> omega
theorem rg_nlt {a b c d : Int} {x y : Int32} (hx : rg a b x) (hy : rg c d y) (h : ¬ x < y) : rg (max c a) b x ∧ rg c (min b d) y := by
  have h : y ≤ x := Int32.not_lt.mp h
  have := rg_le hy hx h
  exact ⟨rg_w this.2 (by omega) (by omega), rg_w this.1 (by omega) (by omega)⟩
theorem rg_nle {a b c d : Int} {x y : Int32} (hx : rg a b x) (hy : rg c d y) (h : ¬ x ≤ y) : rg (max a (c + 1)) b x ∧ rg c (min d (b - 1)) y := by
  have h : y < x := Int32.not_le.mp h
  have := rg_lt hy hx h
  exact ⟨this.2, this.1⟩
theorem rg_neI {x y : Int32} (h : ¬ x = y) : x.toInt ≠ y.toInt := fun q => h (Int32.toInt_inj.mp q)
/-- an end that isn't met falls off -/
theorem rg_neL {a b : Int} {x y : Int32} (hx : rg a b x) (hy : rg a a y) (h : ¬ x = y) : rg (a + 1) b x := by
  have := rg_neI h
  obtain ⟨p1, p2⟩ := hx
  obtain ⟨q1, q2⟩ := hy
  exact ⟨by omega, by omega⟩
theorem rg_neR {a b : Int} {x y : Int32} (hx : rg a b x) (hy : rg b b y) (h : ¬ x = y) : rg a (b - 1) x := by
  have := rg_neI h
  obtain ⟨p1, p2⟩ := hx
  obtain ⟨q1, q2⟩ := hy
  exact ⟨by omega, by omega⟩
theorem rg_in {lo hi : Int} {x : Int32} {n : Nat} (h : rg lo hi x) (h0 : 0 ≤ lo) (h1 : hi < (n : Int)) : vp_in x n := vp_in_iff.mpr ⟨by have := h.1; omega, by have := h.2; omega⟩
theorem rg_nn {lo hi : Int} {x : Int32} (h : rg lo hi x) (h0 : 0 ≤ lo) : ¬ x < 0 := by
  rw [Int32.lt_iff_toInt_lt, Int32.toInt_zero]
  have := h.1
  omega
theorem rg_ne0 {lo hi : Int} {x : Int32} (h : rg lo hi x) (h0 : 0 < lo ∨ hi < 0) : ¬ x = 0 := by
  intro q
  have e : x.toInt = 0 := by rw [q]; rfl
  obtain ⟨p1, p2⟩ := h
  omega
theorem rg_b {x : Int32} (h : rg 0 1 x) : x = 0 ∨ x = 1 := by
  obtain ⟨h1, h2⟩ := h
  rcases (show x.toInt = 0 ∨ x.toInt = 1 by omega) with q | q
  · exact Or.inl (Int32.toInt_inj.mp (by rw [q]; rfl))
  · exact Or.inr (Int32.toInt_inj.mp (by rw [q]; rfl))
theorem rg_nb {x : Int32} (h : rg 0 1 x) : narrow .boolean (.int x) = .int x := by
  rcases rg_b h with q | q <;> rw [q] <;> rfl
theorem rg_fb {x : Int32} (h : rg 0 1 x) : fits .boolean (.int x) = true := by
  rcases rg_b h with q | q <;> rw [q] <;> rfl
theorem rg_vb {x : Int32} (h : rg 0 1 x) : vp_nar .boolean x = x := by
  rcases rg_b h with q | q <;> rw [q] <;> rfl
theorem rg_and {x m : Int32} (k : Nat) (hm : m.toBitVec.toNat = 2 ^ k - 1) (hk : k ≤ 30) {hi : Int} (hh : ((2 ^ k : Nat) : Int) - 1 = hi) : rg 0 hi (x &&& m) := by
  have h := vp_in_iff.mp (pk_andIn x k hm hk)
  exact ⟨h.1, by omega⟩
theorem rg_div {a b c : Int} {x y : Int32} (hx : rg a b x) (hy : rg c c y) (hc : 0 < c) {lo hi : Int} (ha : 0 ≤ a) (h1 : lo ≤ a.tdiv c) (h2 : b.tdiv c ≤ hi) : rg lo hi (x / y) := by
  obtain ⟨p1, p2⟩ := hx
  obtain ⟨q1, q2⟩ := hy
  have hy : y.toInt = c := by omega
  have x2 := Int32.toInt_lt x
  have e : (x / y).toInt = x.toInt.tdiv y.toInt := by
    rw [Int32.toInt_div_of_ne_right]
    intro q
    rw [q] at hy
    have : (-1 : Int32).toInt = -1 := by decide
    omega
  rw [rg, e, hy]
  rw [Int.tdiv_eq_ediv_of_nonneg (by omega)] at *
  have l1 : a / c ≤ x.toInt / c := Int.ediv_le_ediv hc p1
  have l2 : x.toInt / c ≤ b / c := Int.ediv_le_ediv hc p2
  constructor <;> omega
theorem rg_min {a b c d : Int} {x y : Int32} (hx : rg a b x) (hy : rg c d y) : rg (min a c) (min b d) (if y < x then y else x) := by
  obtain ⟨p1, p2⟩ := hx
  obtain ⟨q1, q2⟩ := hy
  split
  · rename_i h
    rw [Int32.lt_iff_toInt_lt] at h
    exact ⟨by omega, by omega⟩
  · rename_i h
    rw [Int32.lt_iff_toInt_lt] at h
    exact ⟨by omega, by omega⟩
theorem rg_max {a b c d : Int} {x y : Int32} (hx : rg a b x) (hy : rg c d y) : rg (max a c) (max b d) (if x < y then y else x) := by
  obtain ⟨p1, p2⟩ := hx
  obtain ⟨q1, q2⟩ := hy
  split
  · rename_i h
    rw [Int32.lt_iff_toInt_lt] at h
    exact ⟨by omega, by omega⟩
  · rename_i h
    rw [Int32.lt_iff_toInt_lt] at h
    exact ⟨by omega, by omega⟩
