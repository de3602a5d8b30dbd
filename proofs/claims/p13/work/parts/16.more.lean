theorem rg_dA {l h c : Int} {x a b : Int32} (e : x = a + b) (pa : rg l h a) (pb : rg c c b) (h1 : -2147483648 ≤ l + c) (h2 : h + c ≤ 2147483647) : x.toInt = a.toInt + c := by
  have := rg_addI pa pb h1 h2
  obtain ⟨q1, q2⟩ := pb
  rw [e, this]
  omega
theorem rg_dS {l h c : Int} {x a b : Int32} (e : x = a - b) (pa : rg l h a) (pb : rg c c b) (h1 : -2147483648 ≤ l - c) (h2 : h - c ≤ 2147483647) : x.toInt = a.toInt + -c := by
  obtain ⟨p1, p2⟩ := pa
  obtain ⟨q1, q2⟩ := pb
  rw [e, Int32.toInt_sub, rg_bm (by omega) (by omega)]
  omega
theorem rg_back {c l1 h1 l2 h2 lo hi : Int} {x a : Int32} (e : x.toInt = a.toInt + c) (fa : rg l1 h1 a) (fx : rg l2 h2 x) (g1 : lo ≤ l1 ∨ lo ≤ l2 - c) (g2 : h1 ≤ hi ∨ h2 - c ≤ hi) : rg lo hi a := by
  obtain ⟨p1, p2⟩ := fa
  obtain ⟨q1, q2⟩ := fx
  exact ⟨by omega, by omega⟩
theorem th_up {lo hi B : Int} {x y : Int32} {k : Nat} (e : x.toInt = y.toInt + 1) (fy : rg lo hi y) (hn : (B - y.toInt).toNat < k + 1) (h : hi < B) : (B - x.toInt).toNat < k := by
  obtain ⟨p1, p2⟩ := fy
  omega
theorem th_dn {lo hi B : Int} {x y : Int32} {k : Nat} (e : x.toInt = y.toInt + -1) (fy : rg lo hi y) (hn : (y.toInt - B).toNat < k + 1) (h : B < lo) : (x.toInt - B).toNat < k := by
  obtain ⟨p1, p2⟩ := fy
  omega
theorem rg_no {lo hi : Int} {x : Int32} (h : hi < lo) : ¬ rg lo hi x := fun q => by
  obtain ⟨p1, p2⟩ := q
  omega
theorem rg_one {a : Int} {x y : Int32} (hx : rg a a x) (hy : rg a a y) : x = y := by
  obtain ⟨p1, p2⟩ := hx
  obtain ⟨q1, q2⟩ := hy
  exact Int32.toInt_inj.mp (by omega)
theorem rg_cl {lo hi : Int} {x : Int32} {n : Nat} (h : rg lo hi x) (h0 : 0 ≤ lo) (h1 : hi < (n : Int)) : x.toNatClampNeg < n := Nat.not_le.mp fun q => (rg_in h h0 h1) (Or.inr q)
theorem rg_wi {a b c d : Int} {x lo hi : Int32} (pl : rg a b lo) (ph : rg c d hi) (h : lo ≤ x ∧ x ≤ hi) : rg a d x := by
  obtain ⟨p1, p2⟩ := pl
  obtain ⟨q1, q2⟩ := ph
  have h1 := Int32.le_iff_toInt_le.mp h.1
  have h2 := Int32.le_iff_toInt_le.mp h.2
  exact ⟨by omega, by omega⟩
theorem rg_rem {a b c d : Int} {x y : Int32} (hx : rg a b x) (hy : rg c d y) (ha : 0 ≤ a) (hc : 0 < c) : rg 0 (d - 1) (x - x / y * y) := by
  obtain ⟨p1, p2⟩ := hx
  obtain ⟨q1, q2⟩ := hy
  have x2 := Int32.toInt_lt x
  have e : (x / y).toInt = x.toInt / y.toInt := by
    rw [Int32.toInt_div_of_ne_right]
    · exact Int.tdiv_eq_ediv_of_nonneg (by omega)
    · intro q
      have : (-1 : Int32).toInt = -1 := by decide
      rw [q] at q1
      omega
  have hy0 : 0 < y.toInt := by omega
  have m1 := Int.emod_nonneg x.toInt (show y.toInt ≠ 0 by omega)
  have m2 := Int.emod_lt_of_pos x.toInt hy0
  have m3 := Int.emod_add_mul_ediv x.toInt y.toInt
  have d0 : 0 ≤ x.toInt / y.toInt := Int.ediv_nonneg (by omega) (by omega)
  have d1 : 0 ≤ x.toInt / y.toInt * y.toInt := Int.mul_nonneg d0 (by omega)
  have d2 : x.toInt / y.toInt * y.toInt = y.toInt * (x.toInt / y.toInt) := Int.mul_comm _ _
  have e2 : (x / y * y).toInt = x.toInt / y.toInt * y.toInt := by
    rw [Int32.toInt_mul, e]
    exact rg_bm (by omega) (by omega)
  have e3 : (x - x / y * y).toInt = x.toInt % y.toInt := by
    rw [Int32.toInt_sub, e2, rg_bm (by omega) (by omega)]
    omega
  rw [rg, e3]
  constructor <;> omega
theorem rg_shr1 {a b : Int} {x : Int32} (hx : rg a b x) (ha : 0 ≤ a) : rg (a / 2) (b / 2) (x >>> (1 &&& 31)) := by
  obtain ⟨p1, p2⟩ := hx
  have e : (x >>> ((1 : Int32) &&& 31)).toInt = x.toInt / 2 := by
    rw [pk_shr x _ 1 (by decide), Int.shiftRight_eq_div_pow]
    rfl
  rw [rg, e]
  constructor <;> omega
theorem th_or2 {A B P : Prop} (h : A ∨ B) (a : A → P) (b : B → P) : P := h.elim a b
theorem th_or3 {A B C P : Prop} (h : A ∨ B ∨ C) (a : A → P) (b : B → P) (c : C → P) : P := h.elim a (fun h => h.elim b c)
theorem th_any2 {A B P K : Prop} (h : A ∨ B) (a : A → K → P) (b : B → K → P) (k : K) : P := h.elim (fun h => a h k) (fun h => b h k)
theorem th_any3 {A B C P K : Prop} (h : A ∨ B ∨ C) (a : A → K → P) (b : B → K → P) (c : C → K → P) (k : K) : P := h.elim (fun h => a h k) (fun h => h.elim (fun h => b h k) (fun h => c h k))
theorem th_ne {τ : th_t} {a b c d : Nat} (h1 : τ b = c) (h2 : τ a = d) (h : c ≠ d) : b ≠ a := fun q => h (by rw [← h1, ← h2, q])
theorem th_Ht {D : va_G} {cA : Nat → ClassId} {τ : th_t} {gi : th_i} {gr : th_r} {H : Heap} {t : State} (ht : t.heap = H) (hH : th_H D cA τ gi gr H) : th_H D cA τ gi gr t.heap := by rw [ht]; exact hH
theorem th_half {lo hi : Int} {x y : Int32} {k : Nat} (e : x = y >>> (1 &&& 31)) (fy : rg lo hi y) (hn : y.toInt.toNat < k + 1) (h : 0 < lo) : x.toInt.toNat < k := by
  have e1 : (y >>> ((1 : Int32) &&& 31)).toInt = y.toInt / 2 := by
    rw [pk_shr y _ 1 (by decide), Int.shiftRight_eq_div_pow]
    rfl
  obtain ⟨p1, p2⟩ := fy
  rw [e, e1]
  omega
