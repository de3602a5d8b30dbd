/-! ===== THE MOST: what is asked, what is found, what stays ===== -/
section MO
variable {τ τ1 : th_t} {Z : th_Zt} {gi gi1 gm gm2 : th_i} {gr gr1 rm rm2 : th_r} {A : Nat → Nat} {M1 M2 : List Nat}
/-- how many bits there are below k -/
def cnB (v : Int32) : Nat → Nat
  | 0 => 0
  | k + 1 => cnB v k + (if bt v k = true then 1 else 0)
def pcN (x : Nat) : Nat :=
  let x3 := x - ((x >>> 1) &&& 1431655765)
  let x7 := (x3 &&& 858993459) + ((x3 >>> 2) &&& 858993459)
  let x10 := (x7 + (x7 >>> 4)) &&& 252645135
  let x12 := x10 + (x10 >>> 8)
  (x12 + (x12 >>> 16)) &&& 63
theorem an_sp {q m r s : Nat} (hr : r < 256) (hs : s < 256) : (256 * q + r) &&& (256 * m + s) = 256 * (q &&& m) + (r &&& s) := by
  have h1 : ((256 * q + r) &&& (256 * m + s)) / 256 = q &&& m := by
    have := Nat.and_div_two_pow (a := 256 * q + r) (b := 256 * m + s) (n := 8)
    rw [show (2 : Nat) ^ 8 = 256 from rfl, show (256 * q + r) / 256 = q by omega, show (256 * m + s) / 256 = m by omega] at this
    exact this
  have h2 : ((256 * q + r) &&& (256 * m + s)) % 256 = r &&& s := by
    have := Nat.and_mod_two_pow (a := 256 * q + r) (b := 256 * m + s) (n := 8)
    rw [show (2 : Nat) ^ 8 = 256 from rfl, show (256 * q + r) % 256 = r by omega, show (256 * m + s) % 256 = s by omega] at this
    exact this
  omega
theorem an_0 {r m s : Nat} (hr : r < 256) (hs : s < 256) : r &&& (256 * m + s) = r &&& s := by
  have h := an_sp (q := 0) (m := m) hr hs
  rw [Nat.zero_and] at h
  rw [show 256 * 0 + r = r by omega, show 256 * 0 + (r &&& s) = (r &&& s) by omega] at h
  exact h
def pcS (l : Nat) : Nat := l / 2 &&& 85
def pcT (y : Nat) : Nat := (y &&& 51) + (y / 4 &&& 51)
def pcU (z : Nat) : Nat := (z + z / 16) &&& 15
theorem p_1 : ∀ l, l < 256 → pcS l ≤ l ∧ (pcT (l - pcS l) ≤ 68 ∧ pcT (l - pcS l) % 16 ≤ 4) ∧ pcU (pcT (l - pcS l)) = l % 2 + l / 2 % 2 + l / 4 % 2 + l / 8 % 2 + l / 16 % 2 + l / 32 % 2 + l / 64 % 2 + l / 128 % 2 := by decide +kernel
theorem p_2 : ∀ e, e < 2 → ∀ m, m < 128 → (128 * e + m) &&& 85 = m &&& 85 := by decide +kernel
theorem p_3 : ∀ e, e < 4 → ∀ m, m < 64 → (64 * e + m) &&& 51 = m &&& 51 := by decide +kernel
theorem pc_2 {h l : Nat} (hh : h < 256) (hl : l < 256) : pcN (256 * h + l) = pcU (pcT (h - pcS h)) + pcU (pcT (l - pcS l)) := by
  obtain ⟨s1, ⟨s2, s3⟩, -⟩ := p_1 h hh
  obtain ⟨s4, ⟨s5, s6⟩, -⟩ := p_1 l hl
  unfold pcN
  dsimp only
  simp only [Nat.shiftRight_eq_div_pow]
  rw [show (2 : Nat) ^ 1 = 2 from rfl, show (2 : Nat) ^ 2 = 4 from rfl, show (2 : Nat) ^ 4 = 16 from rfl, show (2 : Nat) ^ 8 = 256 from rfl, show (2 : Nat) ^ 16 = 65536 from rfl]
  have e1 : (256 * h + l) / 2 &&& 1431655765 = 256 * pcS h + pcS l := by
    rw [show (256 * h + l) / 2 = 256 * (h / 2) + (128 * (h % 2) + l / 2) by omega, show (1431655765 : Nat) = 256 * 5592405 + 85 from rfl, an_sp (by omega) (by decide), p_2 _ (by omega) _ (by omega), show (5592405 : Nat) = 256 * 21845 + 85 from rfl, an_0 (by omega) (by decide)]
    rfl
  rw [e1, show 256 * h + l - (256 * pcS h + pcS l) = 256 * (h - pcS h) + (l - pcS l) by omega]
  have b1 : h - pcS h < 256 := by omega
  have b0 : l - pcS l < 256 := by omega
  generalize h - pcS h = y1 at *
  generalize l - pcS l = y0 at *
  have e2 : 256 * y1 + y0 &&& 858993459 = 256 * (y1 &&& 51) + (y0 &&& 51) := by
    rw [show (858993459 : Nat) = 256 * 3355443 + 51 from rfl, an_sp b0 (by decide), show (3355443 : Nat) = 256 * 13107 + 51 from rfl, an_0 b1 (by decide)]
  have e3 : (256 * y1 + y0) / 4 &&& 858993459 = 256 * (y1 / 4 &&& 51) + (y0 / 4 &&& 51) := by
    rw [show (256 * y1 + y0) / 4 = 256 * (y1 / 4) + (64 * (y1 % 4) + y0 / 4) by omega, show (858993459 : Nat) = 256 * 3355443 + 51 from rfl, an_sp (by omega) (by decide), p_3 _ (by omega) _ (by omega), show (3355443 : Nat) = 256 * 13107 + 51 from rfl, an_0 (by omega) (by decide)]
  rw [e2, e3, show 256 * (y1 &&& 51) + (y0 &&& 51) + (256 * (y1 / 4 &&& 51) + (y0 / 4 &&& 51)) = 256 * pcT y1 + pcT y0 by unfold pcT; omega]
  generalize pcT y1 = z1 at *
  generalize pcT y0 = z0 at *
  have m15 : ∀ n : Nat, n &&& 15 = n % 16 := fun n => Nat.and_two_pow_sub_one_eq_mod n 4
  have e4 : 256 * z1 + z0 + (256 * z1 + z0) / 16 &&& 252645135 = 256 * pcU z1 + pcU z0 := by
    rw [show 256 * z1 + z0 + (256 * z1 + z0) / 16 = 256 * (z1 + z1 / 16) + (z0 + z0 / 16 + 16 * (z1 % 16)) by omega, show (252645135 : Nat) = 256 * 986895 + 15 from rfl, an_sp (by omega) (by decide), show (986895 : Nat) = 256 * 3855 + 15 from rfl, an_0 (by omega) (by decide)]
    unfold pcU
    rw [m15, m15, m15]
    omega
  rw [e4]
  have u1 : pcU z1 ≤ 15 := by unfold pcU; exact Nat.and_le_right
  have u0 : pcU z0 ≤ 15 := by unfold pcU; exact Nat.and_le_right
  have m63 : ∀ n : Nat, n &&& 63 = n % 64 := fun n => Nat.and_two_pow_sub_one_eq_mod n 6
  generalize pcU z1 = v1 at *
  generalize pcU z0 = v0 at *
  have q1 : (256 * v1 + v0) / 256 = v1 := by clear e4; omega
  rw [q1]
  have q2 : (256 * v1 + v0 + v1) / 65536 = 0 := by clear e4; omega
  rw [q2, m63, show 256 * v1 + v0 + v1 + 0 = 64 * (4 * v1) + (v1 + v0) by omega, Nat.mul_add_mod]
  exact Nat.mod_eq_of_lt (by omega)
def uN (x : Int32) : Nat := x.toBitVec.toNat
theorem u_sh (x : Int32) {k : Int32} {n : Nat} (hk : ((Int32.toUInt32 k &&& Int32.toUInt32 31).toBitVec % 32#32).toNat = n) : uN (x.toUInt32 >>> (Int32.toUInt32 k &&& Int32.toUInt32 31)).toInt32 = uN x >>> n := by
  show ((x.toUInt32 >>> (Int32.toUInt32 k &&& Int32.toUInt32 31)).toBitVec).toNat = _
  rw [UInt32.toBitVec_shiftRight]
  show (x.toBitVec >>> ((Int32.toUInt32 k &&& Int32.toUInt32 31).toBitVec % 32#32)).toNat = _
  rw [BitVec.ushiftRight_eq', BitVec.toNat_ushiftRight, hk]
  rfl
theorem u_and (x y : Int32) : uN (x &&& y) = uN x &&& uN y := by
  unfold uN
  rw [Int32.toBitVec_and, BitVec.toNat_and]
theorem u_add {x y : Int32} (h : uN x + uN y < 4294967296) : uN (x + y) = uN x + uN y := by
  unfold uN at *
  rw [Int32.toBitVec_add, BitVec.toNat_add]
  exact Nat.mod_eq_of_lt h
theorem u_sub {x y : Int32} (h : uN y ≤ uN x) : uN (x - y) = uN x - uN y := by
  unfold uN at *
  rw [Int32.toBitVec_sub, BitVec.toNat_sub]
  have := x.toBitVec.isLt
  omega
theorem u_toInt {x : Int32} (h : uN x < 2147483648) : x.toInt = (uN x : Int) := by
  show x.toBitVec.toInt = _
  rw [BitVec.toInt_eq_toNat_cond]
  unfold uN at *
  rw [if_pos (by omega)]
theorem u_of {x : Int32} (h : 0 ≤ x.toInt) : (uN x : Int) = x.toInt := by
  have h2 : x.toBitVec.toInt = x.toInt := rfl
  rw [BitVec.toInt_eq_toNat_cond] at h2
  unfold uN
  have := x.toBitVec.isLt
  by_cases c : 2 * x.toBitVec.toNat < 2 ^ 32
  · rw [if_pos c] at h2
    exact h2
  · rw [if_neg c] at h2
    omega
theorem bc_eq (v : Int32) (h : uN v < 65536) : uN (F_J6_bitCount_0f7a4 τ Z gi gr v) = pcN (uN v) := by
  unfold F_J6_bitCount_0f7a4 pcN
  dsimp only
  have m5 : uN (1431655765 : Int32) = 1431655765 := by decide
  have m3 : uN (858993459 : Int32) = 858993459 := by decide
  have mf : uN (252645135 : Int32) = 252645135 := by decide
  have m6 : uN (63 : Int32) = 63 := by decide
  have e1 := u_sh v (k := 1) (n := 1) (by decide)
  have e2 : uN ((v.toUInt32 >>> (Int32.toUInt32 1 &&& Int32.toUInt32 31)).toInt32 &&& 1431655765) = (uN v >>> 1) &&& 1431655765 := by rw [u_and, e1, m5]
  have l2 : (uN v >>> 1) &&& 1431655765 ≤ uN v >>> 1 := Nat.and_le_left
  have l1 : uN v >>> 1 ≤ uN v := Nat.shiftRight_le _ _
  generalize (v.toUInt32 >>> (Int32.toUInt32 1 &&& Int32.toUInt32 31)).toInt32 &&& 1431655765 = x2 at e2 ⊢
  have e3 : uN (v - x2) = uN v - ((uN v >>> 1) &&& 1431655765) := by rw [u_sub (by omega), e2]
  have b3 : uN v - ((uN v >>> 1) &&& 1431655765) < 65536 := by omega
  rw [← e3] at b3 ⊢
  generalize v - x2 = x3 at b3 ⊢
  have e6 := u_sh x3 (k := 2) (n := 2) (by decide)
  have l6 : uN x3 >>> 2 ≤ uN x3 := Nat.shiftRight_le _ _
  have a4 : uN (x3 &&& 858993459) = uN x3 &&& 858993459 := by rw [u_and, m3]
  have a6 : uN ((x3.toUInt32 >>> (Int32.toUInt32 2 &&& Int32.toUInt32 31)).toInt32 &&& 858993459) = (uN x3 >>> 2) &&& 858993459 := by rw [u_and, e6, m3]
  have l4 : uN x3 &&& 858993459 ≤ uN x3 := Nat.and_le_left
  have l7 : (uN x3 >>> 2) &&& 858993459 ≤ uN x3 >>> 2 := Nat.and_le_left
  generalize (x3.toUInt32 >>> (Int32.toUInt32 2 &&& Int32.toUInt32 31)).toInt32 &&& 858993459 = x6 at a6 ⊢
  have e7 : uN ((x3 &&& 858993459) + x6) = (uN x3 &&& 858993459) + ((uN x3 >>> 2) &&& 858993459) := by rw [u_add (by rw [a4, a6]; omega), a4, a6]
  rw [← e7]
  have b7 : uN ((x3 &&& 858993459) + x6) < 131072 := by rw [e7]; omega
  generalize (x3 &&& 858993459) + x6 = x7 at b7 ⊢
  have e8 := u_sh x7 (k := 4) (n := 4) (by decide)
  have l8 : uN x7 >>> 4 ≤ uN x7 := Nat.shiftRight_le _ _
  generalize (x7.toUInt32 >>> (Int32.toUInt32 4 &&& Int32.toUInt32 31)).toInt32 = x8 at e8 ⊢
  have e10 : uN (x7 + x8 &&& 252645135) = (uN x7 + (uN x7 >>> 4)) &&& 252645135 := by rw [u_and, u_add (by omega), e8, mf]
  rw [← e10]
  have b10 : uN (x7 + x8 &&& 252645135) ≤ 252645135 := by rw [e10]; exact Nat.and_le_right
  generalize (x7 + x8 &&& 252645135) = x10 at b10 ⊢
  have e11 := u_sh x10 (k := 8) (n := 8) (by decide)
  have l11 : uN x10 >>> 8 ≤ uN x10 := Nat.shiftRight_le _ _
  generalize (x10.toUInt32 >>> (Int32.toUInt32 8 &&& Int32.toUInt32 31)).toInt32 = x11 at e11 ⊢
  have e12 : uN (x10 + x11) = uN x10 + (uN x10 >>> 8) := by rw [u_add (by omega), e11]
  have b12 : uN (x10 + x11) ≤ 505290270 := by omega
  rw [← e12]
  generalize x10 + x11 = x12 at b12 ⊢
  have e13 := u_sh x12 (k := 16) (n := 16) (by decide)
  have l13 : uN x12 >>> 16 ≤ uN x12 := Nat.shiftRight_le _ _
  generalize (x12.toUInt32 >>> (Int32.toUInt32 16 &&& Int32.toUInt32 31)).toInt32 = x13 at e13 ⊢
  rw [u_and, u_add (by omega), e13, m6]
theorem bt_u (v : Int32) (j : Nat) : (if bt v j = true then 1 else 0) = uN v / 2 ^ j % 2 := by
  have e : bt v j = (uN v).testBit j := rfl
  rw [e, Nat.testBit_eq_decide_div_mod_eq]
  have := Nat.mod_two_eq_zero_or_one (uN v / 2 ^ j)
  rcases this with q | q <;> simp [q]
theorem cn_16 (v : Int32) (h : uN v < 65536) : cnB v 16 = pcN (uN v) := by
  have e : uN v = 256 * (uN v / 256) + uN v % 256 := by omega
  have h1 : uN v / 256 < 256 := by omega
  have h2 : uN v % 256 < 256 := by omega
  have p := pc_2 h1 h2
  rw [(p_1 _ h1).2.2, (p_1 _ h2).2.2, ← e] at p
  rw [p]
  clear p h h1 h2
  have l0 : uN v % 256 % 2 = uN v % 2 := by clear e; omega
  have l1 : uN v % 256 / 2 % 2 = uN v / 2 % 2 := by clear e; omega
  have l2 : uN v % 256 / 4 % 2 = uN v / 4 % 2 := by clear e; omega
  have l3 : uN v % 256 / 8 % 2 = uN v / 8 % 2 := by clear e; omega
  have l4 : uN v % 256 / 16 % 2 = uN v / 16 % 2 := by clear e; omega
  have l5 : uN v % 256 / 32 % 2 = uN v / 32 % 2 := by clear e; omega
  have l6 : uN v % 256 / 64 % 2 = uN v / 64 % 2 := by clear e; omega
  have l7 : uN v % 256 / 128 % 2 = uN v / 128 % 2 := by clear e; omega
  have f1 : uN v / 256 / 2 % 2 = uN v / 512 % 2 := by rw [Nat.div_div_eq_div_mul]
  have f2 : uN v / 256 / 4 % 2 = uN v / 1024 % 2 := by rw [Nat.div_div_eq_div_mul]
  have f3 : uN v / 256 / 8 % 2 = uN v / 2048 % 2 := by rw [Nat.div_div_eq_div_mul]
  have f4 : uN v / 256 / 16 % 2 = uN v / 4096 % 2 := by rw [Nat.div_div_eq_div_mul]
  have f5 : uN v / 256 / 32 % 2 = uN v / 8192 % 2 := by rw [Nat.div_div_eq_div_mul]
  have f6 : uN v / 256 / 64 % 2 = uN v / 16384 % 2 := by rw [Nat.div_div_eq_div_mul]
  have f7 : uN v / 256 / 128 % 2 = uN v / 32768 % 2 := by rw [Nat.div_div_eq_div_mul]
  rw [l0, l1, l2, l3, l4, l5, l6, l7, f1, f2, f3, f4, f5, f6, f7]
  clear e l0 l1 l2 l3 l4 l5 l6 l7 f1 f2 f3 f4 f5 f6 f7
  have b : ∀ j, (if bt v j = true then 1 else 0) = uN v / 2 ^ j % 2 := bt_u v
  show (((((((((((((((0 + (if bt v 0 = true then 1 else 0)) + (if bt v 1 = true then 1 else 0)) + (if bt v 2 = true then 1 else 0)) + (if bt v 3 = true then 1 else 0)) + (if bt v 4 = true then 1 else 0)) + (if bt v 5 = true then 1 else 0)) + (if bt v 6 = true then 1 else 0)) + (if bt v 7 = true then 1 else 0)) + (if bt v 8 = true then 1 else 0)) + (if bt v 9 = true then 1 else 0)) + (if bt v 10 = true then 1 else 0)) + (if bt v 11 = true then 1 else 0)) + (if bt v 12 = true then 1 else 0)) + (if bt v 13 = true then 1 else 0)) + (if bt v 14 = true then 1 else 0)) + (if bt v 15 = true then 1 else 0) = _
  rw [b 0, b 1, b 2, b 3, b 4, b 5, b 6, b 7, b 8, b 9, b 10, b 11, b 12, b 13, b 14, b 15]
  have g0 : uN v / 2 ^ 0 % 2 = uN v % 2 := by rw [Nat.pow_zero, Nat.div_one]
  have g1 : uN v / 2 ^ 1 % 2 = uN v / 2 % 2 := rfl
  have g2 : uN v / 2 ^ 2 % 2 = uN v / 4 % 2 := rfl
  have g3 : uN v / 2 ^ 3 % 2 = uN v / 8 % 2 := rfl
  have g4 : uN v / 2 ^ 4 % 2 = uN v / 16 % 2 := rfl
  have g5 : uN v / 2 ^ 5 % 2 = uN v / 32 % 2 := rfl
  have g6 : uN v / 2 ^ 6 % 2 = uN v / 64 % 2 := rfl
  have g7 : uN v / 2 ^ 7 % 2 = uN v / 128 % 2 := rfl
  have g8 : uN v / 2 ^ 8 % 2 = uN v / 256 % 2 := rfl
  have g9 : uN v / 2 ^ 9 % 2 = uN v / 512 % 2 := rfl
  have g10 : uN v / 2 ^ 10 % 2 = uN v / 1024 % 2 := rfl
  have g11 : uN v / 2 ^ 11 % 2 = uN v / 2048 % 2 := rfl
  have g12 : uN v / 2 ^ 12 % 2 = uN v / 4096 % 2 := rfl
  have g13 : uN v / 2 ^ 13 % 2 = uN v / 8192 % 2 := rfl
  have g14 : uN v / 2 ^ 14 % 2 = uN v / 16384 % 2 := rfl
  have g15 : uN v / 2 ^ 15 % 2 = uN v / 32768 % 2 := rfl
  rw [g0, g1, g2, g3, g4, g5, g6, g7, g8, g9, g10, g11, g12, g13, g14, g15]
  generalize uN v % 2 = a0
  generalize uN v / 2 % 2 = a1
  generalize uN v / 4 % 2 = a2
  generalize uN v / 8 % 2 = a3
  generalize uN v / 16 % 2 = a4
  generalize uN v / 32 % 2 = a5
  generalize uN v / 64 % 2 = a6
  generalize uN v / 128 % 2 = a7
  generalize uN v / 256 % 2 = a8
  generalize uN v / 512 % 2 = a9
  generalize uN v / 1024 % 2 = a10
  generalize uN v / 2048 % 2 = a11
  generalize uN v / 4096 % 2 = a12
  generalize uN v / 8192 % 2 = a13
  generalize uN v / 16384 % 2 = a14
  generalize uN v / 32768 % 2 = a15
  omega
theorem cn_up {v : Int32} {k : Nat} (h : uN v < 2 ^ k) : ∀ j, cnB v (k + j) = cnB v k := by
  intro j
  induction j with
  | zero => rfl
  | succ j ih =>
    show cnB v (k + j) + (if bt v (k + j) = true then 1 else 0) = _
    rw [ih, bt_u]
    have : uN v / 2 ^ (k + j) = 0 := Nat.div_eq_of_lt (Nat.lt_of_lt_of_le h (Nat.pow_le_pow_right (by decide) (by omega)))
    rw [this]
    rfl
theorem k_sl : ∀ k, k < 17 → (1 <<< (nI k &&& 31) : Int32).toInt = ((2 ^ k : Nat) : Int) ∧ ((Int32.toUInt32 (nI k) &&& Int32.toUInt32 31).toBitVec % 32#32).toNat = k := by decide +kernel
theorem kn_eq {v : Int32} {k : Nat} (hk : k < 17) : ((v.toUInt32 >>> (Int32.toUInt32 (nI k) &&& Int32.toUInt32 31)).toInt32 = 0 ↔ uN v < 2 ^ k) ∧ ((¬ v < 0 ∧ v < 1 <<< (nI k &&& 31)) ↔ uN v < 2 ^ k) := by
  obtain ⟨s1, s2⟩ := k_sl k hk
  have e := u_sh v s2
  have lt : 2 ^ k ≤ 65536 := Nat.pow_le_pow_right (by decide) (show k ≤ 16 by omega)
  refine ⟨⟨fun q => ?_, fun q => ?_⟩, ⟨fun q => ?_, fun q => ?_⟩⟩
  · rw [q] at e
    have e' : 0 = uN v >>> k := e
    rw [Nat.shiftRight_eq_div_pow] at e'
    by_cases c : uN v < 2 ^ k
    · exact c
    · exact absurd e' (Nat.ne_of_lt (Nat.div_pos (Nat.not_lt.mp c) (Nat.pow_pos (by decide))))
  · refine Int32.toBitVec_inj.mp (BitVec.eq_of_toNat_eq ?_)
    show uN _ = 0
    rw [e, Nat.shiftRight_eq_div_pow]
    exact Nat.div_eq_of_lt q
  · have h0 := i_le.mp (Int32.not_lt.mp q.1)
    have h1 := i_ltI.mp q.2
    rw [k_0] at h0
    rw [s1] at h1
    have := u_of h0
    omega
  · have t := u_toInt (x := v) (by omega)
    exact ⟨Int32.not_lt.mpr (i_le.mpr (by rw [k_0]; omega)), i_ltI.mpr (by rw [s1]; omega)⟩
end MO
