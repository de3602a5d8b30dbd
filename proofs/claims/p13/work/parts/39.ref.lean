/-! ===== what the reference's loops rest on ===== -/
theorem th_root {lo : Int} {y a b m x : Int32} (ea : a.toInt = y.toInt + 1) (eb : b.toInt = y.toInt + 1) (em : m = a * b) (fy : rg 0 400 y) (fm : rg lo 160000 m) (ex : x.toInt = y.toInt + 1) : rg 0 400 x := by
  obtain ⟨p1, p2⟩ := fy
  obtain ⟨q1, q2⟩ := fm
  have h : y.toInt ≠ 400 := by
    intro h
    rw [em, Int32.toInt_mul, ea, eb, h, rg_bm (by decide) (by decide)] at q2
    exact absurd q2 (by decide)
  exact ⟨by omega, by omega⟩
def pl_no (gi : th_i) (gr : th_r) (h0 : Nat) (k : Int) (b : Int32) : Prop := ∀ j : Nat, (j : Int) < k → ∀ q, gr h0 18 = some q → ¬ gi q j = b
def pl_post (gi : th_i) (gr : th_r) (h0 : Nat) (b r : Int32) : Prop := (r = -1 → pl_no gi gr h0 (gi h0 17).toInt b) ∧ (¬ r = -1 → 0 ≤ r.toInt ∧ r.toInt < (gi h0 17).toInt ∧ ∃ q, gr h0 18 = some q ∧ gi q r.toNatClampNeg = b)
theorem pl_0 {gi : th_i} {gr : th_r} {h0 : Nat} {k : Int} {b : Int32} (h : k = 0) : pl_no gi gr h0 k b := fun j hj => by omega
theorem th_clamp {x : Int32} (h : 0 ≤ x.toInt) : (x.toNatClampNeg : Int) = x.toInt := by
  show ((x.toInt.toNat : Nat) : Int) = x.toInt
  omega
theorem pl_s {gi : th_i} {gr : th_r} {h0 q : Nat} {x y v b : Int32} {lo hi : Int} (h : pl_no gi gr h0 y.toInt b) (e : x.toInt = y.toInt + 1) (fy : rg lo hi y) (r : gr h0 18 = some q) (ev : v = gi q y.toNatClampNeg) (ne : ¬ v = b) (hl : 0 ≤ lo) : pl_no gi gr h0 x.toInt b := fun j hj q' hq' => by
  obtain ⟨p1, p2⟩ := fy
  have hc := th_clamp (x := y) (by omega)
  by_cases hjy : (j : Int) < y.toInt
  · exact h j hjy q' hq'
  · have hj2 : j = y.toNatClampNeg := by omega
    rw [r] at hq'
    cases hq'
    rw [hj2, ← ev]
    exact ne
theorem pl_end {gi : th_i} {gr : th_r} {h0 : Nat} {y w b : Int32} (h : pl_no gi gr h0 y.toInt b) (eq : w = gi h0 17) (c : w ≤ y) : pl_post gi gr h0 b (-1) := by
  refine ⟨fun _ j hj => h j ?_, fun q => absurd rfl q⟩
  rw [← eq] at hj
  have := Int32.le_iff_toInt_le.mp c
  omega
theorem pl_hit {gi : th_i} {gr : th_r} {h0 q : Nat} {y w v b : Int32} {lo hi : Int} (fy : rg lo hi y) (eq : w = gi h0 17) (c : ¬ w ≤ y) (r : gr h0 18 = some q) (ev : v = gi q y.toNatClampNeg) (hv : v = b) (hl : 0 ≤ lo) : pl_post gi gr h0 b y := by
  obtain ⟨p1, p2⟩ := fy
  have c2 := Int32.lt_iff_toInt_lt.mp (Int32.not_le.mp c)
  rw [eq] at c2
  refine ⟨fun e => ?_, fun _ => ⟨by omega, c2, q, r, by rw [← ev]; exact hv⟩⟩
  rw [e] at p1
  have : (-1 : Int32).toInt = -1 := by decide
  omega
theorem pl_nm {lo hi : Int} {r : Int32} (f : rg lo hi r) (hl : 0 ≤ lo) : ¬ r = -1 := fun e => by
  obtain ⟨p1, p2⟩ := f
  rw [e] at p1
  have : (-1 : Int32).toInt = -1 := by decide
  omega
theorem pl_again {gi : th_i} {gr : th_r} {h0 : Nat} {b r1 r2 : Int32} {lo hi : Int} (h1 : pl_post gi gr h0 b r1) (f1 : rg lo hi r1) (h2 : pl_post gi gr h0 b r2) (f2 : rg (-1) 9 r2) (hl : 0 ≤ lo) : rg 0 9 r2 := by
  obtain ⟨a1, a2, q, hq, hb⟩ := h1.2 (pl_nm f1 hl)
  have hne : ¬ r2 = -1 := fun e => h2.1 e r1.toNatClampNeg (by rw [th_clamp a1]; exact a2) q hq hb
  exact ⟨(h2.2 hne).1, f2.2⟩
theorem pl_wait {gi : th_i} {gr : th_r} {h0 : Nat} {b r : Int32} {lo hi : Int} (h : pl_post gi gr h0 b r) (f : rg lo hi r) (g : rg 0 10 (gi h0 17)) (hl : 0 ≤ lo) : rg 1 10 (gi h0 17) := by
  obtain ⟨a1, a2, -⟩ := h.2 (pl_nm f hl)
  exact ⟨by omega, g.2⟩
theorem of_lt {gi : th_i} {h0 : Nat} {y w : Int32} (eq : w = gi h0 17) (c : ¬ w ≤ y) : y.toInt < (gi h0 17).toInt := by
  rw [← eq]
  exact Int32.lt_iff_toInt_lt.mp (Int32.not_le.mp c)
theorem of_wait {gi : th_i} {h0 : Nat} {r : Int32} {lo hi : Int} (h : 0 ≤ r.toInt → r.toInt < (gi h0 17).toInt) (f : rg lo hi r) (g : rg 0 10 (gi h0 17)) (hl : 0 ≤ lo) : rg 1 10 (gi h0 17) := by
  obtain ⟨p1, p2⟩ := f
  have := h (by omega)
  exact ⟨by omega, g.2⟩
