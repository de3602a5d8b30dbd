/-! ===== findMost: an odometer of tried[0 .. i] ===== -/
def mo_T (gi : th_i) (gr : th_r) (h0 j : Nat) : Int := (gr h0 30).elim 0 (fun q => (gi q j).toInt)
theorem mo_Ti {gi : th_i} {gr : th_r} {h0 q j : Nat} (r : gr h0 30 = some q) : mo_T gi gr h0 j = (gi q j).toInt := by unfold mo_T; rw [r]; rfl
def mo_w (T : Nat → Int) (i : Int) (j w : Nat) : Nat := if (j : Int) ≤ i then (14 - T j).toNat * w else 0
def mo_m (T : Nat → Int) (i : Int) : Nat := mo_w T i 0 1048576 + mo_w T i 1 65536 + mo_w T i 2 4096 + mo_w T i 3 256 + mo_w T i 4 16 + mo_w T i 5 1
theorem mo_dec1 {T T' : Nat → Int} {i i' : Int} (h0 : 0 ≤ i) (h5 : i ≤ 5) (hi : i' = i - 1) (he : ∀ j : Nat, (j : Int) < i → T' j = T j) (ht : ∀ j : Nat, (j : Int) = i → T j ≤ 13) : mo_m T' i' < mo_m T i := by
  subst hi
  rcases (show i = 0 ∨ i = 1 ∨ i = 2 ∨ i = 3 ∨ i = 4 ∨ i = 5 by omega) with rfl | rfl | rfl | rfl | rfl | rfl
  · have t := ht 0 (by decide)
    simp [mo_m, mo_w]
    omega
  · have t := ht 1 (by decide)
    simp [mo_m, mo_w, he 0 (by decide)]
    omega
  · have t := ht 2 (by decide)
    simp [mo_m, mo_w, he 0 (by decide), he 1 (by decide)]
    omega
  · have t := ht 3 (by decide)
    simp [mo_m, mo_w, he 0 (by decide), he 1 (by decide), he 2 (by decide)]
    omega
  · have t := ht 4 (by decide)
    simp [mo_m, mo_w, he 0 (by decide), he 1 (by decide), he 2 (by decide), he 3 (by decide)]
    omega
  · have t := ht 5 (by decide)
    simp [mo_m, mo_w, he 0 (by decide), he 1 (by decide), he 2 (by decide), he 3 (by decide), he 4 (by decide)]
    omega
theorem mo_dec2 {T T' : Nat → Int} {i i' : Int} (h0 : 0 ≤ i) (h4 : i ≤ 4) (hi : i' = i + 1) (he : ∀ j : Nat, (j : Int) < i → T' j = T j) (hu : ∀ j : Nat, (j : Int) = i → T j + 1 ≤ T' j ∧ T' j ≤ 12) (hm : ∀ j : Nat, (j : Int) = i + 1 → T' j = -1) : mo_m T' i' < mo_m T i := by
  subst hi
  rcases (show i = 0 ∨ i = 1 ∨ i = 2 ∨ i = 3 ∨ i = 4 by omega) with rfl | rfl | rfl | rfl | rfl
  · have t := hu 0 (by decide)
    simp [mo_m, mo_w, hm 1 (by decide)]
    omega
  · have t := hu 1 (by decide)
    simp [mo_m, mo_w, he 0 (by decide), hm 2 (by decide)]
    omega
  · have t := hu 2 (by decide)
    simp [mo_m, mo_w, he 0 (by decide), he 1 (by decide), hm 3 (by decide)]
    omega
  · have t := hu 3 (by decide)
    simp [mo_m, mo_w, he 0 (by decide), he 1 (by decide), he 2 (by decide), hm 4 (by decide)]
    omega
  · have t := hu 4 (by decide)
    simp [mo_m, mo_w, he 0 (by decide), he 1 (by decide), he 2 (by decide), he 3 (by decide), hm 5 (by decide)]
    omega
def mo_eq (gi : th_i) (gr : th_r) (g : th_i) (r : th_r) (h0 : Nat) (i : Int) : Prop := g h0 27 = gi h0 27 ∧ ∀ j : Nat, (j : Int) ≤ i → mo_T g r h0 j = mo_T gi gr h0 j
def mo_up (gi : th_i) (gr : th_r) (g : th_i) (r : th_r) (h0 : Nat) (i : Int) : Prop := g h0 27 = gi h0 27 ∧ (∀ j : Nat, (j : Int) < i → mo_T g r h0 j = mo_T gi gr h0 j) ∧ ∀ j : Nat, (j : Int) = i → mo_T gi gr h0 j + 1 ≤ mo_T g r h0 j
theorem mo_rf {gi : th_i} {gr : th_r} {h0 : Nat} {i : Int} : mo_eq gi gr gi gr h0 i := ⟨rfl, fun _ _ => rfl⟩
/-- a store elsewhere -/
theorem mo_kT {g g2 : th_i} {r : th_r} {h0 a k : Nat} (hq : ∀ q, r h0 30 = some q → q ≠ a) (ho : ∀ b j, b ≠ a ∨ j ≠ k → g2 b j = g b j) (j : Nat) : mo_T g2 r h0 j = mo_T g r h0 j := by
  cases h : r h0 30 with
  | none => simp [mo_T, h]
  | some q => rw [mo_Ti h, mo_Ti h, ho q j (Or.inl (hq q h))]
theorem mo_eq.k {gi : th_i} {gr : th_r} {g g2 : th_i} {r : th_r} {h0 a k : Nat} {i : Int} (h : mo_eq gi gr g r h0 i) (hq : ∀ q, r h0 30 = some q → q ≠ a) (hs : h0 ≠ a ∨ 27 ≠ k) (ho : ∀ b j, b ≠ a ∨ j ≠ k → g2 b j = g b j) : mo_eq gi gr g2 r h0 i := ⟨(ho h0 27 hs).trans h.1, fun j hj => (mo_kT hq ho j).trans (h.2 j hj)⟩
theorem mo_inc {gi : th_i} {gr : th_r} {g g2 : th_i} {r : th_r} {h0 q : Nat} {y v x : Int32} (h : mo_eq gi gr g r h0 y.toInt) (hr : r h0 30 = some q) (hne : h0 ≠ q) (fy : 0 ≤ y.toInt) (ev : v = g q y.toNatClampNeg) (ex : x.toInt = v.toInt + 1) (hu : g2 q y.toNatClampNeg = x) (ho : ∀ b j, b ≠ q ∨ j ≠ y.toNatClampNeg → g2 b j = g b j) : mo_up gi gr g2 r h0 y.toInt := by
  have hc := th_clamp fy
  refine ⟨(ho h0 27 (Or.inl hne)).trans h.1, fun j hj => ?_, fun j hj => ?_⟩
  · rw [← h.2 j (by omega), mo_Ti hr, mo_Ti hr, ho q j (Or.inr (by omega))]
  · have hj2 : j = y.toNatClampNeg := by omega
    rw [← h.2 j (by omega), mo_Ti hr, mo_Ti hr, hj2, hu, ← ev, ex]
    omega
theorem mo_inc2 {gi : th_i} {gr : th_r} {g g2 : th_i} {r : th_r} {h0 q : Nat} {y v x : Int32} (h : mo_up gi gr g r h0 y.toInt) (hr : r h0 30 = some q) (hne : h0 ≠ q) (fy : 0 ≤ y.toInt) (ev : v = g q y.toNatClampNeg) (ex : x.toInt = v.toInt + 1) (hu : g2 q y.toNatClampNeg = x) (ho : ∀ b j, b ≠ q ∨ j ≠ y.toNatClampNeg → g2 b j = g b j) : mo_up gi gr g2 r h0 y.toInt := by
  have hc := th_clamp fy
  refine ⟨(ho h0 27 (Or.inl hne)).trans h.1, fun j hj => ?_, fun j hj => ?_⟩
  · rw [← h.2.1 j (by omega), mo_Ti hr, mo_Ti hr, ho q j (Or.inr (by omega))]
  · have hj2 : j = y.toNatClampNeg := by omega
    have h3 := h.2.2 j hj
    rw [mo_Ti hr, hj2, ← ev] at h3
    rw [mo_Ti hr, hj2, hu, ex]
    rw [← hj2] at *
    omega
theorem mo_low {gi : th_i} {gr : th_r} {g : th_i} {r : th_r} {h0 : Nat} {y : Int32} (h : mo_up gi gr g r h0 y.toInt) (fy : 0 ≤ y.toInt) (hl : -1 ≤ mo_T gi gr h0 y.toNatClampNeg) : 0 ≤ mo_T g r h0 y.toNatClampNeg := by
  have := h.2.2 y.toNatClampNeg (th_clamp fy)
  omega
theorem mo_lt {gi : th_i} {h0 : Nat} {y w : Int32} (h : y.toInt ≤ (gi h0 27).toInt) (ew : w = gi h0 27) (c : ¬ y = w) : y.toInt < (gi h0 27).toInt := by
  rw [← ew] at h ⊢
  have := rg_neI c
  omega
/-- back by one, over an unchanged or a grown place -/
theorem mo_b1 {gi g : th_i} {h0 : Nat} {x y : Int32} (h : y.toInt ≤ (gi h0 27).toInt) (e : g h0 27 = gi h0 27) (ex : x.toInt = y.toInt + -1) : x.toInt ≤ (g h0 27).toInt := by
  rw [e]
  omega
theorem mo_b2 {gi : th_i} {gr : th_r} {g : th_i} {r : th_r} {h0 : Nat} {x y : Int32} (h : ∀ j : Nat, (j : Int) ≤ y.toInt → mo_T gi gr h0 j ≤ 12) (he : ∀ j : Nat, (j : Int) < y.toInt → mo_T g r h0 j = mo_T gi gr h0 j) (ex : x.toInt = y.toInt + -1) : ∀ j : Nat, (j : Int) ≤ x.toInt → mo_T g r h0 j ≤ 12 := fun j hj => by
  rw [he j (by omega)]
  exact h j (by omega)
theorem mo_b3 {gi : th_i} {gr : th_r} {g : th_i} {r : th_r} {h0 k : Nat} {x y : Int32} {hi : Int} (fy : rg 0 hi y) (h5 : hi ≤ 5) (h : ∀ j : Nat, (j : Int) ≤ y.toInt → mo_T gi gr h0 j ≤ 12) (he : ∀ j : Nat, (j : Int) < y.toInt → mo_T g r h0 j = mo_T gi gr h0 j) (ex : x.toInt = y.toInt + -1) (hn : mo_m (mo_T gi gr h0) y.toInt < k + 1) : mo_m (mo_T g r h0) x.toInt < k := by
  obtain ⟨p1, p2⟩ := fy
  have := mo_dec1 (T := mo_T gi gr h0) (T' := mo_T g r h0) (i := y.toInt) (i' := x.toInt) p1 (by omega) (by omega) he (fun j hj => by have := h j (by omega); omega)
  omega
theorem mo_eqlt {gi : th_i} {gr : th_r} {g : th_i} {r : th_r} {h0 : Nat} {i : Int} (h : mo_eq gi gr g r h0 i) : ∀ j : Nat, (j : Int) < i → mo_T g r h0 j = mo_T gi gr h0 j := fun j hj => h.2 j (by omega)
/-- on by one: g has grown at y, g2 has -1 behind it -/
theorem mo_f1 {gi g : th_i} {h0 : Nat} {x y : Int32} (h : y.toInt < (gi h0 27).toInt) (e : g h0 27 = gi h0 27) (ex : x.toInt = y.toInt + 1) : x.toInt ≤ (g h0 27).toInt := by
  rw [e]
  omega
theorem mo_T2 {g g2 : th_i} {r : th_r} {h0 q : Nat} {x y : Int32} (hr : r h0 30 = some q) (fy : 0 ≤ y.toInt) (ex : x.toInt = y.toInt + 1) (hu : g2 q x.toNatClampNeg = -1) (ho : ∀ b j, b ≠ q ∨ j ≠ x.toNatClampNeg → g2 b j = g b j) : (∀ j : Nat, (j : Int) ≤ y.toInt → mo_T g2 r h0 j = mo_T g r h0 j) ∧ ∀ j : Nat, (j : Int) = y.toInt + 1 → mo_T g2 r h0 j = -1 := by
  have hc := th_clamp (x := x) (by omega)
  refine ⟨fun j hj => ?_, fun j hj => ?_⟩
  · rw [mo_Ti hr, mo_Ti hr, ho q j (Or.inr (by omega))]
  · rw [mo_Ti hr, show j = x.toNatClampNeg by omega, hu]
    decide
theorem mo_f2 {gi : th_i} {gr : th_r} {g g2 : th_i} {r : th_r} {h0 q : Nat} {x y : Int32} (h : ∀ j : Nat, (j : Int) ≤ y.toInt → mo_T gi gr h0 j ≤ 12) (hp : mo_up gi gr g r h0 y.toInt) (h12 : mo_T g r h0 y.toNatClampNeg ≤ 12) (hr : r h0 30 = some q) (fy : 0 ≤ y.toInt) (ex : x.toInt = y.toInt + 1) (hu : g2 q x.toNatClampNeg = -1) (ho : ∀ b j, b ≠ q ∨ j ≠ x.toNatClampNeg → g2 b j = g b j) : ∀ j : Nat, (j : Int) ≤ x.toInt → mo_T g2 r h0 j ≤ 12 := fun j hj => by
  obtain ⟨a1, a2⟩ := mo_T2 hr fy ex hu ho
  have hc := th_clamp fy
  rcases (show (j : Int) < y.toInt ∨ (j : Int) = y.toInt ∨ (j : Int) = y.toInt + 1 by omega) with h1 | h1 | h1
  · rw [a1 j (by omega), hp.2.1 j h1]
    exact h j (by omega)
  · rw [a1 j (by omega), show j = y.toNatClampNeg by omega]
    exact h12
  · rw [a2 j h1]
    decide
theorem mo_f3 {gi : th_i} {gr : th_r} {g g2 : th_i} {r : th_r} {h0 q k : Nat} {x y : Int32} {hi : Int} (fy : rg 0 hi y) (h4 : hi ≤ 4) (hp : mo_up gi gr g r h0 y.toInt) (h12 : mo_T g r h0 y.toNatClampNeg ≤ 12) (hr : r h0 30 = some q) (ex : x.toInt = y.toInt + 1) (hu : g2 q x.toNatClampNeg = -1) (ho : ∀ b j, b ≠ q ∨ j ≠ x.toNatClampNeg → g2 b j = g b j) (hn : mo_m (mo_T gi gr h0) y.toInt < k + 1) : mo_m (mo_T g2 r h0) x.toInt < k := by
  obtain ⟨p1, p2⟩ := fy
  obtain ⟨a1, a2⟩ := mo_T2 hr p1 ex hu ho
  have hc := th_clamp p1
  have := mo_dec2 (T := mo_T gi gr h0) (T' := mo_T g2 r h0) (i := y.toInt) (i' := x.toInt) p1 (by omega) ex (fun j hj => (a1 j (by omega)).trans (hp.2.1 j hj)) (fun j hj => by
    rw [a1 j (by omega)]
    refine ⟨hp.2.2 j hj, ?_⟩
    rw [show j = y.toNatClampNeg by omega]
    exact h12) a2
  omega
theorem mo_i0 {g g2 : th_i} {r : th_r} {h0 q : Nat} (hr : r h0 30 = some q) (hu : g2 q (0 : Int32).toNatClampNeg = -1) : ∀ j : Nat, (j : Int) ≤ (0 : Int32).toInt → mo_T g2 r h0 j ≤ 12 := fun j hj => by
  have h0 : (0 : Int32).toInt = 0 := by decide
  have hc : (0 : Int32).toNatClampNeg = 0 := by decide
  rw [mo_Ti hr, show j = (0 : Int32).toNatClampNeg by omega, hu]
  decide
theorem mo_le {v : Int32} {t : Int} {lo : Int} {g : th_i} {r : th_r} {h0 q j : Nat} (hr : r h0 30 = some q) (ev : v = g q j) (h : mo_T g r h0 j ≤ t) (f : rg lo 13 v) : rg lo t v := by
  rw [mo_Ti hr, ← ev] at h
  exact ⟨f.1, h⟩
theorem mo_ge {v : Int32} {t : Int} {hi : Int} {g : th_i} {r : th_r} {h0 q j : Nat} (hr : r h0 30 = some q) (ev : v = g q j) (h : t ≤ mo_T g r h0 j) (f : rg (-1) hi v) : rg t hi v := by
  rw [mo_Ti hr, ← ev] at h
  exact ⟨h, f.2⟩
theorem th_q62 {τ : th_t} {r : th_r} {h0 q : Nat} (h : ∃ q, r h0 30 = some q ∧ τ q = 62) (hq : r h0 30 = some q) : τ q = 62 := by
  obtain ⟨q', h1, h2⟩ := h
  rw [hq] at h1
  cases h1
  exact h2
theorem mo_in {g g2 : th_i} {r : th_r} {h0 q j k : Nat} {v x : Int32} {lo : Int} (hr : r h0 30 = some q) (ev : v = g q j) (hu : g2 q j = x) (ex : x.toInt = v.toInt + 1) (f : rg lo 11 v) (hn : (13 - mo_T g r h0 j).toNat < k + 1) : (13 - mo_T g2 r h0 j).toNat < k := by
  rw [mo_Ti hr, ← ev] at hn
  rw [mo_Ti hr, hu, ex]
  have := f.2
  omega
