/-! ===== findRings: who points at whom ===== -/
def fr_R (τ : th_t) (g : th_i) (r : th_r) (h0 s j : Nat) : Int32 := (r h0 s).elim 0 (fun q => if τ q = 65 ∨ τ q = 67 then 0 else g q j)
theorem fr_at {τ : th_t} {g : th_i} {r : th_r} {h0 s q j c : Nat} {x : Int32} (hr : r h0 s = some q) (ht : τ q = c) (hc : ¬ (c = 65 ∨ c = 67)) (e : x = g q j) : fr_R τ g r h0 s j = x := by
  subst ht
  simp only [fr_R, hr, Option.elim_some, if_neg hc, e]
theorem fr_k {τ : th_t} {g g2 : th_i} {r : th_r} {h0 a k c : Nat} (ta : τ a = c) (hc : c = 65 ∨ c = 67) (ho : ∀ b j, b ≠ a ∨ j ≠ k → g2 b j = g b j) : fr_R τ g2 r h0 = fr_R τ g r h0 := by
  subst ta
  funext s j
  cases h : r h0 s with
  | none => simp only [fr_R, h, Option.elim_none]
  | some q =>
    simp only [fr_R, h, Option.elim_some]
    by_cases hq : q = a
    · subst hq
      rw [if_pos hc, if_pos hc]
    · rw [ho q j (Or.inl hq)]
/-- canFit -/
def cf_nd (R : Nat → Nat → Int32) (b : Int32) : Int32 := if R 9 b.toNatClampNeg = 2 then R 11 b.toNatClampNeg / 2 else R 11 b.toNatClampNeg
def cf_l (R : Nat → Nat → Int32) (b p : Int32) : Prop := R 10 b.toNatClampNeg ≤ R 4 p.toNatClampNeg
def cf_u (R : Nat → Nat → Int32) (b p : Int32) (n : Int) : Prop := cf_l R b p ∧ ∀ j : Nat, (j : Int) < n → cf_nd R b ≤ R 3 p.toNatClampNeg + R 13 j
theorem cf_n1 {R : Nat → Nat → Int32} {b x z : Int32} (e9 : R 9 b.toNatClampNeg = x) (c : ¬ x = 2) (e11 : R 11 b.toNatClampNeg = z) : z = cf_nd R b := by
  unfold cf_nd
  rw [e9, if_neg c, e11]
theorem cf_n2 {R : Nat → Nat → Int32} {b x w z : Int32} (e9 : R 9 b.toNatClampNeg = x) (c : x = 2) (e11 : R 11 b.toNatClampNeg = w) (ed : z = w / 2) : z = cf_nd R b := by
  unfold cf_nd
  rw [e9, if_pos c, e11, ed]
theorem cf_l0 {R : Nat → Nat → Int32} {b p x y : Int32} (e10 : R 10 b.toNatClampNeg = x) (e4 : R 4 p.toNatClampNeg = y) (c : y < x) : (¬ (0 : Int32) = 0 ↔ cf_l R b p) := by
  unfold cf_l
  rw [e10, e4]
  exact ⟨fun h => absurd rfl h, fun h => absurd h (Int32.not_le.mpr c)⟩
theorem cf_l1 {R : Nat → Nat → Int32} {b p x y : Int32} (e10 : R 10 b.toNatClampNeg = x) (e4 : R 4 p.toNatClampNeg = y) (c : ¬ y < x) : (¬ (1 : Int32) = 0 ↔ cf_l R b p) := by
  unfold cf_l
  rw [e10, e4]
  exact ⟨fun _ => Int32.not_lt.mp c, fun _ => by decide⟩
theorem cf_z {R : Nat → Nat → Int32} {b p z : Int32} (h : ¬ z = 0 ↔ cf_l R b p) : (¬ z = 0 ↔ cf_u R b p (0 : Int32).toInt) :=
  ⟨fun hz => ⟨h.mp hz, fun j hj => by have h0 : (0 : Int32).toInt = 0 := (by decide); omega⟩, fun hu => h.mpr hu.1⟩
theorem cf_87a {R : Nat → Nat → Int32} {b p y4 y5 : Int32} (h : ¬ y4 = 0 ↔ cf_u R b p y5.toInt) (c : y4 = 0) : ¬ cf_u R b p (y5.toInt + 1) := fun hu => (h.mpr ⟨hu.1, fun j hj => hu.2 j (by omega)⟩) c
theorem cf_87b {R : Nat → Nat → Int32} {b p y5 s u v nd : Int32} {lo hi : Int} (en : nd = cf_nd R b) (fy : rg lo hi y5) (hl : 0 ≤ lo) (e3 : R 3 p.toNatClampNeg = u) (e13 : R 13 y5.toNatClampNeg = v) (es : s = u + v) (c : s < nd) : ¬ cf_u R b p (y5.toInt + 1) := fun hu => by
  have hc := th_clamp (x := y5) (by have := fy.1; omega)
  have h := hu.2 y5.toNatClampNeg (by omega)
  rw [e3, e13, ← es, ← en] at h
  exact absurd h (Int32.not_le.mpr c)
theorem cf_88a {R : Nat → Nat → Int32} {b p : Int32} {n : Int} (h : ¬ cf_u R b p n) : (¬ (0 : Int32) = 0 ↔ cf_u R b p n) := ⟨fun z => absurd rfl z, fun u => absurd u h⟩
theorem cf_88b {R : Nat → Nat → Int32} {b p y4 y5 s u v nd : Int32} {lo hi : Int} (h : ¬ y4 = 0 ↔ cf_u R b p y5.toInt) (c4 : ¬ y4 = 0) (en : nd = cf_nd R b) (fy : rg lo hi y5) (hl : 0 ≤ lo) (e3 : R 3 p.toNatClampNeg = u) (e13 : R 13 y5.toNatClampNeg = v) (es : s = u + v) (c : ¬ s < nd) : (¬ (1 : Int32) = 0 ↔ cf_u R b p (y5.toInt + 1)) :=
  ⟨fun _ => ⟨(h.mp c4).1, fun j hj => by
    have hc := th_clamp (x := y5) (by have := fy.1; omega)
    by_cases hj2 : (j : Int) < y5.toInt
    · exact (h.mp c4).2 j hj2
    · rw [show j = y5.toNatClampNeg by omega, e3, e13, ← es, ← en]
      exact Int32.not_lt.mp c⟩, fun _ => by decide⟩
theorem cf_53 {R : Nat → Nat → Int32} {b p z x y5 : Int32} (h : ¬ z = 0 ↔ cf_u R b p (y5.toInt + 1)) (ex : x.toInt = y5.toInt + 1) : (¬ z = 0 ↔ cf_u R b p x.toInt) := by
  rw [ex]
  exact h
theorem cf_end {R : Nat → Nat → Int32} {b p y4 y5 : Int32} (h : ¬ y4 = 0 ↔ cf_u R b p y5.toInt) (f : rg 24 24 y5) : (¬ y4 = 0 ↔ cf_u R b p 24) := by
  have h1 : y5.toInt = 24 := by
    have := f.1
    have := f.2
    omega
  rw [h1] at h
  exact h
/-- pointed -/
def pt_p (R : Nat → Nat → Int32) (b k : Int32) : Int32 := R 22 (4 * b + k).toNatClampNeg
def pt_hit (R : Nat → Nat → Int32) (b k : Int32) : Prop := ¬ R 7 (pt_p R b k).toNatClampNeg < 0 ∧ R 35 (R 7 (pt_p R b k).toNatClampNeg).toNatClampNeg = 0 ∧ cf_u R b (pt_p R b k) 24
def pt_no (R : Nat → Nat → Int32) (b : Int32) (n : Int) : Prop := ∀ k : Int32, 0 ≤ k.toInt → k.toInt < n → ¬ pt_hit R b k
def pt_post (R : Nat → Nat → Int32) (b r : Int32) : Prop := (∃ k : Int32, 0 ≤ k.toInt ∧ k.toInt < (R 21 b.toNatClampNeg).toInt ∧ pt_no R b k.toInt ∧ pt_hit R b k ∧ r = R 7 (pt_p R b k).toNatClampNeg) ∨ (pt_no R b (R 21 b.toNatClampNeg).toInt ∧ r = b)
theorem pt_one {R : Nat → Nat → Int32} {b r1 r2 : Int32} (h1 : pt_post R b r1) (h2 : pt_post R b r2) : r1 = r2 := by
  rcases h1 with ⟨k1, a1, b1, c1, d1, e1⟩ | ⟨c1, e1⟩
  · rcases h2 with ⟨k2, a2, b2, c2, d2, e2⟩ | ⟨c2, e2⟩
    · have h : k1.toInt = k2.toInt := by
        rcases (show k1.toInt < k2.toInt ∨ k2.toInt < k1.toInt ∨ k1.toInt = k2.toInt by omega) with h | h | h
        · exact absurd d1 (c2 k1 a1 h)
        · exact absurd d2 (c1 k2 a2 h)
        · exact h
      rw [e1, e2, Int32.toInt_inj.mp h]
    · exact absurd d1 (c2 k1 a1 b1)
  · rcases h2 with ⟨k2, a2, b2, c2, d2, e2⟩ | ⟨c2, e2⟩
    · exact absurd d2 (c1 k2 a2 b2)
    · rw [e1, e2]
noncomputable def pt_F (R : Nat → Nat → Int32) (b : Int32) : Int32 := Classical.epsilon (pt_post R b)
theorem pt_eq {R : Nat → Nat → Int32} {b r : Int32} (h : pt_post R b r) : r = pt_F R b := pt_one h (Classical.epsilon_spec ⟨r, h⟩)
theorem pt_0 {R : Nat → Nat → Int32} {b : Int32} : pt_no R b (0 : Int32).toInt := fun k h1 h2 => by
  have h0 : (0 : Int32).toInt = 0 := by decide
  omega
theorem pt_s {R : Nat → Nat → Int32} {b x y : Int32} (h : pt_no R b y.toInt) (hn : ¬ pt_hit R b y) (ex : x.toInt = y.toInt + 1) : pt_no R b x.toInt := fun k h1 h2 => by
  by_cases hk : k.toInt < y.toInt
  · exact h k h1 hk
  · have : k = y := Int32.toInt_inj.mp (by omega)
    rw [this]
    exact hn
theorem pt_px {R : Nat → Nat → Int32} {b y u v x : Int32} (eu : u = 4 * b) (ev : v = u + y) (e22 : R 22 v.toNatClampNeg = x) : pt_p R b y = x := by
  unfold pt_p
  rw [← eu, ← ev, e22]
theorem pt_n1 {R : Nat → Nat → Int32} {b y p a : Int32} (ep : pt_p R b y = p) (e7 : R 7 p.toNatClampNeg = a) (c : a < 0) : ¬ pt_hit R b y := fun h => by
  have h1 := h.1
  rw [ep, e7] at h1
  exact h1 c
theorem pt_n2 {R : Nat → Nat → Int32} {b y p a w : Int32} (ep : pt_p R b y = p) (e7 : R 7 p.toNatClampNeg = a) (e35 : R 35 a.toNatClampNeg = w) (c : ¬ w = 0) : ¬ pt_hit R b y := fun h => by
  have h1 := h.2.1
  rw [ep, e7, e35] at h1
  exact c h1
theorem pt_n3 {R : Nat → Nat → Int32} {b y p z : Int32} (ep : pt_p R b y = p) (hc : ¬ z = 0 ↔ cf_u R b p 24) (c : z = 0) : ¬ pt_hit R b y := fun h => by
  have h1 := h.2.2
  rw [ep] at h1
  exact hc.mpr h1 c
theorem pt_r1 {R : Nat → Nat → Int32} {b y p a w z n : Int32} {lo hi : Int} (h : pt_no R b y.toInt) (fy : rg lo hi y) (hl : 0 ≤ lo) (e21 : R 21 b.toNatClampNeg = n) (cn : ¬ n ≤ y) (ep : pt_p R b y = p) (e7 : R 7 p.toNatClampNeg = a) (ca : ¬ a < 0) (e35 : R 35 a.toNatClampNeg = w) (cw : w = 0) (hc : ¬ z = 0 ↔ cf_u R b p 24) (cz : ¬ z = 0) : pt_post R b a := by
  refine Or.inl ⟨y, by have := fy.1; omega, ?_, h, ⟨?_, ?_, ?_⟩, ?_⟩
  · rw [e21]
    exact Int32.lt_iff_toInt_lt.mp (Int32.not_le.mp cn)
  · rw [ep, e7]
    exact ca
  · rw [ep, e7, e35]
    exact cw
  · rw [ep]
    exact hc.mp cz
  · rw [ep, e7]
theorem pt_r2 {R : Nat → Nat → Int32} {b y n : Int32} (h : pt_no R b y.toInt) (e21 : R 21 b.toNatClampNeg = n) (cn : n ≤ y) : pt_post R b b := by
  refine Or.inr ⟨fun k h1 h2 => h k h1 ?_, rfl⟩
  rw [e21] at h2
  have := Int32.le_iff_toInt_le.mp cn
  omega
/-- isRound -/
def fr_it (F : Int32 → Int32) (b : Int32) : Nat → Int32
  | 0 => b
  | n + 1 => F (fr_it F b n)
def fr_w (R : Nat → Nat → Int32) (b y : Int32) (t : Nat) : Prop := y = fr_it (pt_F R) b (t + 1) ∧ ∀ j, j ≤ t → rg 0 15 (fr_it (pt_F R) b (j + 1))
def fr_x (R : Nat → Nat → Int32) (b y : Int32) : Prop := ∃ t, t ≤ 16 ∧ fr_w R b y t
def fr_rnd (R : Nat → Nat → Int32) (b : Int32) : Prop := fr_x R b b
theorem fr_w0 {R : Nat → Nat → Int32} {b x : Int32} (h : pt_post R b x) (f : rg 0 15 x) : fr_w R b x (0 : Int32).toInt.toNat := by
  have h0 : (0 : Int32).toInt.toNat = 0 := by decide
  rw [h0]
  refine ⟨pt_eq h, fun j hj => ?_⟩
  rw [show j = 0 by omega]
  show rg 0 15 (pt_F R b)
  rw [← pt_eq h]
  exact f
theorem fr_ws {R : Nat → Nat → Int32} {b x y k k2 : Int32} {lo hi : Int} (hw : fr_w R b y k.toInt.toNat) (h : pt_post R y x) (f : rg 0 15 x) (fk : rg lo hi k) (hl : 0 ≤ lo) (ek : k2.toInt = k.toInt + 1) : fr_w R b x k2.toInt.toNat := by
  have hk : k2.toInt.toNat = k.toInt.toNat + 1 := by
    have := fk.1
    omega
  rw [hk]
  obtain ⟨h1, h2⟩ := hw
  have h3 : x = fr_it (pt_F R) b (k.toInt.toNat + 1 + 1) := by
    show x = pt_F R (fr_it (pt_F R) b (k.toInt.toNat + 1))
    rw [← h1]
    exact pt_eq h
  refine ⟨h3, fun j hj => ?_⟩
  by_cases hj2 : j ≤ k.toInt.toNat
  · exact h2 j hj2
  · rw [show j = k.toInt.toNat + 1 by omega, ← h3]
    exact f
theorem fr_we {R : Nat → Nat → Int32} {b y k : Int32} {lo hi : Int} (hw : fr_w R b y k.toInt.toNat) (fk : rg lo hi k) (hh : hi ≤ 16) : fr_x R b y := ⟨k.toInt.toNat, by have := fk.2; omega, hw⟩
theorem fr_wr {R : Nat → Nat → Int32} {b y : Int32} (h : fr_x R b y) (e : y = b) : fr_rnd R b := by
  rw [e] at h
  exact h
/-- at most as many things apart as there are places -/
theorem fr_pig : ∀ (N n : Nat) (f : Nat → Nat), (∀ i, i < n → f i < N) → (∀ i j, i < j → j < n → f i ≠ f j) → n ≤ N := by
  intro N
  induction N with
  | zero =>
    intro n f h _
    by_cases hn : n = 0
    · omega
    · exact absurd (h 0 (by omega)) (Nat.not_lt_zero _)
  | succ N ih =>
    intro n f h1 h2
    by_cases hx : ∃ i, i < n ∧ f i = N
    · obtain ⟨i, hi, hf⟩ := hx
      have := ih (n - 1) (fun j => if j < i then f j else f (j + 1)) (fun j hj => by
        show (if j < i then f j else f (j + 1)) < N
        by_cases hji : j < i
        · rw [if_pos hji]
          have a := h1 j (by omega)
          have b := h2 j i hji hi
          omega
        · rw [if_neg hji]
          have a := h1 (j + 1) (by omega)
          have b := h2 i (j + 1) (by omega) (by omega)
          omega) (fun j k hjk hk => by
        show (if j < i then f j else f (j + 1)) ≠ (if k < i then f k else f (k + 1))
        by_cases hji : j < i
        · rw [if_pos hji]
          by_cases hki : k < i
          · rw [if_pos hki]
            exact h2 j k hjk (by omega)
          · rw [if_neg hki]
            exact h2 j (k + 1) (by omega) (by omega)
        · rw [if_neg hji, if_neg (by omega)]
          exact h2 (j + 1) (k + 1) (by omega) (by omega))
      omega
    · have := ih n f (fun i hi => by
        have a := h1 i hi
        have b : f i ≠ N := fun hf => hx ⟨i, hi, hf⟩
        omega) h2
      omega
theorem fr_add (F : Int32 → Int32) (b : Int32) (m : Nat) : ∀ n, fr_it F b (m + n) = fr_it F (fr_it F b m) n := by
  intro n
  induction n with
  | zero => rfl
  | succ n ih =>
    show F (fr_it F b (m + n)) = F (fr_it F (fr_it F b m) n)
    rw [ih]
/-- the least way round -/
theorem fr_least {P : Nat → Prop} : ∀ n, P n → ∃ m, P m ∧ m ≤ n ∧ ∀ j, j < m → ¬ P j := by
  intro n
  induction n using Nat.strongRecOn with
  | _ n ih =>
    intro h
    by_cases hx : ∃ j, j < n ∧ P j
    · obtain ⟨j, hj, hp⟩ := hx
      obtain ⟨m, a, b, c⟩ := ih j hj hp
      exact ⟨m, a, by omega, c⟩
    · exact ⟨n, h, Nat.le_refl _, fun j hj hp => hx ⟨j, hj, hp⟩⟩
theorem fr_T {R : Nat → Nat → Int32} {b : Int32} (f : rg 0 15 b) (h : fr_rnd R b) : ∃ T, 1 ≤ T ∧ T ≤ 16 ∧ fr_it (pt_F R) b T = b := by
  obtain ⟨t, ht, h1, h2⟩ := h
  obtain ⟨m, a1, a2, a3⟩ := fr_least (P := fun n => fr_it (pt_F R) b (n + 1) = b) t h1.symm
  refine ⟨m + 1, by omega, ?_, a1⟩
  have hr : ∀ i, i < m + 1 → rg 0 15 (fr_it (pt_F R) b i) := fun i hi => by
    cases i with
    | zero => exact f
    | succ i => exact h2 i (by omega)
  refine fr_pig 16 (m + 1) (fun i => (fr_it (pt_F R) b i).toInt.toNat) (fun i hi => ?_) (fun i j hij hj he => ?_)
  · have := (hr i hi).1
    have := (hr i hi).2
    show (fr_it (pt_F R) b i).toInt.toNat < 16
    omega
  · have he2 : (fr_it (pt_F R) b i).toInt.toNat = (fr_it (pt_F R) b j).toInt.toNat := he
    have h3 := (hr i (by omega)).1
    have h4 := (hr j hj).1
    have h5 : fr_it (pt_F R) b i = fr_it (pt_F R) b j := Int32.toInt_inj.mp (by omega)
    have h6 : fr_it (pt_F R) b (i + (m + 1 - j)) = b := by
      rw [fr_add, h5, ← fr_add, show j + (m + 1 - j) = m + 1 by omega]
      exact a1
    refine a3 (i + (m - j)) (by omega) ?_
    show fr_it (pt_F R) b (i + (m - j) + 1) = b
    rw [show i + (m - j) + 1 = i + (m + 1 - j) by omega]
    exact h6
/-- the walk round: at is the many-th, none of 1 .. many is b -/
def fr_o (g : th_i) (r : th_r) (h0 : Nat) : Int32 := (r h0 36).elim 0 (fun q => g q 0)
def fr_80 (R R' : Nat → Nat → Int32) (b at' many o : Int32) : Prop := R' = R ∧ R 35 b.toNatClampNeg = 0 ∧ fr_rnd R b ∧ at' = fr_it (pt_F R) b many.toInt.toNat ∧ (∀ j : Nat, 1 ≤ j → (j : Int) ≤ many.toInt → fr_it (pt_F R) b j ≠ b) ∧ (0 < many.toInt → o = b)
theorem fr_80i {R : Nat → Nat → Int32} {b o x : Int32} (hz : R 35 b.toNatClampNeg = x) (hx : x = 0) (hr : fr_rnd R b) : fr_80 R R b b 0 o := by
  have h0 : (0 : Int32).toInt = 0 := by decide
  refine ⟨rfl, hz.trans hx, hr, rfl, fun j h1 h2 => ?_, fun h => ?_⟩ <;> omega
theorem fr_80l {R R' : Nat → Nat → Int32} {b a m o : Int32} {lo hi : Int} (h : fr_80 R R' b a m o) (f : rg 0 15 b) (fm : rg lo hi m) : rg lo 15 m := by
  obtain ⟨-, -, hr, -, hn, -⟩ := h
  obtain ⟨T, t1, t2, t3⟩ := fr_T f hr
  refine ⟨fm.1, ?_⟩
  by_cases hm : m.toInt ≤ 15
  · exact hm
  · exact absurd t3 (hn T t1 (by omega))
/-- what the store ring[many] = at leaves at ring[0] -/
theorem fr_os {g g2 : th_i} {r : th_r} {h0 q : Nat} {m v : Int32} {lo hi : Int} {b : Int32} (hr : r h0 36 = some q) (fm : rg lo hi m) (hl : 0 ≤ lo) (hu : g2 q m.toNatClampNeg = v) (ho : ∀ b j, b ≠ q ∨ j ≠ m.toNatClampNeg → g2 b j = g b j) (hv : m.toInt = 0 → v = b) (h : 0 < m.toInt → fr_o g r h0 = b) : fr_o g2 r h0 = b := by
  have hc := th_clamp (x := m) (by have := fm.1; omega)
  simp only [fr_o, hr, Option.elim_some] at h ⊢
  by_cases hm : m.toInt = 0
  · rw [← hv hm, ← hu, show m.toNatClampNeg = 0 by omega]
  · rw [ho q 0 (Or.inr (by omega))]
    exact h (by have := fm.1; omega)
theorem fr_80s {R R' R2 : Nat → Nat → Int32} {b a x m m2 : Int32} {lo hi : Int} {g g2 : th_i} {r : th_r} {h0 q : Nat} (h : fr_80 R R' b a m (fr_o g r h0)) (fm : rg lo hi m) (hl : 0 ≤ lo) (hr : r h0 36 = some q) (hu : g2 q m.toNatClampNeg = a) (ho : ∀ b j, b ≠ q ∨ j ≠ m.toNatClampNeg → g2 b j = g b j) (e2 : R2 = R') (hp : pt_post R2 a x) (em : m2.toInt = m.toInt + 1) (c : ¬ x = b) : fr_80 R R2 b x m2 (fr_o g2 r h0) := by
  obtain ⟨h1, h2, h3, h4, h5, h6⟩ := h
  subst e2
  subst h1
  have hm := fm.1
  have hx : x = fr_it (pt_F R2) b m2.toInt.toNat := by
    rw [show m2.toInt.toNat = m.toInt.toNat + 1 by omega]
    show x = pt_F R2 (fr_it (pt_F R2) b m.toInt.toNat)
    rw [← h4]
    exact pt_eq hp
  refine ⟨rfl, h2, h3, hx, fun j j1 j2 => ?_, fun _ => fr_os hr fm hl hu ho (fun h0 => ?_) h6⟩
  · by_cases hj : (j : Int) ≤ m.toInt
    · exact h5 j j1 hj
    · rw [show j = m2.toInt.toNat by omega, ← hx]
      exact c
  · rw [h4, show m.toInt.toNat = 0 by omega]
    rfl
/-- a ring is laid: its first is b, b was not in a ring -/
def fr_104 (R R' : Nat → Nat → Int32) (b o : Int32) : Prop := R' = R ∧ R 35 b.toNatClampNeg = 0 ∧ o = b
theorem fr_104i {R R' R2 : Nat → Nat → Int32} {b a m : Int32} {lo hi : Int} {g g2 : th_i} {r : th_r} {h0 q : Nat} (h : fr_80 R R' b a m (fr_o g r h0)) (fm : rg lo hi m) (hl : 0 ≤ lo) (hr : r h0 36 = some q) (hu : g2 q m.toNatClampNeg = a) (ho : ∀ b j, b ≠ q ∨ j ≠ m.toNatClampNeg → g2 b j = g b j) (e2 : R2 = R') : fr_104 R R2 b (fr_o g2 r h0) := by
  obtain ⟨h1, h2, h3, h4, h5, h6⟩ := h
  have hm := fm.1
  refine ⟨e2.trans h1, h2, fr_os hr fm hl hu ho (fun h0 => ?_) h6⟩
  rw [h4, show m.toInt.toNat = 0 by omega]
  rfl
theorem fr_ok {g g2 : th_i} {r : th_r} {h0 a k q : Nat} (hr : r h0 36 = some q) (hq : q ≠ a) (ho : ∀ b j, b ≠ a ∨ j ≠ k → g2 b j = g b j) : fr_o g2 r h0 = fr_o g r h0 := by
  simp only [fr_o, hr, Option.elim_some]
  exact ho q 0 (Or.inl hq)
theorem fr_104s {R R' R2 : Nat → Nat → Int32} {b o o2 : Int32} (h : fr_104 R R' b o) (e2 : R2 = R') (eo : o2 = o) : fr_104 R R2 b o2 := ⟨e2.trans h.1, h.2.1, eo.trans h.2.2⟩
/-- its members are marked -/
def fr_147 (R R' : Nat → Nat → Int32) (b o k : Int32) : Prop := (∀ j, ¬ R 35 j = 0 → ¬ R' 35 j = 0) ∧ R 35 b.toNatClampNeg = 0 ∧ o = b ∧ (0 < k.toInt → ¬ R' 35 b.toNatClampNeg = 0)
theorem fr_147i {R R' : Nat → Nat → Int32} {b o : Int32} (h : fr_104 R R' b o) : fr_147 R R' b o 0 := by
  obtain ⟨h1, h2, h3⟩ := h
  have h0 : (0 : Int32).toInt = 0 := by decide
  subst h1
  exact ⟨fun j hj => hj, h2, h3, fun h => by omega⟩
theorem fr_147s {R : Nat → Nat → Int32} {τ : th_t} {b x k k2 : Int32} {lo hi : Int} {g g2 : th_i} {r : th_r} {h0 q w : Nat} (h : fr_147 R (fr_R τ g r h0) b (fr_o g r h0) k) (fk : rg lo hi k) (hl : 0 ≤ lo) (hr : r h0 36 = some q) (hw : r h0 35 = some w) (tq : τ q = 67) (tw : τ w = 66) (ex : x = g q k.toNatClampNeg) (hu : g2 w x.toNatClampNeg = 1) (ho : ∀ b j, b ≠ w ∨ j ≠ x.toNatClampNeg → g2 b j = g b j) (ek : k2.toInt = k.toInt + 1) : fr_147 R (fr_R τ g2 r h0) b (fr_o g2 r h0) k2 := by
  obtain ⟨h1, h2, h3, h4⟩ := h
  have hne : q ≠ w := fun e => by rw [e, tw] at tq; exact absurd tq (by decide)
  have hk := fk.1
  have hc := th_clamp (x := k) (by omega)
  have hR : ∀ j, fr_R τ g2 r h0 35 j = g2 w j := fun j => fr_at hw tw (by decide) rfl
  have hR1 : ∀ j, fr_R τ g r h0 35 j = g w j := fun j => fr_at hw tw (by decide) rfl
  have hm : ∀ j, ¬ g w j = 0 → ¬ g2 w j = 0 := fun j hj => by
    by_cases e : j = x.toNatClampNeg
    · rw [e, hu]
      decide
    · rw [ho w j (Or.inr e)]
      exact hj
  refine ⟨fun j hj => ?_, h2, (fr_ok hr hne ho).trans h3, fun _ => ?_⟩
  · rw [hR]
    refine hm j ?_
    rw [← hR1]
    exact h1 j hj
  · rw [hR]
    by_cases h0 : 0 < k.toInt
    · refine hm _ ?_
      rw [← hR1]
      exact h4 h0
    · have hb : x = b := by
        rw [ex, ← h3]
        simp only [fr_o, hr, Option.elim_some]
        rw [show k.toNatClampNeg = 0 by omega]
      rw [← hb, hu]
      decide
/-- how many are not in a ring yet -/
def fr_c (f : Nat → Int32) : Nat → Nat
  | 0 => 0
  | n + 1 => fr_c f n + if f n = 0 then 1 else 0
theorem fr_cle {f f' : Nat → Int32} (h : ∀ j, ¬ f j = 0 → ¬ f' j = 0) : ∀ n, fr_c f' n ≤ fr_c f n := by
  intro n
  induction n with
  | zero => exact Nat.le_refl _
  | succ n ih =>
    show fr_c f' n + (if f' n = 0 then 1 else 0) ≤ fr_c f n + (if f n = 0 then 1 else 0)
    by_cases h1 : f n = 0
    · rw [if_pos h1]
      split <;> omega
    · rw [if_neg h1, if_neg (h n h1)]
      omega
theorem fr_clt {f f' : Nat → Int32} (h : ∀ j, ¬ f j = 0 → ¬ f' j = 0) {j : Nat} (hj : f j = 0) (hj' : ¬ f' j = 0) : ∀ n, j < n → fr_c f' n < fr_c f n := by
  intro n
  induction n with
  | zero => intro h0; exact absurd h0 (Nat.not_lt_zero _)
  | succ n ih =>
    intro hn
    show fr_c f' n + (if f' n = 0 then 1 else 0) < fr_c f n + (if f n = 0 then 1 else 0)
    by_cases he : j = n
    · subst he
      rw [if_pos hj, if_neg hj']
      have := fr_cle h j
      omega
    · have := ih (by omega)
      by_cases h1 : f n = 0
      · rw [if_pos h1]
        split <;> omega
      · rw [if_neg h1, if_neg (h n h1)]
        omega
def fr_m (R : Nat → Nat → Int32) (b : Int32) : Nat := 17 * fr_c (R 35) 16 + (16 - b.toInt).toNat
theorem fr_m1 {R R' : Nat → Nat → Int32} {b x : Int32} {n : Nat} {lo hi : Int} (hm : fr_m R b < n + 1) (e : R' = R) (fb : rg lo hi b) (hh : hi ≤ 15) (ex : x.toInt = b.toInt + 1) : fr_m R' x < n := by
  subst e
  have := fb.2
  unfold fr_m at hm ⊢
  omega
theorem fr_m2 {R R' : Nat → Nat → Int32} {b o k m : Int32} {n : Nat} {lo hi lo2 hi2 : Int} (hm : fr_m R b < n + 1) (h : fr_147 R R' b o k) (fb : rg lo hi b) (hl : 0 ≤ lo) (hh : hi ≤ 15) (fm : rg lo2 hi2 m) (hl2 : 1 ≤ lo2) (c : m ≤ k) : fr_m R' 0 < n := by
  obtain ⟨h1, h2, h3, h4⟩ := h
  have c2 := Int32.le_iff_toInt_le.mp c
  have := fm.1
  have := fb.1
  have := fb.2
  have hc := th_clamp (x := b) (by omega)
  have := fr_clt h1 h2 (h4 (by omega)) 16 (by omega)
  have h0 : (0 : Int32).toInt = 0 := by decide
  unfold fr_m at hm ⊢
  rw [h0]
  omega
