/-! ===== RINGS: both the same ===== -/
section RR
variable {τ τ1 : th_t} {Z : th_Zt} {gi gi1 gm gm2 : th_i} {gr gr1 rm rm2 : th_r} {A : Nat → Nat} {M1 M2 : List Nat}
def dn (A : Nat → Nat) (gi m : th_i) (b : Nat) : Prop := ¬ m (A 66) b = 0 ∧ 0 ≤ (gi (A 24) b).toInt
def RS (gi gm : th_i) (A : Nat → Nat) (N : Nat) (g m : th_i) : Prop := d_c A g gi ∧ d_m A m gm ∧ (∀ x, x < 32 → bt (g (A 6) 3) x = true → x < N) ∧ (∀ b, b < N → (bt (g (A 6) 3) b = true ↔ m (A 66) b = 0)) ∧ (∀ b, b < N → m (A 66) b = 0 → 0 ≤ (gi (A 24) b).toInt) ∧ (∀ b, b < N → ¬ m (A 66) b = 0 → g (A 28) b = m (A 65) b) ∧ (∀ b, b < N → (gi (A 24) b).toInt < 0 → g (A 28) b = -1) ∧ (∀ b, b < N → dn A gi m b → ∃ c, c < N ∧ dn A gi m c ∧ g (A 28) b = gi (A 24) c) ∧ (∀ c, c < N → dn A gi m c → ∃ b, b < N ∧ dn A gi m b ∧ g (A 28) b = gi (A 24) c) ∧ ∀ b b', b < N → b' < N → dn A gi m b → dn A gi m b' → g (A 28) b = g (A 28) b' → b = b'
theorem rs_round (Q : q_all τ Z gi gr gm rm A) (K : c_core τ gi gr gm A) (W : c_wish τ gi gr gm A) (V : c_wnb gm A) {N : Nat} (hN : (gm (A 12) 8).toInt = (N : Int)) (h16 : N ≤ 16) {g m : th_i} (R : RS gi gm A N g m) (hne : ∃ b, b < N ∧ m (A 66) b = 0) {n' : Nat} {gz : th_i} (hn' : mu A m 0 < n') : ∃ g' m' n'', F_X6_takeRing τ Z (F_X6_pointAll τ Z g gr (A 6)) gr (A 6) (F_X6_leastInRing τ Z (F_X6_pointAll τ Z g gr (A 6)) gr (A 6)) = g' ∧ f_X12_findRings_45 τ Z gz rm (A 12) n' m 0 = f_X12_findRings_45 τ Z gz rm (A 12) n'' m' 0 ∧ RS gi gm A N g' m' ∧ mu A m' 0 < n'' ∧ fr_c (m' (A 66)) N < fr_c (m (A 66)) N := by
  have Q' := Q
  obtain ⟨hJ, hJm, hC, hQ, no, nb, wi, cb, cu, ct, cs, cl, cr, cw⟩ := Q'
  obtain ⟨a1, a2, -⟩ := id K
  obtain ⟨r1, r2, r3, r4, r5, r6, r7, r8, r9, r10⟩ := R
  have z0 : nI 0 = 0 := by decide
  have no' : gm (A 12) 8 = gi (A 1) 6 := no.symm
  have t1 := hC.t 1 1 (by decide) rfl
  have t6 := hC.t 6 6 (by decide) rfl
  have t24 := hC.t 24 24 (by decide) rfl
  have t28 := hC.t 28 28 (by decide) rfl
  have t29 := hC.t 29 29 (by decide) rfl
  have n69 := ro_ne t6 t29 (by decide)
  have n89 := ro_ne t28 t29 (by decide)
  have n49 := ro_ne t24 t29 (by decide)
  have g1N : (g (A 1) 6).toInt = (N : Int) := by
    rw [r1.at hC t1 (by decide) (by decide) (by decide), ← no']
    exact hN
  have mN : (m (A 12) 8).toInt = (N : Int) := by
    rw [r2.at hQ hQ.1 (by decide) (by decide) (by decide)]
    exact hN
  -- the pointers
  have hw : ∀ b, b < N → m (A 66) b = 0 → (∀ g' : th_i, (∀ a, a ≠ A 29 → g' a = g a) → ∃ q, gr (A 21) b = some q ∧ F_X6_holderOfWish τ Z g' gr (A 6) q = F_X12_pointed τ Z m rm (A 12) (nI b)) ∧ F_X12_pointed τ Z m rm (A 12) (nI b) = nI (F_X12_pointed τ Z m rm (A 12) (nI b)).toNatClampNeg ∧ (F_X12_pointed τ Z m rm (A 12) (nI b)).toNatClampNeg < N ∧ m (A 66) (F_X12_pointed τ Z m rm (A 12) (nI b)).toNatClampNeg = 0 := fun b hb hl => by
    have tb := nI_t (k := b) (by omega)
    have cbb := nI_c (k := b) (by omega)
    obtain ⟨q, hq⟩ := cb b (by omega)
    have H := fun (g' : th_i) (hg' : ∀ a, a ≠ A 29 → g' a = g a) => hw_eq Q K W V (g := g') (m := m) (fun a h6 h28 h29 => by rw [hg' a h29]; exact r1 a h6 h28 h29) r2 (fun c hc => by rw [hg' _ n69]; exact r4 c (by omega)) (v := nI b) (qb := q) (by omega) (by omega) (by rw [cbb]; exact hq.1)
    refine ⟨fun g' hg' => ⟨q, hq.1, (H g' hg').1⟩, ?_⟩
    rcases (H g (fun _ _ => rfl)).2 with e | ⟨e1, e2, e3⟩
    · rw [e, cbb]
      exact ⟨rfl, hb, hl⟩
    · exact ⟨(nI_cl e1).symm, by have := i_cl e1; omega, e3⟩
  obtain ⟨p, hp⟩ : ∃ p : Nat → Nat, ∀ b, (F_X12_pointed τ Z m rm (A 12) (nI b)).toNatClampNeg = p b := ⟨_, fun _ => rfl⟩
  have hpm : ∀ b, b < N → m (A 66) b = 0 → F_X12_pointed τ Z m rm (A 12) (nI b) = nI (p b) ∧ p b < N ∧ m (A 66) (p b) = 0 := fun b hb hl => by
    have := (hw b hb hl).2
    rw [hp b] at this
    exact this
  -- all point
  obtain ⟨q1, q2, -⟩ := pa_sp (Z := Z) (gi := g) hC (P := fun b => F_X12_pointed τ Z m rm (A 12) (nI b)) h16 ((16 - (0 : Int32).toInt).toNat + 1) g 0 g1N (Nat.zero_le _) (by decide) (fun g' hg' b hb hbt => (hw b hb ((r4 b hb).mp hbt)).1 g' hg')
  rw [z0] at q1 q2
  have q1 : ∀ a, a ≠ A 29 → F_X6_pointAll τ Z g gr (A 6) a = g a := q1
  have q2 : ∀ b, b < N → bt (g (A 6) 3) b = true → F_X6_pointAll τ Z g gr (A 6) (A 29) b = nI (p b) := fun b hb hbt => (q2 b (Nat.zero_le _) hb hbt).trans (hpm b hb ((r4 b hb).mp hbt)).1
  generalize F_X6_pointAll τ Z g gr (A 6) = gP at q1 q2
  have gP6 : gP (A 6) = g (A 6) := q1 _ n69
  -- the least
  have hpc : ∀ b, b < N → bt (gP (A 6) 3) b = true → gP (A 29) b = nI (p b) ∧ p b < N ∧ bt (gP (A 6) 3) (p b) = true := fun b hb hbt => by
    rw [gP6] at hbt ⊢
    obtain ⟨k1, k2, k3⟩ := hpm b hb ((r4 b hb).mp hbt)
    exact ⟨q2 b hb hbt, k2, (r4 _ k2).mpr k3⟩
  obtain ⟨c0, hc0, hl0⟩ := hne
  obtain ⟨b1, ⟨hb1, hl1⟩, hr1⟩ := cyc_ex (p := p) (L := fun b => b < N ∧ m (A 66) b = 0) (N := N) (fun b hb => ⟨hb.1, (hpm b hb.1 hb.2).2⟩) ⟨hc0, hl0⟩
  have LR := lr_sp (Z := Z) hC (g := gP) (p := p) (N := N) (by rw [q1 _ (ro_ne t1 t29 (by decide))]; exact g1N) h16 hpc ((16 - (0 : Int32).toInt).toNat + 1) 0 (Nat.zero_le _) (by decide)
  have SC := sc_45 (Z := Z) (gi := gz) hQ mN h16 hpm n' 0 (Nat.zero_le _) hn'
  rw [z0] at LR SC
  rcases LR with ⟨-, k2⟩ | ⟨b, -, kb, kl, kr, ke, km⟩
  · exact absurd ⟨by rw [gP6]; exact (r4 b1 hb1).mpr hl1, hr1⟩ (k2 b1 (Nat.zero_le _) hb1)
  rcases SC with ⟨-, k2⟩ | ⟨b', n1, -, jb, jl, jr, je, jn, jm⟩
  · exact absurd ⟨hl1, hr1⟩ (k2 b1 (Nat.zero_le _) hb1)
  have kl' : m (A 66) b = 0 := (r4 b kb).mp (by rw [← gP6]; exact kl)
  have ebb : b' = b := by
    rcases Nat.lt_trichotomy b' b with q | q | q
    · exact absurd ⟨by rw [gP6]; exact (r4 b' jb).mpr jl, jr⟩ (km b' (Nat.zero_le _) q)
    · exact q
    · exact absurd ⟨kl', kr⟩ (jm b (Nat.zero_le _) q)
  subst ebb
  obtain ⟨T, hT⟩ := kr.cyc
  have cl2 : ∀ t, ci p b' t < N ∧ m (A 66) (ci p b' t) = 0 := ci_L (L := fun b => b < N ∧ m (A 66) b = 0) (fun b hb => (hpm b hb.1 hb.2).2) ⟨kb, kl'⟩
  have c16 : ∀ t, ci p b' t < 16 := fun t => by have := (cl2 t).1; omega
  have TK := tk_sp (Z := Z) (gi := gP) hC (g := gP) hT c16 (fun t => (hpc _ (cl2 t).1 (by rw [gP6]; exact (r4 _ (cl2 t).1).mpr (cl2 t).2)).1) (fun t => by rw [gP6]; exact (r4 _ (cl2 t).1).mpr (cl2 t).2) ((16 - (0 : Int32).toInt).toNat + 1) 0 gP 0 (Nat.zero_le _) k_0 (by decide) ⟨fun _ _ _ => rfl, fun x hx => ⟨fun q => ⟨q, fun ⟨t, t1, _⟩ => absurd t1 (Nat.not_lt_zero _)⟩, fun q => q.1⟩, fun t ht => absurd ht (Nat.not_lt_zero _), fun _ _ => rfl⟩
  obtain ⟨m', f1, f2, f3, f4, f5, f6⟩ := fr_round (Z := Z) (gi := gz) (m0 := m) (k45 := f_X12_findRings_45 τ Z gz rm (A 12) n1) hQ hT c16 (fun t => (hpm _ (cl2 t).1 (cl2 t).2).1)
  have ke' : F_X6_leastInRing τ Z gP gr (A 6) = nI b' := ke
  have TK : tk A gP (gP (A 24)) p b' T (F_X6_takeRing τ Z gP gr (A 6) (F_X6_leastInRing τ Z gP gr (A 6))) := by
    rw [ke']
    exact TK
  generalize F_X6_takeRing τ Z gP gr (A 6) (F_X6_leastInRing τ Z gP gr (A 6)) = g' at TK
  obtain ⟨w1, w2, w3, w4⟩ := TK
  have gP24 : gP (A 24) = gi (A 24) := by rw [q1 _ n49, r1.at hC t24 (by decide) (by decide) (by decide)]
  have gP28 : gP (A 28) = g (A 28) := q1 _ n89
  rw [gP24] at w3
  rw [gP28] at w4
  rw [gP6] at w2
  have m50 : m (A 50) = gm (A 50) := r2.at hQ (hQ.t 12 50 (by decide)) (by decide) (by decide) (by decide)
  have inb : ∀ x, inR p b' T x → x < N ∧ m (A 66) x = 0 ∧ 0 ≤ (gi (A 24) x).toInt := fun x ⟨t, t1, t2⟩ => by
    rw [← t2]
    exact ⟨(cl2 t).1, (cl2 t).2, r5 _ (cl2 t).1 (cl2 t).2⟩
  have m66 : ∀ j, ¬ m (A 66) j = 0 → ¬ m' (A 66) j = 0 := fun j hj => by
    by_cases i : inR p b' T j
    · rw [f5 j i]
      decide
    · rw [f6 j i]
      exact hj
  have b0in : inR p b' T b' := ⟨0, by have := hT.1; omega, rfl⟩
  have m66b : ¬ m' (A 66) b' = 0 := by rw [f5 b' b0in]; decide
  have nxt : ∀ x, inR p b' T x → ∃ y, inR p b' T y ∧ g' (A 28) x = gi (A 24) y := fun x ⟨t, t1, t2⟩ => by
    rw [← t2, w3 t t1]
    by_cases q : t + 1 = T
    · exact ⟨b', b0in, by rw [q, hT.2.1]⟩
    · exact ⟨_, ⟨t + 1, by omega, rfl⟩, rfl⟩
  have prv : ∀ y, inR p b' T y → ∃ x, inR p b' T x ∧ g' (A 28) x = gi (A 24) y := fun y ⟨t, t1, t2⟩ => by
    by_cases q : t = 0
    · refine ⟨ci p b' (T - 1), ⟨T - 1, by omega, rfl⟩, ?_⟩
      have := hT.1
      rw [w3 (T - 1) (by omega), show T - 1 + 1 = T by omega, hT.2.1, ← t2, q]
      rfl
    · refine ⟨ci p b' (t - 1), ⟨t - 1, by omega, rfl⟩, ?_⟩
      rw [w3 (t - 1) (by omega), show t - 1 + 1 = t by omega, t2]
  have dn' : ∀ x, x < N → dn A gi m' x → inR p b' T x ∨ (¬ inR p b' T x ∧ dn A gi m x) := fun x hx h => by
    by_cases i : inR p b' T x
    · exact Or.inl i
    · refine Or.inr ⟨i, ?_, h.2⟩
      rw [← f6 x i]
      exact h.1
  have dnI : ∀ x, inR p b' T x → dn A gi m' x := fun x i => ⟨by rw [f5 x i]; decide, (inb x i).2.2⟩
  have dnO : ∀ x, dn A gi m x → ¬ inR p b' T x ∧ dn A gi m' x := fun x h => ⟨fun i => h.1 (inb x i).2.1, m66 x h.1, h.2⟩
  have Xinj : ∀ x y, x < N → y < N → 0 ≤ (gi (A 24) x).toInt → gi (A 24) x = gi (A 24) y → x = y := fun x y hx hy h0 e => by
    have k1 := ((a1.1 x (by omega)).2 h0).2.2
    have k2 := ((a1.1 y (by omega)).2 (by rw [← e]; exact h0)).2.2
    rw [e, k2] at k1
    omega
  refine ⟨g', m', n1, rfl, je.trans f1, ⟨fun a h6 h28 h29 => ?_, fun a h65 h66 h67 => ?_, fun x hx hbt => ?_, fun x hx => ?_, fun x hx h => ?_, fun x hx h => ?_, fun x hx h => ?_, fun x hx h => ?_, fun x hx h => ?_, fun x y hx hy h h' e => ?_⟩, ?_, ?_⟩
  · rw [w1 a h6 h28, q1 a h29]
    exact r1 a h6 h28 h29
  · rw [f2 a h65 h66 h67]
    exact r2 a h65 h66 h67
  · exact r3 x hx ((w2 x hx).mp hbt).1
  · rw [w2 x (by omega), r4 x hx]
    by_cases i : inR p b' T x
    · rw [f5 x i]
      exact ⟨fun q => absurd i q.2, fun q => absurd q (by decide)⟩
    · rw [f6 x i]
      exact ⟨fun q => q.1, fun q => ⟨q, i⟩⟩
  · by_cases i : inR p b' T x
    · exact (inb x i).2.2
    · rw [f6 x i] at h
      exact r5 x hx h
  · by_cases i : inR p b' T x
    · obtain ⟨t, t1, t2⟩ := i
      rw [← t2, w3 t t1, f3 t t1, m50]
      exact a2 _ (by have := (cl2 (t + 1)).1; omega)
    · rw [w4 x i, f4 x i]
      rw [f6 x i] at h
      exact r6 x hx h
  · by_cases i : inR p b' T x
    · have := (inb x i).2.2
      omega
    · rw [w4 x i]
      exact r7 x hx h
  · rcases dn' x hx h with i | ⟨i, d⟩
    · obtain ⟨y, y1, y2⟩ := nxt x i
      exact ⟨y, (inb y y1).1, dnI y y1, y2⟩
    · obtain ⟨c, c1, c2, c3⟩ := r8 x hx d
      exact ⟨c, c1, (dnO c c2).2, by rw [w4 x i]; exact c3⟩
  · rcases dn' x hx h with i | ⟨i, d⟩
    · obtain ⟨y, y1, y2⟩ := prv x i
      exact ⟨y, (inb y y1).1, dnI y y1, y2⟩
    · obtain ⟨c, c1, c2, c3⟩ := r9 x hx d
      exact ⟨c, c1, (dnO c c2).2, by rw [w4 c (dnO c c2).1]; exact c3⟩
  · rcases dn' x hx h with i | ⟨i, d⟩
    · rcases dn' y hy h' with j | ⟨j, d'⟩
      · obtain ⟨s, s1, s2⟩ := i
        obtain ⟨t, t1, t2⟩ := j
        rw [← s2, ← t2, w3 s s1, w3 t t1] at e
        have e2 := Xinj _ _ (cl2 (s + 1)).1 (cl2 (t + 1)).1 (r5 _ (cl2 (s + 1)).1 (cl2 (s + 1)).2) e
        have e3 : ci p b' (s + T) = ci p b' (t + T) := by
          have hT1 := hT.1
          rw [show s + T = (s + 1) + (T - 1) by omega, show t + T = (t + 1) + (T - 1) by omega, ci_add, ci_add p b' (t + 1), e2]
        rw [Nat.add_comm s, Nat.add_comm t, ci_add, ci_add p b' T t, hT.2.1] at e3
        rw [← s2, ← t2]
        exact e3
      · obtain ⟨z, z1, z2⟩ := nxt x i
        obtain ⟨c, c1, c2, c3⟩ := r8 y hy d'
        rw [z2, w4 y j, c3] at e
        have := Xinj z c (inb z z1).1 c1 (inb z z1).2.2 e
        rw [this] at z1
        exact absurd z1 (dnO c c2).1
    · rcases dn' y hy h' with j | ⟨j, d'⟩
      · obtain ⟨z, z1, z2⟩ := nxt y j
        obtain ⟨c, c1, c2, c3⟩ := r8 x hx d
        rw [z2, w4 x i, c3] at e
        have := Xinj c z c1 (inb z z1).1 c2.2 e
        rw [← this] at z1
        exact absurd z1 (dnO c c2).1
      · rw [w4 x i, w4 y j] at e
        exact r10 x y hx hy d d' e
  · have k := fr_clt m66 kl' m66b 16 (by omega)
    unfold mu at jn ⊢
    omega
  · exact fr_clt m66 kl' m66b N kb
theorem rs_main (Q : q_all τ Z gi gr gm rm A) (K : c_core τ gi gr gm A) (W : c_wish τ gi gr gm A) (V : c_wnb gm A) {N : Nat} (hN : (gm (A 12) 8).toInt = (N : Int)) (h16 : N ≤ 16) {gy gz : th_i} : ∀ (c : Nat) (g m : th_i) (z : Int32) (n n' : Nat), RS gi gm A N g m → fr_c (m (A 66)) N ≤ c → (c : Int) + z.toInt ≤ 16 → 0 ≤ z.toInt → (16 - z.toInt).toNat < n → mu A m 0 < n' → RS gi gm A N (f_X6_draw_65 τ Z gy gr (A 6) n g z) (f_X12_findRings_45 τ Z gz rm (A 12) n' m 0) ∧ ∀ b, b < N → ¬ f_X12_findRings_45 τ Z gz rm (A 12) n' m 0 (A 66) b = 0 := by
  have Q' := Q
  obtain ⟨hJ, hJm, hC, hQ, no, nb, wi, cb, cu, ct, cs, cl, cr, cw⟩ := Q'
  have none : ∀ (g m : th_i) (z : Int32) (n n' : Nat), RS gi gm A N g m → (16 - z.toInt).toNat < n → mu A m 0 < n' → (¬ ∃ b, b < N ∧ m (A 66) b = 0) → RS gi gm A N (f_X6_draw_65 τ Z gy gr (A 6) n g z) (f_X12_findRings_45 τ Z gz rm (A 12) n' m 0) ∧ ∀ b, b < N → ¬ f_X12_findRings_45 τ Z gz rm (A 12) n' m 0 (A 66) b = 0 := fun g m z n n' R hn hn' hne => by
    have e2 : f_X12_findRings_45 τ Z gz rm (A 12) n' m 0 = m := by
      have mN : (m (A 12) 8).toInt = (N : Int) := by
        rw [R.2.1.at hQ hQ.1 (by decide) (by decide) (by decide)]
        exact hN
      have SC := sc_45 (Z := Z) (gi := gz) hQ (m := m) (p := fun b => b) mN h16 (fun b hb hl => absurd ⟨b, hb, hl⟩ hne) n' 0 (Nat.zero_le _) hn'
      rw [show nI 0 = 0 by decide] at SC
      rcases SC with ⟨k, -⟩ | ⟨b, n1, -, jb, jl, -⟩
      · exact k
      · exact absurd ⟨b, jb, jl⟩ hne
    have e1 : f_X6_draw_65 τ Z gy gr (A 6) n g z = g := by
      cases n with
      | zero => exact absurd hn (Nat.not_lt_zero _)
      | succ n =>
        unfold f_X6_draw_65
        dsimp only
        by_cases c : (16 : Int32) ≤ z
        · rw [if_pos c]
        · rw [if_neg c]
          have l0 : g (A 6) 3 = 0 := b_ext (fun i hi => by
            rw [b_0]
            by_cases q : bt (g (A 6) 3) i = true
            · have hiN := R.2.2.1 i hi q
              exact absurd ⟨i, hiN, (R.2.2.2.1 i hiN).mp q⟩ hne
            · simpa using q)
          rw [if_pos l0]
    rw [e1, e2]
    exact ⟨R, fun b hb q => hne ⟨b, hb, q⟩⟩
  intro c
  induction c with
  | zero =>
    intro g m z n n' R hc hz z0 hn hn'
    refine none g m z n n' R hn hn' (fun ⟨b, hb, hl⟩ => ?_)
    have := fr_clt (f := m (A 66)) (f' := fun _ => 1) (fun j _ => by decide) hl (by decide) N hb
    omega
  | succ c ih =>
    intro g m z n n' R hc hz z0 hn hn'
    by_cases hne : ∃ b, b < N ∧ m (A 66) b = 0
    · obtain ⟨g', m', n'', k1, k2, k3, k4, k5⟩ := rs_round (gz := gz) Q K W V hN h16 R hne hn'
      cases n with
      | zero => exact absurd hn (Nat.not_lt_zero _)
      | succ n =>
        have cz : ¬ (16 : Int32) ≤ z := fun q => by
          have := i_le.mp q
          rw [k_16] at this
          omega
        obtain ⟨b, hb, hl⟩ := hne
        have l0 : ¬ g (A 6) 3 = 0 := fun q => by
          have := (R.2.2.2.1 b hb).mpr hl
          rw [q, b_0] at this
          cases this
        have e := y_1 (m := 16) (by decide) (y := z) z0 (by omega)
        have e1 : f_X6_draw_65 τ Z gy gr (A 6) (n + 1) g z = f_X6_draw_65 τ Z gy gr (A 6) n g' (z + 1) := by
          rw [← k1]
          show (if (16 : Int32) ≤ z then g else if g (A 6) 3 = 0 then g else _) = _
          rw [if_neg cz, if_neg l0]
        rw [e1, k2]
        exact ih g' m' (z + 1) n n'' k3 (by omega) (by omega) (by omega) (by omega) k4
    · exact none g m z n n' R hn hn' hne
end RR
