/-! ===== the reference's search is the plain one ===== -/
section RS2
variable {τ τ1 : th_t} {Z : th_Zt} {gi gi1 gm gm2 : th_i} {gr gr1 rm rm2 : th_r} {A : Nat → Nat} {M1 M2 : List Nat}
/-- how a choice is laid down at the end -/
def cv (c : Nat) : Int32 := if c = 12 then -1 else nI c
def TRp (g : th_i) (A : Nat → Nat) (t : Nat → Nat) (i : Nat) : Prop := ∀ j, j < i → g (A 62) j = nI (t j) ∧ t j ≤ 12
def BRp (g : th_i) (A : Nat → Nat) (n : Nat) (s : Int × (Nat → Nat)) : Prop := (g (A 12) 33).toInt = s.1 ∧ -1 ≤ s.1 ∧ s.1 ≤ 5 ∧ (0 ≤ s.1 → ∀ k, k < n → g (A 63) k = cv (s.2 k))
def FRp (g0 g : th_i) (A : Nat → Nat) : Prop := (∀ a, a ≠ A 12 → a ≠ A 62 → a ≠ A 63 → g a = g0 a) ∧ ∀ j, j ≠ 33 → g (A 12) j = g0 (A 12) j
/-- may the BOAT i have p, as the tables say -/
def okJ (g0 : th_i) (A : Nat → Nat) (t : Nat → Nat) (i p : Nat) : Nat → Bool
  | 0 => true
  | j + 1 => okJ g0 A t i p j && (decide (t j = 12) || !bt (g0 (A 64) (5 * (12 * i + p) + j)) (t j))
def okR (g0 : th_i) (A : Nat → Nat) (t : Nat → Nat) (i p : Nat) : Bool := bt (g0 (A 61) i) p && okJ g0 A t i p i
theorem mT (hQ : ro_M τ rm A) {g : th_i} {j : Nat} : mo_T g rm (A 12) j = (g (A 62) j).toInt := mo_Ti (hQ.e 30 62 (by decide))
theorem ix_eq {i p j : Nat} (hi : i < 5) (hp : p < 12) (hj : j < 5) : (5 * (12 * nI i + nI p) + nI j : Int32).toNatClampNeg = 5 * (12 * i + p) + j := by
  have a := nI_t (k := i) (by omega)
  have b := nI_t (k := p) (by omega)
  have c := nI_t (k := j) (by omega)
  have k5 : (5 : Int32).toInt = 5 := by decide
  refine cl_in ?_
  have e1 : (12 * nI i : Int32).toInt = 12 * (i : Int) := by rw [i_mul (by rw [k_12, a]; omega) (by rw [k_12, a]; omega), k_12, a]
  have e2 : (12 * nI i + nI p : Int32).toInt = 12 * (i : Int) + p := by rw [i_add (by rw [e1, b]; omega) (by rw [e1, b]; omega), e1, b]
  have e3 : (5 * (12 * nI i + nI p) : Int32).toInt = 5 * (12 * (i : Int) + p) := by rw [i_mul (by rw [k5, e2]; omega) (by rw [k5, e2]; omega), k5, e2]
  rw [i_add (by rw [e3, c]; omega) (by rw [e3, c]; omega), e3, c]
  omega
theorem ch_23 (hQ : ro_M τ rm A) {g0 g : th_i} {t : Nat → Nat} {i p : Nat} (hi : i < 5) (hp : p < 12) (T : TRp g A t i) (F : FRp g0 g A) : ∀ (n j : Nat) (x : Int32), j ≤ i → 4 - j < n → (x = 1 ∨ x = 0) → (x = 1 ↔ (bt (g0 (A 61) i) p = true ∧ okJ g0 A t i p j = true)) → (¬ f_X12_canHave_23 τ Z g rm (A 12) (nI i) (nI p) n x (nI j) = 0 ↔ okR g0 A t i p = true) := by
  have t64 := hQ.t 32 64 (by decide)
  have g64 : g (A 64) = g0 (A 64) := F.1 _ (ro_ne t64 hQ.1 (by decide)) (ro_ne t64 (hQ.t 30 62 (by decide)) (by decide)) (ro_ne t64 (hQ.t 31 63 (by decide)) (by decide))
  have dn : ∀ j, j ≤ i → okJ g0 A t i p i = true → okJ g0 A t i p j = true := by
    intro j hj
    obtain ⟨d, rfl⟩ : ∃ d, i = j + d := ⟨i - j, by omega⟩
    clear T hi F g64
    have : ∀ d, okJ g0 A t (j + d) p (j + d) = true → okJ g0 A t (j + d) p j = true := fun d => by
      have go : ∀ (i' d' : Nat), okJ g0 A t i' p (j + d') = true → okJ g0 A t i' p j = true := by
        intro i' d'
        induction d' with
        | zero => exact fun q => q
        | succ d' ih =>
          intro q
          have q' : (okJ g0 A t i' p (j + d') && (decide (t (j + d') = 12) || !bt (g0 (A 64) (5 * (12 * i' + p) + (j + d'))) (t (j + d')))) = true := q
          rw [Bool.and_eq_true] at q'
          exact ih q'.1
      exact go _ d
    exact this d
  intro n
  induction n with
  | zero => intro j x _ h; exact absurd h (Nat.not_lt_zero _)
  | succ n ih =>
    intro j x hj h hx hxe
    have tj := nI_t (k := j) (by omega)
    have ti := nI_t (k := i) (by omega)
    unfold f_X12_canHave_23 f_X12_canHave_74 f_X12_canHave_79
    dsimp only
    rw [hQ.g 30 62 (by decide), hQ.g 32 64 (by decide)]
    by_cases c : nI i ≤ nI j
    · have c' := i_le.mp c
      have e : j = i := by omega
      rw [if_pos c]
      subst e
      unfold okR
      rw [Bool.and_eq_true, ← hxe]
      rcases hx with q | q
      · rw [q]
        exact ⟨fun _ => rfl, fun _ => by decide⟩
      · rw [q]
        exact ⟨fun z => absurd rfl z, fun z => absurd z (by decide)⟩
    · have c' := i_ltI.mp (Int32.not_le.mp c)
      have hji : j < i := by omega
      rw [if_neg c]
      by_cases c0 : x = 0
      · rw [if_pos c0, c0]
        refine ⟨fun z => absurd rfl z, fun z => ?_⟩
        unfold okR at z
        rw [Bool.and_eq_true] at z
        have := hxe.mpr ⟨z.1, dn j hj z.2⟩
        rw [c0] at this
        exact absurd this (by decide)
      · rw [if_neg c0]
        have x1 : x = 1 := hx.resolve_right c0
        obtain ⟨y1, y2⟩ := hxe.mp x1
        obtain ⟨T1, T2⟩ := T j hji
        have tt := nI_t (k := t j) (by omega)
        rw [nI_c (by omega), T1, nI_sc (by omega)]
        have oj : okJ g0 A t i p (j + 1) = (decide (t j = 12) || !bt (g0 (A 64) (5 * (12 * i + p) + j)) (t j)) := by
          show (okJ g0 A t i p j && _) = _
          rw [y2, Bool.true_and]
        by_cases c1 : nI (t j) = 12
        · have e12 : t j = 12 := by
            have := congrArg Int32.toInt c1
            rw [tt, k_12] at this
            omega
          rw [if_pos c1]
          refine ih (j + 1) 1 (by omega) (by omega) (Or.inl rfl) ⟨fun _ => ⟨y1, ?_⟩, fun _ => rfl⟩
          rw [oj, decide_eq_true e12, Bool.true_or]
        · have n12 : t j ≠ 12 := fun e => c1 (by rw [e]; decide)
          rw [if_neg c1, ix_eq (by omega) hp (by omega), g64]
          have B := bt_at (x := g0 (A 64) (5 * (12 * i + p) + j)) (y := nI (t j)) (by omega) (by omega)
          rw [nI_c (by omega)] at B
          by_cases c2 : g0 (A 64) (5 * (12 * i + p) + j) >>> (nI (t j) &&& 31) &&& 1 = 0
          · rw [if_pos c2]
            refine ih (j + 1) 1 (by omega) (by omega) (Or.inl rfl) ⟨fun _ => ⟨y1, ?_⟩, fun _ => rfl⟩
            rw [oj, B.mp c2, Bool.not_false, Bool.or_true]
          · rw [if_neg c2]
            refine ih (j + 1) 0 (by omega) (by omega) (Or.inr rfl) ⟨fun q => absurd q (by decide), fun q => ?_⟩
            rw [oj, decide_eq_false n12, Bool.false_or, Bool.not_eq_true'] at q
            exact absurd (B.mpr q.2) c2
theorem ch_eq (hQ : ro_M τ rm A) {g0 g : th_i} {t : Nat → Nat} {i p : Nat} (hi : i < 5) (hp : p < 12) (T : TRp g A t i) (F : FRp g0 g A) : ¬ F_X12_canHave τ Z g rm (A 12) (nI i) (nI p) = 0 ↔ okR g0 A t i p = true := by
  have t61 := hQ.t 29 61 (by decide)
  have g61 : g (A 61) = g0 (A 61) := F.1 _ (ro_ne t61 hQ.1 (by decide)) (ro_ne t61 (hQ.t 30 62 (by decide)) (by decide)) (ro_ne t61 (hQ.t 31 63 (by decide)) (by decide))
  have ti := nI_t (k := i) (by omega)
  have tp := nI_t (k := p) (by omega)
  unfold F_X12_canHave f_X12_canHave_19
  dsimp only
  rw [hQ.g 29 61 (by decide), g61, nI_c (by omega)]
  have B := bt_one (x := g0 (A 61) i) (y := nI p) (by omega) (by omega)
  rw [nI_c (by omega)] at B
  by_cases c : g0 (A 61) i >>> (nI p &&& 31) &&& 1 = 1
  · rw [if_pos c]
    exact ch_23 hQ hi hp T F _ 0 1 (by omega) (by decide) (Or.inl rfl) ⟨fun _ => ⟨B.mp c, rfl⟩, fun _ => rfl⟩
  · rw [if_neg c]
    exact ch_23 hQ hi hp T F _ 0 0 (by omega) (by decide) (Or.inr rfl) ⟨fun q => absurd q (by decide), fun q => absurd (B.mpr q.1) c⟩
/-- one turn of the loop, ahead of level n -/
theorem st_16 (hQ : ro_M τ rm A) {gz g : th_i} {n i N : Nat} {now base : Int32} {c : Int} (hn : n ≤ 5) (hi : i < n) (h27 : g (A 12) 27 = nI n) (hc : (g (A 62) i).toInt = c) (hb : now.toInt = base.toInt + (if 0 ≤ c ∧ c < 12 then 1 else 0)) (b0 : 0 ≤ base.toInt) (b5 : base.toInt ≤ 5) : f_X12_findMost_16 τ Z gz rm (A 12) (N + 1) g (nI i) now = if (g (A 12) 33).toInt < base.toInt + (n : Int) - (i : Int) then f_X12_findMost_149 τ Z gz rm (A 12) g (nI i) now (f_X12_findMost_16 τ Z gz rm (A 12) N) ((13 - mo_T (va_up g (A 62) (upd (g (A 62)) i (g (A 62) i + 1))) rm (A 12) i).toNat + 1) (va_up g (A 62) (upd (g (A 62)) i (g (A 62) i + 1))) base else f_X12_findMost_16 τ Z gz rm (A 12) N g (nI i + (-1)) base := by
  have ti := nI_t (k := i) (by omega)
  have tn := nI_t (k := n) (by omega)
  have h116 : ∀ z : Int32, now - z = base → f_X12_findMost_116 τ Z gz rm (A 12) g (nI i) now (f_X12_findMost_16 τ Z gz rm (A 12) N) g z = if (g (A 12) 33).toInt < base.toInt + (n : Int) - (i : Int) then f_X12_findMost_149 τ Z gz rm (A 12) g (nI i) now (f_X12_findMost_16 τ Z gz rm (A 12) N) ((13 - mo_T (va_up g (A 62) (upd (g (A 62)) i (g (A 62) i + 1))) rm (A 12) i).toNat + 1) (va_up g (A 62) (upd (g (A 62)) i (g (A 62) i + 1))) base else f_X12_findMost_16 τ Z gz rm (A 12) N g (nI i + (-1)) base := fun z hz => by
    unfold f_X12_findMost_116
    dsimp only
    rw [hQ.g 30 62 (by decide), hz, nI_c (by omega), h27]
    have e1 : (base + nI n).toInt = base.toInt + n := by rw [i_add (by rw [tn]; omega) (by rw [tn]; omega), tn]
    have e2 : (base + nI n - nI i).toInt = base.toInt + n - i := by rw [i_sub (by rw [e1, ti]; omega) (by rw [e1, ti]; omega), e1, ti]
    by_cases q : g (A 12) 33 < base + nI n - nI i
    · have q' := i_ltI.mp q
      rw [e2] at q'
      rw [if_pos q, if_pos q']
    · have q' : ¬ (g (A 12) 33).toInt < base.toInt + (n : Int) - (i : Int) := fun w => q (i_ltI.mpr (by rw [e2]; exact w))
      rw [if_neg q, if_neg q']
  have hu : f_X12_findMost_16 τ Z gz rm (A 12) (N + 1) g (nI i) now = if g (A 62) i < 0 then f_X12_findMost_116 τ Z gz rm (A 12) g (nI i) now (f_X12_findMost_16 τ Z gz rm (A 12) N) g 0 else if (12 : Int32) ≤ g (A 62) i then f_X12_findMost_116 τ Z gz rm (A 12) g (nI i) now (f_X12_findMost_16 τ Z gz rm (A 12) N) g 0 else f_X12_findMost_116 τ Z gz rm (A 12) g (nI i) now (f_X12_findMost_16 τ Z gz rm (A 12) N) g 1 := by
    conv => lhs; unfold f_X12_findMost_16
    unfold f_X12_findMost_115
    dsimp only
    rw [hQ.g 30 62 (by decide), nI_c (show i < 2147483648 by omega), if_neg (fun q => by have := i_ltI.mp q; rw [ti, k_0] at this; omega), if_neg (fun q => by rw [h27] at q; have := nI_inj (by omega) (by omega) q; omega)]
  rw [hu]
  have z0 : ∀ x : Int32, x - 0 = x := fun x => Int32.sub_zero x
  by_cases c1 : g (A 62) i < 0
  · have c1' := i_ltI.mp c1
    rw [hc, k_0] at c1'
    rw [if_pos c1]
    refine h116 0 ?_
    rw [if_neg (by omega)] at hb
    rw [z0]
    exact i_inj (by omega)
  · have c1' := i_le.mp (Int32.not_lt.mp c1)
    rw [hc, k_0] at c1'
    rw [if_neg c1]
    by_cases c2 : (12 : Int32) ≤ g (A 62) i
    · have c2' := i_le.mp c2
      rw [hc, k_12] at c2'
      rw [if_pos c2]
      refine h116 0 ?_
      rw [if_neg (by omega)] at hb
      rw [z0]
      exact i_inj (by omega)
    · have c2' := i_ltI.mp (Int32.not_le.mp c2)
      rw [hc, k_12] at c2'
      rw [if_neg c2]
      refine h116 1 ?_
      rw [if_pos ⟨c1', c2'⟩] at hb
      exact i_inj (by rw [i_sub (by rw [k_1]; omega) (by rw [k_1]; omega), k_1]; omega)
/-- what a level does, from its beginning to the step back -/
def FC (τ : th_t) (Z : th_Zt) (gz : th_i) (rm : th_r) (A : Nat → Nat) (g0 : th_i) (n r i : Nat) : Prop := ∀ (N : Nat) (g : th_i) (now : Int32) (t : Nat → Nat) (s : Int × (Nat → Nat)), g (A 62) i = -1 → TRp g A t i → BRp g A n s → FRp g0 g A → 0 ≤ now.toInt → now.toInt ≤ (i : Int) → mo_m (mo_T g rm (A 12)) (i : Int) < N → ∃ (N' : Nat) (g' : th_i), f_X12_findMost_16 τ Z gz rm (A 12) N g (nI i) now = f_X12_findMost_16 τ Z gz rm (A 12) N' g' (nI i + (-1)) now ∧ mo_m (mo_T g' rm (A 12)) ((i : Int) - 1) < N' ∧ TRp g' A t i ∧ BRp g' A n (ex (okR g0 A) r i t now.toInt s) ∧ FRp g0 g' A
theorem nI_pr {i : Nat} (h : i ≤ 16) : nI (i + 1) + (-1) = nI i := by
  have a := nI_t (k := i + 1) (by omega)
  have b := nI_t (k := i) (by omega)
  exact i_inj (by rw [i_add (by rw [a, k_m1]; omega) (by rw [a, k_m1]; omega), a, b, k_m1]; omega)
theorem fr_62 (hQ : ro_M τ rm A) {g0 g : th_i} (F : FRp g0 g A) {k : Nat} {x : Int32} : FRp g0 (va_up g (A 62) (upd (g (A 62)) k x)) A := by
  have t62 := hQ.t 30 62 (by decide)
  exact ⟨fun a a1 a2 a3 => by rw [up_n a2]; exact F.1 a a1 a2 a3, fun j hj => by rw [up_n (ro_ne hQ.1 t62 (by decide))]; exact F.2 j hj⟩
theorem br_62 (hQ : ro_M τ rm A) {g : th_i} {n : Nat} {s : Int × (Nat → Nat)} (B : BRp g A n s) {k : Nat} {x : Int32} : BRp (va_up g (A 62) (upd (g (A 62)) k x)) A n s := by
  have t62 := hQ.t 30 62 (by decide)
  obtain ⟨b1, b2, b3, b4⟩ := B
  unfold BRp
  rw [up_n (ro_ne hQ.1 t62 (by decide)), up_n (ro_ne (hQ.t 31 63 (by decide)) t62 (by decide))]
  exact ⟨b1, b2, b3, b4⟩
theorem tr_62 {g : th_i} {t : Nat → Nat} {i k : Nat} {x : Int32} (T : TRp g A t i) (h : i ≤ k) : TRp (va_up g (A 62) (upd (g (A 62)) k x)) A t i := fun j hj => by
  rw [up_s, ud_n (by omega)]
  exact T j hj
/-- the rest of a level from the BUOY p on -/
def exP (ok : (Nat → Nat) → Nat → Nat → Bool) (r i : Nat) (t : Nat → Nat) (cnt : Int) (p : Nat) (s : Int × (Nat → Nat)) : Int × (Nat → Nat) := if p ≤ 12 then exC (ex ok r (i + 1)) (ok t i) t i cnt (12 - p) s else s
theorem exP_no {ok : (Nat → Nat) → Nat → Nat → Bool} {r i p : Nat} {t : Nat → Nat} {cnt : Int} {s : Int × (Nat → Nat)} (q : cnt + ((r + 1 : Nat) : Int) ≤ s.1) : exP ok r i t cnt p s = s := by
  unfold exP
  by_cases c : p ≤ 12
  · rw [if_pos c]
    exact ex_no2 (by omega) q
  · rw [if_neg c]
theorem exP_s {ok : (Nat → Nat) → Nat → Nat → Bool} {r i p : Nat} {t : Nat → Nat} {cnt : Int} {s : Int × (Nat → Nat)} (hp : p < 12) : exP ok r i t cnt p s = exP ok r i t cnt (p + 1) (if ok t i p = true then ex ok r (i + 1) (su t i p) (cnt + 1) s else s) := by
  unfold exP
  rw [if_pos (by omega), if_pos (by omega), show 12 - p = (11 - p) + 1 by omega, show 12 - (p + 1) = 11 - p by omega]
  show exC (ex ok r (i + 1)) (ok t i) t i cnt (11 - p) (if ok t i (11 - (11 - p)) = true then ex ok r (i + 1) (su t i (11 - (11 - p))) (cnt + 1) s else s) = _
  rw [show 11 - (11 - p) = p by omega]
theorem exP_12 {ok : (Nat → Nat) → Nat → Nat → Bool} {r i : Nat} {t : Nat → Nat} {cnt : Int} {s : Int × (Nat → Nat)} : exP ok r i t cnt 12 s = exP ok r i t cnt 13 (ex ok r (i + 1) (su t i 12) cnt s) := by
  unfold exP
  rw [if_pos (by omega), if_neg (by omega)]
  rfl
theorem rf_ic (hQ : ro_M τ rm A) {gz g0 : th_i} {n r i : Nat} (hn : n ≤ 5) (hi : i + (r + 1) = n) (h27 : g0 (A 12) 27 = nI n) (H : FC τ Z gz rm A g0 n r (i + 1)) : ∀ (d p : Nat), p + d = 13 → ∀ (m N : Nat) (g g16 : th_i) (y2 base : Int32) (t : Nat → Nat) (s : Int × (Nat → Nat)) (T0 : Nat → Int), 13 - p < m → g (A 62) i = nI p → TRp g A t i → BRp g A n s → FRp g0 g A → 0 ≤ base.toInt → base.toInt ≤ (i : Int) → mo_m T0 (i : Int) < N + 1 → (∀ j, j < i → mo_T g rm (A 12) j = T0 j) → T0 i + 1 ≤ (p : Int) → T0 i ≤ 12 → ∃ (N' : Nat) (g' : th_i), f_X12_findMost_149 τ Z gz rm (A 12) g16 (nI i) y2 (f_X12_findMost_16 τ Z gz rm (A 12) N) m g base = f_X12_findMost_16 τ Z gz rm (A 12) N' g' (nI i + (-1)) base ∧ mo_m (mo_T g' rm (A 12)) ((i : Int) - 1) < N' ∧ TRp g' A t i ∧ BRp g' A n (exP (okR g0 A) r i t base.toInt p s) ∧ FRp g0 g' A := by
  have t62 := hQ.t 30 62 (by decide)
  have ti := nI_t (k := i) (by omega)
  intro d
  induction d with
  | zero =>
    intro p hp m N g g16 y2 base t s T0 hm hg T B F b0 b5 hN hT h1 h2
    have e : p = 13 := by omega
    subst e
    cases m with
    | zero => exact absurd hm (Nat.not_lt_zero _)
    | succ m =>
      refine ⟨N, g, ?_, ?_, T, ?_, F⟩
      · unfold f_X12_findMost_149 f_X12_findMost_187
        dsimp only
        rw [hQ.g 30 62 (by decide), nI_c (by omega), hg, if_pos (by decide), if_neg (by decide)]
      · have := mo_dec1 (T := T0) (T' := mo_T g rm (A 12)) (i := (i : Int)) (i' := (i : Int) - 1) (by omega) (by omega) rfl (fun j hj => hT j (by omega)) (fun j hj => by
          have : j = i := by omega
          rw [this]
          omega)
        omega
      · unfold exP
        rw [if_neg (by omega)]
        exact B
  | succ d ih =>
    intro p hp m N g g16 y2 base t s T0 hm hg T B F b0 b5 hN hT h1 h2
    have tp := nI_t (k := p) (by omega)
    cases m with
    | zero => exact absurd hm (Nat.not_lt_zero _)
    | succ m =>
      -- on to the next level with p, and back
      have deep : ∀ (z : Int32), z.toInt = (if p < 12 then 1 else 0) → ∃ (N' : Nat) (g' : th_i), f_X12_findMost_16 τ Z gz rm (A 12) N (va_up g (A 62) (upd (g (A 62)) (nI i + 1).toNatClampNeg (-1))) (nI i + 1) (base + z) = f_X12_findMost_16 τ Z gz rm (A 12) N' g' (nI i + (-1)) base ∧ mo_m (mo_T g' rm (A 12)) ((i : Int) - 1) < N' ∧ TRp g' A t i ∧ BRp g' A n (exP (okR g0 A) r i t base.toInt (p + 1) (ex (okR g0 A) r (i + 1) (su t i p) (base.toInt + (if p < 12 then 1 else 0)) s)) ∧ FRp g0 g' A := fun z hz => by
        have hz2 : 0 ≤ z.toInt ∧ z.toInt ≤ 1 := by
          rw [hz]
          split <;> exact ⟨by decide, by decide⟩
        have ez : (base + z).toInt = base.toInt + z.toInt := i_add (by omega) (by omega)
        rw [nI_sc (by omega), nI_c (by omega)]
        have T1 : TRp (va_up g (A 62) (upd (g (A 62)) (i + 1) (-1))) A (su t i p) (i + 1) := fun j hj => by
          rw [up_s, ud_n (by omega)]
          by_cases e : j = i
          · rw [e, su_s]
            exact ⟨hg, by omega⟩
          · rw [su_n e]
            exact T j (by omega)
        obtain ⟨N1, g1, q1, q2, q3, q4, q5⟩ := H N (va_up g (A 62) (upd (g (A 62)) (i + 1) (-1))) (base + z) (su t i p) s (by rw [up_s, ud_s]) T1 (br_62 hQ B) (fr_62 hQ F) (by omega) (by rw [ez]; omega) (by
          have := mo_dec2 (T := T0) (T' := mo_T (va_up g (A 62) (upd (g (A 62)) (i + 1) (-1))) rm (A 12)) (i := (i : Int)) (i' := ((i + 1 : Nat) : Int)) (by omega) (by omega) (by omega) (fun j hj => by rw [← hT j (by omega), mT hQ, mT hQ, up_s, ud_n (by omega)]) (fun j hj => by
            have : j = i := by omega
            rw [this, mT hQ, up_s, ud_n (by omega), hg, tp]
            exact ⟨h1, by omega⟩) (fun j hj => by
            have : j = i + 1 := by omega
            rw [this, mT hQ, up_s, ud_s]
            decide)
          omega)
        rw [q1, nI_pr (by omega)]
        have Ti := q3 i (Nat.lt_add_one _)
        rw [su_s] at Ti
        have T2 : TRp g1 A t i := fun j hj => by
          have := q3 j (by omega)
          rw [su_n (by omega)] at this
          exact this
        have sb := ex_in (ok := okR g0 A) r (i + 1) (su t i p) (base + z).toInt s 5 B.2.2.1 (by rw [ez]; omega)
        cases N1 with
        | zero => exact absurd q2 (Nat.not_lt_zero _)
        | succ N1 =>
          have q2' : mo_m (mo_T g1 rm (A 12)) (i : Int) < N1 + 1 := by
            rw [show ((i + 1 : Nat) : Int) - 1 = (i : Int) by omega] at q2
            exact q2
          have e62 : mo_T g1 rm (A 12) i = (p : Int) := by rw [mT hQ, Ti.1, tp]
          have S := st_16 (Z := Z) (gz := gz) hQ (g := g1) (n := n) (i := i) (N := N1) (now := base + z) (base := base) (c := (p : Int)) hn (by omega) (by rw [q5.2 27 (by decide)]; exact h27) (by rw [Ti.1, tp]) (by
            rw [ez, hz]
            by_cases c : p < 12
            · rw [if_pos c, if_pos (by omega)]
            · rw [if_neg c, if_neg (by omega)]) b0 (by omega)
          rw [S]
          rw [ez, hz] at q4
          by_cases c : (g1 (A 12) 33).toInt < base.toInt + (n : Int) - (i : Int)
          · rw [if_pos c]
            have e1 : nI p + 1 = nI (p + 1) := nI_sc (by omega)
            rw [Ti.1, e1]
            obtain ⟨N2, g2, w1, w2, w3, w4, w5⟩ := ih (p + 1) (by omega) ((13 - mo_T (va_up g1 (A 62) (upd (g1 (A 62)) i (nI (p + 1)))) rm (A 12) i).toNat + 1) N1 (va_up g1 (A 62) (upd (g1 (A 62)) i (nI (p + 1)))) g1 (base + z) base t _ (mo_T g1 rm (A 12)) (by
                rw [mT hQ, up_s, ud_s, nI_t (by omega)]
                omega) (by rw [up_s, ud_s]) (tr_62 T2 (Nat.le_refl _)) (br_62 hQ q4) (fr_62 hQ q5) b0 b5 q2' (fun j hj => by rw [mT hQ, mT hQ, up_s, ud_n (by omega)]) (by rw [e62]; omega) (by rw [e62]; omega)
            exact ⟨N2, g2, w1, w2, w3, w4, w5⟩
          · rw [if_neg c]
            refine ⟨N1, g1, rfl, ?_, T2, ?_, q5⟩
            · have := mo_dec1 (T := mo_T g1 rm (A 12)) (T' := mo_T g1 rm (A 12)) (i := (i : Int)) (i' := (i : Int) - 1) (by omega) (by omega) rfl (fun j hj => rfl) (fun j hj => by
                have : j = i := by omega
                rw [this, e62]
                omega)
              omega
            · rw [exP_no (by rw [← q4.1]; omega)]
              exact q4
      by_cases c12 : p < 12
      · have nle : ¬ (12 : Int32) ≤ nI p := fun q => by have := i_le.mp q; rw [tp, k_12] at this; omega
        have C := ch_eq (Z := Z) hQ (g0 := g0) (g := g) (t := t) (i := i) (p := p) (by omega) c12 T F
        have hu : f_X12_findMost_149 τ Z gz rm (A 12) g16 (nI i) y2 (f_X12_findMost_16 τ Z gz rm (A 12) N) (m + 1) g base = if F_X12_canHave τ Z g rm (A 12) (nI i) (nI p) = 0 then f_X12_findMost_149 τ Z gz rm (A 12) g16 (nI i) y2 (f_X12_findMost_16 τ Z gz rm (A 12) N) m (va_up g (A 62) (upd (g (A 62)) i (nI p + 1))) base else f_X12_findMost_16 τ Z gz rm (A 12) N (va_up g (A 62) (upd (g (A 62)) (nI i + 1).toNatClampNeg (-1))) (nI i + 1) (base + 1) := by
          conv => lhs; unfold f_X12_findMost_149
          unfold f_X12_findMost_187 f_X12_findMost_221
          dsimp only
          rw [hQ.g 30 62 (by decide), nI_c (show i < 2147483648 by omega), hg, if_neg nle, if_neg nle, if_pos (i_le.mpr (by rw [tp, k_12]; omega))]
        rw [hu, exP_s c12]
        by_cases c : F_X12_canHave τ Z g rm (A 12) (nI i) (nI p) = 0
        · rw [if_pos c, if_neg (fun q => C.mpr q c), nI_sc (by omega)]
          exact ih (p + 1) (by omega) m N (va_up g (A 62) (upd (g (A 62)) i (nI (p + 1)))) g16 y2 base t s T0 (by omega) (by rw [up_s, ud_s]) (tr_62 T (Nat.le_refl _)) (br_62 hQ B) (fr_62 hQ F) b0 b5 hN (fun j hj => by rw [← hT j hj, mT hQ, mT hQ, up_s, ud_n (by omega)]) (by omega) h2
        · rw [if_neg c, if_pos (C.mp c)]
          have D := deep 1 (by rw [if_pos c12]; decide)
          rw [if_pos c12] at D
          exact D
      · have e : p = 12 := by omega
        subst e
        have hu : f_X12_findMost_149 τ Z gz rm (A 12) g16 (nI i) y2 (f_X12_findMost_16 τ Z gz rm (A 12) N) (m + 1) g base = f_X12_findMost_16 τ Z gz rm (A 12) N (va_up g (A 62) (upd (g (A 62)) (nI i + 1).toNatClampNeg (-1))) (nI i + 1) (base + 0) := by
          conv => lhs; unfold f_X12_findMost_149
          unfold f_X12_findMost_187 f_X12_findMost_221
          dsimp only
          rw [hQ.g 30 62 (by decide), nI_c (show i < 2147483648 by omega), hg, if_pos (by decide), if_pos (by decide), if_pos (by decide)]
        rw [hu, exP_12]
        have D := deep 0 (by rw [if_neg c12]; decide)
        rw [if_neg c12, Int.add_zero] at D
        exact D
/-- at the end of the row: the better one is kept -/
theorem fo_43e (hQ : ro_M τ rm A) {gz g0 g16 : th_i} {n : Nat} {y1 y2 : Int32} {k : th_i → Int32 → Int32 → th_i} (hn : n ≤ 5) {t : Nat → Nat} : ∀ (m j : Nat) (g : th_i), 5 - j < m → j ≤ n → g (A 12) 27 = nI n → TRp g A t n → FRp g0 g A → (∀ x, x < j → g (A 63) x = cv (t x)) → ∃ g', f_X12_findMost_43 τ Z gz rm (A 12) g16 y1 y2 k m g (nI j) = k g' (y1 + (-1)) y2 ∧ g' (A 62) = g (A 62) ∧ g' (A 12) = g (A 12) ∧ FRp g0 g' A ∧ ∀ x, x < n → g' (A 63) x = cv (t x) := by
  have t62 := hQ.t 30 62 (by decide)
  have t63 := hQ.t 31 63 (by decide)
  intro m
  induction m with
  | zero => intro j g h; exact absurd h (Nat.not_lt_zero _)
  | succ m ih =>
    intro j g h hj h27 T F hx
    have tj := nI_t (k := j) (by omega)
    have tn := nI_t (k := n) (by omega)
    unfold f_X12_findMost_43 f_X12_findMost_84 f_X12_findMost_77
    dsimp only
    rw [hQ.g 30 62 (by decide), hQ.g 31 63 (by decide), h27, nI_c (by omega)]
    by_cases c : nI n ≤ nI j
    · rw [if_pos c]
      have c' := i_le.mp c
      have e : j = n := by omega
      subst e
      exact ⟨g, rfl, rfl, rfl, F, hx⟩
    · rw [if_neg c]
      have c' := i_ltI.mp (Int32.not_le.mp c)
      have hjn : j < n := by omega
      obtain ⟨T1, T2⟩ := T j hjn
      have tt := nI_t (k := t j) (by omega)
      have step : ∀ x : Int32, x = cv (t j) → ∃ g', f_X12_findMost_43 τ Z gz rm (A 12) g16 y1 y2 k m (va_up g (A 63) (upd (g (A 63)) j x)) (nI j + 1) = k g' (y1 + (-1)) y2 ∧ g' (A 62) = g (A 62) ∧ g' (A 12) = g (A 12) ∧ FRp g0 g' A ∧ ∀ x, x < n → g' (A 63) x = cv (t x) := fun x hx' => by
        have n12 : A 12 ≠ A 63 := ro_ne hQ.1 t63 (by decide)
        have n62 : A 62 ≠ A 63 := ro_ne t62 t63 (by decide)
        rw [nI_sc (by omega)]
        obtain ⟨g', w1, w2, w3, w4, w5⟩ := ih (j + 1) (va_up g (A 63) (upd (g (A 63)) j x)) (by omega) (by omega) (by rw [up_n n12]; exact h27) (fun k hk => by rw [up_n n62]; exact T k hk) ⟨fun a a1 a2 a3 => by rw [up_n a3]; exact F.1 a a1 a2 a3, fun k hk => by rw [up_n n12]; exact F.2 k hk⟩ (fun y hy => by
          rw [up_s]
          by_cases e : y = j
          · rw [e, ud_s]
            exact hx'
          · rw [ud_n e]
            exact hx y (by omega))
        exact ⟨g', w1, by rw [w2, up_n n62], by rw [w3, up_n n12], w4, w5⟩
      rw [T1]
      by_cases c1 : nI (t j) = 12
      · rw [if_pos c1]
        have e12 : t j = 12 := by
          have := congrArg Int32.toInt c1
          rw [tt, k_12] at this
          omega
        exact step (-1) (by unfold cv; rw [if_pos e12])
      · rw [if_neg c1]
        have n12 : t j ≠ 12 := fun e => c1 (by rw [e]; decide)
        exact step (nI (t j)) (by unfold cv; rw [if_neg n12])
theorem rf_fc (hQ : ro_M τ rm A) {gz g0 : th_i} {n : Nat} (hn : n ≤ 5) (h27 : g0 (A 12) 27 = nI n) : ∀ (r i : Nat), i + r = n → FC τ Z gz rm A g0 n r i := by
  have t62 := hQ.t 30 62 (by decide)
  have t63 := hQ.t 31 63 (by decide)
  intro r
  induction r with
  | zero =>
    intro i hi N g now t s h62 T B F b0 b5 hN
    have e : i = n := by omega
    subst e
    have ti := nI_t (k := i) (by omega)
    have g27 : g (A 12) 27 = nI i := by rw [F.2 27 (by decide)]; exact h27
    obtain ⟨B1, B2, B3, B4⟩ := B
    have dec : ∀ g' : th_i, g' (A 62) = g (A 62) → mo_m (mo_T g' rm (A 12)) ((i : Int) - 1) < mo_m (mo_T g rm (A 12)) (i : Int) := fun g' hg' => mo_dec1 (by omega) (by omega) rfl (fun j hj => by rw [mT hQ, mT hQ, hg']) (fun j hj => by
      have : j = i := by omega
      rw [this, mT hQ, h62, k_m1]
      decide)
    cases N with
    | zero => exact absurd hN (Nat.not_lt_zero _)
    | succ N =>
      have hu : f_X12_findMost_16 τ Z gz rm (A 12) (N + 1) g (nI i) now = if now ≤ g (A 12) 33 then f_X12_findMost_16 τ Z gz rm (A 12) N g (nI i + (-1)) now else f_X12_findMost_43 τ Z gz rm (A 12) g (nI i) now (f_X12_findMost_16 τ Z gz rm (A 12) N) ((5 - (0 : Int32).toInt).toNat + 1) (va_up g (A 12) (upd (g (A 12)) 33 now)) 0 := by
        conv => lhs; unfold f_X12_findMost_16
        unfold f_X12_findMost_84
        dsimp only
        rw [if_neg (fun q => by have := i_ltI.mp q; rw [ti, k_0] at this; omega), if_pos g27.symm]
      rw [hu]
      show ∃ N' g', _ ∧ _ ∧ _ ∧ BRp g' A i (lf s now.toInt t) ∧ _
      unfold lf
      by_cases c : now ≤ g (A 12) 33
      · have c' := i_le.mp c
        rw [if_pos c, if_neg (by omega)]
        have := dec g rfl
        exact ⟨N, g, rfl, by omega, T, ⟨B1, B2, B3, B4⟩, F⟩
      · have c' := i_ltI.mp (Int32.not_le.mp c)
        rw [if_neg c, if_pos (by omega)]
        have n12 : A 62 ≠ A 12 := ro_ne t62 hQ.1 (by decide)
        obtain ⟨g', w1, w2, w3, w4, w5⟩ := fo_43e (Z := Z) (gz := gz) (g16 := g) (y1 := nI i) (y2 := now) (k := f_X12_findMost_16 τ Z gz rm (A 12) N) hQ hn (g0 := g0) (t := t) ((5 - (0 : Int32).toInt).toNat + 1) 0 (va_up g (A 12) (upd (g (A 12)) 33 now)) (by decide) (Nat.zero_le _) (by rw [up_s, ud_n (by decide)]; exact g27) (fun j hj => by rw [up_n n12]; exact T j hj) ⟨fun a a1 a2 a3 => by rw [up_n a1]; exact F.1 a a1 a2 a3, fun j hj => by rw [up_s, ud_n hj]; exact F.2 j hj⟩ (fun x hx => absurd hx (Nat.not_lt_zero _))
        rw [show nI 0 = 0 by decide] at w1
        rw [up_n n12] at w2
        rw [up_s] at w3
        have := dec g' w2
        exact ⟨N, g', w1, by omega, fun j hj => by rw [w2]; exact T j hj, ⟨by rw [w3, ud_s], by show -1 ≤ now.toInt; omega, by show now.toInt ≤ 5; omega, fun _ => w5⟩, w4⟩
  | succ r ih =>
    intro i hi N g now t s h62 T B F b0 b5 hN
    have ti := nI_t (k := i) (by omega)
    have g27 : g (A 12) 27 = nI n := by rw [F.2 27 (by decide)]; exact h27
    cases N with
    | zero => exact absurd hN (Nat.not_lt_zero _)
    | succ N =>
      rw [st_16 (Z := Z) (gz := gz) hQ (n := n) (base := now) (c := -1) hn (by omega) g27 (by rw [h62, k_m1]) (by rw [if_neg (by omega)]; omega) b0 (by omega)]
      have e0 : g (A 62) i + 1 = nI 0 := by rw [h62]; decide
      have m62 : mo_T g rm (A 12) i = -1 := by rw [mT hQ, h62, k_m1]
      by_cases c : (g (A 12) 33).toInt < now.toInt + (n : Int) - (i : Int)
      · rw [if_pos c, e0]
        exact rf_ic hQ hn (by omega) h27 (ih (i + 1) (by omega)) 13 0 (by omega) _ N (va_up g (A 62) (upd (g (A 62)) i (nI 0))) g now now t s (mo_T g rm (A 12)) (by
          rw [mT hQ, up_s, ud_s, nI_t (by omega)]
          omega) (by rw [up_s, ud_s]) (tr_62 T (Nat.le_refl _)) (br_62 hQ B) (fr_62 hQ F) b0 b5 hN (fun j hj => by rw [mT hQ, mT hQ, up_s, ud_n (by omega)]) (by rw [m62]; omega) (by rw [m62]; omega)
      · rw [if_neg c]
        refine ⟨N, g, rfl, ?_, T, ?_, F⟩
        · have := mo_dec1 (T := mo_T g rm (A 12)) (T' := mo_T g rm (A 12)) (i := (i : Int)) (i' := (i : Int) - 1) (by omega) (by omega) rfl (fun j hj => rfl) (fun j hj => by
            have : j = i := by omega
            rw [this, m62]
            decide)
          omega
        · rw [ex_no1 (by rw [← B.1]; omega)]
          exact B
/-- the reference's search: the best of the plain one -/
theorem rf_most (hQ : ro_M τ rm A) {g0 : th_i} {n : Nat} (hn : n ≤ 5) (h27 : g0 (A 12) 27 = nI n) : BRp (F_X12_findMost τ Z g0 rm (A 12)) A n (ex (okR g0 A) n 0 (fun _ => 0) 0 (-1, fun _ => 0)) := by
  have t62 := hQ.t 30 62 (by decide)
  have t63 := hQ.t 31 63 (by decide)
  have n12 : A 12 ≠ A 62 := ro_ne hQ.1 t62 (by decide)
  unfold F_X12_findMost
  try dsimp only
  rw [hQ.g 30 62 (by decide), show (0 : Int32).toNatClampNeg = 0 by decide]
  obtain ⟨N', g', w1, w2, -, w4, -⟩ := rf_fc (Z := Z) (gz := g0) hQ hn h27 n 0 (by omega) (mo_m (mo_T (va_up (va_up g0 (A 12) (upd (g0 (A 12)) 33 (-1))) (A 62) (upd (va_up g0 (A 12) (upd (g0 (A 12)) 33 (-1)) (A 62)) 0 (-1))) rm (A 12)) (0 : Int32).toInt + 1) (va_up (va_up g0 (A 12) (upd (g0 (A 12)) 33 (-1))) (A 62) (upd (va_up g0 (A 12) (upd (g0 (A 12)) 33 (-1)) (A 62)) 0 (-1))) 0 (fun _ => 0) (-1, fun _ => 0) (by rw [up_s, ud_s]) (fun j hj => absurd hj (Nat.not_lt_zero _)) ⟨by rw [up_n n12, up_s, ud_s]; decide, by decide, by decide, fun q => absurd q (by decide)⟩ ⟨fun a a1 a2 a3 => by rw [up_n a2, up_n a1], fun j hj => by rw [up_n n12, up_s, ud_n hj]⟩ (by decide) (by decide) (Nat.lt_add_one _)
  rw [show nI 0 = 0 by decide] at w1
  rw [w1]
  cases N' with
  | zero => exact absurd w2 (Nat.not_lt_zero _)
  | succ N' =>
    have hu : f_X12_findMost_16 τ Z g0 rm (A 12) (N' + 1) g' (0 + (-1)) 0 = g' := by
      unfold f_X12_findMost_16
      dsimp only
      rw [if_pos (by decide)]
    rw [hu]
    exact w4
end RS2
