/-! ===== the class's levels ===== -/
section CM
variable {τ τ1 : th_t} {Z : th_Zt} {gi gi1 gm gm2 : th_i} {gr gr1 rm rm2 : th_r} {A : Nat → Nat} {M1 M2 : List Nat}
theorem okJ_su {m : th_i} {t : Nat → Nat} {i c j p : Nat} : ∀ l, l ≤ i → okJ m A (su t i c) j p l = okJ m A t j p l := by
  intro l
  induction l with
  | zero => intro _; rfl
  | succ l ih =>
    intro h
    show (okJ m A (su t i c) j p l && (decide (su t i c l = 12) || !bt (m (A 64) (5 * (12 * j + p) + l)) (su t i c l))) = (okJ m A t j p l && (decide (t l = 12) || !bt (m (A 64) (5 * (12 * j + p) + l)) (t l)))
    rw [ih (by omega), su_n (by omega)]
theorem okJ_s1 {m : th_i} {t : Nat → Nat} {i c j p : Nat} : okJ m A (su t i c) j p (i + 1) = (okJ m A t j p i && (decide (c = 12) || !bt (m (A 64) (5 * (12 * j + p) + i)) c)) := by
  show (okJ m A (su t i c) j p i && (decide (su t i c i = 12) || !bt (m (A 64) (5 * (12 * j + p) + i)) (su t i c i))) = _
  rw [okJ_su i (Nat.le_refl _), su_s]
def hB (m : th_i) (A : Nat → Nat) (lv : Nat) (t : Nat → Nat) (j : Nat) : Bool := (List.range 32).any (fun p => bt (m (A 61) j) p && okJ m A t j p lv)
theorem hB_t {m : th_i} {lv j : Nat} {t : Nat → Nat} : hB m A lv t j = true ↔ ∃ p, p < 32 ∧ bt (m (A 61) j) p = true ∧ okJ m A t j p lv = true := by
  unfold hB
  rw [List.any_eq_true]
  constructor
  · rintro ⟨p, h1, h2⟩
    rw [Bool.and_eq_true] at h2
    exact ⟨p, List.mem_range.mp h1, h2.1, h2.2⟩
  · rintro ⟨p, h1, h2, h3⟩
    exact ⟨p, List.mem_range.mpr h1, by rw [h2, h3]; rfl⟩
theorem hB_m {m : th_i} {i c j : Nat} {t : Nat → Nat} (h : hB m A (i + 1) (su t i c) j = true) : hB m A i t j = true := by
  obtain ⟨p, h1, h2, h3⟩ := hB_t.mp h
  rw [okJ_s1, Bool.and_eq_true] at h3
  exact hB_t.mpr ⟨p, h1, h2, h3.1⟩
theorem hB_o {m : th_i} {i p : Nat} {t : Nat → Nat} (hp : p < 12) (h : okR m A t i p = true) : hB m A i t i = true := by
  unfold okR at h
  rw [Bool.and_eq_true] at h
  exact hB_t.mpr ⟨p, by omega, h.1, h.2⟩
/-- how many may still hope -/
theorem hf_4 {n : Nat} {m : th_i} {r : th_r} (hC1 : ro_C τ r A) {g gz : th_i} (hn : n ≤ 5) (h2 : g (A 7) 2 = nI n) {lv : Nat} {t : Nat → Nat} (op : OPp A n m t g lv) (hg : gz = g) : ∀ (N j a : Nat), lv ≤ j → j ≤ n → 5 - j < N → a + (n - j) ≤ 5 → f_X7_hopefulFrom_4 τ Z g r (A 7) (nI lv) N (nI a) (nI j) = nI (a + cH (hB m A lv t) j (n - j)) := by
  intro N
  induction N with
  | zero => intro j a _ _ h; exact absurd h (Nat.not_lt_zero _)
  | succ N ih =>
    intro j a hlj hj h ha
    have tj := nI_t (k := j) (by omega)
    have tn := nI_t (k := n) (by omega)
    unfold f_X7_hopefulFrom_4 f_X7_hopefulFrom_28
    dsimp only
    rw [hC1.g 7 3 31 (by decide), h2]
    by_cases c : nI n ≤ nI j
    · have c' := i_le.mp c
      have : j = n := by omega
      subst this
      rw [if_pos c, Nat.sub_self]
      rfl
    · have c' := i_ltI.mp (Int32.not_le.mp c)
      have hjn : j < n := by omega
      rw [if_neg c, ix5 (by omega) (by omega), nI_sc (by omega), show n - j = (n - (j + 1)) + 1 by omega]
      show _ = nI (a + ((if hB m A lv t j = true then 1 else 0) + cH (hB m A lv t) (j + 1) (n - (j + 1))))
      have O := op j hlj hjn
      by_cases c0 : g (A 31) (lv * 5 + j) = 0
      · rw [if_pos c0, if_neg (fun q => by
          obtain ⟨p, p1, p2, p3⟩ := hB_t.mp q
          have := O p p1
          rw [c0, b_0, p2, p3] at this
          exact absurd this (by decide)), Nat.zero_add]
        exact ih (j + 1) a (by omega) (by omega) (by omega) (by omega)
      · have ht : hB m A lv t j = true := by
          cases hh : hB m A lv t j with
          | true => rfl
          | false =>
            refine absurd (b_ext (fun p hp => ?_)) c0
            rw [O p hp, b_0]
            cases hq : (bt (m (A 61) j) p && okJ m A t j p lv) with
            | false => rfl
            | true =>
              rw [Bool.and_eq_true] at hq
              rw [hB_t.mpr ⟨p, hp, hq.1, hq.2⟩] at hh
              exact absurd hh (by decide)
        rw [if_neg c0, if_pos ht, nI_sc (by omega)]
        rw [ih (j + 1) (a + 1) (by omega) (by omega) (by omega) (by omega), show a + 1 + cH (hB m A lv t) (j + 1) (n - (j + 1)) = a + (1 + cH (hB m A lv t) (j + 1) (n - (j + 1))) by omega]
/-- what is left to those behind -/
theorem nw_4 {s : Nat → Nat} {nb n : Nat} {m : th_i} {r : th_r} (hC : ro_C τ gr A) (X : SB τ Z gi gr gm rm A s nb n m r) {lv c : Nat} (hl : lv < n) (hc : c = 12 ∨ (c < nb ∧ bt (m (A 61) lv) c = true)) {gz : th_i} {t : Nat → Nat} : ∀ (N j : Nat) (g : th_i), lv + 1 ≤ j → j ≤ n → 5 - j < N → CF τ gi gr A n r g → BAp A nb n m g → OPp A n m t g 0 → OPp A n m t g lv → CF τ gi gr A n r (f_X7_narrow_4 τ Z gz r (A 7) (nI lv) (cv c) N g (nI j)) ∧ (∀ a, a ≠ A 31 → a ≠ A 32 → f_X7_narrow_4 τ Z gz r (A 7) (nI lv) (cv c) N g (nI j) a = g a) ∧ (∀ x, x < (lv + 1) * 5 + j ∨ (lv + 1) * 5 + n ≤ x → f_X7_narrow_4 τ Z gz r (A 7) (nI lv) (cv c) N g (nI j) (A 31) x = g (A 31) x) ∧ BAp A nb n m (f_X7_narrow_4 τ Z gz r (A 7) (nI lv) (cv c) N g (nI j)) ∧ ∀ j', j ≤ j' → j' < n → ∀ p, p < 32 → bt (f_X7_narrow_4 τ Z gz r (A 7) (nI lv) (cv c) N g (nI j) (A 31) ((lv + 1) * 5 + j')) p = (bt (m (A 61) j') p && okJ m A (su t lv c) j' p (lv + 1)) := by
  have X' := X
  obtain ⟨Q, K, hnb, h12, hn, hs, hm, ht, hC1, r20, r21, r30⟩ := X'
  have t7 := hC.t 7 7 (by decide) rfl
  have t31 := hC.t 31 31 (by decide) rfl
  have t32 := hC.t 32 32 (by decide) rfl
  have n12 := ro_ne t31 t32 (by decide)
  have n71 := ro_ne t7 t31 (by decide)
  have n72 := ro_ne t7 t32 (by decide)
  intro N
  induction N with
  | zero => intro j g _ _ h; exact absurd h (Nat.not_lt_zero _)
  | succ N ih =>
    intro j g hlj hj h F BA o0 ol
    have tj := nI_t (k := j) (by omega)
    have tn := nI_t (k := n) (by omega)
    have tl := nI_t (k := lv) (by omega)
    have e1 : nI lv + 1 = nI (lv + 1) := nI_sc (by omega)
    have hu : f_X7_narrow_4 τ Z gz r (A 7) (nI lv) (cv c) (N + 1) g (nI j) = if nI n ≤ nI j then g else if cv c = -1 then f_X7_narrow_4 τ Z gz r (A 7) (nI lv) (cv c) N (va_up g (A 31) (upd (g (A 31)) ((lv + 1) * 5 + j) (g (A 31) (lv * 5 + j)))) (nI j + 1) else f_X7_narrow_4 τ Z gz r (A 7) (nI lv) (cv c) N (va_up (F_X7_barredBy τ Z g r (A 7) (nI lv) (cv c) (nI j)).2 (A 31) (upd ((F_X7_barredBy τ Z g r (A 7) (nI lv) (cv c) (nI j)).2 (A 31)) ((nI lv + 1) * 5 + nI j).toNatClampNeg (g (A 31) (nI lv * 5 + nI j).toNatClampNeg &&& ((F_X7_barredBy τ Z g r (A 7) (nI lv) (cv c) (nI j)).1 ^^^ (-1))))) (nI j + 1) := by
      conv => lhs; unfold f_X7_narrow_4
      unfold f_X7_narrow_43
      dsimp only
      rw [hC1.g 7 3 31 (by decide), F.2.2]
      by_cases z1 : nI n ≤ nI j
      · rw [if_pos z1, if_pos z1]
      · have z' := i_ltI.mp (Int32.not_le.mp z1)
        rw [if_neg z1, if_neg z1, e1, ix5 (by omega) (by omega), ix5 (by omega) (by omega)]
    rw [hu]
    by_cases c0 : nI n ≤ nI j
    · have c' := i_le.mp c0
      rw [if_pos c0]
      exact ⟨F, fun _ _ _ => rfl, fun _ _ => rfl, BA, fun j' h1 h2 => by omega⟩
    · have c' := i_ltI.mp (Int32.not_le.mp c0)
      have hjn : j < n := by omega
      rw [if_neg c0, nI_sc (by omega)]
      -- the rest, once the word of j is laid
      have go : ∀ (g2 : th_i) (w : Int32), (∀ a, a ≠ A 32 → g2 a = g a) → BAp A nb n m g2 → (∀ p, p < 32 → bt w p = (bt (m (A 61) j) p && okJ m A (su t lv c) j p (lv + 1))) → CF τ gi gr A n r (f_X7_narrow_4 τ Z gz r (A 7) (nI lv) (cv c) N (va_up g2 (A 31) (upd (g2 (A 31)) ((lv + 1) * 5 + j) w)) (nI (j + 1))) ∧ (∀ a, a ≠ A 31 → a ≠ A 32 → f_X7_narrow_4 τ Z gz r (A 7) (nI lv) (cv c) N (va_up g2 (A 31) (upd (g2 (A 31)) ((lv + 1) * 5 + j) w)) (nI (j + 1)) a = g a) ∧ (∀ x, x < (lv + 1) * 5 + j ∨ (lv + 1) * 5 + n ≤ x → f_X7_narrow_4 τ Z gz r (A 7) (nI lv) (cv c) N (va_up g2 (A 31) (upd (g2 (A 31)) ((lv + 1) * 5 + j) w)) (nI (j + 1)) (A 31) x = g (A 31) x) ∧ BAp A nb n m (f_X7_narrow_4 τ Z gz r (A 7) (nI lv) (cv c) N (va_up g2 (A 31) (upd (g2 (A 31)) ((lv + 1) * 5 + j) w)) (nI (j + 1))) ∧ ∀ j', j ≤ j' → j' < n → ∀ p, p < 32 → bt (f_X7_narrow_4 τ Z gz r (A 7) (nI lv) (cv c) N (va_up g2 (A 31) (upd (g2 (A 31)) ((lv + 1) * 5 + j) w)) (nI (j + 1)) (A 31) ((lv + 1) * 5 + j')) p = (bt (m (A 61) j') p && okJ m A (su t lv c) j' p (lv + 1)) := fun g2 w k1 k2 k3 => by
        have e31 : g2 (A 31) = g (A 31) := k1 _ n12
        have F2 : CF τ gi gr A n r (va_up g2 (A 31) (upd (g2 (A 31)) ((lv + 1) * 5 + j) w)) := F.up hC (fun a a7 a31 a32 a33 a34 => by rw [up_n a31]; exact k1 a a32) (Or.inl (by rw [up_n n71]; exact k1 _ n72))
        obtain ⟨w1, w2, w3, w4, w5⟩ := ih (j + 1) (va_up g2 (A 31) (upd (g2 (A 31)) ((lv + 1) * 5 + j) w)) (by omega) (by omega) (by omega) F2 (fun o j' b h1 h2 h3 h4 => by rw [up_n (Ne.symm n12)]; exact k2 o j' b h1 h2 h3 h4) (fun j' h1 h2 p hp => by rw [up_s, ud_n (by omega), e31]; exact o0 j' h1 h2 p hp) (fun j' h1 h2 p hp => by rw [up_s, ud_n (by omega), e31]; exact ol j' h1 h2 p hp)
        refine ⟨w1, fun a a31 a32 => by rw [w2 a a31 a32, up_n a31]; exact k1 a a32, fun x hx => by rw [w3 x (by omega), up_s, ud_n (by omega), e31], w4, fun j' h1 h2 p hp => ?_⟩
        by_cases e : j' = j
        · rw [e, w3 _ (Or.inl (by omega)), up_s, ud_s]
          exact k3 p hp
        · exact w5 j' (by omega) h2 p hp
      rcases hc with hc | ⟨hc, mc⟩
      · rw [if_pos (show cv c = -1 by unfold cv; rw [if_pos hc])]
        refine go g _ (fun _ _ => rfl) BA (fun p hp => ?_)
        rw [ol j (by omega) hjn p hp, okJ_s1, decide_eq_true hc, Bool.true_or, Bool.and_true]
      · have n12' : c ≠ 12 := by omega
        have ec : cv c = nI c := by unfold cv; rw [if_neg n12']
        have tc := nI_t (k := c) (by omega)
        rw [if_neg (show ¬ cv c = -1 from fun q => by rw [ec] at q; have := congrArg Int32.toInt q; rw [tc, k_m1] at this; omega)]
        obtain ⟨x, g', w1, w2, w3, w4⟩ := bb_sp hC X F BA (o := lv) (j := j) (b := c) (by omega) hjn hc mc (fun p hp => by
          have := o0 j (Nat.zero_le _) hjn p hp
          rw [Nat.zero_mul, Nat.zero_add] at this
          rw [this]
          show (_ && true) = _
          rw [Bool.and_true])
        rw [ec] at go ⊢
        rw [w1, e1, ix5 (by omega) (by omega), ix5 (by omega) (by omega)]
        refine go g' _ w3 w4 (fun p hp => ?_)
        rw [b_and, b_xor, b_m1 p hp, ol j (by omega) hjn p hp, okJ_s1, decide_eq_false n12', Bool.false_or]
        cases hmj : bt (m (A 61) j) p with
        | false => rw [Bool.false_and, Bool.false_and, Bool.false_and]
        | true =>
          rw [w2 p hp hmj, Bool.true_and, Bool.true_and, Bool.xor_true]
/-- at the end of a row: the better one is kept -/
theorem kb_sp {nb n : Nat} {m : th_i} {r : th_r} (hC : ro_C τ gr A) (hC1 : ro_C τ r A) {lv : Nat} {t : Nat → Nat} {g : th_i} {st : Int × (Nat → Nat)} {cnt : Int32} (hn : n ≤ 5) (hl : n ≤ lv) (h : CS τ gi gr A nb n m r lv t g st) (c0 : 0 ≤ cnt.toInt) (c5 : cnt.toInt ≤ 5) : CS τ gi gr A nb n m r lv t (F_X7_keepIfBetter τ Z g r (A 7) cnt) (lf st cnt.toInt t) := by
  obtain ⟨F, O, T, B, e1, e2, e3, e4⟩ := h
  have t7 := hC.t 7 7 (by decide) rfl
  have t31 := hC.t 31 31 (by decide) rfl
  have t32 := hC.t 32 32 (by decide) rfl
  have t33 := hC.t 33 33 (by decide) rfl
  have t34 := hC.t 34 34 (by decide) rfl
  unfold F_X7_keepIfBetter lf
  dsimp only
  rw [hC1.g 7 5 33 (by decide), hC1.g 7 6 34 (by decide)]
  by_cases c : cnt ≤ g (A 7) 7
  · have c' := i_le.mp c
    rw [if_pos c, if_neg (by omega)]
    exact ⟨F, O, T, B, e1, e2, e3, e4⟩
  · have c' := i_ltI.mp (Int32.not_le.mp c)
    rw [if_neg c, if_pos (by omega), up_n (ro_ne t33 t7 (by decide)), up_n (ro_ne t34 t7 (by decide))]
    have k7 : va_up (va_up g (A 7) (upd (g (A 7)) 7 cnt)) (A 34) (va_cpy (g (A 33)) (g (A 34)) (0 : Int32).toNatClampNeg (0 : Int32).toNatClampNeg (5 : Int32).toNatClampNeg) (A 7) = upd (g (A 7)) 7 cnt := by rw [up_n (ro_ne t7 t34 (by decide)), up_s]
    refine ⟨F.up hC (fun a a7 a31 a32 a33 a34 => by rw [up_n a34, up_n a7]) (Or.inr ⟨cnt, k7⟩), fun l hl' j h1 h2 p hp => ?_, fun j hj => ?_, fun o j b h1 h2 h3 h4 => ?_, ?_, by show -1 ≤ cnt.toInt; omega, c5, fun _ k hk => ?_⟩
    · rw [up_n (ro_ne t31 t34 (by decide)), up_n (ro_ne t31 t7 (by decide))]
      exact O l hl' j h1 h2 p hp
    · rw [up_n (ro_ne t33 t34 (by decide)), up_n (ro_ne t33 t7 (by decide))]
      exact T j hj
    · rw [up_n (ro_ne t32 t34 (by decide)), up_n (ro_ne t32 t7 (by decide))]
      exact B o j b h1 h2 h3 h4
    · rw [k7, ud_s]
    · rw [up_s]
      unfold va_cpy
      rw [if_pos ⟨Nat.zero_le _, by show k < 0 + 5; omega⟩]
      show g (A 33) (0 + (k - 0)) = _
      rw [show 0 + (k - 0) = k by omega]
      exact T k (by omega)
def SE (τ : th_t) (gi : th_i) (gr : th_r) (A : Nat → Nat) (nb n : Nat) (m : th_i) (r : th_r) (F : th_i → Int32 → Int32 → th_i) (lv : Nat) : Prop := ∀ (g : th_i) (t : Nat → Nat) (st : Int × (Nat → Nat)) (cnt : Int32), CS τ gi gr A nb n m r lv t g st → 0 ≤ cnt.toInt → cnt.toInt ≤ (lv : Int) → CS τ gi gr A nb n m r lv t (F g (nI lv) cnt) (ex (okR m A) (n - lv) lv t cnt.toInt st)
/-- b BUOYS that are not there change nothing -/
theorem exC_sk {ok : Nat → Bool} {E : (Nat → Nat) → Int → Int × (Nat → Nat) → Int × (Nat → Nat)} {t : Nat → Nat} {i : Nat} {cnt : Int} {nb : Nat} (h : ∀ p, nb ≤ p → p < 12 → ok p = false) : ∀ (k : Nat) (st : Int × (Nat → Nat)), k + nb ≤ 12 → exC E ok t i cnt k st = exC E ok t i cnt 0 st := by
  intro k
  induction k with
  | zero => intro st _; rfl
  | succ k ih =>
    intro st hk
    show exC E ok t i cnt k (if ok (11 - k) = true then E (su t i (11 - k)) (cnt + 1) st else st) = _
    rw [if_neg (by rw [h (11 - k) (by omega) (by omega)]; decide)]
    exact ih st (by omega)
theorem se_step {s : Nat → Nat} {nb n : Nat} {m : th_i} {r : th_r} (hC : ro_C τ gr A) (X : SB τ Z gi gr gm rm A s nb n m r) {lv : Nat} (hl5 : lv < 5) {F F' : th_i → Int32 → Int32 → th_i} {L : Int32 → Nat → th_i → Int32 → Int32 → th_i} (hF : ∀ g p2, F g (nI lv) p2 = if g (A 7) 2 ≤ nI lv then F_X7_keepIfBetter τ Z g r (A 7) p2 else if nI lv < 5 then (if g (A 7) 7 < p2 + F_X7_hopefulFrom τ Z g r (A 7) (nI lv) then L p2 ((12 - (0 : Int32).toInt).toNat + 1) g (g (A 31) (nI lv * 5 + nI lv).toNatClampNeg) 0 else g) else g) (hL : ∀ p2 N g x y, L p2 (N + 1) g x y = if g (A 1) 5 ≤ y then F' (F_X7_narrow τ Z (va_up g (A 33) (upd (g (A 33)) (nI lv).toNatClampNeg (-1))) r (A 7) (nI lv) (-1)) (nI lv + 1) p2 else if x >>> (y &&& 31) &&& 1 = 0 then L p2 N g x (y + 1) else L p2 N (F' (F_X7_narrow τ Z (va_up g (A 33) (upd (g (A 33)) (nI lv).toNatClampNeg y)) r (A 7) (nI lv) y) (nI lv + 1) (p2 + 1)) x (y + 1)) (IH : SE τ gi gr A nb n m r F' (lv + 1)) : SE τ gi gr A nb n m r F lv := by
  have X' := X
  obtain ⟨Q, K, hnb, h12, hn, hs, hm, ht, hC1, r20, r21, r30⟩ := X'
  have t7 := hC.t 7 7 (by decide) rfl
  have t31 := hC.t 31 31 (by decide) rfl
  have t32 := hC.t 32 32 (by decide) rfl
  have t33 := hC.t 33 33 (by decide) rfl
  have t34 := hC.t 34 34 (by decide) rfl
  have n13 := ro_ne t31 t33 (by decide)
  have n23 := ro_ne t32 t33 (by decide)
  have n73 := ro_ne t7 t33 (by decide)
  have n43 := ro_ne t34 t33 (by decide)
  have tl := nI_t (k := lv) (by omega)
  have tn := nI_t (k := n) (by omega)
  intro g t st cnt h c0 c5
  rw [hF, h.1.2.2]
  by_cases c : nI n ≤ nI lv
  · have c' := i_le.mp c
    rw [if_pos c, show n - lv = 0 by omega]
    exact kb_sp hC hC1 hn (by omega) h c0 (by omega)
  · have c' := i_ltI.mp (Int32.not_le.mp c)
    have hl : lv < n := by omega
    rw [if_neg c, if_pos (i_ltI.mpr (by rw [tl, show (5 : Int32).toInt = 5 by decide]; omega))]
    have hop : F_X7_hopefulFrom τ Z g r (A 7) (nI lv) = nI (cH (hB m A lv t) lv (n - lv)) := by
      unfold F_X7_hopefulFrom
      have := hf_4 (Z := Z) (gz := g) hC1 hn h.1.2.2 (h.2.1 lv (Nat.le_refl _)) rfl ((5 - (nI lv).toInt).toNat + 1) lv 0 (Nat.le_refl _) (by omega) (by rw [tl]; omega) (by omega)
      rw [Nat.zero_add] at this
      exact this
    have cle : cH (hB m A lv t) lv (n - lv) ≤ n - lv := by
      have := cH_mono (h := fun _ => true) (h' := hB m A lv t) (n - lv) lv (fun _ _ _ => rfl)
      rw [cH_all] at this
      exact this
    have tc := nI_t (k := cH (hB m A lv t) lv (n - lv)) (by omega)
    have es : (cnt + nI (cH (hB m A lv t) lv (n - lv))).toInt = cnt.toInt + (cH (hB m A lv t) lv (n - lv) : Int) := by rw [i_add (by rw [tc]; omega) (by rw [tc]; omega), tc]
    rw [hop]
    by_cases cp : g (A 7) 7 < cnt + nI (cH (hB m A lv t) lv (n - lv))
    rotate_left
    · rw [if_neg cp]
      have cp' : ¬ (g (A 7) 7).toInt < cnt.toInt + (cH (hB m A lv t) lv (n - lv) : Int) := fun q => cp (i_ltI.mpr (by rw [es]; exact q))
      rw [(ex_no (ok := okR m A) (h := hB m A) (fun i t c j _ q => hB_m q) (fun i t p hp q => hB_o hp q) (n - lv) lv t cnt.toInt st).1 (by rw [← h.2.2.2.2.1]; omega)]
      exact h
    rw [if_pos cp, ix5 (by omega) (by omega), show n - lv = (n - (lv + 1)) + 1 by omega]
    show CS τ gi gr A nb n m r lv t _ (exC (ex (okR m A) (n - (lv + 1)) (lv + 1)) (okR m A t lv) t lv cnt.toInt 12 st)
    -- the bits to choose from
    have CH : ∀ p, p < 32 → bt (g (A 31) (lv * 5 + lv)) p = okR m A t lv p := h.2.1 lv (Nat.le_refl _) lv (Nat.le_refl _) hl
    have okn : ∀ p, nb ≤ p → p < 12 → okR m A t lv p = false := fun p h1 h2 => by
      unfold okR
      rw [hm lv hl p (by omega)]
      unfold mbr
      rw [decide_eq_false (by omega), Bool.false_and, Bool.false_and]
    have okm : ∀ p, okR m A t lv p = true → bt (m (A 61) lv) p = true := fun p q => by
      unfold okR at q
      rw [Bool.and_eq_true] at q
      exact q.1
    generalize g (A 31) (lv * 5 + lv) = w at CH
    clear cp es tc cle hop
    -- one BUOY (or none) given, the levels behind, and back
    have deep : ∀ (g : th_i) (st : Int × (Nat → Nat)) (b : Nat) (k : Int32), CS τ gi gr A nb n m r lv t g st → (b = 12 ∨ (b < nb ∧ bt (m (A 61) lv) b = true)) → 0 ≤ k.toInt → k.toInt ≤ (lv : Int) + 1 → CS τ gi gr A nb n m r lv t (F' (F_X7_narrow τ Z (va_up g (A 33) (upd (g (A 33)) (nI lv).toNatClampNeg (cv b))) r (A 7) (nI lv) (cv b)) (nI lv + 1) k) (ex (okR m A) (n - (lv + 1)) (lv + 1) (su t lv b) k.toInt st) := fun g st b k hg hb k0 k1 => by
      obtain ⟨F0, O, T, B, e1, e2, e3, e4⟩ := hg
      have e5 : nI lv + 1 = nI (lv + 1) := nI_sc (by omega)
      have F1 : CF τ gi gr A n r (va_up g (A 33) (upd (g (A 33)) lv (cv b))) := F0.up hC (fun a a7 a31 a32 a33 a34 => up_n a33) (Or.inl (up_n n73))
      have O1 : ∀ l, l ≤ lv → OPp A n m t (va_up g (A 33) (upd (g (A 33)) lv (cv b))) l := fun l hl' j h1 h2 p hp => by
        rw [up_n n13]
        exact O l hl' j h1 h2 p hp
      obtain ⟨w1, w2, w3, w4, w5⟩ := nw_4 (gz := va_up g (A 33) (upd (g (A 33)) lv (cv b))) hC X hl hb (t := t) ((5 - (nI (lv + 1)).toInt).toNat + 1) (lv + 1) (va_up g (A 33) (upd (g (A 33)) lv (cv b))) (Nat.le_refl _) (by omega) (by rw [nI_t (by omega)]; omega) F1 (fun o j b' h1 h2 h3 h4 => by rw [up_n n23]; exact B o j b' h1 h2 h3 h4) (O1 0 (Nat.zero_le _)) (O1 lv (Nat.le_refl _))
      rw [nI_c (show lv < 2147483648 by omega)]
      have hN : F_X7_narrow τ Z (va_up g (A 33) (upd (g (A 33)) lv (cv b))) r (A 7) (nI lv) (cv b) = f_X7_narrow_4 τ Z (va_up g (A 33) (upd (g (A 33)) lv (cv b))) r (A 7) (nI lv) (cv b) ((5 - (nI (lv + 1)).toInt).toNat + 1) (va_up g (A 33) (upd (g (A 33)) lv (cv b))) (nI (lv + 1)) := by
        unfold F_X7_narrow
        dsimp only
        rw [e5]
      rw [hN, e5]
      generalize f_X7_narrow_4 τ Z (va_up g (A 33) (upd (g (A 33)) lv (cv b))) r (A 7) (nI lv) (cv b) ((5 - (nI (lv + 1)).toInt).toNat + 1) (va_up g (A 33) (upd (g (A 33)) lv (cv b))) (nI (lv + 1)) = g2 at w1 w2 w3 w4 w5 ⊢
      have q33 : g2 (A 33) = upd (g (A 33)) lv (cv b) := by rw [w2 _ (Ne.symm n13) (Ne.symm n23), up_s]
      have C1 : CS τ gi gr A nb n m r (lv + 1) (su t lv b) g2 st := by
        refine ⟨w1, fun l hl' j h1 h2 p hp => ?_, fun j hj => ?_, w4, ?_, e2, e3, fun q k hk => ?_⟩
        · by_cases e : l = lv + 1
          · subst e
            exact w5 j h1 h2 p hp
          · rw [w3 _ (Or.inl (by omega)), up_n n13, okJ_su l (by omega)]
            exact O l (by omega) j h1 h2 p hp
        · rw [q33]
          by_cases e : j = lv
          · rw [e, ud_s, su_s]
          · rw [ud_n e, su_n e]
            exact T j (by omega)
        · rw [w2 _ (ro_ne t7 t31 (by decide)) (ro_ne t7 t32 (by decide)), up_n n73]
          exact e1
        · rw [w2 _ (ro_ne t34 t31 (by decide)) (ro_ne t34 t32 (by decide)), up_n n43]
          exact e4 q k hk
      obtain ⟨v1, v2, v3, v4, v5⟩ := IH g2 (su t lv b) st k C1 k0 k1
      refine ⟨v1, fun l hl' j h1 h2 p hp => ?_, fun j hj => ?_, v4, v5⟩
      · have := v2 l (by omega) j h1 h2 p hp
        rw [okJ_su l hl'] at this
        exact this
      · have := v3 j (by omega)
        rw [su_n (by omega)] at this
        exact this
    have LP : ∀ (N y : Nat) (g : th_i) (st : Int × (Nat → Nat)), y ≤ nb → 12 - y < N → CS τ gi gr A nb n m r lv t g st → CS τ gi gr A nb n m r lv t (L cnt N g w (nI y)) (exC (ex (okR m A) (n - (lv + 1)) (lv + 1)) (okR m A t lv) t lv cnt.toInt (12 - y) st) := by
      intro N
      induction N with
      | zero => intro y g st _ h; exact absurd h (Nat.not_lt_zero _)
      | succ N ih =>
        intro y g st hy hN hg
        have ty := nI_t (k := y) (by omega)
        have tb := nI_t (k := nb) (by omega)
        obtain ⟨-, -, -, -, -, gnb, -⟩ := q_sea Q hg.1.1 hg.1.2.1
        have e0 : g (A 1) 5 = nI nb := i_inj (by rw [tb, ← hnb]; exact congrArg Int32.toInt gnb)
        rw [hL, e0]
        by_cases cy : nI nb ≤ nI y
        · have cy' := i_le.mp cy
          rw [if_pos cy, exC_sk okn (12 - y) st (by omega)]
          have := deep g st 12 cnt hg (Or.inl rfl) c0 (by omega)
          exact this
        · have cy' := i_ltI.mp (Int32.not_le.mp cy)
          rw [if_neg cy, nI_sc (by omega), show 12 - y = (11 - y) + 1 by omega]
          show CS τ gi gr A nb n m r lv t _ (exC (ex (okR m A) (n - (lv + 1)) (lv + 1)) (okR m A t lv) t lv cnt.toInt (11 - y) (if okR m A t lv (11 - (11 - y)) = true then ex (okR m A) (n - (lv + 1)) (lv + 1) (su t lv (11 - (11 - y))) (cnt.toInt + 1) st else st))
          rw [show 11 - (11 - y) = y by omega, show 11 - y = 12 - (y + 1) by omega]
          have B := bt_at (x := w) (y := nI y) (by omega) (by omega)
          rw [nI_c (by omega), CH y (by omega)] at B
          by_cases cb : w >>> (nI y &&& 31) &&& 1 = 0
          · rw [if_pos cb, if_neg (by rw [B.mp cb]; decide)]
            exact ih (y + 1) g st (by omega) (by omega) hg
          · have ok1 : okR m A t lv y = true := by
              cases hh : okR m A t lv y with
              | true => rfl
              | false => exact absurd (B.mpr hh) cb
            rw [if_neg cb, if_pos ok1]
            have ek : (cnt + 1).toInt = cnt.toInt + 1 := by rw [i_add (by rw [k_1]; omega) (by rw [k_1]; omega), k_1]
            have D := deep g st y (cnt + 1) hg (Or.inr ⟨by omega, okm y ok1⟩) (by omega) (by omega)
            rw [ek, show cv y = nI y by unfold cv; rw [if_neg (by omega)]] at D
            exact ih (y + 1) _ _ (by omega) (by omega) D
    have := LP ((12 - (0 : Int32).toInt).toNat + 1) 0 g st (Nat.zero_le _) (by decide) h
    rw [show nI 0 = 0 by decide] at this
    exact this
theorem se_5' {s : Nat → Nat} {nb n : Nat} {m : th_i} {r : th_r} (hC : ro_C τ gr A) (X : SB τ Z gi gr gm rm A s nb n m r) : SE τ gi gr A nb n m r (fun g p1 p2 => F_X7_settle_5 τ Z g r (A 7) p1 p2) 5 := fun g t st cnt h c0 c5 => by
  obtain ⟨Q, K, hnb, h12, hn, hs, hm, ht, hC1, -⟩ := X
  have tn := nI_t (k := n) (by omega)
  show CS τ gi gr A nb n m r 5 t (F_X7_settle_5 τ Z g r (A 7) (nI 5) cnt) _
  unfold F_X7_settle_5 f_X7_settle_5_13
  dsimp only
  rw [h.1.2.2, if_pos (i_le.mpr (by rw [tn, nI_t (by decide)]; omega)), show n - 5 = 0 by omega]
  exact kb_sp hC hC1 hn (by omega) h c0 (by omega)
theorem sz_4 {gz gz2 : th_i} {r : th_r} {p1 p2 : Int32} : ∀ (N : Nat) (g : th_i) (x y : Int32), f_X7_settle_4_48 τ Z gz r (A 7) p1 p2 N g x y = f_X7_settle_4_48 τ Z gz2 r (A 7) p1 p2 N g x y := by
  intro N
  induction N with
  | zero => intro g x y; rfl
  | succ N ih =>
    intro g x y
    unfold f_X7_settle_4_48 f_X7_settle_4_94
    dsimp only
    simp only [ih]
theorem sz_3 {gz gz2 : th_i} {r : th_r} {p1 p2 : Int32} : ∀ (N : Nat) (g : th_i) (x y : Int32), f_X7_settle_3_48 τ Z gz r (A 7) p1 p2 N g x y = f_X7_settle_3_48 τ Z gz2 r (A 7) p1 p2 N g x y := by
  intro N
  induction N with
  | zero => intro g x y; rfl
  | succ N ih =>
    intro g x y
    unfold f_X7_settle_3_48 f_X7_settle_3_94
    dsimp only
    simp only [ih]
theorem sz_2 {gz gz2 : th_i} {r : th_r} {p1 p2 : Int32} : ∀ (N : Nat) (g : th_i) (x y : Int32), f_X7_settle_2_48 τ Z gz r (A 7) p1 p2 N g x y = f_X7_settle_2_48 τ Z gz2 r (A 7) p1 p2 N g x y := by
  intro N
  induction N with
  | zero => intro g x y; rfl
  | succ N ih =>
    intro g x y
    unfold f_X7_settle_2_48 f_X7_settle_2_94
    dsimp only
    simp only [ih]
theorem sz_1 {gz gz2 : th_i} {r : th_r} {p1 p2 : Int32} : ∀ (N : Nat) (g : th_i) (x y : Int32), f_X7_settle_1_48 τ Z gz r (A 7) p1 p2 N g x y = f_X7_settle_1_48 τ Z gz2 r (A 7) p1 p2 N g x y := by
  intro N
  induction N with
  | zero => intro g x y; rfl
  | succ N ih =>
    intro g x y
    unfold f_X7_settle_1_48 f_X7_settle_1_94
    dsimp only
    simp only [ih]
theorem sz_0 {gz gz2 : th_i} {r : th_r} {p1 p2 : Int32} : ∀ (N : Nat) (g : th_i) (x y : Int32), f_X7_settle_0_48 τ Z gz r (A 7) p1 p2 N g x y = f_X7_settle_0_48 τ Z gz2 r (A 7) p1 p2 N g x y := by
  intro N
  induction N with
  | zero => intro g x y; rfl
  | succ N ih =>
    intro g x y
    unfold f_X7_settle_0_48 f_X7_settle_0_94
    dsimp only
    simp only [ih]
theorem se_4' {s : Nat → Nat} {nb n : Nat} {m : th_i} {r : th_r} (hC : ro_C τ gr A) (X : SB τ Z gi gr gm rm A s nb n m r) : SE τ gi gr A nb n m r (fun g p1 p2 => F_X7_settle_4 τ Z g r (A 7) p1 p2) 4 := by
  have hC1 := X.2.2.2.2.2.2.2.2.1
  refine se_step (L := fun p2 N g x y => f_X7_settle_4_48 τ Z gi r (A 7) (nI 4) p2 N g x y) hC X (by decide) (fun g p2 => ?_) (fun p2 N g x y => ?_) (se_5' hC X)
  · unfold F_X7_settle_4 f_X7_settle_4_13
    dsimp only
    rw [hC1.g 7 3 31 (by decide), sz_4 (gz2 := gi)]
  · conv => lhs; unfold f_X7_settle_4_48
    unfold f_X7_settle_4_94
    dsimp only
    rw [hC1.g 7 0 1 (by decide), hC1.g 7 5 33 (by decide)]
theorem se_3' {s : Nat → Nat} {nb n : Nat} {m : th_i} {r : th_r} (hC : ro_C τ gr A) (X : SB τ Z gi gr gm rm A s nb n m r) : SE τ gi gr A nb n m r (fun g p1 p2 => F_X7_settle_3 τ Z g r (A 7) p1 p2) 3 := by
  have hC1 := X.2.2.2.2.2.2.2.2.1
  refine se_step (L := fun p2 N g x y => f_X7_settle_3_48 τ Z gi r (A 7) (nI 3) p2 N g x y) hC X (by decide) (fun g p2 => ?_) (fun p2 N g x y => ?_) (se_4' hC X)
  · unfold F_X7_settle_3 f_X7_settle_3_13
    dsimp only
    rw [hC1.g 7 3 31 (by decide), sz_3 (gz2 := gi)]
  · conv => lhs; unfold f_X7_settle_3_48
    unfold f_X7_settle_3_94
    dsimp only
    rw [hC1.g 7 0 1 (by decide), hC1.g 7 5 33 (by decide)]
theorem se_2' {s : Nat → Nat} {nb n : Nat} {m : th_i} {r : th_r} (hC : ro_C τ gr A) (X : SB τ Z gi gr gm rm A s nb n m r) : SE τ gi gr A nb n m r (fun g p1 p2 => F_X7_settle_2 τ Z g r (A 7) p1 p2) 2 := by
  have hC1 := X.2.2.2.2.2.2.2.2.1
  refine se_step (L := fun p2 N g x y => f_X7_settle_2_48 τ Z gi r (A 7) (nI 2) p2 N g x y) hC X (by decide) (fun g p2 => ?_) (fun p2 N g x y => ?_) (se_3' hC X)
  · unfold F_X7_settle_2 f_X7_settle_2_13
    dsimp only
    rw [hC1.g 7 3 31 (by decide), sz_2 (gz2 := gi)]
  · conv => lhs; unfold f_X7_settle_2_48
    unfold f_X7_settle_2_94
    dsimp only
    rw [hC1.g 7 0 1 (by decide), hC1.g 7 5 33 (by decide)]
theorem se_1' {s : Nat → Nat} {nb n : Nat} {m : th_i} {r : th_r} (hC : ro_C τ gr A) (X : SB τ Z gi gr gm rm A s nb n m r) : SE τ gi gr A nb n m r (fun g p1 p2 => F_X7_settle_1 τ Z g r (A 7) p1 p2) 1 := by
  have hC1 := X.2.2.2.2.2.2.2.2.1
  refine se_step (L := fun p2 N g x y => f_X7_settle_1_48 τ Z gi r (A 7) (nI 1) p2 N g x y) hC X (by decide) (fun g p2 => ?_) (fun p2 N g x y => ?_) (se_2' hC X)
  · unfold F_X7_settle_1 f_X7_settle_1_13
    dsimp only
    rw [hC1.g 7 3 31 (by decide), sz_1 (gz2 := gi)]
  · conv => lhs; unfold f_X7_settle_1_48
    unfold f_X7_settle_1_94
    dsimp only
    rw [hC1.g 7 0 1 (by decide), hC1.g 7 5 33 (by decide)]
theorem se_0' {s : Nat → Nat} {nb n : Nat} {m : th_i} {r : th_r} (hC : ro_C τ gr A) (X : SB τ Z gi gr gm rm A s nb n m r) : SE τ gi gr A nb n m r (fun g p1 p2 => F_X7_settle_0 τ Z g r (A 7) p1 p2) 0 := by
  have hC1 := X.2.2.2.2.2.2.2.2.1
  refine se_step (L := fun p2 N g x y => f_X7_settle_0_48 τ Z gi r (A 7) (nI 0) p2 N g x y) hC X (by decide) (fun g p2 => ?_) (fun p2 N g x y => ?_) (se_1' hC X)
  · unfold F_X7_settle_0 f_X7_settle_0_13
    dsimp only
    rw [hC1.g 7 3 31 (by decide), sz_0 (gz2 := gi)]
  · conv => lhs; unfold f_X7_settle_0_48
    unfold f_X7_settle_0_94
    dsimp only
    rw [hC1.g 7 0 1 (by decide), hC1.g 7 5 33 (by decide)]
end CM
