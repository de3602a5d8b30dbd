/-! ===== the class's search is the plain one ===== -/
section CL
variable {τ τ1 : th_t} {Z : th_Zt} {gi gi1 gm gm2 : th_i} {gr gr1 rm rm2 : th_r} {A : Nat → Nat} {M1 M2 : List Nat}
/-- what the search rests on: who is asked (s), the tables (m) -/
def SB (τ : th_t) (Z : th_Zt) (gi : th_i) (gr : th_r) (gm : th_i) (rm : th_r) (A : Nat → Nat) (s : Nat → Nat) (nb n : Nat) (m : th_i) (r : th_r) : Prop := q_all τ Z gi gr gm rm A ∧ c_core τ gi gr gm A ∧ (gm (A 12) 0).toInt = (nb : Int) ∧ nb ≤ 12 ∧ n ≤ 5 ∧ (∀ i, i < n → ((s i : Nat) : Int) < (gm (A 12) 8).toInt ∧ gi (A 24) (s i) = -1) ∧ (∀ j, j < n → ∀ p, p < 32 → bt (m (A 61) j) p = mbr τ Z gi gr A (s j) nb p) ∧ (∀ i p j, i < n → p < nb → j < i → ttb τ Z gi gr A s nb (m (A 61)) (m (A 64)) i p j) ∧ ro_C τ r A ∧ r (A 20) = gr (A 20) ∧ r (A 21) = gr (A 21) ∧ ∀ i, i < n → r (A 30) i = some (Bc gr A (s i))
/-- the pictures on the way -/
def CF (τ : th_t) (gi : th_i) (gr : th_r) (A : Nat → Nat) (n : Nat) (r : th_r) (g : th_i) : Prop := th_Mod sM τ gi gr g r ∧ th_J τ g r ∧ g (A 7) 2 = nI n
def OPp (A : Nat → Nat) (n : Nat) (m : th_i) (t : Nat → Nat) (g : th_i) (l : Nat) : Prop := ∀ j, l ≤ j → j < n → ∀ p, p < 32 → bt (g (A 31) (l * 5 + j)) p = (bt (m (A 61) j) p && okJ m A t j p l)
def BAp (A : Nat → Nat) (nb n : Nat) (m : th_i) (g : th_i) : Prop := ∀ o j b, o < j → j < n → b < nb → bt (m (A 61) o) b = true → g (A 32) ((o * 12 + b) * 5 + j) = -1 ∨ ∀ p, p < 32 → bt (m (A 61) j) p = true → bt (g (A 32) ((o * 12 + b) * 5 + j)) p = bt (m (A 64) (5 * (12 * j + p) + o)) b
def BEp (A : Nat → Nat) (n : Nat) (g : th_i) (st : Int × (Nat → Nat)) : Prop := (g (A 7) 7).toInt = st.1 ∧ -1 ≤ st.1 ∧ st.1 ≤ 5 ∧ (0 ≤ st.1 → ∀ k, k < n → g (A 34) k = cv (st.2 k))
def CS (τ : th_t) (gi : th_i) (gr : th_r) (A : Nat → Nat) (nb n : Nat) (m : th_i) (r : th_r) (lv : Nat) (t : Nat → Nat) (g : th_i) (st : Int × (Nat → Nat)) : Prop := CF τ gi gr A n r g ∧ (∀ l, l ≤ lv → OPp A n m t g l) ∧ (∀ j, j < lv → g (A 33) j = cv (t j)) ∧ BAp A nb n m g ∧ BEp A n g st
theorem ix5 {l j : Nat} (hl : l ≤ 5) (hj : j < 5) : (nI l * 5 + nI j : Int32).toNatClampNeg = l * 5 + j := by
  have a := nI_t (k := l) (by omega)
  have c := nI_t (k := j) (by omega)
  have k5 : (5 : Int32).toInt = 5 := by decide
  have e1 : (nI l * 5 : Int32).toInt = (l : Int) * 5 := by rw [i_mul (by rw [k5, a]; omega) (by rw [k5, a]; omega), k5, a]
  refine cl_in ?_
  rw [i_add (by rw [e1, c]; omega) (by rw [e1, c]; omega), e1, c]
  omega
theorem ixb {o b j : Nat} (ho : o < 5) (hb : b < 12) (hj : j < 5) : ((nI o * 12 + nI b) * 5 + nI j : Int32).toNatClampNeg = (o * 12 + b) * 5 + j := by
  have a := nI_t (k := o) (by omega)
  have b' := nI_t (k := b) (by omega)
  have c := nI_t (k := j) (by omega)
  have k5 : (5 : Int32).toInt = 5 := by decide
  have e1 : (nI o * 12 : Int32).toInt = (o : Int) * 12 := by rw [i_mul (by rw [k_12, a]; omega) (by rw [k_12, a]; omega), k_12, a]
  have e2 : (nI o * 12 + nI b : Int32).toInt = (o : Int) * 12 + b := by rw [i_add (by rw [e1, b']; omega) (by rw [e1, b']; omega), e1, b']
  have e3 : ((nI o * 12 + nI b) * 5 : Int32).toInt = ((o : Int) * 12 + b) * 5 := by rw [i_mul (by rw [k5, e2]; omega) (by rw [k5, e2]; omega), k5, e2]
  refine cl_in ?_
  rw [i_add (by rw [e3, c]; omega) (by rw [e3, c]; omega), e3, c]
  omega
theorem cf_J (hC : ro_C τ gr A) {r : th_r} {g g' : th_i} (J : th_J τ g r) (h : ∀ a, a ≠ A 7 → a ≠ A 31 → a ≠ A 32 → a ≠ A 33 → a ≠ A 34 → g' a = g a) (h7 : g' (A 7) = g (A 7) ∨ ∃ c, g' (A 7) = upd (g (A 7)) 7 c) : th_J τ g' r := fun a ha => by
  have t7 := hC.t 7 7 (by decide) rfl
  by_cases e : a = A 7
  · subst e
    rw [t7]
    have X := J.at t7 (by decide)
    rcases h7 with q | ⟨c, q⟩
    · rw [q]
      exact X
    · rw [q]
      exact I7b X
  · by_cases e1 : a = A 31
    · subst e1
      rw [hC.t 31 31 (by decide) rfl]
      exact trivial
    · by_cases e2 : a = A 32
      · subst e2
        rw [hC.t 32 32 (by decide) rfl]
        exact trivial
      · by_cases e3 : a = A 33
        · subst e3
          rw [hC.t 33 33 (by decide) rfl]
          exact trivial
        · by_cases e4 : a = A 34
          · subst e4
            rw [hC.t 34 34 (by decide) rfl]
            exact trivial
          · rw [h a e e1 e2 e3 e4]
            exact J a ha
theorem cf_M (hC : ro_C τ gr A) {r : th_r} {g g' : th_i} (M : th_Mod sM τ gi gr g r) (h : ∀ a, a ≠ A 7 → a ≠ A 31 → a ≠ A 32 → a ≠ A 33 → a ≠ A 34 → g' a = g a) (h7 : ∀ j, j ≠ 2 → j ≠ 7 → g' (A 7) j = g (A 7) j) : th_Mod sM τ gi gr g' r := fun b j hb hk => by
  have t7 := hC.t 7 7 (by decide) rfl
  obtain ⟨k1, k2⟩ := M b j hb hk
  refine ⟨?_, k2⟩
  rw [← k1]
  by_cases e : b = A 7
  · subst e
    exact h7 j (fun q => hk (by rw [q, t7]; show (702 : Nat) ∈ _; decide)) (fun q => hk (by rw [q, t7]; show (707 : Nat) ∈ _; decide))
  · by_cases e1 : b = A 31
    · subst e1
      exact absurd (show th_key (τ (A 31)) j ∈ sM by rw [hC.t 31 31 (by decide) rfl]; show (3100 : Nat) ∈ _; decide) hk
    · by_cases e2 : b = A 32
      · subst e2
        exact absurd (show th_key (τ (A 32)) j ∈ sM by rw [hC.t 32 32 (by decide) rfl]; show (3200 : Nat) ∈ _; decide) hk
      · by_cases e3 : b = A 33
        · subst e3
          exact absurd (show th_key (τ (A 33)) j ∈ sM by rw [hC.t 33 33 (by decide) rfl]; show (3300 : Nat) ∈ _; decide) hk
        · by_cases e4 : b = A 34
          · subst e4
            exact absurd (show th_key (τ (A 34)) j ∈ sM by rw [hC.t 34 34 (by decide) rfl]; show (3400 : Nat) ∈ _; decide) hk
          · rw [h b e e1 e2 e3 e4]
theorem CF.up (hC : ro_C τ gr A) {n : Nat} {r : th_r} {g g' : th_i} (F : CF τ gi gr A n r g) (h : ∀ a, a ≠ A 7 → a ≠ A 31 → a ≠ A 32 → a ≠ A 33 → a ≠ A 34 → g' a = g a) (h7 : g' (A 7) = g (A 7) ∨ ∃ c, g' (A 7) = upd (g (A 7)) 7 c) : CF τ gi gr A n r g' := by
  obtain ⟨f1, f2, f3⟩ := F
  have k : ∀ j, j ≠ 7 → g' (A 7) j = g (A 7) j := fun j hj => by
    rcases h7 with q | ⟨c, q⟩
    · rw [q]
    · rw [q, ud_n hj]
  exact ⟨cf_M hC f1 h (fun j _ hj => k j hj), cf_J hC f2 h h7, by rw [k 2 (by decide)]; exact f3⟩
/-- the touching in a picture on the way -/
theorem ft_way {s : Nat → Nat} {nb n : Nat} {m : th_i} {r : th_r} (X : SB τ Z gi gr gm rm A s nb n m r) {g : th_i} (F : CF τ gi gr A n r g) {i p j q : Nat} (hi : i < n) (hp : p < nb) (hj : j < n) (hq : q < nb) : F_X0_firstTouch τ Z g r (A 1) (Bc gr A (s i)) (Uc gr A p) (Bc gr A (s j)) (Uc gr A q) = F_X0_firstTouch τ Z gi gr (A 1) (Bc gr A (s i)) (Uc gr A p) (Bc gr A (s j)) (Uc gr A q) := by
  obtain ⟨Q, K, hnb, h12, hn, hs, -, -, hC1, r20, r21, -⟩ := X
  have Qg := q_sea Q F.1 F.2.1
  have e1 := (ft_ref Qg (k := s i) (p := p) (l := s j) (q := q) (hs i hi).1 (by rw [hnb]; omega) (hs j hj).1 (by rw [hnb]; omega)).1
  have e2 := (ft_ref Q (k := s i) (p := p) (l := s j) (q := q) (hs i hi).1 (by rw [hnb]; omega) (hs j hj).1 (by rw [hnb]; omega)).1
  unfold Bc Uc at e1
  rw [r20, r21] at e1
  rw [e2]
  exact e1
/-- what one takes from another -/
theorem bb_82 {s : Nat → Nat} {nb n : Nat} {m : th_i} {r : th_r} (hC : ro_C τ gr A) (X : SB τ Z gi gr gm rm A s nb n m r) {g gz : th_i} (F : CF τ gi gr A n r g) {o j b : Nat} (ho : o < j) (hj : j < n) (hb : b < nb) (op : ∀ p, p < 32 → bt (g (A 31) j) p = bt (m (A 61) j) p) {x4 : Int32} {sl : Nat} (hsl : x4.toNatClampNeg = sl) : ∀ (N y : Nat) (acc : Int32), y ≤ nb → 12 - y < N → (∀ q, q < 32 → bt acc q = tcr τ Z gi gr A (m (A 61)) (s o) (s j) b j y q) → ∃ x, f_X7_barredBy_82 τ Z gz r (A 7) (nI o) (nI b) (nI j) N g x4 (Bc gr A (s o)) (Bc gr A (s j)) (Uc gr A b) acc (nI y) = (x, va_up g (A 32) (upd (g (A 32)) sl x)) ∧ ∀ q, q < 32 → bt x q = tcr τ Z gi gr A (m (A 61)) (s o) (s j) b j nb q := by
  have X' := X
  obtain ⟨Q, K, hnb, h12, hn, hs, hm, ht, hC1, r20, r21, r30⟩ := X'
  have Qg := q_sea Q F.1 F.2.1
  obtain ⟨gJ, -, -, -, gno, gnb, -, -, gcu, -⟩ := id Qg
  have gn12 := n_p gJ hC1
  have e0 : g (A 1) 5 = nI nb := i_inj (by rw [nI_t (by omega), ← hnb]; exact congrArg Int32.toInt gnb)
  intro N
  induction N with
  | zero => intro y acc _ h; exact absurd h (Nat.not_lt_zero _)
  | succ N ih =>
    intro y acc hy h ha
    have ty := nI_t (k := y) (by omega)
    have tn := nI_t (k := nb) (by omega)
    unfold f_X7_barredBy_82 f_X7_barredBy_118 f_X7_barredBy_119
    dsimp only
    rw [hC1.g 7 0 1 (by decide), hC1.g 7 4 32 (by decide), hC1.g 7 3 31 (by decide), e0, nI_c (show j < 2147483648 by omega), hsl]
    by_cases c : nI nb ≤ nI y
    · have c' := i_le.mp c
      have : y = nb := by omega
      subst this
      rw [if_pos c]
      exact ⟨acc, rfl, ha⟩
    · have c' := i_ltI.mp (Int32.not_le.mp c)
      have hyn : y < nb := by omega
      rw [if_neg c, if_pos rfl, if_neg (show ¬ (1 : Int32) = 0 by decide)]
      have skip : (∀ q, q < 32 → q = y → tcr τ Z gi gr A (m (A 61)) (s o) (s j) b j (y + 1) q = tcr τ Z gi gr A (m (A 61)) (s o) (s j) b j y q) → ∀ q, q < 32 → bt acc q = tcr τ Z gi gr A (m (A 61)) (s o) (s j) b j (y + 1) q := fun w q hq => by
        rw [ha q hq]
        by_cases e : q = y
        · exact (w q hq e).symm
        · unfold tcr
          rw [decide_eq_decide.mpr (show q < y ↔ q < y + 1 by omega)]
      have none_ : f_X7_barredBy_139 τ Z gz r (A 7) (nI o) (nI b) (nI j) g x4 (Bc gr A (s o)) (Bc gr A (s j)) (Uc gr A b) acc (nI y) (f_X7_barredBy_82 τ Z gz r (A 7) (nI o) (nI b) (nI j) N) g none = f_X7_barredBy_82 τ Z gz r (A 7) (nI o) (nI b) (nI j) N g x4 (Bc gr A (s o)) (Bc gr A (s j)) (Uc gr A b) acc (nI (y + 1)) := by
        unfold f_X7_barredBy_139 f_X7_barredBy_174
        dsimp only
        rw [nI_sc (by omega)]
        rfl
      have B := bt_at (x := g (A 31) j) (y := nI y) (by omega) (by omega)
      rw [nI_c (by omega), op y (by omega)] at B
      by_cases c1 : nI y = nI b
      · have ey : y = b := nI_inj (by omega) (by omega) c1
        rw [if_pos c1, none_]
        refine ih (y + 1) acc (by omega) (by omega) (skip (fun q _ e => ?_))
        unfold tcr
        rw [e, ey, decide_eq_true (show b = b from rfl), Bool.true_or, Bool.true_or]
      · have ny : y ≠ b := fun e => c1 (by rw [e])
        rw [if_neg c1]
        by_cases c2 : g (A 31) j >>> (nI y &&& 31) &&& 1 = 0
        · rw [if_pos c2, none_]
          refine ih (y + 1) acc (by omega) (by omega) (skip (fun q _ e => ?_))
          unfold tcr
          rw [e, B.mp c2, Bool.false_and, Bool.and_false, Bool.and_false]
        · rw [if_neg c2]
          have b1 : bt (m (A 61) j) y = true := by
            cases hb' : bt (m (A 61) j) y with
            | true => rfl
            | false => exact absurd (B.mpr hb') c2
          have uy := (u_Uc gcu (p := y) (by rw [hnb]; omega)).1
          unfold Uc at uy
          rw [r20] at uy
          rw [bu_g hC1 gn12 (by omega) (by rw [e0, tn]; omega), nI_c (by omega), r20, uy]
          unfold f_X7_barredBy_139 f_X7_barredBy_174
          dsimp only
          rw [hC1.g 7 0 1 (by decide), nI_sc (by omega)]
          simp only [Option.elim_some]
          have ft := ft_way X F (i := o) (p := b) (j := j) (q := y) (by omega) hb hj hyn
          have eU : Uc gr A y = (gr (A 20) y).getD 0 := rfl
          rw [← eU, ft]
          by_cases c3 : F_X0_firstTouch τ Z gi gr (A 1) (Bc gr A (s o)) (Uc gr A b) (Bc gr A (s j)) (Uc gr A y) = -1
          · rw [if_pos c3]
            refine ih (y + 1) acc (by omega) (by omega) (skip (fun q _ e => ?_))
            unfold tcr tcb
            rw [e, decide_eq_false (show ¬ ¬ F_X0_firstTouch τ Z gi gr (A 1) (Bc gr A (s o)) (Uc gr A b) (Bc gr A (s j)) (Uc gr A y) = -1 from fun z => z c3), Bool.and_false, Bool.and_false, Bool.and_false, Bool.and_false]
          · rw [if_neg c3]
            refine ih (y + 1) _ (by omega) (by omega) (fun q hq => ?_)
            rw [bt_set (by omega) (by omega) hq, nI_c (by omega), ha q hq]
            unfold tcr
            by_cases e : q = y
            · rw [e, b1, decide_eq_true (show y = y from rfl), Bool.or_true, decide_eq_true (show y < y + 1 by omega), decide_eq_true ny]
              unfold tcb
              rw [decide_eq_true c3]
              simp
            · rw [decide_eq_false e, Bool.or_false, decide_eq_decide.mpr (show q < y ↔ q < y + 1 by omega)]
/-- the class's bars are the reference's -/
theorem tc_eq {s : Nat → Nat} {nb n : Nat} {m : th_i} {r : th_r} (X : SB τ Z gi gr gm rm A s nb n m r) {o j b p : Nat} (ho : o < j) (hj : j < n) (hb : b < nb) (mo : bt (m (A 61) o) b = true) (hp : p < 32) (mj : bt (m (A 61) j) p = true) : p < nb ∧ tcr τ Z gi gr A (m (A 61)) (s o) (s j) b j nb p = bt (m (A 64) (5 * (12 * j + p) + o)) b := by
  obtain ⟨Q, K, hnb, h12, hn, hs, hm, ht, -⟩ := X
  have pn : p < nb := by
    rw [hm j hj p hp] at mj
    unfold mbr at mj
    rw [Bool.and_eq_true] at mj
    exact of_decide_eq_true mj.1
  refine ⟨pn, ?_⟩
  rw [ht j p o hj pn ho mj b (by omega)]
  unfold tcr tcb
  rw [mj, mo, decide_eq_true pn, decide_eq_true hb, (ft_ref Q (k := s o) (p := b) (l := s j) (q := p) (hs o (by omega)).1 (by rw [hnb]; omega) (hs j hj).1 (by rw [hnb]; omega)).2.2, decide_eq_decide.mpr (show p = b ↔ b = p from ⟨Eq.symm, Eq.symm⟩), decide_eq_decide.mpr (show ¬ p = b ↔ ¬ b = p from ⟨fun h e => h e.symm, fun h e => h e.symm⟩)]
theorem m1_12 {s : Nat → Nat} {nb : Nat} (h12 : nb ≤ 12) {k l b j : Nat} {may : Nat → Int32} (hb : b < nb) {x : Int32} (h : ∀ q, q < 32 → bt x q = tcr τ Z gi gr A may k l b j nb q) : x ≠ -1 := fun e => by
  have := h 31 (by decide)
  rw [e, b_m1 31 (by decide)] at this
  unfold tcr at this
  rw [decide_eq_false (show ¬ 31 = b by omega), decide_eq_false (show ¬ 31 < nb by omega)] at this
  exact absurd this (by simp)
theorem bb_sp {s : Nat → Nat} {nb n : Nat} {m : th_i} {r : th_r} (hC : ro_C τ gr A) (X : SB τ Z gi gr gm rm A s nb n m r) {g : th_i} (F : CF τ gi gr A n r g) (BA : BAp A nb n m g) {o j b : Nat} (ho : o < j) (hj : j < n) (hb : b < nb) (mo : bt (m (A 61) o) b = true) (op : ∀ p, p < 32 → bt (g (A 31) j) p = bt (m (A 61) j) p) : ∃ x g', F_X7_barredBy τ Z g r (A 7) (nI o) (nI b) (nI j) = (x, g') ∧ (∀ p, p < 32 → bt (m (A 61) j) p = true → bt x p = bt (m (A 64) (5 * (12 * j + p) + o)) b) ∧ (∀ a, a ≠ A 32 → g' a = g a) ∧ BAp A nb n m g' := by
  have X' := X
  obtain ⟨Q, K, hnb, h12, hn, hs, hm, ht, hC1, r20, r21, r30⟩ := X'
  have Qg := q_sea Q F.1 F.2.1
  obtain ⟨gJ, -, -, -, gno, gnb, -, -, gcu, -⟩ := id Qg
  have gn12 := n_p gJ hC1
  have e0 : g (A 1) 5 = nI nb := i_inj (by rw [nI_t (by omega), ← hnb]; exact congrArg Int32.toInt gnb)
  have tb := nI_t (k := b) (by omega)
  have tn := nI_t (k := nb) (by omega)
  have ix := ixb (o := o) (b := b) (j := j) (by omega) (by omega) (by omega)
  unfold F_X7_barredBy
  dsimp only
  rw [hC1.g 7 4 32 (by decide), hC1.g 7 1 30 (by decide), hC1.g 7 0 1 (by decide), ix, nI_c (show o < 2147483648 by omega), nI_c (show j < 2147483648 by omega), r30 o (by omega), r30 j hj]
  by_cases c : g (A 32) ((o * 12 + b) * 5 + j) = -1
  · rw [if_pos c]
    have ub := (u_Uc gcu (p := b) (by rw [hnb]; omega)).1
    unfold Uc at ub
    rw [r20] at ub
    rw [bu_g hC1 gn12 (by omega) (by rw [e0, tn, tb]; omega), nI_c (by omega), r20, ub]
    simp only [Option.elim_some]
    have eU : Uc gr A b = (gr (A 20) b).getD 0 := rfl
    rw [← eU]
    obtain ⟨x, w1, w2⟩ := bb_82 (gz := g) hC X F ho hj hb op ix ((12 - (0 : Int32).toInt).toNat + 1) 0 (1 <<< (nI b &&& 31)) (Nat.zero_le _) (by decide) (fun q hq => by
      have s' := bt_set (x := 0) (y := nI b) (b := q) (by omega) (by omega) hq
      rw [b_or, b_0, Bool.false_or, Bool.false_or, nI_c (by omega)] at s'
      rw [s']
      unfold tcr
      rw [decide_eq_false (Nat.not_lt_zero q), Bool.false_and, Bool.or_false])
    rw [show nI 0 = 0 by decide] at w1
    have good : ∀ p, p < 32 → bt (m (A 61) j) p = true → bt x p = bt (m (A 64) (5 * (12 * j + p) + o)) b := fun p hp mj => by
      rw [w2 p hp]
      exact (tc_eq X ho hj hb mo hp mj).2
    refine ⟨x, _, w1, good, fun a ha => up_n ha, fun o' j' b' h1 h2 h3 h4 => ?_⟩
    rw [up_s]
    by_cases e : (o' * 12 + b') * 5 + j' = (o * 12 + b) * 5 + j
    · have e1 : j' = j := by omega
      have e2 : b' = b := by omega
      have e3 : o' = o := by omega
      rw [e1, e2, e3, ud_s]
      exact Or.inr good
    · rw [ud_n e]
      exact BA o' j' b' h1 h2 h3 h4
  · rw [if_neg c]
    exact ⟨_, g, rfl, (BA o j b ho hj hb mo).resolve_left c, fun _ _ => rfl, BA⟩
end CL
