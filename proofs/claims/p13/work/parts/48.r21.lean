/-! ===== bits (the first rows are the kit's, to paste) ===== -/
def bt (x : Int32) (i : Nat) : Bool := x.toBitVec.getLsbD i
theorem b_ext {x y : Int32} (h : ∀ i, i < 32 → bt x i = bt y i) : x = y := Int32.toBitVec_inj.mp (BitVec.eq_of_getLsbD_eq (fun i hi => h i hi))
theorem b_or (x y : Int32) (i : Nat) : bt (x ||| y) i = (bt x i || bt y i) := by unfold bt; rw [Int32.toBitVec_or, BitVec.getLsbD_or]
theorem b_and (x y : Int32) (i : Nat) : bt (x &&& y) i = (bt x i && bt y i) := by unfold bt; rw [Int32.toBitVec_and, BitVec.getLsbD_and]
theorem b_xor (x y : Int32) (i : Nat) : bt (x ^^^ y) i = (bt x i ^^ bt y i) := by unfold bt; rw [Int32.toBitVec_xor, BitVec.getLsbD_xor]
theorem b_m1 : ∀ i, i < 32 → bt (-1) i = true := by decide +kernel
theorem b_0 (i : Nat) : bt 0 i = false := BitVec.getLsbD_zero
theorem s_l : ∀ n, n < 32 → ((nI n &&& 31).toBitVec.smod 32).toNat = n := by decide +kernel
theorem b_shl (n : Nat) (hn : n < 32) (x : Int32) {i : Nat} (hi : i < 32) : bt (x <<< (nI n &&& 31)) i = (decide (n ≤ i) && bt x (i - n)) := by
  unfold bt
  rw [Int32.toBitVec_shiftLeft]
  show (x.toBitVec <<< ((nI n &&& 31).toBitVec.smod 32).toNat).getLsbD i = _
  rw [s_l n hn, BitVec.getLsbD_shiftLeft]
  rcases Nat.lt_or_ge i n with h | h
  · simp [h, Nat.not_le.mpr h]
  · simp [hi, h, Nat.not_lt.mpr h]
theorem b_sshr (n : Nat) (hn : n < 32) (x : Int32) {i : Nat} (hi : i < 32) : bt (x >>> (nI n &&& 31)) i = if n + i < 32 then bt x (n + i) else bt x 31 := by
  unfold bt
  rw [Int32.toBitVec_shiftRight]
  show (x.toBitVec.sshiftRight ((nI n &&& 31).toBitVec.smod 32).toNat).getLsbD i = _
  rw [s_l n hn, BitVec.getLsbD_sshiftRight, BitVec.msb_eq_getLsbD_last]
  simp [hi]
theorem b_1 : ∀ i, i < 32 → bt 1 i = decide (i = 0) := by decide +kernel
theorem nI_t {k : Nat} (h : k < 2147483648) : (nI k).toInt = (k : Int) := Int32.toInt_ofNat_of_lt h
theorem nI_c {k : Nat} (h : k < 2147483648) : (nI k).toNatClampNeg = k := cl_in (nI_t h).symm
theorem nI_cl {v : Int32} (h : 0 ≤ v.toInt) : nI v.toNatClampNeg = v := i_inj (by
  have := i_cl h
  have := v.toInt_lt
  rw [nI_t (by omega)]
  omega)
/-- a bit looked at, laid, taken away -/
theorem bt_at {x y : Int32} (h0 : 0 ≤ y.toInt) (h1 : y.toInt < 32) : (x >>> (y &&& 31) &&& 1 = 0) ↔ bt x y.toNatClampNeg = false := by
  have cy := i_cl h0
  rw [← nI_cl h0, nI_c (by omega)]
  have k := b_sshr y.toNatClampNeg (by omega) x (i := 0) (by decide)
  rw [if_pos (by omega)] at k
  constructor
  · intro h
    have e := congrArg (fun z => bt z 0) h
    rw [b_and, b_0, b_1 0 (by decide), k] at e
    simpa using e
  · intro h
    refine b_ext (fun i hi => ?_)
    rw [b_and, b_0, b_1 i hi]
    by_cases e : i = 0
    · subst e
      rw [k]
      simp only [Nat.add_zero]
      rw [h]
      rfl
    · rw [decide_eq_false e, Bool.and_false]
theorem bt_set {x y : Int32} {b : Nat} (h0 : 0 ≤ y.toInt) (h1 : y.toInt < 32) (hb : b < 32) : bt (x ||| 1 <<< (y &&& 31)) b = (bt x b || decide (b = y.toNatClampNeg)) := by
  have cy := i_cl h0
  rw [b_or]
  congr 1
  rw [← nI_cl h0, nI_c (by omega), b_shl _ (by omega) 1 hb]
  by_cases c : y.toNatClampNeg ≤ b
  · rw [decide_eq_true c, Bool.true_and, b_1 _ (by omega)]
    by_cases e : b = y.toNatClampNeg
    · rw [decide_eq_true e, decide_eq_true (by omega)]
    · rw [decide_eq_false e, decide_eq_false (by omega)]
  · rw [decide_eq_false c, Bool.false_and, decide_eq_false (by omega)]
theorem bt_clr {x y : Int32} {b : Nat} (h0 : 0 ≤ y.toInt) (h1 : y.toInt < 32) (hb : b < 32) : bt (x &&& (1 <<< (y &&& 31) ^^^ (-1))) b = (bt x b && !decide (b = y.toNatClampNeg)) := by
  have cy := i_cl h0
  rw [b_and, b_xor, b_m1 b hb, Bool.xor_true]
  congr 2
  rw [← nI_cl h0, nI_c (by omega), b_shl _ (by omega) 1 hb]
  by_cases c : y.toNatClampNeg ≤ b
  · rw [decide_eq_true c, Bool.true_and, b_1 _ (by omega)]
    by_cases e : b = y.toNatClampNeg
    · rw [decide_eq_true e, decide_eq_true (by omega)]
    · rw [decide_eq_false e, decide_eq_false (by omega)]
  · rw [decide_eq_false c, Bool.false_and, decide_eq_false (by omega)]
section PT
variable {τ τ1 : th_t} {Z : th_Zt} {gi gi1 gm gm2 : th_i} {gr gr1 rm rm2 : th_r} {A : Nat → Nat} {M1 M2 : List Nat}
theorem il_at {g : th_i} {y : Int32} (h0 : 0 ≤ y.toInt) (h1 : y.toInt < 16) : F_X6_isLeft τ Z g gr (A 6) y = if bt (g (A 6) 3) y.toNatClampNeg = true then 1 else 0 := by
  unfold F_X6_isLeft
  dsimp only
  rw [w0_c, if_neg (w0_in (by rw [k_0]; exact h0) (by rw [k_15]; omega))]
  have k := bt_at (x := g (A 6) 3) h0 (by omega)
  by_cases c : bt (g (A 6) 3) y.toNatClampNeg = true
  · rw [if_neg (fun q => by rw [k.mp q] at c; cases c), if_pos c]
  · rw [if_pos (k.mpr (by simpa using c)), if_neg c]
theorem il_no {g : th_i} {y : Int32} (h : y.toInt < 0) : F_X6_isLeft τ Z g gr (A 6) y = 0 := by
  unfold F_X6_isLeft
  dsimp only
  rw [w0_c, if_pos (w0_iff.mpr (fun q => by have := i_le.mp q.1; rw [k_0] at this; omega))]
/-- wishes are numbers of BUOYS -/
def c_wnb (gm : th_i) (A : Nat → Nat) : Prop := ∀ i j : Nat, i < 16 → (j : Int) < (gm (A 56) i).toInt → (gm (A 57) (4 * i + j)).toInt < (gm (A 12) 0).toInt
theorem c_wnb.fr (hQ : ro_M τ rm A) (h2 : th_Mod M2 τ gm rm gm2 rm2) (k2 : ∀ k ∈ [1200, 5600, 5700], k ∉ M2) (h : c_wnb gm A) : c_wnb gm2 A := by
  unfold c_wnb
  rw [(ro_k h2 0 hQ.1 (by decide) (k2 1200 (by decide))).1, (ro_ka h2 (hQ.t 21 56 (by decide)) (by decide) (k2 5600 (by decide))).1, (ro_ka h2 (hQ.t 22 57 (by decide)) (by decide) (k2 5700 (by decide))).1]
  exact h
/-- pictures that differ in what RINGS write alone -/
def d_c (A : Nat → Nat) (g g' : th_i) : Prop := ∀ a, a ≠ A 6 → a ≠ A 28 → a ≠ A 29 → g a = g' a
def d_m (A : Nat → Nat) (m m' : th_i) : Prop := ∀ a, a ≠ A 65 → a ≠ A 66 → a ≠ A 67 → m a = m' a
theorem d_c.at {g g' : th_i} (hC : ro_C τ gr A) (h : d_c A g g') {a c : Nat} (t : τ a = c) (h6 : c ≠ 6) (h28 : c ≠ 28) (h29 : c ≠ 29) : g a = g' a := h a (ro_ne t (hC.t 6 6 (by decide) rfl) h6) (ro_ne t (hC.t 28 28 (by decide) rfl) h28) (ro_ne t (hC.t 29 29 (by decide) rfl) h29)
theorem d_m.at {m m' : th_i} (hQ : ro_M τ rm A) (h : d_m A m m') {a c : Nat} (t : τ a = c) (h6 : c ≠ 65) (h28 : c ≠ 66) (h29 : c ≠ 67) : m a = m' a := h a (ro_ne t (hQ.t 34 65 (by decide)) h6) (ro_ne t (hQ.t 35 66 (by decide)) h28) (ro_ne t (hQ.t 36 67 (by decide)) h29)
theorem cf_cong (hQ : ro_M τ rm A) {m : th_i} (h : d_m A m gm) {v p : Int32} : F_X12_canFit τ Z m rm (A 12) v p = F_X12_canFit τ Z gm rm (A 12) v p := by
  have e42 := h.at hQ (hQ.t 3 42 (by decide)) (by decide) (by decide) (by decide)
  have e51 := h.at hQ (hQ.t 13 51 (by decide)) (by decide) (by decide) (by decide)
  have e47 := h.at hQ (hQ.t 9 47 (by decide)) (by decide) (by decide) (by decide)
  have e48 := h.at hQ (hQ.t 10 48 (by decide)) (by decide) (by decide) (by decide)
  have e49 := h.at hQ (hQ.t 11 49 (by decide)) (by decide) (by decide) (by decide)
  have e43 := h.at hQ (hQ.t 4 43 (by decide)) (by decide) (by decide) (by decide)
  have go : ∀ (n : Nat) (a b c : Int32), f_X12_canFit_53 τ Z m rm (A 12) v p n a b c = f_X12_canFit_53 τ Z gm rm (A 12) v p n a b c := by
    intro n
    induction n with
    | zero => intro a b c; rfl
    | succ n ih =>
      intro a b c
      unfold f_X12_canFit_53 f_X12_canFit_87 f_X12_canFit_88
      dsimp only
      rw [hQ.g 3 42 (by decide), hQ.g 13 51 (by decide), e42, e51]
      simp only [ih]
  unfold F_X12_canFit f_X12_canFit_27 f_X12_canFit_48
  dsimp only
  rw [hQ.g 9 47 (by decide), hQ.g 11 49 (by decide), hQ.g 10 48 (by decide), hQ.g 4 43 (by decide), e47, e48, e49, e43]
  simp only [go]
theorem pt_cong (hQ : ro_M τ rm A) {m m' : th_i} (h : d_m A m m') (h66 : m (A 66) = m' (A 66)) {b : Int32} : F_X12_pointed τ Z m rm (A 12) b = F_X12_pointed τ Z m' rm (A 12) b := by
  have e56 := h.at hQ (hQ.t 21 56 (by decide)) (by decide) (by decide) (by decide)
  have e57 := h.at hQ (hQ.t 22 57 (by decide)) (by decide) (by decide) (by decide)
  have e46 := h.at hQ (hQ.t 7 46 (by decide)) (by decide) (by decide) (by decide)
  have go : ∀ (n : Nat) (y : Int32), f_X12_pointed_2 τ Z m rm (A 12) b n y = f_X12_pointed_2 τ Z m' rm (A 12) b n y := by
    intro n
    induction n with
    | zero => intro y; rfl
    | succ n ih =>
      intro y
      unfold f_X12_pointed_2 f_X12_pointed_62
      dsimp only
      rw [hQ.g 21 56 (by decide), hQ.g 22 57 (by decide), hQ.g 7 46 (by decide), hQ.g 35 66 (by decide), e56, e57, e46, h66]
      simp only [ih, cf_cong hQ h]
  unfold F_X12_pointed
  exact go _ _
/-- at whom a BOAT points: the same; it is left, or the BOAT itself -/
theorem hw_eq (Q : q_all τ Z gi gr gm rm A) (K : c_core τ gi gr gm A) (W : c_wish τ gi gr gm A) (V : c_wnb gm A) {g m : th_i} (hg : d_c A g gi) (hm : d_m A m gm) (hl : ∀ b : Nat, (b : Int) < (gm (A 12) 8).toInt → (bt (g (A 6) 3) b = true ↔ m (A 66) b = 0)) {v : Int32} {qb : Nat} (h0 : 0 ≤ v.toInt) (h1 : v.toInt < (gm (A 12) 8).toInt) (hq : gr (A 21) v.toNatClampNeg = some qb) : F_X6_holderOfWish τ Z g gr (A 6) qb = F_X12_pointed τ Z m rm (A 12) v ∧ (F_X12_pointed τ Z m rm (A 12) v = v ∨ (0 ≤ (F_X12_pointed τ Z m rm (A 12) v).toInt ∧ (F_X12_pointed τ Z m rm (A 12) v).toInt < (gm (A 12) 8).toInt ∧ m (A 66) (F_X12_pointed τ Z m rm (A 12) v).toNatClampNeg = 0)) := by
  have Q' := Q
  obtain ⟨hJ, hJm, hC, hQ, no, nb, wi, cb, cu, ct, cs, cl, cr, cw⟩ := Q'
  obtain ⟨a1, a2, a3, a4, a5, a6, a7, a8⟩ := K
  have no' : gm (A 12) 8 = gi (A 1) 6 := no.symm
  have nb' : gm (A 12) 0 = gi (A 1) 5 := nb.symm
  have n162 := (n_b hJ hC).2
  have n12 := n_p hJ hC
  have n122 := n12.2
  have n162' : (gm (A 12) 8).toInt ≤ 16 := by rw [no']; exact n162
  have cv := i_cl h0
  obtain ⟨q2, hqb⟩ := cb v.toNatClampNeg (by omega)
  have : q2 = qb := Option.some.inj (hqb.1.symm.trans hq)
  subst this
  obtain ⟨x0, x1, w, x2, tw, x3⟩ := W.1 v.toNatClampNeg q2 (by omega) hq
  have gq : g q2 = gi q2 := by
    rcases x0 with t | t | t <;> exact hg.at hC t (by decide) (by decide) (by decide)
  have gw : g w = gi w := hg.at hC tw (by decide) (by decide) (by decide)
  have g1 : g (A 1) = gi (A 1) := hg.at hC (hC.t 1 1 (by decide) rfl) (by decide) (by decide) (by decide)
  have g25 : g (A 25) = gi (A 25) := hg.at hC (hC.t 25 25 (by decide) rfl) (by decide) (by decide) (by decide)
  have m56 := hm.at hQ (hQ.t 21 56 (by decide)) (by decide) (by decide) (by decide)
  have m57 := hm.at hQ (hQ.t 22 57 (by decide)) (by decide) (by decide) (by decide)
  have m46 := hm.at hQ (hQ.t 7 46 (by decide)) (by decide) (by decide) (by decide)
  have rn : rg 0 4 (gm (A 56) v.toNatClampNeg) := (hJm.at (hQ.t 21 56 (by decide)) (by decide)) v.toNatClampNeg (by omega)
  have rn2 := rn.2
  have hc : rg 0 4 (g q2 4) := by rw [gq, x1]; exact rn
  have hnum : g q2 0 = v := by
    rw [gq]
    exact i_inj (by rw [hqb.2.1]; exact cv)
  have ix : ∀ y : Int32, 0 ≤ y.toInt → y.toInt ≤ 4 → (4 * v + y).toNatClampNeg = 4 * v.toNatClampNeg + y.toNatClampNeg := fun y y0 y4 => by
    have e4 : (4 : Int32).toInt = 4 := by decide
    have em : (4 * v).toInt = 4 * v.toInt := by rw [i_mul (by rw [e4]; omega) (by rw [e4]; omega), e4]
    have es : (4 * v + y).toInt = 4 * v.toInt + y.toInt := by rw [i_add (by omega) (by omega), em]
    have cy := i_cl y0
    exact cl_in (by omega)
  unfold F_X6_holderOfWish F_X12_pointed
  have go : ∀ (n : Nat) (y : Int32), 0 ≤ y.toInt → (4 - y.toInt).toNat < n → f_X6_holderOfWish_2 τ Z g gr (A 6) q2 n y = f_X12_pointed_2 τ Z m rm (A 12) v n y ∧ (f_X12_pointed_2 τ Z m rm (A 12) v n y = v ∨ (0 ≤ (f_X12_pointed_2 τ Z m rm (A 12) v n y).toInt ∧ (f_X12_pointed_2 τ Z m rm (A 12) v n y).toInt < (gm (A 12) 8).toInt ∧ m (A 66) (f_X12_pointed_2 τ Z m rm (A 12) v n y).toNatClampNeg = 0)) := by
    intro n
    induction n with
    | zero => intro y _ h; exact absurd h (Nat.not_lt_zero _)
    | succ n ih =>
      intro y y0 h
      unfold f_X6_holderOfWish_2 f_X6_holderOfWish_75 f_X12_pointed_2 f_X12_pointed_62
      dsimp only
      rw [hC.g 6 0 1 (by decide), hC.g 1 4 2 (by decide), hQ.g 21 56 (by decide), hQ.g 22 57 (by decide), hQ.g 7 46 (by decide), hQ.g 35 66 (by decide), m56, m57, m46, hnum]
      have ecnt : g q2 4 = gm (A 56) v.toNatClampNeg := by rw [gq, x1]
      rw [ecnt]
      by_cases c : gm (A 56) v.toNatClampNeg ≤ y
      · rw [if_pos c, if_pos c]
        exact ⟨rfl, Or.inl rfl⟩
      · rw [if_neg c, if_neg c]
        have c' := i_ltI.mp (Int32.not_le.mp c)
        have cy := i_cl y0
        have e := y_1 (m := 4) (by decide) y0 (by omega)
        have I := ih (y + 1) (by omega) (by omega)
        rw [wa_at (τ := τ) (Z := Z) (gi := g) x2 hc y0 (by rw [ecnt]; exact c'), gw, x3 y.toNatClampNeg (by omega), ix y y0 (by omega)]
        have wr : rg 0 11 (gm (A 57) (4 * v.toNatClampNeg + y.toNatClampNeg)) := (hJm.at (hQ.t 22 57 (by decide)) (by decide)) _ (by omega)
        have wn := V v.toNatClampNeg y.toNatClampNeg (by omega) (by omega)
        generalize gm (A 57) (4 * v.toNatClampNeg + y.toNatClampNeg) = p at wr wn
        have cp := i_cl wr.1
        rw [bu_g hC (by rw [g1]; exact n12) wr.1 (by rw [g1, ← nb']; exact wn)]
        obtain ⟨qp, hqp⟩ := cu p.toNatClampNeg (by omega)
        have gqp : g qp = gi qp := hg.at hC hqp.2.1 (by decide) (by decide) (by decide)
        have hpn : g qp 0 = p := by
          rw [gqp]
          exact i_inj (by rw [hqp.2.2.1]; exact cp)
        rw [hqp.1]
        simp only [Option.elim_some]
        have wr2 := wr.2
        rw [hpn, bu_of (hC.e 2 1 25 (by decide)) wr.1 (by omega), g25, ← a3 p.toNatClampNeg (by omega)]
        have esu : F_X0_suits τ Z g gr (A 1) q2 qp = F_X12_canFit τ Z m rm (A 12) v p := by
          rw [cf_cong hQ hm, ← fits_eq (gi := gi) (gr := gr) hQ hJm ct cl hqb hqp]
          unfold F_X0_suits
          dsimp only
          rw [ne_at (gi := g) hqb.2.2.2.2.1, ne_at (gi := gi) hqb.2.2.2.2.1, gq, gqp, g1]
        rw [esu]
        rcases be_y a1 (p := p.toNatClampNeg) (by omega) with z | ⟨z0, z1, z2, z3, z4⟩
        · rw [z, il_no (by decide), if_pos rfl, if_pos (by decide)]
          exact I
        · have nn : ¬ gi (A 25) p.toNatClampNeg < 0 := fun q => by have := i_ltI.mp q; rw [k_0] at this; omega
          rw [il_at z0 (by omega), if_neg nn]
          have cz := i_cl z0
          have L := hl (gi (A 25) p.toNatClampNeg).toNatClampNeg (by omega)
          by_cases c2 : m (A 66) (gi (A 25) p.toNatClampNeg).toNatClampNeg = 0
          · rw [if_pos (L.mpr c2), if_neg (show ¬ (1 : Int32) = 0 by decide), if_pos c2]
            by_cases c3 : F_X12_canFit τ Z m rm (A 12) v p = 0
            · rw [if_pos c3, if_pos c3]
              exact I
            · rw [if_neg c3, if_neg c3]
              exact ⟨rfl, Or.inr ⟨z0, z1, c2⟩⟩
          · rw [if_neg (fun q => c2 (L.mp q)), if_pos rfl, if_neg c2]
            exact I
  exact go _ 0 (by decide) (Nat.lt_add_one _)
end PT
