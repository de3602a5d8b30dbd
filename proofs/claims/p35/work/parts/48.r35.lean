/-! ===== what is found: both find the same, or neither ===== -/
section FI
variable {τ τ1 : th_t} {Z : th_Zt} {gi gi1 gm gm2 : th_i} {gr gr1 rm rm2 : th_r} {A : Nat → Nat} {M1 M2 : List Nat}
def c_find (gi gm : th_i) (A : Nat → Nat) : Prop := ∀ k : Nat, 1 ≤ k → k ≤ 5 → gi (A 36) k = gm (A 59) k
theorem c_find.up (h : c_find gi gm A) (h1 : gi1 (A 36) = gi (A 36)) (h2 : gm2 (A 59) = gm (A 59)) : c_find gi1 gm2 A := fun k a b => by
  rw [h1, h2]
  exact h k a b
theorem c_find.same (h : c_find gi gm A) (h1 : gi = gi1) (h2 : gm = gm2) : c_find gi1 gm2 A := by
  rw [← h1, ← h2]
  exact h
theorem c_find.fr (hC : ro_C τ gr A) (hQ : ro_M τ rm A) (h1 : th_Mod M1 τ gi gr gi1 gr1) (h2 : th_Mod M2 τ gm rm gm2 rm2) (k1 : 3600 ∉ M1) (k2 : 5900 ∉ M2) (h : c_find gi gm A) : c_find gi1 gm2 A :=
  h.up (ro_ka h1 (hC.t 36 36 (by decide) rfl) (by decide) k1).1 (ro_ka h2 (hQ.t 26 59 (by decide)) (by decide) k2).1
theorem fi_up (h : c_find gi gm A) {w1 w2 : Int32} (hw : ¬ W0 w1 1 5 = 0) (hww : (-1000000) - w2 = w1) : c_find (va_up gi (A 36) (upd (gi (A 36)) w1.toNatClampNeg (gi (A 36) w1.toNatClampNeg + 1))) (va_up gm (A 59) (upd (gm (A 59)) ((-1000000) - w2).toNatClampNeg (gm (A 59) ((-1000000) - w2).toNatClampNeg + 1))) A := by
  rw [hww]
  have hr := w0_rg (l := 1) (h := 5) (by decide) (by decide) hw
  have h1 := hr.1
  have h2 := hr.2
  have cw := i_cl (v := w1) (by omega)
  intro k a b
  rw [up_s, up_s]
  by_cases e : k = w1.toNatClampNeg
  · rw [e, ud_s, ud_s, h _ (by omega) (by omega)]
  · rw [ud_n e, ud_n e]
    exact h k a b
theorem c_find.fip (hC : ro_C τ gr A) (hQ : ro_M τ1 rm A) (h : c_find gi gm A) {w1 w2 r1 r2 : Int32} (hw : ¬ W0 w1 1 5 = 0) (hww : (-1000000) - w2 = w1) (e1 : ((F_X11_finding τ Z gi gr (A 11) w1).1, (F_X11_finding τ Z gi gr (A 11) w1).2) = (r1, gi1)) (e2 : ((F_X12_finding τ1 Z gm rm (A 12) w2).1, (F_X12_finding τ1 Z gm rm (A 12) w2).2) = (r2, gm2)) : c_find gi1 gm2 A := by
  rw [fi_c hC hw] at e1
  rw [fi_m hQ] at e2
  rw [← (pr2 e1).2, ← (pr2 e2).2]
  exact fi_up h hw hww
theorem c_find.fim (hC : ro_C τ gr A) (hQ : ro_M τ1 rm A) (h : c_find gi gm A) {w1 w2 r1 r2 : Int32} {tO : th_t} (hw : ¬ W0 w1 1 5 = 0) (hww : (-1000000) - w2 = w1) (e1 : r1 = (F_X11_finding τ Z gi gr (A 11) w1).1 ∧ tO = τ ∧ gi1 = (F_X11_finding τ Z gi gr (A 11) w1).2 ∧ gr1 = gr) (e2 : ((F_X12_finding τ1 Z gm rm (A 12) w2).1, (F_X12_finding τ1 Z gm rm (A 12) w2).2) = (r2, gm2)) : c_find gi1 gm2 A := by
  rw [fi_c hC hw] at e1
  rw [fi_m hQ] at e2
  rw [e1.2.2.1, ← (pr2 e2).2]
  exact fi_up h hw hww
/-- frames of what is written elsewhere -/
theorem fs_62 (hC : ro_C τ gr A) {p1 p2 : Int32} : ∀ (n : Nat) (g : th_i) (y : Int32), f_X0_setTide_62 τ Z gi gr (A 1) p1 p2 n g y (A 36) = g (A 36) := by
  intro n
  induction n with
  | zero => intro g y; rfl
  | succ n ih =>
    intro g y
    unfold f_X0_setTide_62
    dsimp only
    by_cases hc : (24 : Int32) ≤ y
    · rw [if_pos hc]
    · rw [if_neg hc, ih, hC.g 1 3 23 (by decide), up_n (ro_ne (hC.t 36 36 (by decide) rfl) (hC.t 23 23 (by decide) rfl) (by decide)), up_n (ro_ne (hC.t 36 36 (by decide) rfl) (hC.t 1 1 (by decide) rfl) (by decide))]
theorem fs_17 (hJ : th_J τ gi gr) (hC : ro_C τ gr A) {p1 p2 : Int32} : ∀ (n : Nat) (g : th_i) (y : Int32), f_X0_setTide_17 τ Z gi gr (A 1) p1 p2 n g y (A 36) = g (A 36) := by
  intro n
  induction n with
  | zero => intro g y; rfl
  | succ n ih =>
    intro g y
    unfold f_X0_setTide_17
    dsimp only
    by_cases hc : g (A 1) 5 ≤ y
    · rw [if_pos hc, fs_62 hC, up_n (ro_ne (hC.t 36 36 (by decide) rfl) (hC.t 1 1 (by decide) rfl) (by decide))]
    · rw [if_neg hc]
      cases hb : F_X0_buoyAt τ Z g gr (A 1) y with
      | none =>
        show f_X0_setTide_44 τ Z gi gr (A 1) p1 p2 g y _ g (A 36) = _
        unfold f_X0_setTide_44
        exact ih _ _
      | some q =>
        obtain ⟨k1, k2⟩ := ba_some hC hb
        obtain ⟨w, hw, tw⟩ := J_3 hJ (J_20 hJ hC k1 k2)
        show f_X0_setTide_44 τ Z gi gr (A 1) p1 p2 g y _ (F_X3_flood τ Z g gr q p1 p2) (A 36) = _
        unfold f_X0_setTide_44
        exact (ih _ _).trans (fd_o hw _ (ro_ne (hC.t 36 36 (by decide) rfl) tw (by decide)))
theorem fs_36 (hJ : th_J τ gi gr) (hC : ro_C τ gr A) {p1 p2 : Int32} (h : ¬ W0 p1 0 23 = 0) : F_X0_setTide τ Z gi gr (A 1) p1 p2 (A 36) = gi (A 36) := by
  unfold F_X0_setTide F_X11_isHour
  dsimp only
  rw [w0_c, if_neg h, fs_17 hJ hC, hC.g 1 2 22 (by decide), up_n (ro_ne (hC.t 36 36 (by decide) rfl) (hC.t 22 22 (by decide) rfl) (by decide))]
theorem fe_88 (hQ : ro_M τ rm A) {s y2 y3 : Int32} {g32 : th_i} {a : Nat} (na : a ≠ A 68) {k : th_i → Int32 → Int32 → Int32 × th_i} (hk : ∀ g x y, (k g x y).2 a = g a) : ∀ (n : Nat) (g : th_i) (x2 x4 x5 : Int32), (f_X12_flee_88 τ Z gi rm (A 12) s g32 y2 y3 k n g x2 x4 x5).2 a = g a := by
  intro n
  induction n with
  | zero => intro g x2 x4 x5; rfl
  | succ n ih =>
    intro g x2 x4 x5
    unfold f_X12_flee_88 f_X12_flee_123 f_X12_flee_125 f_X12_flee_141
    dsimp only
    rw [hQ.g 37 68 (by decide)]
    by_cases c1 : x5 < 0
    · rw [if_pos c1, hk, up_n na]
    · rw [if_neg c1]
      by_cases c2 : F_X12_holds τ Z g rm (A 12) y3 x5 s = 0
      · rw [if_pos c2]
        exact ih _ _ _ _
      · rw [if_neg c2]
        by_cases c3 : F_X12_mayLie τ Z g rm (A 12) y3 x5 (A 68) = 0
        · rw [if_pos c3]
          exact ih _ _ _ _
        · rw [if_neg c3]
          exact ih _ _ _ _
theorem fe_32 (hQ : ro_M τ rm A) {s : Int32} {a : Nat} (na : a ≠ A 68) : ∀ (n : Nat) (g : th_i) (x y : Int32), (f_X12_flee_32 τ Z gi rm (A 12) s n g x y).2 a = g a := by
  intro n
  induction n with
  | zero => intro g x y; rfl
  | succ n ih =>
    intro g x y
    unfold f_X12_flee_32 f_X12_flee_141
    dsimp only
    rw [hQ.g 37 68 (by decide), hQ.g 12 50 (by decide)]
    by_cases c1 : g (A 12) 8 ≤ y
    · rw [if_pos c1]
    · rw [if_neg c1]
      by_cases c2 : g (A 50) y.toNatClampNeg < 0
      · rw [if_pos c2]
        exact ih _ _ _
      · rw [if_neg c2]
        by_cases c3 : F_X12_holds τ Z g rm (A 12) y (g (A 50) y.toNatClampNeg) s = 0
        · rw [if_pos c3, fe_88 hQ na ih, up_n na]
        · rw [if_neg c3]
          exact ih _ _ _
theorem fe_4 (hQ : ro_M τ rm A) {s : Int32} {a : Nat} (na : a ≠ A 68) : ∀ (n : Nat) (g : th_i) (x y : Int32), (f_X12_flee_4 τ Z gi rm (A 12) s n g x y).2 a = g a := by
  intro n
  induction n with
  | zero => intro g x y; rfl
  | succ n ih =>
    intro g x y
    unfold f_X12_flee_4
    dsimp only
    rw [hQ.g 37 68 (by decide), hQ.g 12 50 (by decide)]
    by_cases c1 : g (A 12) 8 ≤ y
    · rw [if_pos c1]
      exact fe_32 hQ na _ _ _ _
    · rw [if_neg c1, ih, up_n na]
theorem fe_fr (hQ : ro_M τ rm A) {s : Int32} {a c : Nat} (ta : τ a = c) (hc : c ≠ 68) : (F_X12_flee τ Z gm rm (A 12) s).2 a = gm a := by
  unfold F_X12_flee
  exact fe_4 hQ (ro_ne ta (hQ.t 37 68 (by decide)) hc) _ _ _ _
theorem nx_18 (hQ : ro_M τ rm A) {gz : th_i} : ∀ (n : Nat) (x y : Int32), (f_X12_next_18 τ Z gz rm (A 12) n gm x y).2 = gm := by
  intro n
  induction n with
  | zero => intro x y; rfl
  | succ n ih =>
    intro x y
    unfold f_X12_next_18 f_X12_next_77 f_X12_next_81 f_X12_next_82
    dsimp only
    split
    · rfl
    · split
      · exact ih _ _
      · split
        · split
          · exact ih _ _
          · exact ih _ _
        · exact ih _ _
theorem lk_0 (hC : ro_C τ gr A) (cu : c_buoy τ gi gr gm A) (nb' : gm (A 12) 0 = gi (A 1) 5) (n12 : rg 0 12 (gi (A 1) 5)) : ∀ (n : Nat) (b qb : Nat) (y : Int32), 0 ≤ y.toInt → (12 - y.toInt).toNat < n → (b : Int) < (gi (A 1) 5).toInt → gr (A 20) b = some qb → 0 ≤ (f_X0_leastKnown_4 τ Z gi gr (A 1) n (some qb) y).toInt := by
  have n122 := n12.2
  intro n
  induction n with
  | zero => intro b qb y _ h; exact absurd h (Nat.not_lt_zero _)
  | succ n ih =>
    intro b qb y h0 h hb hqb
    unfold f_X0_leastKnown_4 f_X0_leastKnown_34 f_X0_leastKnown_36
    dsimp only
    by_cases c : gi (A 1) 5 ≤ y
    · rw [if_pos c]
      simp only [Option.elim_some]
      obtain ⟨q, u1, -, u3, -⟩ := cu b (by rw [nb']; exact hb)
      have : q = qb := Option.some.inj (u1.symm.trans hqb)
      subst this
      rw [u3]
      omega
    · rw [if_neg c]
      have c' := i_ltI.mp (Int32.not_le.mp c)
      have cy := i_cl h0
      have e := y_1 (m := 12) (by decide) h0 (by omega)
      obtain ⟨qy, u⟩ := cu y.toNatClampNeg (by rw [nb']; omega)
      rw [bu_g hC n12 h0 c', u.1]
      simp only [Option.elim_some]
      by_cases c2 : F_X0_isLessKnown τ Z gi gr qy qb = 0
      · rw [if_pos c2]
        exact ih b qb (y + 1) (by omega) (by omega) hb hqb
      · rw [if_neg c2]
        exact ih y.toNatClampNeg qy (y + 1) (by omega) (by omega) (by omega) u.1
theorem fi_as (hJ : th_J τ gi gr) (hC : ro_C τ gr A) (hQ : ro_M τ rm A) (no : c_eq 1 6 8 gi gm A) (ra : c_eq 11 8 23 gi gm A) (hb : c_boat τ gi gr gm A) (hf : c_find gi gm A) {v k r1 r2 : Int32} (e1 : F_X11_as τ Z gi gr (A 11) v k = (r1, gi1)) (e2 : F_X12_as τ Z gm rm (A 12) v k = (r2, gm2)) : c_find gi1 gm2 A := by
  have no' : gm (A 12) 8 = gi (A 1) 6 := no.symm
  have ra' : gm (A 12) 23 = gi (A 11) 8 := ra.symm
  unfold F_X11_as f_X11_as_20 F_X11_isKind at e1
  unfold F_X12_as F_X12_isBoat f_X12_as_17 f_X12_as_38 at e2
  dsimp only at e1 e2
  rw [hC.g 11 0 1 (by decide)] at e1
  rw [w0_m, w0_m, no', due_at hQ, hQ.g 9 47 (by decide), ra'] at e2
  by_cases g1 : W0 v 0 (gi (A 1) 6 - 1) = 0
  · rw [bo_no hJ hC g1] at e1
    rw [if_pos g1] at e2
    exact hf.fip hC hQ (w1 := 1) (by decide) (by decide) e1 e2
  obtain ⟨f1, f2, f3, f4⟩ := bo_yes (Z := Z) hJ hC g1
  obtain ⟨q, a1, a2, a3, a4, a5, a6, a7⟩ := hb v.toNatClampNeg (by rw [f3, no']; exact f4)
  rw [f1, a1] at e1
  rw [if_neg g1] at e2
  simp only [Option.elim_some] at e1
  rw [w0_c] at e1
  by_cases g2 : W0 k 0 2 = 0
  · rw [if_pos g2] at e1 e2
    exact hf.fip hC hQ (w1 := 1) (by decide) (by decide) e1 e2
  rw [if_neg g2] at e1 e2
  unfold F_X2_isOf at e1
  dsimp only at e1
  rw [kn_at a5, fee_at a5, a3] at e1
  have h10 : ¬ (1 : Int32) = 0 := by decide
  by_cases g3 : k = 0
  · rw [if_pos g3, if_neg h10] at e1
    rw [if_pos g3] at e2
    exact hf.same (pr2 e1).2 (pr2 e2).2
  · rw [if_neg g3] at e1 e2
    by_cases g4 : k = gm (A 47) v.toNatClampNeg
    · rw [if_pos g4, if_neg h10] at e1
      rw [if_pos g4.symm] at e2
      exact hf.same (pr2 e1).2 (pr2 e2).2
    · rw [if_neg g4, if_pos rfl] at e1
      rw [if_neg (fun q => g4 q.symm)] at e2
      exact hf.fip hC hQ (w1 := 5) (by decide) (by decide) e1 e2
theorem fi_fits (hJ : th_J τ gi gr) (hJm : th_J τ gm rm) (hC : ro_C τ gr A) (hQ : ro_M τ rm A) (no : c_eq 1 6 8 gi gm A) (nb : c_eq 1 5 0 gi gm A) (hb : c_boat τ gi gr gm A) (hu : c_buoy τ gi gr gm A) (ht : c_tid gi gm A) (hl : c_least gi A) (hf : c_find gi gm A) {v p r1 r2 : Int32} (e1 : F_X11_fits τ Z gi gr (A 11) v p = (r1, gi1)) (e2 : F_X12_fits τ Z gm rm (A 12) v p = (r2, gm2)) : c_find gi1 gm2 A := by
  have no' : gm (A 12) 8 = gi (A 1) 6 := no.symm
  have nb' : gm (A 12) 0 = gi (A 1) 5 := nb.symm
  unfold F_X11_fits f_X11_fits_28 at e1
  unfold F_X12_fits F_X12_isBoat F_X12_isBuoy f_X12_fits_16 at e2
  dsimp only at e1 e2
  rw [hC.g 11 0 1 (by decide)] at e1
  rw [w0_m, w0_m, no', nb'] at e2
  by_cases g1 : W0 v 0 (gi (A 1) 6 - 1) = 0
  · rw [bo_no hJ hC g1] at e1
    rw [if_pos g1] at e2
    exact hf.fip hC hQ (w1 := 1) (by decide) (by decide) e1 e2
  obtain ⟨f1, f2, f3, f4⟩ := bo_yes (Z := Z) hJ hC g1
  obtain ⟨qb, hqb⟩ := hb v.toNatClampNeg (by rw [f3, no']; exact f4)
  rw [f1, hqb.1] at e1
  rw [if_neg g1] at e2
  by_cases g2 : W0 p 0 (gi (A 1) 5 - 1) = 0
  · simp only [Option.elim_some, bu_no (Z := Z) hJ hC g2, Option.elim_none] at e1
    rw [if_pos g2] at e2
    exact hf.fip hC hQ (w1 := 1) (by decide) (by decide) e1 e2
  obtain ⟨m1, m2, m3, m4⟩ := bu_yes (Z := Z) hJ hC g2
  obtain ⟨qp, hqp⟩ := hu p.toNatClampNeg (by rw [m3, nb']; exact m4)
  rw [if_neg g2] at e2
  simp only [Option.elim_some, m1, hqp.1] at e1
  rw [fits_eq hQ hJm ht hl hqb hqp] at e1
  by_cases g3 : F_X12_canFit τ Z gm rm (A 12) v p = 0
  · rw [if_pos g3] at e1 e2
    exact hf.same (pr2 e1).2 (pr2 e2).2
  · rw [if_neg g3] at e1 e2
    exact hf.same (pr2 e1).2 (pr2 e2).2
theorem fi_out (hJ : th_J τ gi gr) (hJm : th_J τ gm rm) (hC : ro_C τ gr A) (hQ : ro_M τ rm A) (no : c_eq 1 6 8 gi gm A) (nb : c_eq 1 5 0 gi gm A) (hb : c_boat τ gi gr gm A) (hu : c_buoy τ gi gr gm A) (ht : c_tid gi gm A) (hs : c_sl τ gi gr A) (hf : c_find gi gm A) {v p h r1 r2 : Int32} (e1 : F_X11_out τ Z gi gr (A 11) v p h = (r1, gi1)) (e2 : F_X12_out τ Z gm rm (A 12) v p h = (r2, gm2)) : c_find gi1 gm2 A := by
  have no' : gm (A 12) 8 = gi (A 1) 6 := no.symm
  have nb' : gm (A 12) 0 = gi (A 1) 5 := nb.symm
  unfold F_X11_out f_X11_out_37 F_X11_isHour at e1
  unfold F_X12_out F_X12_isBoat F_X12_isBuoy f_X12_out_26 at e2
  dsimp only at e1 e2
  rw [hC.g 11 0 1 (by decide), w0_c] at e1
  rw [w0_m, w0_m, w0_m, no', nb', reach_at hQ] at e2
  by_cases g1 : W0 v 0 (gi (A 1) 6 - 1) = 0
  · rw [bo_no hJ hC g1] at e1
    rw [if_pos g1] at e2
    exact hf.fip hC hQ (w1 := 1) (by decide) (by decide) e1 e2
  obtain ⟨f1, f2, f3, f4⟩ := bo_yes (Z := Z) hJ hC g1
  obtain ⟨qb, hqb⟩ := hb v.toNatClampNeg (by rw [f3, no']; exact f4)
  rw [f1, hqb.1] at e1
  rw [if_neg g1] at e2
  by_cases g2 : W0 p 0 (gi (A 1) 5 - 1) = 0
  · simp only [Option.elim_some, bu_no (Z := Z) hJ hC g2, Option.elim_none] at e1
    rw [if_pos g2] at e2
    exact hf.fip hC hQ (w1 := 1) (by decide) (by decide) e1 e2
  obtain ⟨m1, m2, m3, m4⟩ := bu_yes (Z := Z) hJ hC g2
  obtain ⟨qp, hqp⟩ := hu p.toNatClampNeg (by rw [m3, nb']; exact m4)
  rw [if_neg g2] at e2
  simp only [Option.elim_some, m1, hqp.1] at e1
  by_cases g3 : W0 h 0 23 = 0
  · rw [if_pos g3] at e1 e2
    exact hf.fip hC hQ (w1 := 1) (by decide) (by decide) e1 e2
  · rw [if_neg g3] at e1 e2
    have hr := w0_rg (l := 0) (h := 23) (by decide) (by decide) g3
    have hr2 := hr.2
    obtain ⟨k1, -⟩ := slack_eq (Z := Z) hQ hJm ht hqp (hs.1 _ qp (by rw [m3]; exact m4) hqp.1) hr.1 (by omega)
    rw [k1, re_at hqb.2.2.2.2.1, hqb.2.2.1] at e1
    exact hf.same (pr2 e1).2 (pr2 e2).2
theorem fi_touch (hJ : th_J τ gi gr) (hJm : th_J τ gm rm) (hC : ro_C τ gr A) (hQ : ro_M τ rm A) (no : c_eq 1 6 8 gi gm A) (nb : c_eq 1 5 0 gi gm A) (wi : c_eq 1 7 14 gi gm A) (hb : c_boat τ gi gr gm A) (hu : c_buoy τ gi gr gm A) (ht : c_tid gi gm A) (hs : c_sl τ gi gr A) (hr : c_rep gi A) (hw : c_way Z gm A) (hf : c_find gi gm A) {v p o q r1 r2 : Int32} (e1 : F_X11_touch τ Z gi gr (A 11) v p o q = (r1, gi1)) (e2 : F_X12_touch τ Z gm rm (A 12) v p o q = (r2, gm2)) : c_find gi1 gm2 A := by
  have no' : gm (A 12) 8 = gi (A 1) 6 := no.symm
  have nb' : gm (A 12) 0 = gi (A 1) 5 := nb.symm
  unfold F_X11_touch f_X11_touch_61 f_X11_touch_78 at e1
  unfold F_X12_touch F_X12_isBoat F_X12_isBuoy f_X12_touch_44 at e2
  dsimp only at e1 e2
  rw [hC.g 11 0 1 (by decide)] at e1
  rw [w0_m, w0_m, w0_m, w0_m, no', nb'] at e2
  by_cases g1 : W0 v 0 (gi (A 1) 6 - 1) = 0
  · rw [bo_no hJ hC g1] at e1
    rw [if_pos g1] at e2
    exact hf.fip hC hQ (w1 := 1) (by decide) (by decide) e1 e2
  obtain ⟨f1, f2, f3, f4⟩ := bo_yes (Z := Z) hJ hC g1
  obtain ⟨qa, hqa⟩ := hb v.toNatClampNeg (by rw [f3, no']; exact f4)
  rw [f1, hqa.1] at e1
  rw [if_neg g1] at e2
  by_cases g2 : W0 p 0 (gi (A 1) 5 - 1) = 0
  · simp only [Option.elim_some, bu_no (Z := Z) hJ hC g2, Option.elim_none] at e1
    rw [if_pos g2] at e2
    exact hf.fip hC hQ (w1 := 1) (by decide) (by decide) e1 e2
  obtain ⟨m1, m2, m3, m4⟩ := bu_yes (Z := Z) hJ hC g2
  obtain ⟨qp, hqp⟩ := hu p.toNatClampNeg (by rw [m3, nb']; exact m4)
  rw [if_neg g2] at e2
  by_cases g3 : W0 o 0 (gi (A 1) 6 - 1) = 0
  · simp only [Option.elim_some, m1, hqp.1, bo_no (Z := Z) hJ hC g3, Option.elim_none] at e1
    rw [if_pos g3] at e2
    exact hf.fip hC hQ (w1 := 1) (by decide) (by decide) e1 e2
  obtain ⟨l1, l2, l3, l4⟩ := bo_yes (Z := Z) hJ hC g3
  obtain ⟨qb, hqb⟩ := hb o.toNatClampNeg (by rw [l3, no']; exact l4)
  rw [if_neg g3] at e2
  by_cases g4 : W0 q 0 (gi (A 1) 5 - 1) = 0
  · simp only [Option.elim_some, m1, hqp.1, l1, hqb.1, bu_no (Z := Z) hJ hC g4, Option.elim_none] at e1
    rw [if_pos g4] at e2
    exact hf.fip hC hQ (w1 := 1) (by decide) (by decide) e1 e2
  obtain ⟨n1, n2, n3, n4⟩ := bu_yes (Z := Z) hJ hC g4
  obtain ⟨qq, hqq⟩ := hu q.toNatClampNeg (by rw [n3, nb']; exact n4)
  rw [if_neg g4] at e2
  simp only [Option.elim_some, m1, hqp.1, l1, hqb.1, n1, hqq.1] at e1
  by_cases g5 : v = o
  · rw [if_pos g5] at e1 e2
    exact hf.fip hC hQ (w1 := 1) (by decide) (by decide) e1 e2
  rw [if_neg g5] at e1 e2
  by_cases g6 : p = q
  · rw [if_pos g6] at e1 e2
    exact hf.fip hC hQ (w1 := 1) (by decide) (by decide) e1 e2
  rw [if_neg g6] at e1 e2
  have k := (ft_eq (Z := Z) hC hQ hJm hw wi ht hr hqa hqb hqp hqq (hs.1 _ qp (by rw [m3]; exact m4) hqp.1) (hs.1 _ qq (by rw [n3]; exact n4) hqq.1)).1
  rw [k] at e1
  exact hf.same (pr2 e1).2 (pr2 e2).2
theorem fi_of (Q : q_all τ Z gi gr gm rm A) (K : c_core τ gi gr gm A) (we : c_wear τ gi gr gm A) (hf : c_find gi gm A) {p w r1 r2 : Int32} (e1 : F_X11_of τ Z gi gr (A 11) p w = (r1, gi1)) (e2 : F_X12_of τ Z gm rm (A 12) p w = (r2, gm2)) : c_find gi1 gm2 A := by
  obtain ⟨hJ, hJm, hC, hQ, no, nb, wi, cb, cu, ct, cs, cl, cr, cw⟩ := Q
  obtain ⟨a1, a2, a3, a4, a5, a6, a7, a8⟩ := K
  have nb' : gm (A 12) 0 = gi (A 1) 5 := nb.symm
  have n122 := (n_p hJ hC).2
  unfold F_X11_of at e1
  unfold F_X12_of F_X12_isBuoy at e2
  dsimp only at e1 e2
  rw [hC.g 11 0 1 (by decide), hC.g 1 4 2 (by decide)] at e1
  rw [w0_m, nb', hQ.g 1 40 (by decide), hQ.g 2 41 (by decide), hQ.g 3 42 (by decide), hQ.g 4 43 (by decide), hQ.g 7 46 (by decide), hQ.g 6 45 (by decide), hQ.g 5 44 (by decide)] at e2
  by_cases g2 : W0 p 0 (gi (A 1) 5 - 1) = 0
  · rw [bu_no hJ hC g2] at e1
    rw [if_pos g2] at e2
    exact hf.fip hC hQ (w1 := 1) (by decide) (by decide) e1 e2
  obtain ⟨m1, m2, m3, m4⟩ := bu_yes (Z := Z) hJ hC g2
  have hj : ((p.toNatClampNeg : Nat) : Int) < (gm (A 12) 0).toInt := by rw [m3, nb']; exact m4
  obtain ⟨qp, hqp⟩ := cu p.toNatClampNeg hj
  obtain ⟨x0, x1, x2, x3, x4⟩ := we.1 _ qp hj hqp.1
  obtain ⟨u1, u2, u3, u4, u5, u6, u7, -⟩ := hqp
  rw [m1, u1] at e1
  rw [if_neg g2] at e2
  simp only [Option.elim_some] at e1
  rw [u4, u5, u6, u7, x1, x2, bu_of (hC.e 2 1 25 (by decide)) (by omega) (by omega), a3 _ hj, pa_at (Z := Z) (gr := gr) (rm := rm) hQ rfl x1] at e1
  by_cases c0 : w.toInt < 0
  · rw [if_pos c0] at e1 e2
    exact hf.fip hC hQ (w1 := 1) (by decide) (by decide) e1 e2
  rw [if_neg c0] at e1 e2
  by_cases c1 : 7 < w.toInt
  · rw [if_pos c1] at e1 e2
    exact hf.fip hC hQ (w1 := 1) (by decide) (by decide) e1 e2
  rw [if_neg c1] at e1 e2
  by_cases c2 : w.toInt = 0
  · rw [if_pos c2] at e1 e2
    exact hf.same (pr2 e1).2 (pr2 e2).2
  rw [if_neg c2] at e1 e2
  by_cases c3 : w.toInt = 1
  · rw [if_pos c3] at e1 e2
    exact hf.same (pr2 e1).2 (pr2 e2).2
  rw [if_neg c3] at e1 e2
  by_cases c4 : w.toInt = 2
  · rw [if_pos c4] at e1 e2
    exact hf.same (pr2 e1).2 (pr2 e2).2
  rw [if_neg c4] at e1 e2
  by_cases c5 : w.toInt = 3
  · rw [if_pos c5] at e1 e2
    exact hf.same (pr2 e1).2 (pr2 e2).2
  rw [if_neg c5] at e1 e2
  by_cases c6 : w.toInt = 4
  · rw [if_pos c6] at e1 e2
    exact hf.same (pr2 e1).2 (pr2 e2).2
  rw [if_neg c6] at e1 e2
  by_cases c7 : w.toInt = 5
  · rw [if_pos c7] at e1 e2
    exact hf.same (pr2 e1).2 (pr2 e2).2
  rw [if_neg c7] at e1 e2
  by_cases c8 : w.toInt = 6
  · rw [if_pos c8] at e1 e2
    exact hf.same (pr2 e1).2 (pr2 e2).2
  rw [if_neg c8] at e1 e2
  by_cases c9 : w.toInt = 7
  · rw [if_pos c9] at e1 e2
    by_cases d : F_X12_isParted τ Z gm rm (A 12) p = 0
    · rw [if_pos d] at e1 e2
      exact hf.same (pr2 e1).2 (pr2 e2).2
    · rw [if_neg d] at e1 e2
      exact hf.same (pr2 e1).2 (pr2 e2).2
  · rw [if_neg c9] at e1 e2
    exact hf.same (pr2 e1).2 (pr2 e2).2
theorem fi_moor (Q : q_all τ Z gi gr gm rm A) (K : c_core τ gi gr gm A) (hf : c_find gi gm A) {v p r1 r2 : Int32} (e1 : F_X11_moor τ Z gi gr (A 11) v p = (r1, gi1)) (e2 : F_X12_moor τ Z gm rm (A 12) v p = (r2, gm2)) : c_find gi1 gm2 A := by
  have Q' := Q
  obtain ⟨hJ, hJm, hC, hQ, no, nb, wi, cb, cu, ct, cs, cl, cr, cw⟩ := Q'
  have K' := K
  obtain ⟨a1, a2, a3, a4, a5, a6, a7, a8⟩ := K'
  have no' : gm (A 12) 8 = gi (A 1) 6 := no.symm
  have nb' : gm (A 12) 0 = gi (A 1) 5 := nb.symm
  have n162 := (n_b hJ hC).2
  have n122 := (n_p hJ hC).2
  unfold F_X11_moor f_X11_moor_28 f_X11_moor_64 at e1
  unfold F_X12_moor F_X12_isBoat F_X12_isBuoy f_X12_moor_16 f_X12_moor_41 at e2
  dsimp only at e1 e2
  rw [hC.g 11 0 1 (by decide), hC.g 1 4 2 (by decide), hC.g 11 1 10 (by decide)] at e1
  rw [w0_m, w0_m, no', nb', hQ.g 12 50 (by decide), hQ.g 7 46 (by decide)] at e2
  by_cases g1 : W0 v 0 (gi (A 1) 6 - 1) = 0
  · rw [bo_no hJ hC g1] at e1
    rw [if_pos g1] at e2
    exact hf.fip hC hQ (w1 := 1) (by decide) (by decide) e1 e2
  obtain ⟨f1, f2, f3, f4⟩ := bo_yes (Z := Z) hJ hC g1
  obtain ⟨qb, hqb⟩ := cb v.toNatClampNeg (by rw [f3, no']; exact f4)
  rw [f1, hqb.1] at e1
  rw [if_neg g1] at e2
  by_cases g2 : W0 p 0 (gi (A 1) 5 - 1) = 0
  · simp only [Option.elim_some, bu_no (Z := Z) hJ hC g2, Option.elim_none] at e1
    rw [if_pos g2] at e2
    exact hf.fip hC hQ (w1 := 1) (by decide) (by decide) e1 e2
  obtain ⟨m1, m2, m3, m4⟩ := bu_yes (Z := Z) hJ hC g2
  obtain ⟨qp, hqp⟩ := cu p.toNatClampNeg (by rw [m3, nb']; exact m4)
  rw [if_neg g2] at e2
  simp only [Option.elim_some, m1, hqp.1] at e1
  have hv0 : 0 ≤ v.toInt := by omega
  have hp0 : 0 ≤ p.toInt := by omega
  have rX := hC.e 2 0 24 (by decide)
  have rY := hC.e 2 1 25 (by decide)
  have t24 := hC.t 24 24 (by decide) rfl
  have t25 := hC.t 25 25 (by decide) rfl
  have t10 := hC.t 10 10 (by decide) rfl
  have t35 := hC.t 35 35 (by decide) rfl
  have t50 := hQ.t 12 50 (by decide)
  have t46 := hQ.t 7 46 (by decide)
  have t54 := hQ.t 18 54 (by decide)
  have t55 := hQ.t 19 55 (by decide)
  have nXY := ro_ne t24 t25 (by decide)
  rw [bo_of rX hv0 (by omega), bu_of rY hp0 (by omega)] at e1
  rw [← a2 v.toNatClampNeg (by rw [no']; omega), ← a3 p.toNatClampNeg (by rw [nb']; omega)] at e2
  rcases be_x a1 (i := v.toNatClampNeg) (by omega) with z1 | ⟨z1, -⟩
  rotate_left
  · rw [if_neg (fun q => by rw [q, k_m1] at z1; omega)] at e1
    rw [if_pos (i_le.mpr (by rw [k_0]; exact z1))] at e2
    exact hf.fip hC hQ (w1 := 3) (by decide) (by decide) e1 e2
  rw [z1, if_pos rfl] at e1
  rw [z1, if_neg (by decide)] at e2
  rcases be_y a1 (p := p.toNatClampNeg) (by omega) with z2 | ⟨z2, -⟩
  rotate_left
  · rw [if_neg (fun q => by rw [q, k_m1] at z2; omega)] at e1
    rw [if_neg (fun q => by have := i_ltI.mp q; rw [k_0] at this; omega)] at e2
    exact hf.fip hC hQ (w1 := 3) (by decide) (by decide) e1 e2
  rw [z2, if_pos rfl] at e1
  rw [z2, if_pos (by decide)] at e2
  rw [ml_eq Q hqb hqp hv0 hp0 (by rw [nb']; exact m4) rX rY a1 (fun i hi _ => a2 i hi) (fun q => by rw [← q, z1, k_m1] at hp0; omega)] at e1
  by_cases g3 : F_X12_mayLie τ Z gm rm (A 12) v p (A 50) = 0
  · rw [if_pos g3] at e1 e2
    exact hf.fip hC hQ (w1 := 2) (by decide) (by decide) e1 e2
  rw [if_neg g3] at e1 e2
  obtain ⟨p1, p2, p3⟩ := pu_eq (τ := τ) (Z := Z) (gi := gi) (v := v) (p := p) rX rY nXY hv0 (by omega) hp0 (by omega)
  obtain ⟨l1, l2, l3⟩ := li_eq (τ := τ) (Z := Z) (gm := gm) hQ (v := v) (p := p)
  generalize F_X1_put τ Z gi gr (A 2) v p = g35 at e1 p1 p2 p3
  generalize F_X12_lies τ Z gm rm (A 12) v p = g31 at e2 l1 l2 l3
  have c10 : g35 (A 10) = gi (A 10) := p3 _ (ro_ne t10 t24 (by decide)) (ro_ne t10 t25 (by decide))
  have c35 : g35 (A 35) = gi (A 35) := p3 _ (ro_ne t35 t24 (by decide)) (ro_ne t35 t25 (by decide))
  have c5 : ∀ q, (τ q = 8 ∨ τ q = 9 ∨ τ q = 4) → g35 q = gi q := fun q t => by
    rcases t with t | t | t <;> exact p3 q (ro_ne t t24 (by decide)) (ro_ne t t25 (by decide))
  have d12 : g31 (A 12) = gm (A 12) := l3 _ (ro_ne hQ.1 t50 (by decide)) (ro_ne hQ.1 t46 (by decide))
  have d54 : g31 (A 54) = gm (A 54) := l3 _ (ro_ne t54 t50 (by decide)) (ro_ne t54 t46 (by decide))
  have d55 : g31 (A 55) = gm (A 55) := l3 _ (ro_ne t55 t50 (by decide)) (ro_ne t55 t46 (by decide))
  have hs : rg 0 10 (g35 (A 10) 2) := by rw [c10]; exact a4.1
  have es : g35 (A 10) 2 = g31 (A 12) 17 := by rw [c10, d12]; exact a5
  rw [← pl_eq (Z := Z) (gi := g35) (gm := g31) hC hQ (v := v) hs es (by rw [c10, c35, d54]; exact a6)] at e2
  have t36 := hC.t 36 36 (by decide) rfl
  have t59 := hQ.t 26 59 (by decide)
  have c36 : g35 (A 36) = gi (A 36) := p3 _ (ro_ne t36 t24 (by decide)) (ro_ne t36 t25 (by decide))
  have d59 : g31 (A 59) = gm (A 59) := l3 _ (ro_ne t59 t50 (by decide)) (ro_ne t59 t46 (by decide))
  rcases pl_at (Z := Z) hC (g := g35) (v := v) hs with ⟨k1, k2⟩ | ⟨k, k1, k2, k3⟩
  · rw [k1, dr_no hC hs (by decide)] at e1
    rw [k1, if_pos (by decide)] at e2
    exact hf.up (by rw [← (pr2 e1).2]; exact c36) (by rw [← (pr2 e2).2]; exact d59)
  · rw [if_neg (fun q => by have := i_ltI.mp q; rw [k_0] at this; omega)] at e2
    obtain ⟨u1, u2, u3⟩ := dr_sp (Z := Z) (gi := g35) hC (p := F_X10_placeOf τ Z g35 gr (A 10) v) hs (by omega) (by omega)
    obtain ⟨w1, w2, w3⟩ := go_sp (Z := Z) (gm := g31) hQ (p := F_X10_placeOf τ Z g35 gr (A 10) v) (by rw [← es]; exact hs) (by omega) (by rw [← es]; omega)
    exact hf.up (by rw [← (pr2 e1).2, u2 _ (ro_ne t36 t10 (by decide)) (ro_ne t36 t35 (by decide))]; exact c36) (by rw [← (pr2 e2).2, w2 _ (ro_ne t59 hQ.1 (by decide)) (ro_ne t59 t54 (by decide))]; exact d59)
theorem fi_leave (Q : q_all τ Z gi gr gm rm A) (K : c_core τ gi gr gm A) (hf : c_find gi gm A) {v r1 r2 : Int32} (e1 : F_X11_leave τ Z gi gr (A 11) v = (r1, gi1)) (e2 : F_X12_leave τ Z gm rm (A 12) v = (r2, gm2)) : c_find gi1 gm2 A := by
  obtain ⟨hJ, hJm, hC, hQ, no, nb, wi, cb, cu, ct, cs, cl, cr, cw⟩ := Q
  have K' := K
  obtain ⟨a1, a2, a3, a4, a5, a6, a7, a8⟩ := K'
  have no' : gm (A 12) 8 = gi (A 1) 6 := no.symm
  have n162 := (n_b hJ hC).2
  unfold F_X11_leave at e1
  unfold F_X12_leave F_X12_isBoat at e2
  dsimp only at e1 e2
  rw [hC.g 11 0 1 (by decide), hC.g 1 4 2 (by decide)] at e1
  rw [w0_m, no', hQ.g 12 50 (by decide), hQ.g 7 46 (by decide)] at e2
  by_cases g1 : W0 v 0 (gi (A 1) 6 - 1) = 0
  · rw [bo_no hJ hC g1] at e1
    rw [if_pos g1] at e2
    exact hf.fip hC hQ (w1 := 1) (by decide) (by decide) e1 e2
  obtain ⟨f1, f2, f3, f4⟩ := bo_yes (Z := Z) hJ hC g1
  obtain ⟨qb, hqb⟩ := cb v.toNatClampNeg (by rw [f3, no']; exact f4)
  rw [f1, hqb.1] at e1
  rw [if_neg g1] at e2
  simp only [Option.elim_some] at e1
  have hv0 : 0 ≤ v.toInt := by omega
  have rX := hC.e 2 0 24 (by decide)
  have rY := hC.e 2 1 25 (by decide)
  have t24 := hC.t 24 24 (by decide) rfl
  have t25 := hC.t 25 25 (by decide) rfl
  have t10 := hC.t 10 10 (by decide) rfl
  have t35 := hC.t 35 35 (by decide) rfl
  have t50 := hQ.t 12 50 (by decide)
  have t46 := hQ.t 7 46 (by decide)
  have t54 := hQ.t 18 54 (by decide)
  have t55 := hQ.t 19 55 (by decide)
  have nXY := ro_ne t24 t25 (by decide)
  have n56 := ro_ne t50 t46 (by decide)
  rw [bo_of rX hv0 (by omega)] at e1
  rw [← a2 v.toNatClampNeg (by rw [no']; omega)] at e2
  rcases be_x a1 (i := v.toNatClampNeg) (by omega) with z1 | ⟨z1, z2, z3, -⟩
  · rw [z1, if_pos rfl] at e1
    rw [z1, if_neg (by decide)] at e2
    exact hf.fip hC hQ (w1 := 3) (by decide) (by decide) e1 e2
  · rw [if_neg (fun q => by rw [q, k_m1] at z1; omega)] at e1
    rw [if_pos (i_le.mpr (by rw [k_0]; exact z1))] at e2
    obtain ⟨p1, p2, p3⟩ := lf_eq (τ := τ) (Z := Z) (gi := gi) (v := v) rX rY nXY hv0 (by omega) z1 (by omega)
    have t36 := hC.t 36 36 (by decide) rfl
    have t59 := hQ.t 26 59 (by decide)
    exact hf.up (by rw [← (pr2 e1).2]; exact p3 _ (ro_ne t36 t24 (by decide)) (ro_ne t36 t25 (by decide))) (by rw [← (pr2 e2).2, up_n (ro_ne t59 t46 (by decide)), up_n (ro_ne t59 t50 (by decide))])
theorem fi_wait (Q : q_all τ Z gi gr gm rm A) (K : c_core τ gi gr gm A) (hf : c_find gi gm A) {v r1 r2 : Int32} (e1 : F_X11_wait τ Z gi gr (A 11) v = (r1, gi1)) (e2 : F_X12_wait τ Z gm rm (A 12) v = (r2, gm2)) : c_find gi1 gm2 A := by
  obtain ⟨hJ, hJm, hC, hQ, no, nb, wi, cb, cu, ct, cs, cl, cr, cw⟩ := Q
  have K' := K
  obtain ⟨a1, a2, a3, a4, a5, a6, a7, a8⟩ := K'
  have no' : gm (A 12) 8 = gi (A 1) 6 := no.symm
  have n162 := (n_b hJ hC).2
  unfold F_X11_wait f_X11_wait_45 at e1
  unfold F_X12_wait F_X12_isBoat f_X12_wait_32 at e2
  dsimp only at e1 e2
  rw [hC.g 11 0 1 (by decide), hC.g 1 4 2 (by decide), hC.g 11 1 10 (by decide)] at e1
  rw [w0_m, no', hQ.g 12 50 (by decide), hQ.g 18 54 (by decide), hQ.g 19 55 (by decide), ← pl_eq (Z := Z) hC hQ (v := v) a4.1 a5 a6, ← a5] at e2
  by_cases g1 : W0 v 0 (gi (A 1) 6 - 1) = 0
  · rw [bo_no hJ hC g1] at e1
    rw [if_pos g1] at e2
    exact hf.fip hC hQ (w1 := 1) (by decide) (by decide) e1 e2
  obtain ⟨f1, f2, f3, f4⟩ := bo_yes (Z := Z) hJ hC g1
  have hvi : ((v.toNatClampNeg : Nat) : Int) < (gm (A 12) 8).toInt := by rw [f3, no']; exact f4
  obtain ⟨qb, hqb⟩ := cb v.toNatClampNeg hvi
  rw [f1, hqb.1] at e1
  rw [if_neg g1] at e2
  simp only [Option.elim_some] at e1
  have hv0 : 0 ≤ v.toInt := by omega
  have rX := hC.e 2 0 24 (by decide)
  have t24 := hC.t 24 24 (by decide) rfl
  have t25 := hC.t 25 25 (by decide) rfl
  have t10 := hC.t 10 10 (by decide) rfl
  have t35 := hC.t 35 35 (by decide) rfl
  have t50 := hQ.t 12 50 (by decide)
  have t46 := hQ.t 7 46 (by decide)
  have t54 := hQ.t 18 54 (by decide)
  have t55 := hQ.t 19 55 (by decide)
  rw [bo_of rX hv0 (by omega)] at e1
  rw [← a2 v.toNatClampNeg hvi] at e2
  rcases be_x a1 (i := v.toNatClampNeg) (by omega) with z1 | ⟨z1, -⟩
  rotate_left
  · rw [if_neg (fun q => by rw [q, k_m1] at z1; omega)] at e1
    rw [if_pos (i_le.mpr (by rw [k_0]; exact z1))] at e2
    exact hf.fip hC hQ (w1 := 3) (by decide) (by decide) e1 e2
  rw [z1, if_pos rfl] at e1
  rw [z1, if_neg (by decide)] at e2
  rcases pl_at (Z := Z) hC (g := gi) (v := v) a4.1 with ⟨k1, k2⟩ | ⟨k, k1, k2, k3⟩
  rotate_left
  · rw [if_neg (fun q => by have := i_ltI.mp q; rw [k_0] at this; omega)] at e1 e2
    exact hf.fip hC hQ (w1 := 3) (by decide) (by decide) e1 e2
  rw [k1, if_pos (by decide)] at e1 e2
  by_cases g3 : gi (A 10) 2 < 10
  rotate_left
  · rw [if_neg g3] at e1
    rw [if_pos (i_lt 10 (by decide) a4.1 g3)] at e2
    exact hf.fip hC hQ (w1 := 4) (by decide) (by decide) e1 e2
  have g3' := i_ltI.mp g3
  rw [k_10'] at g3'
  rw [if_pos g3] at e1
  rw [if_neg (fun q => by rw [q] at g3'; exact absurd g3' (by decide))] at e2
  have tb := (a7 v.toNatClampNeg qb hvi hqb.1).1
  have nb10 : A 10 ≠ qb := by rcases tb with t | t | t <;> exact ro_ne t10 t (by decide)
  have nb35 : A 35 ≠ qb := by rcases tb with t | t | t <;> exact ro_ne t35 t (by decide)
  have h10 : va_up gi qb (upd (gi qb) 5 0) (A 10) = gi (A 10) := up_n nb10
  obtain ⟨u1, u2, u3⟩ := ap_sp (τ := τ) (Z := Z) (gi := va_up gi qb (upd (gi qb) 5 0)) hC (v := v) (by rw [h10]; exact g3)
  have t36 := hC.t 36 36 (by decide) rfl
  have t59 := hQ.t 26 59 (by decide)
  exact hf.up (by rw [← (pr2 e1).2, u2 _ (ro_ne t36 t10 (by decide)) (ro_ne t36 t35 (by decide))]; rcases tb with t | t | t <;> exact up_n (ro_ne t36 t (by decide))) (by rw [← (pr2 e2).2, up_n (ro_ne t59 hQ.1 (by decide)), up_n (ro_ne t59 t55 (by decide)), up_n (ro_ne t59 t54 (by decide))])
theorem fi_away (Q : q_all τ Z gi gr gm rm A) (K : c_core τ gi gr gm A) (hf : c_find gi gm A) {v r1 r2 : Int32} (e1 : F_X11_away τ Z gi gr (A 11) v = (r1, gi1)) (e2 : F_X12_away τ Z gm rm (A 12) v = (r2, gm2)) : c_find gi1 gm2 A := by
  obtain ⟨hJ, hJm, hC, hQ, no, nb, wi, cb, cu, ct, cs, cl, cr, cw⟩ := Q
  have K' := K
  obtain ⟨a1, a2, a3, a4, a5, a6, a7, a8⟩ := K'
  have no' : gm (A 12) 8 = gi (A 1) 6 := no.symm
  unfold F_X11_away at e1
  unfold F_X12_away F_X12_isBoat at e2
  dsimp only at e1 e2
  rw [hC.g 11 0 1 (by decide), hC.g 11 1 10 (by decide)] at e1
  rw [w0_m, no', ← pl_eq (Z := Z) hC hQ (v := v) a4.1 a5 a6] at e2
  by_cases g1 : W0 v 0 (gi (A 1) 6 - 1) = 0
  · rw [bo_no hJ hC g1] at e1
    rw [if_pos g1] at e2
    exact hf.fip hC hQ (w1 := 1) (by decide) (by decide) e1 e2
  obtain ⟨f1, f2, f3, f4⟩ := bo_yes (Z := Z) hJ hC g1
  have hvi : ((v.toNatClampNeg : Nat) : Int) < (gm (A 12) 8).toInt := by rw [f3, no']; exact f4
  obtain ⟨qb, hqb⟩ := cb v.toNatClampNeg hvi
  rw [f1, hqb.1] at e1
  rw [if_neg g1] at e2
  simp only [Option.elim_some] at e1
  have t24 := hC.t 24 24 (by decide) rfl
  have t25 := hC.t 25 25 (by decide) rfl
  have t10 := hC.t 10 10 (by decide) rfl
  have t35 := hC.t 35 35 (by decide) rfl
  have t50 := hQ.t 12 50 (by decide)
  have t46 := hQ.t 7 46 (by decide)
  have t54 := hQ.t 18 54 (by decide)
  have t55 := hQ.t 19 55 (by decide)
  rcases pl_at (Z := Z) hC (g := gi) (v := v) a4.1 with ⟨k1, k2⟩ | ⟨k, k1, k2, k3⟩
  · rw [k1, if_neg (by decide)] at e1 e2
    exact hf.fip hC hQ (w1 := 3) (by decide) (by decide) e1 e2
  · have hp0 : (0 : Int32) ≤ F_X10_placeOf τ Z gi gr (A 10) v := i_le.mpr (by rw [k_0]; omega)
    rw [if_pos hp0] at e1 e2
    have kc : (F_X10_placeOf τ Z gi gr (A 10) v).toNatClampNeg = k := cl_in k3.symm
    obtain ⟨u1, u2, u3⟩ := dr_sp (Z := Z) (gi := gi) hC (p := F_X10_placeOf τ Z gi gr (A 10) v) a4.1 (by omega) (by omega)
    obtain ⟨w1, w2, w3⟩ := go_sp (Z := Z) (gm := gm) hQ (p := F_X10_placeOf τ Z gi gr (A 10) v) (by rw [← a5]; exact a4.1) (by omega) (by rw [← a5]; omega)
    have t36 := hC.t 36 36 (by decide) rfl
    have t59 := hQ.t 26 59 (by decide)
    exact hf.up (by rw [← (pr2 e1).2]; exact u2 _ (ro_ne t36 t10 (by decide)) (ro_ne t36 t35 (by decide))) (by rw [← (pr2 e2).2]; exact w2 _ (ro_ne t59 hQ.1 (by decide)) (ro_ne t59 t54 (by decide)))
theorem fi_offer (Q : q_all τ Z gi gr gm rm A) (K : c_core τ gi gr gm A) (hf : c_find gi gm A) {p r1 r2 : Int32} (e1 : F_X11_offer τ Z gi gr (A 11) p = (r1, gi1)) (e2 : F_X12_offer τ Z gm rm (A 12) p = (r2, gm2)) : c_find gi1 gm2 A := by
  have Q' := Q
  obtain ⟨hJ, hJm, hC, hQ, no, nb, wi, cb, cu, ct, cs, cl, cr, cw⟩ := Q'
  have nb' : gm (A 12) 0 = gi (A 1) 5 := nb.symm
  unfold F_X11_offer at e1
  unfold F_X12_offer F_X12_isBuoy at e2
  dsimp only at e1 e2
  rw [w0_m, nb', hQ.g 7 46 (by decide), hQ.g 18 54 (by decide)] at e2
  rcases ob_at Q K (p := p) with ⟨g, k⟩ | ⟨g, l, k⟩ | ⟨g, l, o, k⟩ | ⟨g, l, z, h0, h1, j, j1, j2, k⟩
  · rw [if_pos g] at e2
    rw [k] at e1
    exact hf.fip hC hQ (w1 := 1) (by decide) (by decide) e1 e2
  · rw [if_neg g, if_neg l] at e2
    rw [k] at e1
    exact hf.fip hC hQ (w1 := 3) (by decide) (by decide) e1 e2
  · rw [if_neg g, if_pos l, o, if_neg (by decide)] at e2
    rw [k] at e1
    exact hf.fip hC hQ (w1 := 2) (by decide) (by decide) e1 e2
  · rw [if_neg g, if_pos l, if_pos (i_le.mpr (by rw [k_0]; omega)), cl_in j2.symm] at e2
    rw [k] at e1
    exact hf.same (pr2 e1).2 (pr2 e2).2
theorem fi_answer (Q : q_all τ Z gi gr gm rm A) (st : c_eq 11 9 20 gi gm A) (K : c_core τ gi gr gm A) (hf : c_find gi gm A) {p s r1 r2 : Int32} (e1 : F_X11_answer τ Z gi gr (A 11) p s = (r1, gi1)) (e2 : F_X12_answer τ Z gm rm (A 12) p s = (r2, gm2)) : c_find gi1 gm2 A := by
  have Q' := Q
  obtain ⟨hJ, hJm, hC, hQ, no, nb, wi, cb, cu, ct, cs, cl, cr, cw⟩ := Q'
  have K' := K
  obtain ⟨a1, a2, a3, a4, a5, a6, a7, a8⟩ := K'
  have no' : gm (A 12) 8 = gi (A 1) 6 := no.symm
  have nb' : gm (A 12) 0 = gi (A 1) 5 := nb.symm
  have n16 := n_b hJ hC
  have n162 := n16.2
  have n122 := (n_p hJ hC).2
  have n162' : (gm (A 12) 8).toInt ≤ 16 := by rw [no']; exact n162
  have n122' : (gm (A 12) 0).toInt ≤ 12 := by rw [nb']; exact n122
  unfold F_X11_answer F_X11_isFlag at e1
  unfold F_X12_answer F_X12_isBuoy f_X12_answer_17 at e2
  dsimp only at e1 e2
  rw [w0_c, hC.g 11 0 1 (by decide), hC.g 1 4 2 (by decide), hC.g 11 1 10 (by decide)] at e1
  rw [w0_m, w0_m, nb', hQ.g 7 46 (by decide), hQ.g 18 54 (by decide), hQ.g 19 55 (by decide)] at e2
  by_cases g0 : W0 s 0 1 = 0
  · rw [if_pos g0] at e1 e2
    have e2' : ((F_X12_finding τ Z gm rm (A 12) (-1000001)).1, (F_X12_finding τ Z gm rm (A 12) (-1000001)).2) = (r2, gm2) := by
      by_cases c : W0 p 0 (gi (A 1) 5 - 1) = 0
      · rw [if_pos c] at e2
        exact e2
      · rw [if_neg c] at e2
        exact e2
    exact hf.fip hC hQ (w1 := 1) (by decide) (by decide) e1 e2'
  rw [if_neg g0] at e1 e2
  have t24 := hC.t 24 24 (by decide) rfl
  have t25 := hC.t 25 25 (by decide) rfl
  have t10 := hC.t 10 10 (by decide) rfl
  have t35 := hC.t 35 35 (by decide) rfl
  have t11 := hC.t 11 11 (by decide) rfl
  have t50 := hQ.t 12 50 (by decide)
  have t46 := hQ.t 7 46 (by decide)
  have t54 := hQ.t 18 54 (by decide)
  have t55 := hQ.t 19 55 (by decide)
  have nXY := ro_ne t24 t25 (by decide)
  rcases ob_at Q K (p := p) with ⟨g, k⟩ | ⟨g, l, k⟩ | ⟨g, l, o, k⟩ | ⟨g, l, z, h0, h1, j, j1, j2, k⟩
  · rw [if_pos g] at e2
    rw [k] at e1
    dsimp only at e1
    rw [fn_bo hJ hC (by decide) (by decide)] at e1
    exact hf.fip hC hQ (w1 := 1) (by decide) (by decide) e1 e2
  · rw [if_neg g, if_neg l] at e2
    rw [k] at e1
    dsimp only at e1
    rw [fn_bo hJ hC (by decide) (by decide)] at e1
    exact hf.fip hC hQ (w1 := 3) (by decide) (by decide) e1 e2
  · rw [if_neg g, if_pos l, o, if_neg (by decide)] at e2
    rw [k] at e1
    dsimp only at e1
    rw [fn_bo hJ hC (by decide) (by decide)] at e1
    exact hf.fip hC hQ (w1 := 2) (by decide) (by decide) e1 e2
  · rw [if_neg g, if_pos l, if_pos (i_le.mpr (by rw [k_0]; omega)), cl_in j2.symm, ← a6 j j1] at e2
    rw [k] at e1
    dsimp only at e1
    obtain ⟨o1, o2, o3⟩ := a4.2.1 j j1
    have co := i_cl o1
    rw [bo_g hC n16 o1 (by rw [← no']; exact o2)] at e1
    have hvi : (((gi (A 35) j).toNatClampNeg : Nat) : Int) < (gm (A 12) 8).toInt := by omega
    obtain ⟨qb, hqb⟩ := cb (gi (A 35) j).toNatClampNeg hvi
    rw [hqb.1] at e1
    simp only [Option.elim_some] at e1
    obtain ⟨tb, er⟩ := a7 _ qb hvi hqb.1
    have t36 := hC.t 36 36 (by decide) rfl
    have t59 := hQ.t 26 59 (by decide)
    by_cases c1 : s = 1
    · rw [if_pos c1] at e1 e2
      obtain ⟨⟨u1, u2⟩, ⟨w1, w2⟩, l1, l2, l3⟩ := off_eq (Z := Z) hC hQ (g := gi) (m := gm) (v := gi (A 35) j) a4 a5 a6 j1 rfl rfl j2
      exact hf.up (by rw [← (pr2 e1).2, pu_fr (hC.e 2 0 24 (by decide)) (hC.e 2 1 25 (by decide)) (ro_ne t36 t24 (by decide)) (ro_ne t36 t25 (by decide))]; exact u2 _ (ro_ne t36 t10 (by decide)) (ro_ne t36 t35 (by decide))) (by rw [← (pr2 e2).2, (li_eq hQ).2.2 _ (ro_ne t59 t50 (by decide)) (ro_ne t59 t46 (by decide))]; exact w2 _ (ro_ne t59 hQ.1 (by decide)) (ro_ne t59 t54 (by decide)))
    · rw [if_neg c1] at e1 e2
      have s11 : va_up gi qb (upd (gi qb) 5 (gi qb 5 ||| 1 <<< (p &&& 31))) (A 11) = gi (A 11) := by
        rcases tb with t | t | t <;> exact up_n (ro_ne t11 t (by decide))
      have s12 : va_up gm (A 55) (upd (gm (A 55)) (gi (A 35) j).toNatClampNeg (gm (A 55) (gi (A 35) j).toNatClampNeg ||| 1 <<< (p &&& 31))) (A 12) = gm (A 12) := up_n (ro_ne hQ.1 t55 (by decide))
      have st' : gm (A 12) 20 = gi (A 11) 9 := st.symm
      rw [s11] at e1
      rw [s12, st'] at e2
      have x10 : va_up gi qb (upd (gi qb) 5 (gi qb 5 ||| 1 <<< (p &&& 31))) (A 10) = gi (A 10) := by
        rcases tb with t | t | t <;> exact up_n (ro_ne t10 t (by decide))
      have x35 : va_up gi qb (upd (gi qb) 5 (gi qb 5 ||| 1 <<< (p &&& 31))) (A 35) = gi (A 35) := by
        rcases tb with t | t | t <;> exact up_n (ro_ne t35 t (by decide))
      have x36 : va_up gi qb (upd (gi qb) 5 (gi qb 5 ||| 1 <<< (p &&& 31))) (A 36) = gi (A 36) := by
        rcases tb with t | t | t <;> exact up_n (ro_ne t36 t (by decide))
      have y54 : va_up gm (A 55) (upd (gm (A 55)) (gi (A 35) j).toNatClampNeg (gm (A 55) (gi (A 35) j).toNatClampNeg ||| 1 <<< (p &&& 31))) (A 54) = gm (A 54) := up_n (ro_ne t54 t55 (by decide))
      have y59 : va_up gm (A 55) (upd (gm (A 55)) (gi (A 35) j).toNatClampNeg (gm (A 55) (gi (A 35) j).toNatClampNeg ||| 1 <<< (p &&& 31))) (A 59) = gm (A 59) := up_n (ro_ne t59 t55 (by decide))
      generalize va_up gi qb (upd (gi qb) 5 (gi qb 5 ||| 1 <<< (p &&& 31))) = g17 at e1 x10 x35 x36
      generalize va_up gm (A 55) (upd (gm (A 55)) (gi (A 35) j).toNatClampNeg (gm (A 55) (gi (A 35) j).toNatClampNeg ||| 1 <<< (p &&& 31))) = g33 at e2 s12 y54 y59
      by_cases c2 : gi (A 11) 9 = 0
      · rw [if_pos c2] at e1 e2
        obtain ⟨⟨u1, u2⟩, ⟨w1, w2⟩, l1, l2, l3⟩ := off_eq (Z := Z) hC hQ (g := g17) (m := g33) (x := gi (A 24)) (v := gi (A 35) j) (by rw [x10, x35]; exact a4) (by rw [x10, s12]; exact a5) (by rw [x10, x35, y54]; exact a6) (by rw [x10]; exact j1) (by rw [x35]) rfl j2
        rw [x10] at u1
        have e' := s_m1 a4.1
        have lt : F_X10_drop τ Z g17 gr (A 10) (F_X10_placeOf τ Z g17 gr (A 10) (gi (A 35) j)) (A 10) 2 < 10 := by
          rw [u1, ud_s, i_ltI, e', k_10']
          have := a4.1.2
          omega
        obtain ⟨v1, v2, v3⟩ := ap_sp (τ := τ) (Z := Z) (gi := F_X10_drop τ Z g17 gr (A 10) (F_X10_placeOf τ Z g17 gr (A 10) (gi (A 35) j))) hC (v := gi (A 35) j) lt
        exact hf.up (by rw [← (pr2 e1).2, v2 _ (ro_ne t36 t10 (by decide)) (ro_ne t36 t35 (by decide)), u2 _ (ro_ne t36 t10 (by decide)) (ro_ne t36 t35 (by decide))]; exact x36) (by rw [← (pr2 e2).2, up_n (ro_ne t59 hQ.1 (by decide)), up_n (ro_ne t59 t54 (by decide)), w2 _ (ro_ne t59 hQ.1 (by decide)) (ro_ne t59 t54 (by decide))]; exact y59)
      · rw [if_neg c2] at e1 e2
        exact hf.up (by rw [← (pr2 e1).2]; exact x36) (by rw [← (pr2 e2).2]; exact y59)
theorem fi_content (hJ : th_J τ gi gr) (hC : ro_C τ gr A) (hQ : ro_M τ rm A) (no : c_eq 1 6 8 gi gm A) (hb : c_boat τ gi gr gm A) (h : c_wish τ gi gr gm A) (hf : c_find gi gm A) {v r1 r2 : Int32} (e1 : F_X11_content τ Z gi gr (A 11) v = (r1, gi1)) (e2 : F_X12_content τ Z gm rm (A 12) v = (r2, gm2)) : c_find gi1 gm2 A := by
  have no' : gm (A 12) 8 = gi (A 1) 6 := no.symm
  unfold F_X11_content at e1
  unfold F_X12_content F_X12_isBoat at e2
  dsimp only at e1 e2
  rw [hC.g 11 0 1 (by decide)] at e1
  rw [w0_m, no', hQ.g 21 56 (by decide)] at e2
  by_cases g1 : W0 v 0 (gi (A 1) 6 - 1) = 0
  · rw [bo_no hJ hC g1] at e1
    rw [if_pos g1] at e2
    exact hf.fip hC hQ (w1 := 1) (by decide) (by decide) e1 e2
  · obtain ⟨f1, f2, f3, f4⟩ := bo_yes (Z := Z) hJ hC g1
    obtain ⟨q, a1, a2, a3, a4, a5, a6, a7⟩ := hb v.toNatClampNeg (by rw [f3, no']; exact f4)
    rw [f1, a1] at e1
    rw [if_neg g1] at e2
    have t36 := hC.t 36 36 (by decide) rfl
    exact hf.up (by rw [← (pr2 e1).2]; rcases a5.nz with t | t | t <;> exact up_n (ro_ne t36 t (by decide))) (by rw [← (pr2 e2).2]; exact up_n (ro_ne (hQ.t 26 59 (by decide)) (hQ.t 21 56 (by decide)) (by decide)))
theorem fi_rather (hJ : th_J τ gi gr) (hJm : th_J τ gm rm) (hC : ro_C τ gr A) (hQ : ro_M τ rm A) (nb : c_eq 1 5 0 gi gm A) (no : c_eq 1 6 8 gi gm A) (hb : c_boat τ gi gr gm A) (hs : c_bsh gi gr gm A) (h : c_wish τ gi gr gm A) (hf : c_find gi gm A) {v p r1 r2 : Int32} (e1 : F_X11_rather τ Z gi gr (A 11) v p = (r1, gi1)) (e2 : F_X12_rather τ Z gm rm (A 12) v p = (r2, gm2)) : c_find gi1 gm2 A := by
  have nb' : gm (A 12) 0 = gi (A 1) 5 := nb.symm
  have no' : gm (A 12) 8 = gi (A 1) 6 := no.symm
  unfold F_X11_rather f_X11_rather_24 at e1
  unfold F_X12_rather F_X12_isBoat F_X12_isBuoy f_X12_rather_16 at e2
  dsimp only at e1 e2
  rw [hC.g 11 0 1 (by decide)] at e1
  rw [w0_m, w0_m, no', nb'] at e2
  have fin : ∀ {w1 w2 : Int32}, ¬ W0 w1 1 5 = 0 → (-1000000) - w2 = w1 → ((F_X11_finding τ Z gi gr (A 11) w1).1, (F_X11_finding τ Z gi gr (A 11) w1).2) = (r1, gi1) → ((F_X12_finding τ Z gm rm (A 12) w2).1, (F_X12_finding τ Z gm rm (A 12) w2).2) = (r2, gm2) → c_find gi1 gm2 A := fun q1 q2 q3 q4 => hf.fip hC hQ q1 q2 q3 q4
  by_cases g1 : W0 v 0 (gi (A 1) 6 - 1) = 0
  · rw [bo_no hJ hC g1] at e1
    rw [if_pos g1] at e2
    exact fin (w1 := 1) (by decide) (by decide) e1 e2
  obtain ⟨f1, f2, f3, f4⟩ := bo_yes (Z := Z) hJ hC g1
  have hvi : ((v.toNatClampNeg : Nat) : Int) < (gm (A 12) 8).toInt := by rw [f3, no']; exact f4
  obtain ⟨q, a1, a2, a3, a4, a5, a6, a7⟩ := hb v.toNatClampNeg hvi
  rw [f1, a1] at e1
  rw [if_neg g1] at e2
  by_cases g2 : W0 p 0 (gi (A 1) 5 - 1) = 0
  · simp only [Option.elim_some, bu_no (Z := Z) hJ hC g2, Option.elim_none] at e1
    rw [if_pos g2] at e2
    exact fin (w1 := 1) (by decide) (by decide) e1 e2
  obtain ⟨m1, m2, m3, m4⟩ := bu_yes (Z := Z) hJ hC g2
  obtain ⟨qp, hqp⟩ := hs p.toNatClampNeg (by rw [m3, nb']; exact m4)
  rw [if_neg g2] at e2
  simp only [Option.elim_some, m1, hqp] at e1
  obtain ⟨w1, w2, w3⟩ := h
  obtain ⟨x0, x1, w, x2, tw, x3⟩ := w1 v.toNatClampNeg q hvi a1
  have rn : ∀ i, i < 16 → rg 0 4 (gm (A 56) i) := fun i hi => (hJm.at (hQ.t 21 56 (by decide)) (by decide)) i hi
  have hc := rn v.toNatClampNeg f2
  have hcg : rg 0 4 (gi q 4) := by rw [x1]; exact hc
  have hc1 := hc.1
  have hc2 := hc.2
  have n16 := (n_b hJ hC).2
  have hA := wf_sp (τ := τ) (Z := Z) (p := p) x2 hcg ((4 - (0 : Int32).toInt).toNat + 1) 0 (by decide) (Nat.lt_add_one _)
  have hB := ra_sp (Z := Z) (gi := gm) hQ (p := p) (v := v) ⟨by omega, by omega⟩ hc ((4 - (0 : Int32).toInt).toNat + 1) 0 (by decide) (Nat.lt_add_one _)
  have z0 : (0 : Int32).toInt = 0 := by decide
  have same : ∀ j : Nat, (j : Int) < (gm (A 56) v.toNatClampNeg).toInt → gi w j = gm (A 57) (4 * v.toNatClampNeg + j) := x3
  unfold F_X2_wishesFor at e1
  rcases hA with ⟨b1, j, b2, b3, b4⟩ | ⟨b1, b2⟩
  · rcases hB with ⟨d1, -⟩ | ⟨-, d2⟩
    · rw [b1, if_neg (by decide)] at e1
      rw [d1] at e2
      exact fin (w1 := 3) (by decide) (by decide) e1 e2
    · rw [x1] at b3
      exact absurd ((same j b3).symm.trans b4) (d2 j b2 b3)
  · rcases hB with ⟨-, j, d2, d3, d4⟩ | ⟨d1, -⟩
    · exact absurd ((same j d3).trans d4) (b2 j d2 (by rw [x1]; exact d3))
    · rw [b1, if_pos rfl] at e1
      rw [d1] at e2
      by_cases g4 : gi q 4 < 4
      · have hn4 : ¬ gm (A 56) v.toNatClampNeg = 4 := fun e => by
          rw [x1, e] at g4
          exact absurd g4 (by decide)
        have hlt : (gm (A 56) v.toNatClampNeg).toInt < 4 := by
          have e := Int32.lt_iff_toInt_lt.mp g4
          rw [x1] at e
          exact e
        rw [if_pos g4] at e1
        rw [if_neg hn4] at e2
        unfold F_X2_addWish at e1
        dsimp only at e1
        rw [if_neg (Int32.not_le.mpr g4), x2] at e1
        have t36 := hC.t 36 36 (by decide) rfl
        have t59 := hQ.t 26 59 (by decide)
        exact hf.up (by rw [← (pr2 e1).2]; rcases x0 with t | t | t <;> exact (up_n (ro_ne t36 t (by decide))).trans (up_n (ro_ne t36 tw (by decide)))) (by rw [← (pr2 e2).2, up_n (ro_ne t59 (hQ.t 21 56 (by decide)) (by decide)), up_n (ro_ne t59 (hQ.t 22 57 (by decide)) (by decide))])
      · have h4 : gm (A 56) v.toNatClampNeg = 4 := by
          rw [← x1]
          exact i_lt 4 (by decide) hcg g4
        rw [if_neg g4] at e1
        rw [if_pos h4] at e2
        exact fin (w1 := 4) (by decide) (by decide) e1 e2
theorem fi_ring (Q : q_all τ Z gi gr gm rm A) (K : c_core τ gi gr gm A) (W : c_wish τ gi gr gm A) (V : c_wnb gm A) (hf : c_find gi gm A) {v r1 r2 : Int32} (e1 : F_X11_ring τ Z gi gr (A 11) v = (r1, gi1)) (e2 : F_X12_ring τ Z gm rm (A 12) v = (r2, gm2)) : c_find gi1 gm2 A := by
  obtain ⟨N, hN, h16, R, hz⟩ := rings Q K W V
  obtain ⟨hJ, hJm, hC, hQ, no, nb, wi, cb, cu, ct, cs, cl, cr, cw⟩ := Q
  obtain ⟨a1, a2, -⟩ := K
  have no' : gm (A 12) 8 = gi (A 1) 6 := no.symm
  have n162 := (n_b hJ hC).2
  unfold F_X11_ring at e1
  unfold F_X12_ring F_X12_isBoat at e2
  dsimp only at e1 e2
  rw [hC.g 11 0 1 (by decide), hC.g 1 4 2 (by decide), hC.g 11 3 6 (by decide)] at e1
  rw [w0_m, no', hQ.g 12 50 (by decide), hQ.g 34 65 (by decide)] at e2
  by_cases g1 : W0 v 0 (gi (A 1) 6 - 1) = 0
  · rw [bo_no hJ hC g1] at e1
    rw [if_pos g1] at e2
    exact hf.fip hC hQ (w1 := 1) (by decide) (by decide) e1 e2
  obtain ⟨f1, f2, f3, f4⟩ := bo_yes (Z := Z) hJ hC g1
  obtain ⟨qb, hqb⟩ := cb v.toNatClampNeg (by rw [f3, no']; exact f4)
  rw [f1, hqb.1] at e1
  rw [if_neg g1] at e2
  simp only [Option.elim_some] at e1
  have hv0 : 0 ≤ v.toInt := by omega
  rw [bo_of (hC.e 2 0 24 (by decide)) hv0 (by omega)] at e1
  rw [← a2 v.toNatClampNeg (by rw [no']; omega)] at e2
  rcases be_x a1 (i := v.toNatClampNeg) (by omega) with z1 | ⟨z1, -⟩
  · rw [z1, if_pos rfl] at e1
    rw [z1, if_neg (by decide)] at e2
    exact hf.fip hC hQ (w1 := 3) (by decide) (by decide) e1 e2
  · rw [if_neg (fun q => by rw [q, k_m1] at z1; omega), bf_at hC hv0 (by omega)] at e1
    rw [if_pos (i_le.mpr (by rw [k_0]; exact z1))] at e2
    have t36 := hC.t 36 36 (by decide) rfl
    have t59 := hQ.t 26 59 (by decide)
    exact hf.up (by rw [← (pr2 e1).2]; exact R.1 _ (ro_ne t36 (hC.t 6 6 (by decide) rfl) (by decide)) (ro_ne t36 (hC.t 28 28 (by decide) rfl) (by decide)) (ro_ne t36 (hC.t 29 29 (by decide) rfl) (by decide))) (by rw [← (pr2 e2).2]; exact R.2.1 _ (ro_ne t59 (hQ.t 34 65 (by decide)) (by decide)) (ro_ne t59 (hQ.t 35 66 (by decide)) (by decide)) (ro_ne t59 (hQ.t 36 67 (by decide)) (by decide)))
theorem fi_years (Q : q_all τ Z gi gr gm rm A) (K : c_core τ gi gr gm A) (we : c_wear τ gi gr gm A) (hf : c_find gi gm A) {p r1 r2 : Int32} (e1 : F_X11_years τ Z gi gr (A 11) p = (r1, gi1)) (e2 : F_X12_years τ Z gm rm (A 12) p = (r2, gm2)) : c_find gi1 gm2 A := by
  have Q' := Q
  obtain ⟨hJ, hJm, hC, hQ, no, nb, wi, cb, cu, ct, cs, cl, cr, cw⟩ := Q'
  have nb' : gm (A 12) 0 = gi (A 1) 5 := nb.symm
  have n12 := n_p hJ hC
  unfold F_X11_years at e1
  unfold F_X12_years at e2
  dsimp only at e1 e2
  rw [w0_c] at e1
  rw [w0_m] at e2
  by_cases g1 : W0 p 1 30 = 0
  · rw [if_pos g1] at e1 e2
    exact hf.fip hC hQ (w1 := 1) (by decide) (by decide) e1 e2
  rw [if_neg g1] at e1 e2
  have hp := w0_rg (l := 1) (h := 30) (by decide) (by decide) g1
  obtain ⟨w1, w2⟩ := we
  have S0 : y_st τ gi gr gm A (0 : Int32).toInt gi := ⟨⟨fun _ _ => rfl, fun _ _ _ _ _ => rfl⟩, fun i q hi hq => by
    obtain ⟨x0, x1, x2, x3, x4⟩ := w1 i q hi hq
    have := x3.2
    have := x4.2
    rw [x1] at *
    rw [x2] at *
    rw [k_0]
    exact ⟨by omega, by omega⟩⟩
  have hp0 := hp.1
  have hp2 := hp.2
  obtain ⟨g', u1, u2⟩ := yl_sp (gz := gi) Q K ⟨w1, w2⟩ hp ((30 - (0 : Int32).toInt).toNat + 1) gi 0 (by decide) (by rw [k_0]; omega) (Nat.lt_add_one _) S0
  obtain ⟨m', v1, v2, v3, v4⟩ := ym_sp (τ := τ) (Z := Z) (gm := gm) (gz := gm) hQ (by rw [nb']; exact n12) (p := p) ((12 - (0 : Int32).toInt).toNat + 1) gm 0 (by decide) (Nat.lt_add_one _) (fun _ _ _ => rfl)
  rw [u1] at e1
  rw [v1] at e2
  have t59 := hQ.t 26 59 (by decide)
  exact hf.up (by rw [← (pr2 e1).2]; exact u2.1.1 _ (by rw [hC.t 36 36 (by decide) rfl]; decide)) (by rw [← (pr2 e2).2]; exact v2 _ (ro_ne t59 (hQ.t 5 44 (by decide)) (by decide)) (ro_ne t59 (hQ.t 6 45 (by decide)) (by decide)))
theorem fi_renew (Q : q_all τ Z gi gr gm rm A) (we : c_wear τ gi gr gm A) (hf : c_find gi gm A) {p r1 r2 : Int32} (e1 : F_X11_renew τ Z gi gr (A 11) p = (r1, gi1)) (e2 : F_X12_renew τ Z gm rm (A 12) p = (r2, gm2)) : c_find gi1 gm2 A := by
  obtain ⟨hJ, hJm, hC, hQ, no, nb, wi, cb, cu, ct, cs, cl, cr, cw⟩ := Q
  have nb' : gm (A 12) 0 = gi (A 1) 5 := nb.symm
  unfold F_X11_renew at e1
  unfold F_X12_renew F_X12_isBuoy at e2
  dsimp only at e1 e2
  rw [hC.g 11 0 1 (by decide)] at e1
  rw [w0_m, nb', hQ.g 6 45 (by decide), hQ.g 5 44 (by decide)] at e2
  by_cases g2 : W0 p 0 (gi (A 1) 5 - 1) = 0
  · rw [bu_no hJ hC g2] at e1
    rw [if_pos g2] at e2
    exact hf.fip hC hQ (w1 := 1) (by decide) (by decide) e1 e2
  obtain ⟨m1, m2, m3, m4⟩ := bu_yes (Z := Z) hJ hC g2
  have hj : ((p.toNatClampNeg : Nat) : Int) < (gm (A 12) 0).toInt := by rw [m3, nb']; exact m4
  obtain ⟨qp, hqp⟩ := cu p.toNatClampNeg hj
  obtain ⟨x0, x1, x2, x3, x4⟩ := we.1 _ qp hj hqp.1
  rw [m1, hqp.1] at e1
  rw [if_neg g2] at e2
  simp only [Option.elim_some] at e1
  have t36 := hC.t 36 36 (by decide) rfl
  have t59 := hQ.t 26 59 (by decide)
  exact hf.up (by rw [← (pr2 e1).2, up_n (ro_ne t36 x0 (by decide)), up_n (ro_ne t36 x0 (by decide))]) (by rw [← (pr2 e2).2, up_n (ro_ne t59 (hQ.t 5 44 (by decide)) (by decide)), up_n (ro_ne t59 (hQ.t 6 45 (by decide)) (by decide))])
theorem fi_look (Q : q_all τ Z gi gr gm rm A) (we : c_wear τ gi gr gm A) (hf : c_find gi gm A) {p v s r1 r2 : Int32} (e1 : F_X11_look τ Z gi gr (A 11) p v s = (r1, gi1)) (e2 : F_X12_look τ Z gm rm (A 12) p v s = (r2, gm2)) : c_find gi1 gm2 A := by
  obtain ⟨hJ, hJm, hC, hQ, no, nb, wi, cb, cu, ct, cs, cl, cr, cw⟩ := Q
  have nb' : gm (A 12) 0 = gi (A 1) 5 := nb.symm
  unfold F_X11_look f_X11_look_32 f_X11_look_74 f_X11_look_125 F_X11_isFlag F_X3_doubt at e1
  unfold F_X12_look F_X12_isBuoy f_X12_look_27 f_X12_look_69 f_X12_look_111 f_X12_look_62 at e2
  dsimp only at e1 e2
  rw [hC.g 11 0 1 (by decide), w0_c, w0_c] at e1
  rw [w0_m, w0_m, w0_m, nb', hQ.g 6 45 (by decide), hQ.g 5 44 (by decide)] at e2
  by_cases g2 : W0 p 0 (gi (A 1) 5 - 1) = 0
  · rw [bu_no hJ hC g2] at e1
    rw [if_pos g2] at e2
    exact hf.fip hC hQ (w1 := 1) (by decide) (by decide) e1 e2
  obtain ⟨m1, m2, m3, m4⟩ := bu_yes (Z := Z) hJ hC g2
  have hj : ((p.toNatClampNeg : Nat) : Int) < (gm (A 12) 0).toInt := by rw [m3, nb']; exact m4
  obtain ⟨qp, hqp⟩ := cu p.toNatClampNeg hj
  obtain ⟨x0, x1, x2, x3, x4⟩ := we.1 _ qp hj hqp.1
  rw [m1, hqp.1] at e1
  rw [if_neg g2] at e2
  simp only [Option.elim_some] at e1
  by_cases g3 : W0 v 0 100 = 0
  · rw [if_pos g3] at e1 e2
    exact hf.fip hC hQ (w1 := 1) (by decide) (by decide) e1 e2
  rw [if_neg g3] at e1 e2
  by_cases g4 : W0 s 0 1 = 0
  · rw [if_pos g4] at e1 e2
    exact hf.fip hC hQ (w1 := 1) (by decide) (by decide) e1 e2
  rw [if_neg g4] at e1 e2
  have hv := w0_rg (l := 0) (h := 100) (by decide) (by decide) g3
  have t44 := hQ.t 5 44 (by decide)
  have t36 := hC.t 36 36 (by decide) rfl
  have t59 := hQ.t 26 59 (by decide)
  have t45 := hQ.t 6 45 (by decide)
  have n45 := ro_ne t44 t45 (by decide)
  have ev1 : (v - 1).toInt = v.toInt - 1 := by
    have := hv.1
    have := hv.2
    rw [i_sub (by rw [k_1]; omega) (by rw [k_1]; omega), k_1]
  have h10 : ¬ (1 : Int32) = 0 := by decide
  obtain ⟨l1, l2⟩ := x3
  obtain ⟨h1, h2⟩ := x4
  have hv1 := hv.1
  have hv2 := hv.2
  by_cases c1 : s = 1
  · rw [if_pos c1] at e1 e2
    rw [← x2] at e2
    by_cases c2 : gi qp 7 < v
    · rw [if_pos c2, if_pos trivial] at e1
      rw [if_neg (Int32.not_le.mpr c2)] at e2
      exact hf.fip hC hQ (w1 := 2) (by decide) (by decide) e1 e2
    · rw [if_neg c2, if_neg h10, if_pos c1] at e1
      rw [if_pos (Int32.not_lt.mp c2), if_pos c1, ← x1] at e2
      exact hf.up (by rw [← (pr2 e1).2]; exact up_n (ro_ne t36 x0 (by decide))) (by rw [← (pr2 e2).2]; exact up_n (ro_ne t59 t44 (by decide)))
  · rw [if_neg c1] at e1 e2
    rw [← x1] at e2
    by_cases c2 : v ≤ gi qp 6
    · rw [if_pos c2, if_pos trivial] at e1
      rw [if_neg (Int32.not_lt.mpr c2)] at e2
      exact hf.fip hC hQ (w1 := 2) (by decide) (by decide) e1 e2
    · rw [if_neg c2, if_neg h10, if_neg c1] at e1
      rw [if_pos (Int32.not_le.mp c2), if_neg c1, ← x2] at e2
      exact hf.up (by rw [← (pr2 e1).2]; exact up_n (ro_ne t36 x0 (by decide))) (by rw [← (pr2 e2).2]; exact up_n (ro_ne t59 t45 (by decide)))
theorem fi_storm (Q : q_all τ Z gi gr gm rm A) (K : c_core τ gi gr gm A) (we : c_wear τ gi gr gm A) (hf : c_find gi gm A) {s r1 r2 : Int32} (e1 : F_X11_storm τ Z gi gr (A 11) s = (r1, gi1)) (e2 : F_X12_storm τ Z gm rm (A 12) s = (r2, gm2)) : c_find gi1 gm2 A := by
  obtain ⟨hJ, hJm, hC, hQ, -⟩ := Q
  unfold F_X11_storm F_X11_isForce at e1
  unfold F_X12_storm at e2
  dsimp only at e1 e2
  rw [w0_c, hC.g 11 4 5 (by decide)] at e1
  rw [w0_m] at e2
  by_cases c : W0 s 1 100 = 0
  · rw [if_pos c] at e1 e2
    exact hf.fip hC hQ (w1 := 1) (by decide) (by decide) e1 e2
  · rw [if_neg c] at e1 e2
    have t36 := hC.t 36 36 (by decide) rfl
    exact hf.up (by rw [← (pr2 e1).2]; exact bl_fr hC (ro_ne t36 (hC.t 5 5 (by decide) rfl) (by decide)) (ro_ne t36 (hC.t 38 24 (by decide) rfl) (by decide)) (ro_ne t36 (hC.t 39 25 (by decide) rfl) (by decide))) (by rw [← (pr2 e2).2]; exact fe_fr hQ (hQ.t 26 59 (by decide)) (by decide))
theorem fi_fled (Q : q_all τ Z gi gr gm rm A) (K : c_core τ gi gr gm A) (we : c_wear τ gi gr gm A) (hf : c_find gi gm A) {v s r1 r2 : Int32} (e1 : F_X11_fled τ Z gi gr (A 11) v s = (r1, gi1)) (e2 : F_X12_fled τ Z gm rm (A 12) v s = (r2, gm2)) : c_find gi1 gm2 A := by
  obtain ⟨hJ, hJm, hC, hQ, no, nb, wi, cb, -⟩ := Q
  obtain ⟨a1, a2, -⟩ := K
  have no' : gm (A 12) 8 = gi (A 1) 6 := no.symm
  have n162 := (n_b hJ hC).2
  unfold F_X11_fled f_X11_fled_18 F_X11_isForce at e1
  unfold F_X12_fled F_X12_isBoat f_X12_fled_18 at e2
  dsimp only at e1 e2
  rw [w0_c, hC.g 11 4 5 (by decide), hC.g 11 0 1 (by decide), hC.g 1 4 2 (by decide), hC.g 5 1 13 (by decide)] at e1
  rw [w0_m, w0_m, no', hQ.g 12 50 (by decide), hQ.g 37 68 (by decide)] at e2
  by_cases g1 : W0 v 0 (gi (A 1) 6 - 1) = 0
  · rw [bo_no hJ hC g1] at e1
    rw [if_pos g1] at e2
    exact hf.fip hC hQ (w1 := 1) (by decide) (by decide) e1 e2
  obtain ⟨f1, f2, f3, f4⟩ := bo_yes (Z := Z) hJ hC g1
  have hvi : ((v.toNatClampNeg : Nat) : Int) < (gm (A 12) 8).toInt := by rw [f3, no']; exact f4
  obtain ⟨qb, hqb⟩ := cb v.toNatClampNeg hvi
  rw [f1, hqb.1] at e1
  rw [if_neg g1] at e2
  simp only [Option.elim_some] at e1
  by_cases c : W0 s 1 100 = 0
  · rw [if_pos c] at e1 e2
    exact hf.fip hC hQ (w1 := 1) (by decide) (by decide) e1 e2
  rw [if_neg c] at e1 e2
  rw [bo_of (hC.e 2 0 24 (by decide)) (by omega) (by omega)] at e1
  rw [← a2 v.toNatClampNeg hvi] at e2
  rcases be_x a1 (i := v.toNatClampNeg) (by omega) with z1 | ⟨z1, -⟩
  · rw [z1, if_pos rfl] at e1
    rw [z1, if_neg (by decide)] at e2
    exact hf.fip hC hQ (w1 := 3) (by decide) (by decide) e1 e2
  · rw [if_neg (fun q => by rw [q, k_m1] at z1; omega), bo_of (hC.e 13 0 38 (by decide)) (by omega) (by omega)] at e1
    rw [if_pos (i_le.mpr (by rw [k_0]; exact z1))] at e2
    have t36 := hC.t 36 36 (by decide) rfl
    exact hf.up (by rw [← (pr2 e1).2]; exact bl_fr hC (ro_ne t36 (hC.t 5 5 (by decide) rfl) (by decide)) (ro_ne t36 (hC.t 38 24 (by decide) rfl) (by decide)) (ro_ne t36 (hC.t 39 25 (by decide) rfl) (by decide))) (by rw [← (pr2 e2).2]; exact fe_fr hQ (hQ.t 26 59 (by decide)) (by decide))
theorem fi_next (Q : q_all τ Z gi gr gm rm A) (we : c_wear τ gi gr gm A) (hf : c_find gi gm A) {r1 r2 : Int32} (e1 : F_X11_next τ Z gi gr (A 11) = (r1, gi1)) (e2 : F_X12_next τ Z gm rm (A 12) = (r2, gm2)) : c_find gi1 gm2 A := by
  obtain ⟨hJ, hJm, hC, hQ, no, nb, wi, cb, cu, ct, cs, cl, cr, cw⟩ := Q
  have nb' : gm (A 12) 0 = gi (A 1) 5 := nb.symm
  have n12 := n_p hJ hC
  have n120 := n12.1
  have n122 := n12.2
  have w1 := we.1
  rw [nb'] at w1
  unfold F_X11_next F_X0_leastKnown at e1
  unfold F_X12_next at e2
  dsimp only at e1 e2
  rw [hC.g 11 0 1 (by decide)] at e1
  rw [nb'] at e2
  by_cases g0 : gi (A 1) 5 = 0
  · rw [if_pos g0] at e2
    have z : f_X0_leastKnown_4 τ Z gi gr (A 1) ((12 - (0 : Int32).toInt).toNat + 1) none 0 = -1 := by
      show (if gi (A 1) 5 ≤ 0 then Option.elim (none : Option Nat) (-1) (fun q => gi q 0) else _) = _
      rw [g0, if_pos (by decide)]
      rfl
    rw [z, if_pos rfl] at e1
    exact hf.fip hC hQ (w1 := 2) (by decide) (by decide) e1 e2
  · have pos : 0 < (gi (A 1) 5).toInt := by
      have : (gi (A 1) 5).toInt ≠ 0 := fun q => g0 (i_inj (q.trans k_0.symm))
      omega
    rw [if_neg g0] at e2
    obtain ⟨q0, u⟩ := cu 0 (by rw [nb']; omega)
    have z : f_X0_leastKnown_4 τ Z gi gr (A 1) ((12 - (0 : Int32).toInt).toNat + 1) none 0 = f_X0_leastKnown_4 τ Z gi gr (A 1) ((12 - (0 : Int32).toInt).toNat) (some q0) 1 := by
      have hb := bu_g (Z := Z) hC n12 (y := 0) (by decide) (by rw [k_0]; exact pos)
      rw [show (0 : Int32).toNatClampNeg = 0 by decide, u.1] at hb
      show (if gi (A 1) 5 ≤ 0 then _ else Option.elim (F_X0_buoyAt τ Z gi gr (A 1) 0) _ _) = _
      rw [if_neg (fun q => by have := i_le.mp q; rw [k_0] at this; omega), hb]
      rfl
    have k := lk_0 (Z := Z) hC cu nb' n12 ((12 - (0 : Int32).toInt).toNat) 0 q0 1 (by decide) (by decide) (by omega) u.1
    rw [z, if_neg (fun q => by rw [q, k_m1] at k; omega)] at e1
    exact hf.same (pr2 e1).2 ((nx_18 (Z := Z) (gz := gm) hQ ((12 - (1 : Int32).toInt).toNat + 1) 0 1).symm.trans (by rw [e2]))
theorem fi_tide (hJ : th_J τ gi gr) (hC : ro_C τ gr A) (hQ : ro_M τ rm A) (hf : c_find gi gm A) {v w r1 r2 : Int32} (e1 : F_X11_tide τ Z gi gr (A 11) v w = (r1, gi1)) (e2 : F_X12_tide τ Z gm rm (A 12) v w = (r2, gm2)) : c_find gi1 gm2 A := by
  unfold F_X11_tide F_X11_isHour f_X11_tide_18 at e1
  unfold F_X12_tide f_X12_tide_21 at e2
  dsimp only at e1 e2
  rw [w0_c, w0_c, hC.g 11 0 1 (by decide), hC.g 1 2 22 (by decide)] at e1
  rw [w0_m, w0_m, hQ.g 13 51 (by decide)] at e2
  by_cases g1 : W0 v 0 23 = 0
  · rw [if_pos g1] at e1 e2
    exact hf.fip hC hQ (w1 := 1) (by decide) (by decide) e1 e2
  rw [if_neg g1] at e1 e2
  by_cases g2 : W0 w 0 200 = 0
  · rw [if_pos g2] at e1 e2
    exact hf.fip hC hQ (w1 := 1) (by decide) (by decide) e1 e2
  rw [if_neg g2] at e1 e2
  exact hf.up (by rw [← (pr2 e1).2]; exact fs_36 hJ hC g1) (by rw [← (pr2 e2).2]; exact up_n (ro_ne (hQ.t 26 59 (by decide)) (hQ.t 13 51 (by decide)) (by decide)))
theorem fi_winds (hC : ro_C τ gr A) (hQ : ro_M τ rm A) (hf : c_find gi gm A) {v r1 r2 : Int32} (e1 : F_X11_winds τ Z gi gr (A 11) v = (r1, gi1)) (e2 : F_X12_winds τ Z gm rm (A 12) v = (r2, gm2)) : c_find gi1 gm2 A := by
  unfold F_X11_winds at e1
  unfold F_X12_winds at e2
  dsimp only at e1 e2
  rw [w0_c, hC.g 11 0 1 (by decide)] at e1
  rw [w0_m] at e2
  by_cases hc : W0 v 1 255 = 0
  · rw [if_pos hc] at e1 e2
    exact hf.fip hC hQ (w1 := 1) (by decide) (by decide) e1 e2
  · rw [if_neg hc] at e1 e2
    exact hf.up (by rw [← (pr2 e1).2]; exact up_n (ro_ne (hC.t 36 36 (by decide) rfl) (hC.t 1 1 (by decide) rfl) (by decide))) (by rw [← (pr2 e2).2]; exact up_n (ro_ne (hQ.t 26 59 (by decide)) hQ.1 (by decide)))
theorem fi_tell (hJ : th_J τ gi gr) (hC : ro_C τ gr A) (hQ : ro_M τ rm A) (h : c_eq 11 7 24 gi gm A) (hf : c_find gi gm A) {v r1 r2 : Int32} (e1 : F_X11_tell τ Z gi gr (A 11) v = (r1, gi1)) (e2 : F_X12_tell τ Z gm rm (A 12) v = (r2, gm2)) : c_find gi1 gm2 A := by
  have hr : rg 0 24 (gi (A 11) 7) := (hJ.at (hC.t 11 11 (by decide) rfl) (by decide)).2.2.2.2.2.2.2.1
  unfold c_eq at h
  unfold F_X11_tell at e1
  unfold F_X12_tell at e2
  dsimp only at e1 e2
  rw [hC.g 11 6 37 (by decide)] at e1
  rw [hQ.g 25 58 (by decide), ← h] at e2
  by_cases hc : gi (A 11) 7 < 24
  · have hn : ¬ gi (A 11) 7 = 24 := fun q => by
      rw [q] at hc
      exact absurd hc (by decide)
    rw [if_pos hc] at e1
    rw [if_neg hn] at e2
    have t36 := hC.t 36 36 (by decide) rfl
    have t59 := hQ.t 26 59 (by decide)
    exact hf.up (by rw [← (pr2 e1).2, up_n (ro_ne t36 (hC.t 11 11 (by decide) rfl) (by decide)), up_n (ro_ne t36 (hC.t 37 37 (by decide) rfl) (by decide))]) (by rw [← (pr2 e2).2, up_n (ro_ne t59 hQ.1 (by decide)), up_n (ro_ne t59 (hQ.t 25 58 (by decide)) (by decide))])
  · rw [if_neg hc] at e1
    rw [if_pos (i_lt 24 (by decide) hr hc)] at e2
    exact hf.fip hC hQ (w1 := 4) (by decide) (by decide) e1 e2
theorem fi_rate (hC : ro_C τ gr A) (hQ : ro_M τ rm A) (hf : c_find gi gm A) {v r1 r2 : Int32} (e1 : F_X11_rate τ Z gi gr (A 11) v = (r1, gi1)) (e2 : F_X12_rate τ Z gm rm (A 12) v = (r2, gm2)) : c_find gi1 gm2 A := by
  unfold F_X11_rate at e1
  unfold F_X12_rate at e2
  dsimp only at e1 e2
  rw [w0_c] at e1
  rw [w0_m] at e2
  by_cases hc : W0 v 0 100 = 0
  · rw [if_pos hc] at e1 e2
    exact hf.fip hC hQ (w1 := 1) (by decide) (by decide) e1 e2
  · rw [if_neg hc] at e1 e2
    exact hf.up (by rw [← (pr2 e1).2]; exact up_n (ro_ne (hC.t 36 36 (by decide) rfl) (hC.t 11 11 (by decide) rfl) (by decide))) (by rw [← (pr2 e2).2]; exact up_n (ro_ne (hQ.t 26 59 (by decide)) hQ.1 (by decide)))
theorem fi_stays (hC : ro_C τ gr A) (hQ : ro_M τ rm A) (hf : c_find gi gm A) {v r1 r2 : Int32} (e1 : F_X11_stays τ Z gi gr (A 11) v = (r1, gi1)) (e2 : F_X12_stays τ Z gm rm (A 12) v = (r2, gm2)) : c_find gi1 gm2 A := by
  unfold F_X11_stays F_X11_isFlag at e1
  unfold F_X12_stays at e2
  dsimp only at e1 e2
  rw [w0_c] at e1
  rw [w0_m] at e2
  by_cases hc : W0 v 0 1 = 0
  · rw [if_pos hc] at e1 e2
    exact hf.fip hC hQ (w1 := 1) (by decide) (by decide) e1 e2
  · rw [if_neg hc] at e1 e2
    have n := ro_ne (hC.t 36 36 (by decide) rfl) (hC.t 11 11 (by decide) rfl) (by decide)
    have k : gi1 (A 36) = gi (A 36) := by
      by_cases c1 : gi (A 11) 9 = 0
      · rw [if_pos c1] at e1
        by_cases c2 : v = 1
        · rw [if_pos c2] at e1
          rw [← (pr2 e1).2]
          exact up_n n
        · rw [if_neg c2] at e1
          rw [← (pr2 e1).2]
          exact up_n n
      · rw [if_neg c1] at e1
        by_cases c2 : v = 1
        · rw [if_pos c2] at e1
          rw [← (pr2 e1).2]
          exact up_n n
        · rw [if_neg c2] at e1
          rw [← (pr2 e1).2]
          exact up_n n
    exact hf.up k (by rw [← (pr2 e2).2]; exact up_n (ro_ne (hQ.t 26 59 (by decide)) hQ.1 (by decide)))
theorem ct_4 (hQ : ro_M τ rm A) (hn : rg 0 16 (gm (A 12) 8)) {p : Int32} {gz : th_i} : ∀ (n : Nat) (x y : Int32), 0 ≤ y.toInt → (16 - y.toInt).toNat < n → ((p.toInt < 0 ∨ 6 < p.toInt) → f_X12_count_4 τ Z gz rm (A 12) p n gm x y = ((F_X12_finding τ Z gm rm (A 12) (-1000001)).1, (F_X12_finding τ Z gm rm (A 12) (-1000001)).2)) ∧ (¬ (p.toInt < 0 ∨ 6 < p.toInt) → (f_X12_count_4 τ Z gz rm (A 12) p n gm x y).2 = gm) := by
  have hn2 := hn.2
  intro n
  induction n with
  | zero => intro x y _ h; exact absurd h (Nat.not_lt_zero _)
  | succ n ih =>
    intro x y h0 h
    unfold f_X12_count_4 f_X12_count_27
    dsimp only
    rw [hQ.g 12 50 (by decide)]
    by_cases c : gm (A 12) 8 ≤ y
    · rw [if_pos c]
      constructor
      · intro q
        by_cases c1 : p.toInt < 0
        · rw [if_pos c1]
        · rw [if_neg c1, if_pos (q.resolve_left c1)]
      · intro q
        rw [if_neg (fun e => q (Or.inl e)), if_neg (fun e => q (Or.inr e))]
        repeat' split
        all_goals rfl
    · rw [if_neg c]
      have c' := i_ltI.mp (Int32.not_le.mp c)
      have e := y_1 (m := 16) (by decide) h0 (by omega)
      by_cases c1 : gm (A 50) y.toNatClampNeg < 0
      · rw [if_pos c1]
        exact ih _ _ (by omega) (by omega)
      · rw [if_neg c1]
        exact ih _ _ (by omega) (by omega)
theorem fi_count (hJm : th_J τ gm rm) (hC : ro_C τ gr A) (hQ : ro_M τ rm A) (hf : c_find gi gm A) {p r1 r2 : Int32} (e1 : F_X11_count τ Z gi gr (A 11) p = (r1, gi1)) (e2 : F_X12_count τ Z gm rm (A 12) p = (r2, gm2)) : c_find gi1 gm2 A := by
  have n16 : rg 0 16 (gm (A 12) 8) := (hJm.at hQ.1 (by decide)).2.2.2.2.2.2.2.2.1
  unfold F_X11_count at e1
  unfold F_X12_count at e2
  dsimp only at e1
  obtain ⟨k1, k2⟩ := ct_4 (Z := Z) hQ n16 (p := p) (gz := gm) ((16 - (0 : Int32).toInt).toNat + 1) 0 0 (by decide) (Nat.lt_add_one _)
  by_cases c : p.toInt < 0 ∨ 6 < p.toInt
  · rw [k1 c] at e2
    by_cases c1 : p.toInt < 0
    · rw [if_pos c1] at e1
      exact hf.fip hC hQ (w1 := 1) (by decide) (by decide) e1 e2
    · rw [if_neg c1, if_pos (c.resolve_left c1)] at e1
      exact hf.fip hC hQ (w1 := 1) (by decide) (by decide) e1 e2
  · rw [if_neg (fun e => c (Or.inl e)), if_neg (fun e => c (Or.inr e))] at e1
    have k : gi = gi1 := by
      repeat' split at e1
      all_goals exact (pr2 e1).2
    have k3 := k2 c
    rw [e2] at k3
    exact hf.same k k3.symm
theorem s_found (hC : ro_C τ gr A) (hQ : ro_M τ rm A) (hf : c_find gi gm A) {k r1 r2 : Int32} (e1 : F_X11_found τ Z gi gr (A 11) k = (r1, gi1)) (e2 : F_X12_found τ Z gm rm (A 12) k = (r2, gm2)) : r1 = r2 ∧ c_find gi1 gm2 A := by
  unfold F_X11_found at e1
  unfold F_X12_found at e2
  dsimp only at e1 e2
  rw [w0_c, hC.g 11 5 36 (by decide)] at e1
  rw [w0_m, hQ.g 26 59 (by decide)] at e2
  by_cases c : W0 k 1 5 = 0
  · rw [if_pos c] at e1 e2
    exact ⟨(s_fip hC hQ (w1 := 1) (by decide) (by decide) e1 e2).1, hf.fip hC hQ (w1 := 1) (by decide) (by decide) e1 e2⟩
  · rw [if_neg c] at e1 e2
    have hr := w0_rg (l := 1) (h := 5) (by decide) (by decide) c
    have h1 := hr.1
    have h2 := hr.2
    have ck := i_cl (v := k) (by omega)
    exact ⟨by rw [← (pr2 e1).1, ← (pr2 e2).1]; exact hf _ (by omega) (by omega), hf.same (pr2 e1).2 (pr2 e2).2⟩
theorem x_p1 {x : Int32} (h : x = x + 1) : False := by
  have h1 : x - x = x + 1 - x := congrArg (· - x) h
  rw [Int32.sub_self, Int32.add_comm, Int32.add_sub_cancel] at h1
  exact absurd h1 (by decide)
theorem fi_buoy (hJ : th_J τ gi gr) (hC : ro_C τ gr A) (hQ : ro_M τ1 rm A) (hQa : ro_M τ rm A) (h : c_eq 1 5 0 gi gm A) (ht : ∀ h : Nat, h < 24 → rg 0 200 (gi (A 22) h)) (hf : c_find gi gm A) {v1 v2 v3 v4 r1 r2 : Int32} (e1 : M_X11_buoy τ Z gi gr (A 11) v1 v2 v3 v4 r1 τ1 gi1 gr1) (e2 : F_X12_buoy τ1 Z gm rm (A 12) v1 v2 v3 v4 = (r2, gm2)) : c_find gi1 gm2 A := by
  have B := (bu_cases hJ hC hQ h ht e1 e2).2
  have hr : rg 0 12 (gi (A 1) 5) := n_p hJ hC
  have h10 : ((1 : Int32) = 0) = False := by decide
  unfold M_X11_buoy at e1
  unfold F_X12_buoy at e2
  simp only [w0_c, w0_m, f_X11_buoy_26, f_X11_buoy_27, f_X11_buoy_58, f_X12_buoy_46, h10, if_true, if_false, hC.g 11 0 1 (by decide)] at e1 e2
  by_cases g1 : W0 v1 0 999 = 0
  · rw [if_pos g1] at e1 e2
    exact hf.fim hC hQ (by decide) (by decide) e1 e2
  rw [if_neg g1] at e1 e2
  by_cases g2 : W0 v2 0 999 = 0
  · rw [if_pos g2] at e1 e2
    exact hf.fim hC hQ (by decide) (by decide) e1 e2
  rw [if_neg g2] at e1 e2
  by_cases g3 : W0 v3 0 300 = 0
  · rw [if_pos g3] at e1 e2
    exact hf.fim hC hQ (by decide) (by decide) e1 e2
  rw [if_neg g3] at e1 e2
  by_cases g4 : W0 v4 10 400 = 0
  · rw [if_pos g4] at e1 e2
    exact hf.fim hC hQ (by decide) (by decide) e1 e2
  rw [if_neg g4] at e1 e2
  have h' : gm (A 12) 0 = gi (A 1) 5 := h.symm
  rw [h'] at e2
  by_cases g5 : gi (A 1) 5 < 12
  · have hn : ¬ gi (A 1) 5 = 12 := fun q => by
      rw [q] at g5
      exact absurd g5 (by decide)
    rw [if_neg hn] at e2
    rcases B with f | k
    · have k1 : gm2 (A 12) 0 = gi (A 1) 5 := by rw [f.2.2.2 _ (ro_ne hQ.1 (hQ.t 26 59 (by decide)) (by decide)), h']
      have k2 : gm2 (A 12) 0 = gi (A 1) 5 + 1 := by rw [← (pr2 e2).2, up_s, ud_s]
      exact absurd (k1.symm.trans k2) x_p1
    · obtain ⟨-, -, -, -, -, ⟨q, w, g, zq, zw, -, -, ei, -, go, -⟩, -, -, -, -, -, -, mo⟩ := k
      have t36 := hC.t 36 36 (by decide) rfl
      have t59 := hQa.t 26 59 (by decide)
      exact hf.up (by rw [ei, up_n (ro_ne t36 (hC.t 1 1 (by decide) rfl) (by decide))]; exact go _ (ro_ne t36 zq (by decide)) (ro_ne t36 zw (by decide))) (mo _ (ro_ne t59 hQa.1 (by decide)) (ro_ne t59 (hQa.t 1 40 (by decide)) (by decide)) (ro_ne t59 (hQa.t 2 41 (by decide)) (by decide)) (ro_ne t59 (hQa.t 3 42 (by decide)) (by decide)) (ro_ne t59 (hQa.t 4 43 (by decide)) (by decide)) (ro_ne t59 (hQa.t 7 46 (by decide)) (by decide)))
  · have hn := i_lt 12 (by decide) hr g5
    rw [if_neg g5] at e1
    rw [if_pos hn] at e2
    exact hf.fim hC hQ (by decide) (by decide) e1 e2
theorem fi_boat (hJ : th_J τ gi gr) (hC : ro_C τ gr A) (hQ : ro_M τ1 rm A) (hQa : ro_M τ rm A) (h : c_eq 1 6 8 gi gm A) (hf : c_find gi gm A) {v1 v2 v3 r1 r2 : Int32} (e1 : M_X11_boat τ Z gi gr (A 11) v1 v2 v3 r1 τ1 gi1 gr1) (e2 : F_X12_boat τ1 Z gm rm (A 12) v1 v2 v3 = (r2, gm2)) : c_find gi1 gm2 A := by
  have B := (bt_cases hJ hC hQ h e1 e2).2
  have hr : rg 0 16 (gi (A 1) 6) := n_b hJ hC
  have h10 : ((1 : Int32) = 0) = False := by decide
  unfold M_X11_boat at e1
  unfold F_X12_boat at e2
  simp only [F_X11_isKind, w0_c, w0_m, f_X11_boat_29, f_X12_boat_31, h10, if_true, if_false, hC.g 11 0 1 (by decide)] at e1 e2
  by_cases g1 : W0 v1 0 2 = 0
  · rw [if_pos g1] at e1 e2
    exact hf.fim hC hQ (by decide) (by decide) e1 e2
  rw [if_neg g1] at e1 e2
  by_cases g2 : W0 v2 10 300 = 0
  · rw [if_pos g2] at e1 e2
    exact hf.fim hC hQ (by decide) (by decide) e1 e2
  rw [if_neg g2] at e1 e2
  by_cases g3 : W0 v3 0 100 = 0
  · rw [if_pos g3] at e1 e2
    exact hf.fim hC hQ (by decide) (by decide) e1 e2
  rw [if_neg g3] at e1 e2
  have h' : gm (A 12) 8 = gi (A 1) 6 := h.symm
  rw [h'] at e2
  by_cases g5 : gi (A 1) 6 < 16
  · have hn : ¬ gi (A 1) 6 = 16 := fun q => by
      rw [q] at g5
      exact absurd g5 (by decide)
    rw [if_neg hn] at e2
    rcases B with f | k
    · have k1 : gm2 (A 12) 8 = gi (A 1) 6 := by rw [f.2.2.2 _ (ro_ne hQ.1 (hQ.t 26 59 (by decide)) (by decide)), h']
      have k2 : gm2 (A 12) 8 = gi (A 1) 6 + 1 := by rw [← (pr2 e2).2, up_s, ud_s]
      exact absurd (k1.symm.trans k2) x_p1
    · obtain ⟨-, -, -, -, ⟨q, g, r, ⟨f, -⟩, -, zq, ei, -⟩, -, -, -, -, -, mo⟩ := k
      have t36 := hC.t 36 36 (by decide) rfl
      have t59 := hQa.t 26 59 (by decide)
      exact hf.up (by rw [ei, up_n (ro_ne t36 (hC.t 1 1 (by decide) rfl) (by decide))]; exact (f (A 36) (by rw [t36]; decide)).2.1) (mo _ (ro_ne t59 hQa.1 (by decide)) (ro_ne t59 (hQa.t 9 47 (by decide)) (by decide)) (ro_ne t59 (hQa.t 10 48 (by decide)) (by decide)) (ro_ne t59 (hQa.t 11 49 (by decide)) (by decide)) (ro_ne t59 (hQa.t 12 50 (by decide)) (by decide)))
  · have hn := i_lt 16 (by decide) hr g5
    rw [if_neg g5] at e1
    rw [if_pos hn] at e2
    exact hf.fim hC hQ (by decide) (by decide) e1 e2
end FI
