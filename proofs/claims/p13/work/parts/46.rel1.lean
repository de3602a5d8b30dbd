/-! ===== components that are one number each, and what acts do to them ===== -/
section CQ
variable {τ τ1 : th_t} {Z : th_Zt} {gi gi1 gm gm2 : th_i} {gr gr1 rm rm2 : th_r} {A : Nat → Nat} {M1 M2 : List Nat}
def c_eq (r s k : Nat) (gi gm : th_i) (A : Nat → Nat) : Prop := gi (A r) s = gm (A 12) k
theorem c_eq.fr {r s k c : Nat} (hr : r ∈ rc_L) (hc : ro_c r = c) (hC : ro_C τ gr A) (hQ : ro_M τ rm A) (h1 : th_Mod M1 τ gi gr gi1 gr1) (h2 : th_Mod M2 τ gm rm gm2 rm2) (k0 : c ≠ 0) (k1 : th_key c s ∉ M1) (k2 : th_key 12 k ∉ M2) (h : c_eq r s k gi gm A) : c_eq r s k gi1 gm2 A := by
  unfold c_eq
  rw [(ro_k h1 s (hC.t r c hr hc) k0 k1).1, (ro_k h2 k hQ.1 (by decide) k2).1]
  exact h
theorem ro_ne {τ : th_t} {a b c d : Nat} (ha : τ a = c) (hb : τ b = d) (h : c ≠ d) : a ≠ b := fun q => h (by rw [← ha, ← hb, q])
theorem up_n {α : Type} {g : Nat → α} {a b : Nat} {f : α} (h : b ≠ a) : va_up g a f b = g b := va_up_ne g f h
theorem up_s {α : Type} {g : Nat → α} {a : Nat} {f : α} : va_up g a f a = f := va_up_self g a f
theorem ud_s {f : Nat → Int32} {k : Nat} {x : Int32} : upd f k x k = x := if_pos rfl
theorem ud_n {f : Nat → Int32} {k j : Nat} {x : Int32} (h : j ≠ k) : upd f k x j = f j := if_neg h
def W0 (v a b : Int32) : Int32 := if v < a then 0 else if b < v then 0 else 1
theorem w0_c {v a b : Int32} : F_X11_within τ Z gi gr v a b = W0 v a b := rfl
theorem w0_m {v a b : Int32} : F_X12_within τ Z gm rm v a b = W0 v a b := rfl
theorem w0_iff {v a b : Int32} : W0 v a b = 0 ↔ ¬ (a ≤ v ∧ v ≤ b) := by
  unfold W0
  by_cases h1 : v < a
  · rw [if_pos h1]
    exact ⟨fun _ q => Int32.not_lt.mpr q.1 h1, fun _ => rfl⟩
  · rw [if_neg h1]
    by_cases h2 : b < v
    · rw [if_pos h2]
      exact ⟨fun _ q => Int32.not_lt.mpr q.2 h2, fun _ => rfl⟩
    · rw [if_neg h2]
      exact ⟨fun q => absurd q (by decide), fun q => absurd ⟨Int32.not_lt.mp h1, Int32.not_lt.mp h2⟩ q⟩
/-- findings -/
theorem fi_c (hC : ro_C τ gr A) {k : Int32} (hk : ¬ W0 k 1 5 = 0) : F_X11_finding τ Z gi gr (A 11) k = ((-1000000) - k, va_up gi (A 36) (upd (gi (A 36)) k.toNatClampNeg (gi (A 36) k.toNatClampNeg + 1))) := by
  unfold F_X11_finding
  dsimp only
  rw [w0_c, if_neg hk, hC.g 11 5 36 (by decide)]
theorem fi_m (hQ : ro_M τ rm A) {w : Int32} : F_X12_finding τ Z gm rm (A 12) w = (w, va_up gm (A 59) (upd (gm (A 59)) ((-1000000) - w).toNatClampNeg (gm (A 59) ((-1000000) - w).toNatClampNeg + 1))) := by
  unfold F_X12_finding
  dsimp only
  rw [hQ.g 26 59 (by decide)]
theorem pr2 {α β : Type} {a a' : α} {b b' : β} (h : (a, b) = (a', b')) : a = a' ∧ b = b' := by
  cases h
  exact ⟨rfl, rfl⟩
theorem s_winds (hC : ro_C τ gr A) (hQ : ro_M τ rm A) (h : c_eq 1 7 14 gi gm A) {v r1 r2 : Int32} (e1 : F_X11_winds τ Z gi gr (A 11) v = (r1, gi1)) (e2 : F_X12_winds τ Z gm rm (A 12) v = (r2, gm2)) : r1 = r2 ∧ c_eq 1 7 14 gi1 gm2 A := by
  unfold F_X11_winds at e1
  unfold F_X12_winds at e2
  dsimp only at e1 e2
  rw [w0_c, hC.g 11 0 1 (by decide)] at e1
  rw [w0_m] at e2
  by_cases hc : W0 v 1 255 = 0
  · rw [if_pos hc, fi_c hC (by decide)] at e1
    rw [if_pos hc, fi_m hQ] at e2
    dsimp only at e1 e2
    obtain ⟨a1, a2⟩ := pr2 e1
    obtain ⟨b1, b2⟩ := pr2 e2
    subst a1 a2 b1 b2
    refine ⟨by decide, ?_⟩
    unfold c_eq
    rw [up_n (ro_ne (hC.t 1 1 (by decide) rfl) (hC.t 36 36 (by decide) rfl) (by decide)), up_n (ro_ne hQ.1 (hQ.t 26 59 (by decide)) (by decide))]
    exact h
  · rw [if_neg hc] at e1 e2
    obtain ⟨a1, a2⟩ := pr2 e1
    obtain ⟨b1, b2⟩ := pr2 e2
    subst a1 a2 b1 b2
    refine ⟨h, ?_⟩
    unfold c_eq
    rw [up_s, ud_s, up_s, ud_s]
theorem s_tell (hJ : th_J τ gi gr) (hC : ro_C τ gr A) (hQ : ro_M τ rm A) (h : c_eq 11 7 24 gi gm A) {v r1 r2 : Int32} (e1 : F_X11_tell τ Z gi gr (A 11) v = (r1, gi1)) (e2 : F_X12_tell τ Z gm rm (A 12) v = (r2, gm2)) : r1 = r2 ∧ c_eq 11 7 24 gi1 gm2 A := by
  have hr : rg 0 24 (gi (A 11) 7) := (hJ.at (hC.t 11 11 (by decide) rfl) (by decide)).2.2.2.2.2.2.2.1
  unfold c_eq at h
  unfold F_X11_tell at e1
  unfold F_X12_tell at e2
  dsimp only at e1 e2
  rw [hC.g 11 6 37 (by decide)] at e1
  rw [hQ.g 25 58 (by decide), ← h] at e2
  by_cases hc : gi (A 11) 7 < 24
  · have hn : ¬ gi (A 11) 7 = 24 := fun q => by
      rw [q] at hc
      exact absurd hc (by decide)
    rw [if_pos hc] at e1
    rw [if_neg hn] at e2
    obtain ⟨a1, a2⟩ := pr2 e1
    obtain ⟨b1, b2⟩ := pr2 e2
    subst a1 a2 b1 b2
    refine ⟨rfl, ?_⟩
    unfold c_eq
    rw [up_s, ud_s, up_s, ud_s]
  · have hn : gi (A 11) 7 = 24 := by
      have h1 := Int32.not_lt.mp hc
      exact Int32.toInt_inj.mp (by
        have h2 := Int32.le_iff_toInt_le.mp h1
        have h3 : (24 : Int32).toInt = 24 := by decide
        have h4 := hr.2
        omega)
    rw [if_neg hc, fi_c hC (by decide)] at e1
    rw [if_pos hn, fi_m hQ] at e2
    dsimp only at e1 e2
    obtain ⟨a1, a2⟩ := pr2 e1
    obtain ⟨b1, b2⟩ := pr2 e2
    subst a1 a2 b1 b2
    refine ⟨by decide, ?_⟩
    unfold c_eq
    rw [up_n (ro_ne (hC.t 11 11 (by decide) rfl) (hC.t 36 36 (by decide) rfl) (by decide)), up_n (ro_ne hQ.1 (hQ.t 26 59 (by decide)) (by decide))]
    exact h
/-- a BUOY comes: how many there are -/
theorem ab_32 {h0 q5 : Nat} {p1 p2 p3 p4 rO x1 : Int32} {tO τ6 : th_t} {gO : th_i} {qO : th_r} : ∀ (n : Nat) (g : th_i) (r : th_r) (y : Int32), f_X0_addBuoy_32 τ Z gi gr h0 p1 p2 p3 p4 rO tO gO qO x1 q5 τ6 n g r y → rO = x1 ∧ gO h0 5 = x1 + 1 := by
  intro n
  induction n with
  | zero => intro g r y h; exact absurd h (by unfold f_X0_addBuoy_32; exact fun q => q)
  | succ n ih =>
    intro g r y h
    unfold f_X0_addBuoy_32 at h
    dsimp only at h
    by_cases hc : (24 : Int32) ≤ y
    · rw [if_pos hc] at h
      obtain ⟨g15, hg, k1, -, k3, -⟩ := h
      refine ⟨k1, ?_⟩
      rw [k3, hg, up_s, ud_s]
    · rw [if_neg hc] at h
      exact ih _ _ _ h
theorem i_lt {x : Int32} {n : Int} (k : Int32) (hk : k.toInt = n) (hr : rg 0 n x) (h : ¬ x < k) : x = k := by
  have h1 := Int32.le_iff_toInt_le.mp (Int32.not_lt.mp h)
  have h2 := hr.2
  exact Int32.toInt_inj.mp (by omega)
theorem s_fin (hC : ro_C τ gr A) (hQ : ro_M τ1 rm A) {r s k : Nat} (hr : r ∈ rc_L) (hr2 : ro_c r ≠ 36) {w1 w2 r1 r2 : Int32} {tO : th_t} (hw : ¬ W0 w1 1 5 = 0) (hww : (-1000000) - w1 = w2) (h : c_eq r s k gi gm A) (e1 : r1 = (F_X11_finding τ Z gi gr (A 11) w1).1 ∧ tO = τ ∧ gi1 = (F_X11_finding τ Z gi gr (A 11) w1).2 ∧ gr1 = gr) (e2 : ((F_X12_finding τ1 Z gm rm (A 12) w2).1, (F_X12_finding τ1 Z gm rm (A 12) w2).2) = (r2, gm2)) : r1 = r2 ∧ c_eq r s k gi1 gm2 A := by
  rw [fi_c hC hw] at e1
  rw [fi_m hQ] at e2
  dsimp only at e1 e2
  obtain ⟨a1, -, a2, -⟩ := e1
  obtain ⟨b1, b2⟩ := pr2 e2
  subst a1 a2 b1 b2
  refine ⟨hww, ?_⟩
  unfold c_eq
  rw [up_n (ro_ne (hC.t r _ hr rfl) (hC.t 36 36 (by decide) rfl) hr2), up_n (ro_ne hQ.1 (hQ.t 26 59 (by decide)) (by decide))]
  exact h
theorem s_buoy (hJ : th_J τ gi gr) (hC : ro_C τ gr A) (hQ : ro_M τ1 rm A) (h : c_eq 1 5 0 gi gm A) {v1 v2 v3 v4 r1 r2 : Int32} (e1 : M_X11_buoy τ Z gi gr (A 11) v1 v2 v3 v4 r1 τ1 gi1 gr1) (e2 : F_X12_buoy τ1 Z gm rm (A 12) v1 v2 v3 v4 = (r2, gm2)) : r1 = r2 ∧ c_eq 1 5 0 gi1 gm2 A := by
  have hr : rg 0 12 (gi (A 1) 5) := (hJ.at (hC.t 1 1 (by decide) rfl) (by decide)).2.2.2.2.2.1
  have h10 : ((1 : Int32) = 0) = False := by decide
  unfold M_X11_buoy at e1
  unfold F_X12_buoy at e2
  simp only [w0_c, w0_m, f_X11_buoy_26, f_X11_buoy_27, f_X11_buoy_58, f_X12_buoy_46, h10, if_true, if_false, hC.g 11 0 1 (by decide)] at e1 e2
  by_cases g1 : W0 v1 0 999 = 0
  · rw [if_pos g1] at e1 e2
    exact s_fin hC hQ (by decide) (by decide) (by decide) (by decide) h e1 e2
  rw [if_neg g1] at e1 e2
  by_cases g2 : W0 v2 0 999 = 0
  · rw [if_pos g2] at e1 e2
    exact s_fin hC hQ (by decide) (by decide) (by decide) (by decide) h e1 e2
  rw [if_neg g2] at e1 e2
  by_cases g3 : W0 v3 0 300 = 0
  · rw [if_pos g3] at e1 e2
    exact s_fin hC hQ (by decide) (by decide) (by decide) (by decide) h e1 e2
  rw [if_neg g3] at e1 e2
  by_cases g4 : W0 v4 10 400 = 0
  · rw [if_pos g4] at e1 e2
    exact s_fin hC hQ (by decide) (by decide) (by decide) (by decide) h e1 e2
  rw [if_neg g4] at e1 e2
  have h' : gm (A 12) 0 = gi (A 1) 5 := h.symm
  rw [h'] at e2
  by_cases g5 : gi (A 1) 5 < 12
  · have hn : ¬ gi (A 1) 5 = 12 := fun q => by
      rw [q] at g5
      exact absurd g5 (by decide)
    rw [if_pos g5] at e1
    rw [if_neg hn] at e2
    obtain ⟨x, t, g, q, hm, rfl, -, rfl, -⟩ := e1
    unfold M_X0_addBuoy at hm
    dsimp only at hm
    rw [if_neg (Int32.not_le.mpr g5)] at hm
    obtain ⟨q5, -, τ6, gi6, gr6, -, hm⟩ := hm
    obtain ⟨k1, k2⟩ := ab_32 _ _ _ _ hm
    obtain ⟨b1, b2⟩ := pr2 e2
    refine ⟨?_, ?_⟩
    · rw [k1, ← b1]
      exact (Int32.add_sub_cancel _ _).symm
    · unfold c_eq
      rw [k2, ← b2, up_s, ud_s]
  · have hn := i_lt 12 (by decide) hr g5
    rw [if_neg g5] at e1
    rw [if_pos hn] at e2
    exact s_fin hC hQ (by decide) (by decide) (by decide) (by decide) h e1 e2
theorem s_boat (hJ : th_J τ gi gr) (hC : ro_C τ gr A) (hQ : ro_M τ1 rm A) (h : c_eq 1 6 8 gi gm A) {v1 v2 v3 r1 r2 : Int32} (e1 : M_X11_boat τ Z gi gr (A 11) v1 v2 v3 r1 τ1 gi1 gr1) (e2 : F_X12_boat τ1 Z gm rm (A 12) v1 v2 v3 = (r2, gm2)) : r1 = r2 ∧ c_eq 1 6 8 gi1 gm2 A := by
  have hr : rg 0 16 (gi (A 1) 6) := (hJ.at (hC.t 1 1 (by decide) rfl) (by decide)).2.2.2.2.2.2
  have h10 : ((1 : Int32) = 0) = False := by decide
  unfold M_X11_boat at e1
  unfold F_X12_boat at e2
  simp only [F_X11_isKind, w0_c, w0_m, f_X11_boat_29, f_X12_boat_31, h10, if_true, if_false, hC.g 11 0 1 (by decide)] at e1 e2
  by_cases g1 : W0 v1 0 2 = 0
  · rw [if_pos g1] at e1 e2
    exact s_fin hC hQ (by decide) (by decide) (by decide) (by decide) h e1 e2
  rw [if_neg g1] at e1 e2
  by_cases g2 : W0 v2 10 300 = 0
  · rw [if_pos g2] at e1 e2
    exact s_fin hC hQ (by decide) (by decide) (by decide) (by decide) h e1 e2
  rw [if_neg g2] at e1 e2
  by_cases g3 : W0 v3 0 100 = 0
  · rw [if_pos g3] at e1 e2
    exact s_fin hC hQ (by decide) (by decide) (by decide) (by decide) h e1 e2
  rw [if_neg g3] at e1 e2
  have h' : gm (A 12) 8 = gi (A 1) 6 := h.symm
  rw [h'] at e2
  by_cases g5 : gi (A 1) 6 < 16
  · have hn : ¬ gi (A 1) 6 = 16 := fun q => by
      rw [q] at g5
      exact absurd g5 (by decide)
    rw [if_pos g5] at e1
    rw [if_neg hn] at e2
    obtain ⟨x, t, g, q, hm, rfl, -, rfl, -⟩ := e1
    unfold M_X0_addBoat at hm
    dsimp only at hm
    rw [if_neg (Int32.not_le.mpr g5)] at hm
    obtain ⟨q6, τ6, gi6, gr6, -, g14, hg, k1, -, k2, -⟩ := hm
    obtain ⟨b1, b2⟩ := pr2 e2
    refine ⟨?_, ?_⟩
    · rw [k1, ← b1]
      exact (Int32.add_sub_cancel _ _).symm
    · unfold c_eq
      rw [k2, hg, ← b2, up_s, ud_s, up_s, ud_s]
  · have hn := i_lt 16 (by decide) hr g5
    rw [if_neg g5] at e1
    rw [if_pos hn] at e2
    exact s_fin hC hQ (by decide) (by decide) (by decide) (by decide) h e1 e2
end CQ
